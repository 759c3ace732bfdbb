/-! scripts: they run -/
section RUNS
variable {n N : Nat} {ν : Nat → Int64}
/-- what the class keeps while it runs, but for the fight -/
def FRc (u : Nat → Int32) (N : Nat) (c0 c : Mem) : Prop := (∀ a, ¬ RG 66 a → ldP c a = ldP c0 a ∧ ldJ c a = ldJ c0 a) ∧ (∀ a, ¬ RG 66 a → (a < 6 ∨ 65 < a) → ldI c a = ldI c0 a) ∧ ∀ k, k < N → ∀ j, (j ≠ 5 ∨ ¬ u k = 8) → ldI c (6 + k) j = ldI c0 (6 + k) j
theorem FRc.rf {u : Nat → Int32} {c : Mem} : FRc u N c c := ⟨fun _ _ => ⟨rfl, rfl⟩, fun _ _ _ => rfl, fun _ _ _ _ => rfl⟩
theorem FRc.tr {u : Nat → Int32} {a b c : Mem} (h1 : FRc u N a b) (h2 : FRc u N b c) : FRc u N a c := ⟨fun x hx => ⟨(h2.1 x hx).1.trans (h1.1 x hx).1, (h2.1 x hx).2.trans (h1.1 x hx).2⟩, fun x p q => (h2.2.1 x p q).trans (h1.2.1 x p q), fun k p j q => (h2.2.2 k p j q).trans (h1.2.2 k p j q)⟩
theorem FRc.left {u : Nat → Int32} {c : Mem} {s : Nat} {v : Int32} (hN : N ≤ 60) (hs : s < N) (h8 : u s = 8) : FRc u N c (stI c (6 + s) 5 v) := ⟨fun _ _ => ⟨rfl, rfl⟩, fun a _ q => ldI_stI_ne (by omega), fun k _ j q => by
  rw [ldI_stI, if_neg]
  intro ⟨e1, e2⟩
  have : k = s := by omega
  subst this
  rcases q with q | q
  · exact q e2
  · exact q h8⟩
theorem FRc.se {u : Nat → Int32} {c c' : Mem} (hN : N ≤ 60) (h : SE (RG 66) c c') : FRc u N c c' := ⟨fun a ha => ⟨(h a ha).2.2, (h a ha).2.1⟩, fun a ha _ => (h a ha).1, fun k hk j _ => by rw [(h (6 + k) (fun q => by unfold RG at q; omega)).1]⟩
def FRm (m0 m : Mem) : Prop := ldP m = ldP m0 ∧ ldJ m = ldJ m0 ∧ (∀ a, a ≠ 362 → a ≠ 364 → a ≠ 378 → a ≠ 379 → ldI m a = ldI m0 a) ∧ ∀ k, k ≠ 24 → k ≠ 25 → ldI m 362 k = ldI m0 362 k
theorem FRm.rf {m : Mem} : FRm m m := ⟨rfl, rfl, fun _ _ _ _ _ => rfl, fun _ _ _ => rfl⟩
theorem FRm.tr {a b c : Mem} (h1 : FRm a b) (h2 : FRm b c) : FRm a c := ⟨h2.1.trans h1.1, h2.2.1.trans h1.2.1, fun x p q r s => (h2.2.2.1 x p q r s).trans (h1.2.2.1 x p q r s), fun k p q => (h2.2.2.2 k p q).trans (h1.2.2.2 k p q)⟩
theorem FRm.s {m : Mem} {a k : Nat} {v : Int32} (ha : a = 378 ∨ a = 379) : FRm m (stI m a k v) := ⟨rfl, rfl, fun x _ _ p q => ldI_stI_ne (by omega), fun _ _ _ => by rw [ldI_stI_ne (by omega)]⟩
theorem MX.fr {m m' : Mem} (h : MX m m') : FRm m m' := ⟨h.1, h.2.1, fun a p q _ _ => h.2.2.1 a q p, h.2.2.2⟩
/-- the script as it was read, at the start -/
def SCP (n N : Nat) (c m : Mem) : Prop := N ≤ 60 ∧ ldI c 3 2 = nI N ∧ ldI m 362 36 = nI N ∧ stk (ldI m 373) N = [] ∧ (∀ k, k ≤ N → (stk (ldI m 373) k).length ≤ 2) ∧ ∀ k, k < N → CRk n c m k
section CSTEP
variable {c : Mem} {G : Int32 → Int32 → Int32 → Mem → Option (Int32 × Mem)} {D k j : Nat}
theorem c_stop (hN : N ≤ 60) (h2 : ldI c 3 2 = nI N) (hj : j < 1000000) (hk : k = N) : gX6_runOn_7 3 66 G (nI D) (nI k) (nI j) c = some (nI D, c) := by
  unfold gX6_runOn_7
  rw [if_neg (show ¬ (1000000 : Int32) ≤ nI j from nI_ge (b := 1000000) hj (by decide)), if_neg (nI_pos (by omega)), h2, if_pos (nI_le (by omega) (by omega))]
theorem c_at_k (hN : N ≤ 60) (h2 : ldI c 3 2 = nI N) (hj : j < 1000000) (hk : k < N) (hP : PC c) : gX6_runOn_7 3 66 G (nI D) (nI k) (nI j) c = (if ldI c (6 + k) 0 = 8 then G (nI D) (nI (k + 1)) (nI (j + 1)) (stI c (6 + k) 5 (ldI c (6 + k) 2)) else if ldI c (6 + k) 0 = 9 then (fX6_isToRepeat 3 (ldI c (6 + k) 5) c).bind fun r_22 => if r_22.1 = 0 then G (nI D) (nI (k + 1)) (nI (j + 1)) r_22.2 else G (nI D) (ldI r_22.2 (6 + k) 5 + 1) (nI (j + 1)) r_22.2 else if 40 ≤ nI D then some (nI D, c) else (fX1_faultOn (6 + k) 66 c).bind fun r_12 => if r_12 = 0 then (fX1_applyTo (6 + k) 66 c).bind fun r_15 => G (nI (D + 1)) (nI (k + 1)) (nI (j + 1)) r_15 else some (nI D, c)) := by
  unfold gX6_runOn_7
  rw [if_neg (show ¬ (1000000 : Int32) ≤ nI j from nI_ge (b := 1000000) hj (by decide)), if_neg (nI_pos (by omega)), h2, if_neg (nI_ge hk (by omega)), hP.1, Option.bind_some, ln45.1, if_neg (show ¬ Int32.ofNat 60 ≤ nI k from nI_ge (by omega) (by decide)), Option.bind_some, ln45.1, gd_t (inB_nI (by omega) (by decide)), nI_clamp (by omega), hP.2.2 k (by omega), Option.bind_some, nm_b]
  simp only [nm_b, nI_1]
theorem c_back (hP : PC c) {s r : Nat} (hs : s < 60) (h5 : ldI c (6 + s) 5 = nI r) (r1 : 1 ≤ r) (r20 : r ≤ 20) : fX6_isToRepeat 3 (nI s) c = some ((if r = 1 then 0 else 1), stI c (6 + s) 5 (nI (r - 1))) := by
  unfold fX6_isToRepeat
  rw [if_neg (nI_pos (by omega)), hP.1, Option.bind_some, ln45.1, if_pos (show nI s < Int32.ofNat 60 from nI_lt hs (by decide)), Option.bind_some, ln45.1, gd_t (inB_nI hs (by decide)), nI_clamp (by omega), hP.2.2 s hs, Option.bind_some, h5, show (1 : Int32) = nI 1 from rfl, pk_sub r1, nm_b, show ldP (stI c (6 + s) 5 (nI (r - 1))) 3 0 = some 4 from hP.1, Option.bind_some, ln45.1, gd_t (inB_nI hs (by decide)), show ldP (stI c (6 + s) 5 (nI (r - 1))) 4 s = some (6 + s) from hP.2.2 s hs, Option.bind_some, ldI_stI_s]
  by_cases e : r = 1
  · rw [if_pos e, e, if_pos (show nI (1 - 1) ≤ 0 by decide)]
  · rw [if_neg e, if_neg (nI_nle (by omega) (by omega))]
end CSTEP
theorem PC.fr {u : Nat → Int32} {c0 c : Mem} (h : FRc u N c0 c) (g : PC c0) : PC c := by
  have e3 := (h.1 3 (fun q => by unfold RG at q; omega)).1
  have e4 := (h.1 4 (fun q => by unfold RG at q; omega)).1
  exact ⟨by rw [e3]; exact g.1, by rw [e3]; exact g.2.1, fun i hi => by rw [e4]; exact g.2.2 i hi⟩
/-- the open repeats' laps, the class's -/
def LPc (u : Nat → Int32) (rr : Nat → Nat) (k : Nat) (c : Mem) : Prop := ∀ i s, (stk u k)[i]? = some s → ldI c (6 + s) 5 = nI (rr i) ∧ 1 ≤ rr i ∧ rr i ≤ 20
/-- .. and the reference's -/
def LPm (u : Nat → Int32) (rr : Nat → Nat) (k : Nat) (m : Mem) : Prop := ∀ i s, (stk u k)[i]? = some s → ldI m 378 i = nI s ∧ ldI m 379 i = nI (rr i)
theorem stk_get_lt {u : Nat → Int32} {k i s : Nat} (h : (stk u k)[i]? = some s) : i < (stk u k).length ∧ s < k ∧ u s = 8 := by
  have hi : i < (stk u k).length := by
    by_cases q : i < (stk u k).length
    · exact q
    · rw [List.getElem?_eq_none (by omega)] at h; cases h
  obtain ⟨s', h1, h2, h3, -⟩ := stk_pre (u := u) k i hi
  rw [h] at h1; cases h1
  exact ⟨hi, h2, h3⟩
/-- two places of a stack are different -/
theorem stk_inj {u : Nat → Int32} {k i j s : Nat} (h : (stk u k)[i]? = some s) (h' : (stk u k)[j]? = some s) : i = j := by
  have aux : ∀ {a b : Nat}, a < b → (stk u k)[a]? = some s → (stk u k)[b]? = some s → False := by
    intro a b hab ha hb
    have hbl := (stk_get_lt hb).1
    obtain ⟨t, t1, t2, t3, t4⟩ := stk_pre (u := u) k b hbl
    rw [hb] at t1; cases t1
    have e : stk u s = (stk u k).take b := by
      have e2 : stk u (s + 1) = stk u s ++ [s] := by rw [stk, if_pos t3]
      have := congrArg List.dropLast t4
      rw [e2, List.dropLast_concat, List.dropLast_eq_take, List.take_take, List.length_take] at this
      rw [← this]
      congr 1
      omega
    have : (stk u s)[a]? = some s := by rw [e, List.getElem?_take, if_pos hab]; exact ha
    have := (stk_get_lt this).2.1
    omega
  rcases Nat.lt_trichotomy i j with q | q | q
  · exact (aux q h h').elim
  · exact q
  · exact (aux q h' h).elim
theorem LPc.rep {u : Nat → Int32} {rr : Nat → Nat} {k r : Nat} {c : Mem} (h : LPc u rr k c) (h8 : u k = 8) (r1 : 1 ≤ r) (r20 : r ≤ 20) : LPc u (upN rr (stk u k).length r) (k + 1) (stI c (6 + k) 5 (nI r)) := by
  intro i s hi
  rw [stk, if_pos h8] at hi
  unfold upN
  by_cases e : i = (stk u k).length
  · subst e
    rw [List.getElem?_append_right (Nat.le_refl _), Nat.sub_self] at hi
    cases hi
    rw [if_pos rfl, ldI_stI_s]; exact ⟨rfl, r1, r20⟩
  · have hil : i < (stk u k).length := by
      by_cases q : i < (stk u k).length
      · exact q
      · rw [List.getElem?_eq_none (by rw [List.length_append]; simp only [List.length_singleton]; omega)] at hi; cases hi
    rw [List.getElem?_append_left hil] at hi
    have h1 := h i s hi
    have h2 := stk_get_lt hi
    rw [if_neg e, ldI_stI, if_neg (by omega)]; exact h1
theorem LPm.rep {u : Nat → Int32} {rr : Nat → Nat} {k r : Nat} {m : Mem} (h : LPm u rr k m) (h8 : u k = 8) : LPm u (upN rr (stk u k).length r) (k + 1) (stI (stI m 378 (stk u k).length (nI k)) 379 (stk u k).length (nI r)) := by
  intro i s hi
  rw [stk, if_pos h8] at hi
  unfold upN
  by_cases e : i = (stk u k).length
  · subst e
    rw [List.getElem?_append_right (Nat.le_refl _), Nat.sub_self] at hi
    cases hi
    rw [if_pos rfl, ldI_stI_ne (by decide), ldI_stI_s, ldI_stI_s]; exact ⟨rfl, rfl⟩
  · have hil : i < (stk u k).length := by
      by_cases q : i < (stk u k).length
      · exact q
      · rw [List.getElem?_eq_none (by rw [List.length_append]; simp only [List.length_singleton]; omega)] at hi; cases hi
    rw [List.getElem?_append_left hil] at hi
    have h1 := h i s hi
    rw [if_neg e, ldI_stI_ne (by decide), ldI_stI, if_neg (by omega), ldI_stI, if_neg (by omega), ldI_stI_ne (by decide)]; exact h1
theorem LPc.more {u : Nat → Int32} {rr : Nat → Nat} {k s : Nat} {c : Mem} (h : LPc u rr k c) (hs : (stk u k).getLast? = some s) (hr : 2 ≤ rr ((stk u k).length - 1)) : LPc u (upN rr ((stk u k).length - 1) (rr ((stk u k).length - 1) - 1)) (s + 1) (stI c (6 + s) 5 (nI (rr ((stk u k).length - 1) - 1))) := by
  obtain ⟨l1, l2, l3, l4⟩ := stk_last hs
  rw [List.getLast?_eq_getElem?] at hs
  have hd := h _ _ hs
  intro i t hi
  rw [← l3] at hi
  unfold upN
  by_cases e : i = (stk u k).length - 1
  · subst e
    rw [hs] at hi; cases hi
    rw [if_pos rfl, ldI_stI_s]; exact ⟨rfl, by omega, by omega⟩
  · have hne : t ≠ s := fun q => e (stk_inj (by rw [← q] at hs; exact hi) (by rw [← q] at hs; exact hs))
    rw [if_neg e, ldI_stI, if_neg (by omega)]; exact h i t hi
theorem LPm.more {u : Nat → Int32} {rr : Nat → Nat} {k s r : Nat} {m : Mem} (h : LPm u rr k m) (hs : (stk u k).getLast? = some s) : LPm u (upN rr ((stk u k).length - 1) r) (s + 1) (stI m 379 ((stk u k).length - 1) (nI r)) := by
  obtain ⟨l1, l2, l3, l4⟩ := stk_last hs
  intro i t hi
  rw [← l3] at hi
  have h1 := h i t hi
  unfold upN
  rw [ldI_stI_ne (by decide), ldI_stI]
  by_cases e : i = (stk u k).length - 1
  · rw [if_pos e, if_pos ⟨rfl, e⟩]; exact ⟨h1.1, rfl⟩
  · rw [if_neg e, if_neg (fun q => e q.2)]; exact h1
theorem stk_drop {u : Nat → Int32} {k i s : Nat} (h9 : u k = 9) (h : (stk u (k + 1))[i]? = some s) : (stk u k)[i]? = some s ∧ i ≠ (stk u k).length - 1 := by
  rw [stk, if_neg (by rw [h9]; decide), if_pos h9, List.getElem?_dropLast] at h
  by_cases q : i < (stk u k).length - 1
  · rw [if_pos q] at h; exact ⟨h, by omega⟩
  · rw [if_neg q] at h; cases h
theorem LPc.exit {u : Nat → Int32} {rr : Nat → Nat} {k s : Nat} {c : Mem} {v : Int32} (h : LPc u rr k c) (h9 : u k = 9) (hs : (stk u k).getLast? = some s) : LPc u rr (k + 1) (stI c (6 + s) 5 v) := by
  rw [List.getLast?_eq_getElem?] at hs
  intro i t hi
  obtain ⟨h1, h2⟩ := stk_drop h9 hi
  have hne : t ≠ s := fun q => h2 (stk_inj h1 (by rw [q]; exact hs))
  rw [ldI_stI, if_neg (by omega)]; exact h i t h1
theorem LPm.exit {u : Nat → Int32} {rr : Nat → Nat} {k : Nat} {m : Mem} {v : Int32} (h : LPm u rr k m) (h9 : u k = 9) : LPm u rr (k + 1) (stI m 379 ((stk u k).length - 1) v) := by
  intro i t hi
  obtain ⟨h1, h2⟩ := stk_drop h9 hi
  rw [ldI_stI_ne (by decide), ldI_stI, if_neg (by omega)]; exact h i t h1
end RUNS
