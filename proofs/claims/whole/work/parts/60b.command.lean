/-! scripts: a command -/
/-- which repeats are open -/
def stk (u : Nat → Int32) : Nat → List Nat
  | 0 => []
  | k + 1 => if u k = 8 then stk u k ++ [k] else if u k = 9 then (stk u k).dropLast else stk u k
theorem stk_cg {u u' : Nat → Int32} : ∀ {k : Nat}, (∀ i, i < k → u' i = u i) → stk u' k = stk u k := by
  intro k
  induction k with
  | zero => intro _; rfl
  | succ k ih => intro h; rw [stk, stk, h k (by omega), ih (fun i hi => h i (by omega))]
def CRk (n : Nat) (c m : Mem) (k : Nat) : Prop := ∃ w : Nat, w ≤ 9 ∧ ldI c (6 + k) 0 = nI w ∧ ldI m 373 k = nI w ∧ (w < 8 → AR n w k c m) ∧ (w = 8 → ∃ r : Nat, 1 ≤ r ∧ r ≤ 20 ∧ ldI c (6 + k) 2 = nI r ∧ ldI m 374 k = nI r) ∧ (w = 9 → ∃ s : Nat, (stk (ldI m 373) k).getLast? = some s ∧ ldI c (6 + k) 5 = nI s)
theorem CRk.cg {n k : Nat} {c m c' m' : Mem} (h : CRk n c m k) (hc : ∀ j, ldI c' (6 + k) j = ldI c (6 + k) j) (hm : ∀ a, 374 ≤ a → a ≤ 377 → ldI m' a k = ldI m a k) (hu : ∀ i, i ≤ k → ldI m' 373 i = ldI m 373 i) : CRk n c' m' k := by
  obtain ⟨w, h1, h2, h3, h4, h5, h6⟩ := h
  refine ⟨w, h1, by rw [hc]; exact h2, by rw [hu k (Nat.le_refl _)]; exact h3, fun hw => ?_, fun hw => ?_, fun hw => ?_⟩
  · obtain ⟨g1, g2, g3, g4⟩ := h4 hw
    refine ⟨fun e => ?_, fun e => ?_, fun e => ?_, fun e => ?_⟩
    · obtain ⟨x, x1, x2, x3⟩ := g1 e; exact ⟨x, x1, by rw [hc]; exact x2, by rw [hm 374 (by decide) (by decide)]; exact x3⟩
    · obtain ⟨x, x1, x2, x3⟩ := g2 e; exact ⟨x, x1, by rw [hc]; exact x2, by rw [hm 374 (by decide) (by decide)]; exact x3⟩
    · obtain ⟨x, x1, x2, x3⟩ := g3 e; exact ⟨x, x1, by rw [hc]; exact x2, by rw [hm 375 (by decide) (by decide)]; exact x3⟩
    · obtain ⟨q, x, x1, x2, x3, x4, x5, x6⟩ := g4 e; exact ⟨q, x, x1, x2, by rw [hc]; exact x3, by rw [hm 376 (by decide) (by decide)]; exact x4, by rw [hc]; exact x5, by rw [hm 377 (by decide) (by decide)]; exact x6⟩
  · obtain ⟨r, r1, r2, r3, r4⟩ := h5 hw; exact ⟨r, r1, r2, by rw [hc]; exact r3, by rw [hm 374 (by decide) (by decide)]; exact r4⟩
  · obtain ⟨s, s1, s2⟩ := h6 hw; exact ⟨s, by rw [stk_cg (fun i hi => hu i (by omega))]; exact s1, by rw [hc]; exact s2⟩
/-- a script that is half read: N commands, t of them told -/
def SCS (n N t : Nat) (c m : Mem) : Prop := ldI c 3 2 = nI N ∧ ldI m 362 36 = nI N ∧ ldI c 3 3 = nI t ∧ ldI m 362 37 = nI t ∧ t ≤ 30 ∧ N + (stk (ldI m 373) N).length ≤ 2 * t ∧ ldI c 3 4 = nI (stk (ldI m 373) N).length ∧ ldI m 362 38 = nI (stk (ldI m 373) N).length ∧ (∀ k, k ≤ N → (stk (ldI m 373) k).length ≤ 2) ∧ (∀ i, i < (stk (ldI m 373) N).length → ldI c 5 i = nI ((stk (ldI m 373) N).getD i 0)) ∧ ∀ k, k < N → CRk n c m k
def PC (c : Mem) : Prop := ldP c 3 0 = some 4 ∧ ldP c 3 1 = some 5 ∧ ∀ i, i < 60 → ldP c 4 i = some (6 + i)
theorem PC.of {c c' : Mem} (h : PC c) (e : ldP c' = ldP c) : PC c' := by unfold PC; rw [e]; exact h
theorem ln45 : Ln 4 = 60 ∧ Ln 5 = 2 := by decide
def FSc (c c' : Mem) : Prop := ldP c' = ldP c ∧ (∀ a, (a < 1 ∨ a = 2 ∨ a = 4 ∨ 65 < a) → ldI c' a = ldI c a) ∧ (∀ a, a ≠ 1 → ldJ c' a = ldJ c a) ∧ ldI c' 1 1 = ldI c 1 1
def FSm (m m' : Mem) : Prop := ldP m' = ldP m ∧ (∀ a, a ≠ 362 → ldJ m' a = ldJ m a) ∧ (∀ a, a ≠ 362 → (a < 373 ∨ 377 < a) → ldI m' a = ldI m a) ∧ ∀ k, (k < 4 ∨ 9 < k) → k ≠ 36 → k ≠ 37 → k ≠ 38 → ldI m' 362 k = ldI m 362 k
theorem FSc.rf {c : Mem} : FSc c c := ⟨rfl, fun _ _ => rfl, fun _ _ => rfl, rfl⟩
theorem FSm.rf {m : Mem} : FSm m m := ⟨rfl, fun _ _ => rfl, fun _ _ _ => rfl, fun _ _ _ _ _ => rfl⟩
theorem FSc.tr {a b c : Mem} (h1 : FSc a b) (h2 : FSc b c) : FSc a c := ⟨h2.1.trans h1.1, fun x p => (h2.2.1 x p).trans (h1.2.1 x p), fun x p => (h2.2.2.1 x p).trans (h1.2.2.1 x p), h2.2.2.2.trans h1.2.2.2⟩
theorem FSm.tr {a b c : Mem} (h1 : FSm a b) (h2 : FSm b c) : FSm a c := ⟨h2.1.trans h1.1, fun x p => (h2.2.1 x p).trans (h1.2.1 x p), fun x p q => (h2.2.2.1 x p q).trans (h1.2.2.1 x p q), fun k p q r s => (h2.2.2.2 k p q r s).trans (h1.2.2.2 k p q r s)⟩
theorem KZ.fs {c c' : Mem} (h : KZ c c') : FSc c c' := ⟨h.1, fun a p => h.2.1 a (by omega), h.2.2.1, h.2.2.2⟩
theorem KY.fs {m m' : Mem} (h : KY m m') : FSm m m' := ⟨h.1, h.2.2.1, fun a p _ => h.2.1 a p, fun k p _ _ _ => h.2.2.2 k p⟩
theorem GAc.fs {N : Nat} (hN : N < 60) {c c' : Mem} (h : GAc N c c') : FSc c c' := ⟨h.1, fun a p => h.2.1 a (by omega) (by omega), h.2.2.1, h.2.2.2⟩
theorem GAm.fs {N : Nat} {m m' : Mem} (h : GAm N m m') : FSm m m' := ⟨h.1, h.2.1, fun a p q => h.2.2.1 a p (by omega), fun k p _ _ _ => h.2.2.2.2 k p⟩
theorem FSc.s {c : Mem} {o k : Nat} {v : Int32} (ho : o = 3 ∨ o = 5 ∨ (6 ≤ o ∧ o ≤ 65)) : FSc c (stI c o k v) := ⟨rfl, fun a p => ldI_stI_ne (by omega), fun _ _ => rfl, by rw [ldI_stI_ne (by omega)]⟩
theorem FSm.s {m : Mem} {k : Nat} {v : Int32} (hk : k = 36 ∨ k = 37 ∨ k = 38) : FSm m (stI m 362 k v) := ⟨rfl, fun _ _ => rfl, fun a p _ => ldI_stI_ne p, fun j _ q r s => by rw [ldI_stI, if_neg (by omega)]⟩
theorem FSm.t {m : Mem} {k : Nat} {v : Int32} : FSm m (stI m 373 k v) := ⟨rfl, fun _ _ => rfl, fun a p q => ldI_stI_ne (by omega), fun _ _ _ _ _ => by rw [ldI_stI_ne (by decide)]⟩
theorem FSm.p {m m' : Mem} (h : FSm m m') {k x : Nat} (hp : ldP m 362 k = some x) : ldP m' 362 k = some x := by rw [h.1]; exact hp
theorem FSc.fr {c c' : Mem} (h : FSc c c') {o : Nat} (ho : 66 ≤ o) {σ : Sg} {ν : Nat → Int64} (g : FR c o σ ν) : FR c' o σ ν := g.out (S := fun a => a < 66) (fun a ha => ⟨h.2.1 a (by omega), h.2.2.1 a (by omega), by rw [h.1]⟩) (fun a ha e => by unfold RG at ha; omega)
section CMD
variable {T : Nat → Nat} {L n N : Nat}
theorem b_wrong {c m : Mem} (h : ER c m) {K : Int32} : fX12_wrong 362 K m = some m := by
  obtain ⟨k, q, h1, h2, h3, h4, h5, h6⟩ := h
  unfold fX12_wrong
  rw [h5, if_neg (nI_nle (by omega) (by omega))]
theorem b_c34 {c m : Mem} (h : ER c m) {w : Int32} : fX12_command_34 362 w m = some m := by
  unfold fX12_command_34 fX12_command_48
  rw [b_wrong h, Option.bind_some, m_bad h.bad, Option.bind_some, if_pos rfl, ite_self]
theorem b_c15 {c m : Mem} (h : ER c m) {w : Int32} : fX12_command_15 362 w m = some m := by
  unfold fX12_command_15
  rw [b_wrong h, Option.bind_some, b_c34 h, ite_self, ite_self]
theorem jm60 (h : N < 60) : jmax 0 (jmin (nI N) (Int32.ofNat (Ln 4) - 1)) = nI N := by
  rw [ln45.1, show Int32.ofNat 60 - 1 = nI 59 by decide, jmin_nI (by omega) (by decide), show (0 : Int32) = nI 0 from rfl, jmax_nI (by decide) (by omega), Nat.min_eq_left (by omega), Nat.max_eq_right (Nat.zero_le _)]
theorem c_added {c : Mem} (hP : PC c) (hN : N < 60) (h2 : ldI c 3 2 = nI N) (W : Int32) : ∃ c', fX6_added 3 W c = some (6 + N, c') ∧ ldI c' (6 + N) 0 = W ∧ ldI c' 3 2 = nI (N + 1) ∧ (∀ k, k ≠ 2 → ldI c' 3 k = ldI c 3 k) ∧ ldP c' = ldP c ∧ ldJ c' = ldJ c ∧ ∀ a, a ≠ 3 → a ≠ 6 + N → ldI c' a = ldI c a := by
  unfold fX6_added fX1_become
  rw [hP.1, Option.bind_some, h2, jm60 hN, nm_b, nm_b, nI_1]
  obtain ⟨u, hu⟩ : ∃ u, u = stI c 3 2 (nI (N + 1)) := ⟨_, rfl⟩
  rw [← hu]
  have hPu : PC u := by rw [hu]; exact hP.of rfl
  rw [hPu.1, Option.bind_some, ln45.1, gd_t (inB_nI hN (by decide)), nI_clamp (by omega), hPu.2.2 N hN, Option.bind_some, nm_b, nm_b, nm_b, nm_b, nm_b, nm_b, Option.bind_some]
  rw [show ldP (stI (stI (stI (stI (stI (stI u (6 + N) 0 W) (6 + N) 1 0) (6 + N) 2 0) (6 + N) 3 0) (6 + N) 4 0) (6 + N) 5 0) 3 0 = some 4 from hPu.1, Option.bind_some, ln45.1, gd_t (inB_nI hN (by decide)), show ldP (stI (stI (stI (stI (stI (stI u (6 + N) 0 W) (6 + N) 1 0) (6 + N) 2 0) (6 + N) 3 0) (6 + N) 4 0) (6 + N) 5 0) 4 N = some (6 + N) from hPu.2.2 N hN, Option.bind_some]
  have e3 : ∀ a, a ≠ 6 + N → ldI (stI (stI (stI (stI (stI (stI u (6 + N) 0 W) (6 + N) 1 0) (6 + N) 2 0) (6 + N) 3 0) (6 + N) 4 0) (6 + N) 5 0) a = ldI u a := fun a ha => by
    rw [ldI_stI_ne ha, ldI_stI_ne ha, ldI_stI_ne ha, ldI_stI_ne ha, ldI_stI_ne ha, ldI_stI_ne ha]
  refine ⟨_, rfl, ?_, ?_, fun k hk => ?_, by rw [hu]; rfl, by rw [hu]; rfl, fun a h3 h6 => ?_⟩
  · rw [ldI_stI, if_neg (by omega), ldI_stI, if_neg (by omega), ldI_stI, if_neg (by omega), ldI_stI, if_neg (by omega), ldI_stI, if_neg (by omega), ldI_stI_s]
  · rw [e3 3 (by omega), hu, ldI_stI_s]
  · rw [e3 3 (by omega), hu, ldI_stI, if_neg (by omega)]
  · rw [e3 a h6, hu, ldI_stI_ne h3]
/-- the reference's command, with the sign behind it -/
def mCm (m : Mem) : Option Mem := (fX12_command 362 m).bind fun r => if ldI r 362 38 = ldI m 362 38 then fX12_mustSign 362 59 r else some r
def COut (T : Nat → Nat) (L n p : Nat) (c m : Mem) (rc : Option ((Unit ⊕ Nat) × Mem)) (rm : Option Mem) : Prop :=
  (∃ c' m' p' N' t', rc = some (.inl (), c') ∧ rm = some m' ∧ TR c' m' T L p' ∧ p < p' ∧ SCS n N' t' c' m' ∧ FSc c c' ∧ FSm m m') ∨
  (∃ c' m', rc = some (.inr 0, c') ∧ rm = some m' ∧ ER c' m' ∧ FSc c c' ∧ FSm m m')
theorem bad_cm {r : Mem} (h : ¬ ldI r 362 8 = 0) (x : Int32) : (if ldI r 362 38 = x then fX12_mustSign 362 59 r else some r) = some r := by
  rw [b_mustSign h, ite_self]
theorem command_bis {c m : Mem} {p t : Nat} {σ : Sg} {ν : Nat → Int64} (h : TR c m T L p) (h0 : tkK T L p ≠ 0) (hS : SCS n N t c m) (hPC : PC c) (hR : PRw m) (hF : FR c 66 σ ν) (hσ : σ 0 = nI n) (h0m : ldI m 364 0 = nI n) (hn : n ≤ 8) (hp : ldP m 362 13 = some 364) (hq : ldP m 362 18 = some 369) (hNM : NMS n ν (ldJ m 369)) : COut T L n p c m (fX6_readCommand 3 1 66 c) (mCm m) := by
  obtain ⟨s1, s2, s3, s4, s5, s6, s7, s8, s9, s10, s11⟩ := hS
  have s9' := s9 N (Nat.le_refl N)
  have hg := tkE_gt (T := T) h.le h0
  have hq0 := tkQ_ge (T := T) h.le
  unfold fX6_readCommand mCm fX12_command
  rw [c_whatHere h, m_whatHere h, Option.bind_some, Option.bind_some]
  cases hk : sp_first (fun q => wB T L p (cl q)) 9 with
  | none =>
    obtain ⟨c1, m1, a1, a2, a3, a4, a5⟩ := h.fail (k := 1) (Or.inl rfl) (K := 1) rfl
    rw [if_pos (show noI none = -1 from rfl), if_pos (show noI none = -1 from rfl), a1, a2, Option.bind_some, Option.bind_some, xbr, b_c15 a3, Option.bind_some, bad_cm a3.bad]
    exact Or.inr ⟨c1, m1, rfl, rfl, a3, a4.fs, a5.fs⟩
  | some w =>
    obtain ⟨w9, wb⟩ := first_lt hk
    have k1 := wB_1 wb
    have e2 : ¬ noI (some w) = -1 := nI_m1 (by omega)
    rw [if_neg e2, if_neg e2, show noI (some w) = nI w from rfl]
    unfold fX6_readCommand_15 fX12_command_15
    rw [s7, s8]
    have n8 : nI w = 8 ↔ w = 8 := nI_eq (b := 8) (by omega) (by decide)
    -- the third repeat
    by_cases e3 : w = 8 ∧ (stk (ldI m 373) N).length = 2
    · obtain ⟨c1, m1, a1, a2, a3, a4, a5⟩ := h.fail (k := 3) (Or.inr ⟨by omega, by decide, by decide⟩) (K := 3) rfl
      rw [if_pos (n8.mpr e3.1), if_pos (n8.mpr e3.1), e3.2, if_neg (show ¬ nI 2 < 2 by decide), if_pos (show nI 2 = 2 from rfl), a1, a2, Option.bind_some, Option.bind_some, xbr, b_c34 a3, Option.bind_some, bad_cm a3.bad]
      exact Or.inr ⟨c1, m1, rfl, rfl, a3, a4.fs, a5.fs⟩
    · have hd2 : w = 8 → (stk (ldI m 373) N).length < 2 := fun e => by omega
      have r1 : (if nI w = 8 then (if nI (stk (ldI m 373) N).length < 2 then fX6_readCommand_34 3 1 66 (nI w) c else (fX9_fail 1 3 c).bind fun r_1 => xb r_1 fun _ m_5 => fX6_readCommand_34 3 1 66 (nI w) m_5) else fX6_readCommand_34 3 1 66 (nI w) c) = fX6_readCommand_34 3 1 66 (nI w) c := by
        by_cases e : w = 8
        · rw [if_pos (n8.mpr e), if_pos (show nI (stk (ldI m 373) N).length < 2 from nI_lt (b := 2) (hd2 e) (by decide))]
        · rw [if_neg (fun q => e (n8.mp q))]
      have r2 : (if nI w = 8 then (if nI (stk (ldI m 373) N).length = 2 then (fX12_wrong 362 3 m).bind fun r_1 => fX12_command_34 362 (nI w) r_1 else fX12_command_34 362 (nI w) m) else fX12_command_34 362 (nI w) m) = fX12_command_34 362 (nI w) m := by
        by_cases e : w = 8
        · rw [if_pos (n8.mpr e), if_neg (fun q => by have := (nI_eq (a := (stk (ldI m 373) N).length) (b := 2) (by omega) (by decide)).mp q; have := hd2 e; omega)]
        · rw [if_neg (fun q => e (n8.mp q))]
      rw [r1, r2]
      unfold fX6_readCommand_34 fX12_command_34
      rw [s3, s4]
      by_cases e30 : t = 30
      · obtain ⟨c1, m1, a1, a2, a3, a4, a5⟩ := h.fail (k := 5) (Or.inr ⟨by omega, by decide, by decide⟩) (K := 5) rfl
        unfold fX12_command_48
        rw [e30, if_neg (show ¬ nI 30 < 30 by decide), if_pos (show nI 30 = 30 from rfl), a1, a2, Option.bind_some, Option.bind_some, xbr, m_bad a3.bad, Option.bind_some, if_pos rfl, Option.bind_some, bad_cm a3.bad]
        exact Or.inr ⟨c1, m1, rfl, rfl, a3, a4.fs, a5.fs⟩
      rw [if_pos (show nI t < 30 from nI_lt (b := 30) (by omega) (by decide)), if_neg (show ¬ nI t = 30 from fun q => e30 ((nI_eq (b := 30) (by omega) (by decide)).mp q))]
      unfold fX6_readCommand_48 fX12_command_48
      have hN : N < 60 := by omega
      have hT1 : TR (stI c 3 3 (nI (t + 1))) (stI m 362 37 (nI (t + 1))) T L p := (h.c6 (by decide)).m362 (by decide)
      obtain ⟨c1, m1, a1, a2, a3, a4, a5⟩ := hT1.step
      have f1 : FSc c c1 := (FSc.s (by decide)).tr a4.fs
      have g1 : FSm m m1 := (FSm.s (by decide)).tr a5.fs
      rw [nm_b, s3, nI_1, a1, Option.bind_some, m_good h.gd, Option.bind_some, if_neg one0, nm_b, s4, nI_1, a2, Option.bind_some, nm_b]
      have c12 : ldI c1 3 2 = nI N := by rw [a4.2.1 3 (by decide), ldI_stI, if_neg (by decide)]; exact s1
      have m136 : ldI m1 362 36 = nI N := by rw [a5.2.2.2 36 (by decide), ldI_stI, if_neg (by decide)]; exact s2
      obtain ⟨c2, b1, b2, b3, b4, b5, b6, b7⟩ := c_added (hPC.of f1.1) hN c12 (nI w)
      rw [b1, Option.bind_some, m136, (hR.of g1.1).1, Option.bind_some, ln37.1, gd_t (inB_nI hN (by decide)), nI_clamp (by omega), nm_b]
      dsimp only
      obtain ⟨m2, hm2⟩ : ∃ m2, m2 = stI m1 373 N (nI w) := ⟨_, rfl⟩
      rw [← hm2]
      have f2 : FSc c c2 := f1.tr ⟨b5, fun a ha => b7 a (by omega) (by omega), fun _ _ => by rw [b6], by rw [b7 1 (by decide) (by omega)]⟩
      have g2 : FSm m m2 := by rw [hm2]; exact g1.tr FSm.t
      have hT2 : TR c2 m2 T L (tkE T L p) := by
        rw [hm2]
        refine TR.m37 ?_ (by decide)
        obtain ⟨⟨x1, x2, x3, x4⟩, y2, y3, ⟨k1, k2, k3, k4, k5, k6⟩, y5, y6⟩ := a3
        have q1 := b7 1 (by decide) (by omega)
        have q2 := b7 2 (by decide) (by omega)
        exact ⟨⟨x1, by rw [b5]; exact x2, by rw [q1]; exact x3, fun i hi => by rw [q2]; exact x4 i hi⟩, y2, y3, ⟨by rw [q1]; exact k1, by rw [q1]; exact k2, by rw [q1]; exact k3, fun e => by rw [b6]; exact k4 e, fun e => by rw [q1]; exact k5 e, fun e => by rw [q1]; exact k6 e⟩, y5, y6.1, y6.2.1, by rw [q1]; exact y6.2.2.1, by rw [q1]; exact y6.2.2.2⟩
      have u2 : ∀ i, i < N → ldI m2 373 i = ldI m 373 i := fun i hi => by
        rw [hm2, ldI_stI, if_neg (by omega), a5.2.1 373 (by decide), ldI_stI_ne (by decide)]
      have uN : ldI m2 373 N = nI w := by rw [hm2, ldI_stI_s]
      have cr2 : ∀ k, k < N → CRk n c2 m2 k := fun k hk => (s11 k hk).cg (fun j => by rw [b7 _ (by omega) (by omega), a4.2.1 _ (by omega), ldI_stI_ne (by omega)]) (fun a h1 h2 => by rw [hm2, ldI_stI_ne (by omega), a5.2.1 a (by omega), ldI_stI_ne (by omega)]) (fun i hi => u2 i (by omega))
      have c23 : ldI c2 3 3 = nI (t + 1) := by rw [b4 3 (by decide), a4.2.1 3 (by decide), ldI_stI_s]
      have c24 : ldI c2 3 4 = nI (stk (ldI m 373) N).length := by rw [b4 4 (by decide), a4.2.1 3 (by decide), ldI_stI, if_neg (by decide)]; exact s7
      have m237 : ldI m2 362 37 = nI (t + 1) := by rw [hm2, ldI_stI_ne (by decide), a5.2.2.2 37 (by decide), ldI_stI_s]
      have m236 : ldI m2 362 36 = nI N := by rw [hm2, ldI_stI_ne (by decide)]; exact m136
      have m238 : ldI m2 362 38 = nI (stk (ldI m 373) N).length := by rw [hm2, ldI_stI_ne (by decide), a5.2.2.2 38 (by decide), ldI_stI, if_neg (by decide)]; exact s8
      have c25 : ∀ i, i < (stk (ldI m 373) N).length → ldI c2 5 i = nI ((stk (ldI m 373) N).getD i 0) := fun i hi => by
        rw [b7 5 (by decide) (by omega), a4.2.1 5 (by decide), ldI_stI_ne (by decide)]; exact s10 i hi
      have hR2 := hR.of g2.1
      by_cases e8 : w = 8
      · -- a repeat
        subst e8
        rw [if_pos (show nI 8 = 8 from rfl)]
        unfold fX12_readsNumbers
        rw [if_neg (show ¬ nI 8 = 0 by decide), if_neg (show ¬ nI 8 = 6 by decide), r20_skip (by omega)]
        unfold fX12_readsNumbers_97 fX12_readsNumbers_113 fX12_readsNumbers_129
        rw [if_neg (show ¬ nI 8 = 7 by decide), if_neg (show ¬ nI 8 = 7 by decide), if_pos (show nI 8 = 8 from rfl), hR2.2.1, Option.bind_some]
        have hg1 := tkE_le (T := T) hT2.le
        rcases hT2.num (lo := 1) (hi := 20) (by decide) (by decide) (A := 1) (B := 20) rfl rfl with ⟨r, c3, m3, r1', r2', d1, d2, d3, d4, d5⟩ | ⟨x, c3, m3, d1, d2, d3, d4, d5⟩
        · rw [d1, d2, Option.bind_some, Option.bind_some, xbl, nm_b, ln37.2.1, gd_t (inB_nI hN (by decide)), nI_clamp (by omega), nm_b, if_pos (show nI 8 = 8 from rfl)]
          have hT3 : TR (stI c3 (6 + N) 2 (nI r)) (stI m3 374 N (nI r)) T L (tkE T L (tkE T L p)) := (d3.c6 (by omega)).m37 (by decide)
          have hg2 := tkE_le (T := T) hT3.le
          rcases hT3.sign (x := 40) (by decide) (X := 40) rfl with ⟨c4, m4, i1, i2, i3, i4, i5⟩ | ⟨c4, m4, i1, i2, i3, i4, i5⟩
          · rw [show fX9_takeSign 1 40 (stI c3 (6 + N) 2 (nI r)) = _ from i1, i2, Option.bind_some, Option.bind_some, Option.bind_some, xbl, m_good i3.gd, Option.bind_some, if_neg one0, nm_b, if_pos (show nI 8 = 8 from rfl)]
            have keepc : ∀ a, a ≠ 1 → a ≠ 6 + N → ldI c4 a = ldI c2 a := fun a h1 h2 => by rw [i4.2.1 a h1, ldI_stI_ne h2, d4.2.1 a h1]
            have keepm : ∀ a, a ≠ 362 → a ≠ 374 → ldI m4 a = ldI m2 a := fun a h1 h2 => by rw [i5.2.1 a h1, ldI_stI_ne h2, d5.2.1 a h1]
            have keep362 : ∀ k, 9 < k → ldI m4 362 k = ldI m2 362 k := fun k hk => by rw [i5.2.2.2 k (Or.inr hk), ldI_stI_ne (by decide), d5.2.2.2 k (Or.inr hk)]
            have hd := hd2 rfl
            unfold fX6_openRepeat
            have p4 : ldP c4 = ldP c2 := i4.1.trans d4.1
            rw [keepc 3 (by decide) (by omega), c24, if_neg (nI_pos (by omega)), show ldP c4 3 1 = some 5 by rw [p4, b5]; exact (hPC.of f1.1).2.1, Option.bind_some, ln45.2, if_neg (show ¬ Int32.ofNat 2 ≤ nI (stk (ldI m 373) N).length from nI_ge hd (by decide)), Option.bind_some, ln45.2, gd_t (inB_nI hd (by decide)), nI_clamp (by omega), nm_b, nm_b, b3, nI_pred, ldI_stI_ne (show (3 : Nat) ≠ 5 by decide), keepc 3 (by decide) (by omega), c24, nI_1, Option.bind_some]
            rw [keep362 36 (by decide), m236, nI_1, truth1, Option.bind_some, nm_b, ldI_stI, if_neg (by decide), keep362 38 (by decide), m238, nI_1, Option.bind_some]
            rw [ldI_stI_s, if_neg (fun q => by have := (nI_eq (a := (stk (ldI m 373) N).length + 1) (b := (stk (ldI m 373) N).length) (by omega) (by omega)).mp q; omega)]
            have e37 : ldI (stI (stI m4 362 36 (nI (N + 1))) 362 38 (nI ((stk (ldI m 373) N).length + 1))) 373 = ldI m2 373 := by
              rw [ldI_stI_ne (by decide), ldI_stI_ne (by decide), keepm 373 (by decide) (by decide)]
            have est : stk (ldI m2 373) (N + 1) = stk (ldI m 373) N ++ [N] := by
              rw [stk, uN, if_pos (show nI 8 = 8 from rfl), stk_cg u2]
            refine Or.inl ⟨_, _, _, N + 1, t + 1, rfl, rfl, ((i3.c6 (by decide)).c6 (by decide)).m362 (by decide) |>.m362 (by decide), by omega, ⟨?_, ?_, ?_, ?_, by omega, ?_, ?_, ?_, ?_, fun i hi => ?_, fun k hk => ?_⟩, ?_, ?_⟩
            · rw [ldI_stI, if_neg (by decide), ldI_stI_ne (by decide), keepc 3 (by decide) (by omega)]; exact b3
            · rw [ldI_stI, if_neg (by decide), ldI_stI_s]
            · rw [ldI_stI, if_neg (by decide), ldI_stI_ne (by decide), keepc 3 (by decide) (by omega)]; exact c23
            · rw [ldI_stI, if_neg (by decide), ldI_stI, if_neg (by decide), keep362 37 (by decide)]; exact m237
            · rw [e37, est, List.length_append]; simp only [List.length_singleton]; omega
            · rw [e37, est, List.length_append, ldI_stI_s]; rfl
            · rw [e37, est, List.length_append, ldI_stI_s]; rfl
            · intro k hk
              rw [e37]
              by_cases ek : k = N + 1
              · rw [ek, est, List.length_append]; simp only [List.length_singleton]; omega
              · rw [stk_cg (fun i hi => u2 i (by omega))]; exact s9 k (by omega)
            · rw [e37, est] at hi ⊢
              rw [ldI_stI_ne (by decide)]
              by_cases ei : i = (stk (ldI m 373) N).length
              · subst ei
                rw [ldI_stI_s, List.getD_eq_getElem?_getD, List.getElem?_append_right (Nat.le_refl _), Nat.sub_self]; rfl
              · rw [List.length_append] at hi
                simp only [List.length_singleton] at hi
                rw [ldI_stI, if_neg (by omega), keepc 5 (by decide) (by omega), c25 i (by omega), List.getD_eq_getElem?_getD, List.getD_eq_getElem?_getD, List.getElem?_append_left (by omega)]
            · by_cases ek : k = N
              · subst ek
                refine ⟨8, by decide, ?_, ?_, fun h => by omega, fun _ => ⟨r, r1', r2', ?_, ?_⟩, fun h => by omega⟩
                · rw [ldI_stI_ne (by omega), ldI_stI_ne (by omega), i4.2.1 _ (by omega), ldI_stI, if_neg (by omega), d4.2.1 _ (by omega)]; exact b2
                · rw [e37]; exact uN
                · rw [ldI_stI_ne (by omega), ldI_stI_ne (by omega), i4.2.1 _ (by omega), ldI_stI_s]
                · rw [ldI_stI_ne (by decide), ldI_stI_ne (by decide), i5.2.1 374 (by decide), ldI_stI_s]
              · refine (cr2 k (by omega)).cg (fun j => ?_) (fun a h1 h2 => ?_) (fun i hi => by rw [e37])
                · rw [ldI_stI_ne (by omega), ldI_stI_ne (by omega), keepc _ (by omega) (by omega)]
                · rw [ldI_stI_ne (by omega), ldI_stI_ne (by omega), i5.2.1 a (by omega), ldI_stI, if_neg (by omega), d5.2.1 a (by omega)]
            · exact ((((f2.tr d4.fs).tr (FSc.s (by omega))).tr i4.fs).tr (FSc.s (by decide))).tr (FSc.s (by decide))
            · exact ((((g2.tr d5.fs).tr (GAm.s (N := N) (by decide) (by decide)).fs).tr i5.fs).tr (FSm.s (by decide))).tr (FSm.s (by decide))
          · rw [show fX9_takeSign 1 40 (stI c3 (6 + N) 2 (nI r)) = _ from i1, i2, Option.bind_some, Option.bind_some, Option.bind_some, xbr, m_bad i3.bad, Option.bind_some, if_pos rfl, Option.bind_some, bad_cm i3.bad]
            exact Or.inr ⟨c4, m4, rfl, rfl, i3, ((f2.tr d4.fs).tr (FSc.s (by omega))).tr i4.fs, ((g2.tr d5.fs).tr (GAm.s (N := N) (by decide) (by decide)).fs).tr i5.fs⟩
        · have g : GB N m3 (stI m3 374 N x) := GB.s (by decide) (by decide)
          rw [d1, d2, Option.bind_some, Option.bind_some, xbr, ln37.2.1, gd_t (inB_nI hN (by decide)), nI_clamp (by omega), nm_b, if_pos (show nI 8 = 8 from rfl), b_mustSign (g.bad d3.bad), Option.bind_some, Option.bind_some, m_bad (g.bad d3.bad), Option.bind_some, if_pos rfl, Option.bind_some, bad_cm (g.bad d3.bad)]
          exact Or.inr ⟨c3, _, rfl, rfl, g.er d3, f2.tr d4.fs, (g2.tr d5.fs).tr g.1.fs⟩
      · -- another command
        have n8' : ¬ nI w = 8 := fun q => e8 (n8.mp q)
        rw [if_neg n8']
        rcases args_all (N := N) (w := w) hT2 hR2 hN (by omega) b2 (f2.fr (by decide) hF) hσ (by rw [g2.2.2.1 364 (by decide) (by decide)]; exact h0m) hn (g2.p hp) (g2.p hq) (by rw [g2.2.1 369 (by decide)]; exact hNM) with ⟨c3, m3, p3, d1, d2, d3, d4, d5, d6, d7, d8⟩ | ⟨c3, m3, d1, d2, d3, d4, d5⟩
        · rw [d1, d2, Option.bind_some, Option.bind_some, xbl, m_good d3.gd, Option.bind_some, if_neg one0, nm_b, if_neg n8', truth0, Option.bind_some, nm_b, Option.bind_some]
          have e38 : ldI (stI m3 362 36 (nI (N + 1))) 362 38 + 0 = nI (stk (ldI m 373) N).length := by rw [ldI_stI, if_neg (by decide), d8.2.2.2.2 38 (by decide), m238, Int32.add_zero]
          rw [d8.2.2.2.2 36 (by decide), m236, nI_1, e38, ldI_stI_s, if_pos rfl]
          have hT4 : TR c3 (stI (stI m3 362 36 (nI (N + 1))) 362 38 (nI (stk (ldI m 373) N).length)) T L p3 := (d3.m362 (by decide)).m362 (by decide)
          have hg2 := tkE_le (T := T) hT4.le
          rcases hT4.sign (x := 59) (by decide) (X := 59) rfl with ⟨c4, m4, i1, i2, i3, i4, i5⟩ | ⟨c4, m4, i1, i2, i3, i4, i5⟩
          · rw [show fX9_takeSign 1 59 c3 = _ from i1, i2, Option.bind_some, xbl]
            have e37 : ldI m4 373 = ldI m2 373 := by rw [i5.2.1 373 (by decide), ldI_stI_ne (by decide), ldI_stI_ne (by decide), d8.2.2.1 373 (by decide) (by decide)]
            have est : stk (ldI m2 373) (N + 1) = stk (ldI m 373) N := by
              rw [stk, uN, if_neg n8', if_neg (show ¬ nI w = 9 from fun q => by have := (nI_eq (a := w) (b := 9) (by omega) (by decide)).mp q; omega), stk_cg u2]
            have kc : ∀ a, a ≠ 1 → a ≠ 6 + N → ldI c4 a = ldI c2 a := fun a h1 h2 => by rw [i4.2.1 a h1, d7.2.1 a h1 h2]
            have km : ∀ a, a ≠ 362 → ldI m4 a = ldI m3 a := fun a h1 => by rw [i5.2.1 a h1, ldI_stI_ne h1, ldI_stI_ne h1]
            refine Or.inl ⟨c4, m4, _, N + 1, t + 1, rfl, rfl, i3, by omega, ⟨?_, ?_, ?_, ?_, by omega, ?_, ?_, ?_, ?_, fun i hi => ?_, fun k hk => ?_⟩, ?_, ?_⟩
            · rw [kc 3 (by decide) (by omega)]; exact b3
            · rw [i5.2.2.2 36 (by decide), ldI_stI, if_neg (by decide), ldI_stI_s]
            · rw [kc 3 (by decide) (by omega)]; exact c23
            · rw [i5.2.2.2 37 (by decide), ldI_stI, if_neg (by decide), ldI_stI, if_neg (by decide), d8.2.2.2.2 37 (by decide)]; exact m237
            · rw [e37, est]; omega
            · rw [e37, est, kc 3 (by decide) (by omega)]; exact c24
            · rw [e37, est, i5.2.2.2 38 (by decide), ldI_stI_s]
            · intro k hk
              rw [e37]
              by_cases ek : k = N + 1
              · rw [ek, est]; exact s9'
              · rw [stk_cg (fun i hi => u2 i (by omega))]; exact s9 k (by omega)
            · rw [e37, est] at hi ⊢
              rw [kc 5 (by decide) (by omega)]; exact c25 i hi
            · by_cases ek : k = N
              · subst ek
                refine ⟨w, by omega, ?_, ?_, fun _ => ?_, fun h => absurd h e8, fun h => by omega⟩
                · rw [i4.2.1 _ (by omega)]; exact d6
                · rw [e37]; exact uN
                · obtain ⟨y1, y2, y3, y4⟩ := d5
                  have z1 : ∀ j, ldI c4 (6 + k) j = ldI c3 (6 + k) j := fun j => by rw [i4.2.1 _ (by omega)]
                  refine ⟨fun e => ?_, fun e => ?_, fun e => ?_, fun e => ?_⟩
                  · obtain ⟨x, x1, x2, x3⟩ := y1 e; exact ⟨x, x1, by rw [z1]; exact x2, by rw [km 374 (by decide)]; exact x3⟩
                  · obtain ⟨x, x1, x2, x3⟩ := y2 e; exact ⟨x, x1, by rw [z1]; exact x2, by rw [km 374 (by decide)]; exact x3⟩
                  · obtain ⟨x, x1, x2, x3⟩ := y3 e; exact ⟨x, x1, by rw [z1]; exact x2, by rw [km 375 (by decide)]; exact x3⟩
                  · obtain ⟨q, x, x1, x2, x3, x4, x5, x6⟩ := y4 e; exact ⟨q, x, x1, x2, by rw [z1]; exact x3, by rw [km 376 (by decide)]; exact x4, by rw [z1]; exact x5, by rw [km 377 (by decide)]; exact x6⟩
              · refine (cr2 k (by omega)).cg (fun j => by rw [kc _ (by omega) (by omega)]) (fun a h1 h2 => ?_) (fun i hi => by rw [e37])
                rw [km a (by omega), d8.2.2.2.1 a k (by omega) ek]
            · exact (f2.tr (d7.fs hN)).tr i4.fs
            · exact (((g2.tr d8.fs).tr (FSm.s (by decide))).tr (FSm.s (by decide))).tr i5.fs
          · rw [show fX9_takeSign 1 59 c3 = _ from i1, i2, Option.bind_some, xbr]
            exact Or.inr ⟨c4, m4, rfl, rfl, i3, (f2.tr (d7.fs hN)).tr i4.fs, (((g2.tr d8.fs).tr (FSm.s (by decide))).tr (FSm.s (by decide))).tr i5.fs⟩
        · rw [d1, d2, Option.bind_some, Option.bind_some, xbr, m_bad d3.bad, Option.bind_some, if_pos rfl, Option.bind_some, bad_cm d3.bad]
          exact Or.inr ⟨c3, m3, rfl, rfl, d3, f2.tr (d4.fs hN), g2.tr d5.fs⟩
end CMD
