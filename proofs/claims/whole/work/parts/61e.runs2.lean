/-! scripts: both run them alike -/
theorem ln78 : Ln 378 = 2 ∧ Ln 379 = 2 := by decide
section RUNM
variable {m : Mem} {G : Int32 → Int32 → Int32 → Int32 → Mem → Option (Int32 × Mem)} {N D k d : Nat}
theorem r_stop {v1 v2 v3 : Int32} {h : v1 = v1} : gX12_runs_9 362 G v1 v2 v3 0 m = some (v1, m) := by
  unfold gX12_runs_9
  rw [if_pos rfl]
theorem r_end {v2 v4 : Int32} (hN : N ≤ 60) (h2 : ldI m 362 36 = nI N) (hk : k = N) : gX12_runs_9 362 G (nI D) v2 (nI k) v4 m = some (nI D, m) := by
  unfold gX12_runs_9
  rw [h2, if_pos (show nI N ≤ nI k from nI_le (by omega) (by omega)), ite_self]
theorem r_40 {v2 v3 v4 : Int32} : gX12_runs_9 362 G (nI 40) v2 v3 v4 m = some (nI 40, m) := by
  unfold gX12_runs_9
  rw [if_pos (show (40 : Int32) ≤ nI 40 by decide), ite_self, ite_self]
theorem r_at (hN : N ≤ 60) (h2 : ldI m 362 36 = nI N) (hD : D ≤ 39) (hk : k < N) (hR : PRw m) : gX12_runs_9 362 G (nI D) (nI d) (nI k) 1 m = (if ldI m 373 k = 8 then
          (ldP m 362 34).bind fun q_47 =>
          gd (inB (nI d) (Ln q_47)) (nm (stI m q_47 (nI d).toNatClampNeg (nI k)) fun m_50 =>
          (ldP m_50 362 35).bind fun q_52 =>
          (ldP m_50 362 30).bind fun q_55 =>
          gd (inB (nI k) (Ln q_55)) (gd (inB (nI d) (Ln q_52)) (nm (stI m_50 q_52 (nI d).toNatClampNeg (ldI m_50 q_55 (nI k).toNatClampNeg)) fun m_59 =>
          G (nI D) (nI (d + 1)) (nI (k + 1)) 1 m_59)))
        else
          if ldI m 373 k = 9 then
            (ldP m 362 35).bind fun q_34 =>
            gd (inB (nI d - 1) (Ln q_34)) (gd (inB (nI d - 1) (Ln q_34)) (nm (stI m q_34 (nI d - 1).toNatClampNeg ((ldI m q_34 (nI d - 1).toNatClampNeg) - 1)) fun m_39 =>
            (ldP m_39 362 35).bind fun q_41 =>
            gd (inB (nI d - 1) (Ln q_41)) (if (ldI m_39 q_41 (nI d - 1).toNatClampNeg) ≤ 0 then
              fX12_runs_106 G 362 (nI D) (nI d) (nI k) 1 0 m_39
            else
              fX12_runs_106 G 362 (nI D) (nI d) (nI k) 1 1 m_39)))
          else
            (fX12_may 362 (nI k) m).bind fun r_9 =>
            if r_9 = 0 then
              G (nI D) (nI d) (nI (k + 1)) 0 m
            else
              (fX12_isDone 362 (nI k) m).bind fun r_18 =>
              if r_18.1 = 0 then
                G (nI D) (nI d) (nI (k + 1)) 0 r_18.2
              else
                G (nI (D + 1)) (nI d) (nI (k + 1)) 1 r_18.2) := by
  unfold gX12_runs_9
  rw [if_neg (show ¬ (1 : Int32) = 0 by decide), h2, if_neg (nI_ge hk (by omega)), if_neg (show ¬ (40 : Int32) ≤ nI D from nI_ge (b := 40) (by omega) (by decide)), hR.1, Option.bind_some, Option.bind_some, ln37.1, gd_t (inB_nI (by omega) (by decide)), gd_t (inB_nI (by omega) (by decide)), nI_clamp (by omega)]
  simp only [nm_b, nI_1, truth0, truth1, Option.bind_some, Int32.add_zero]
theorem r_rep {r : Nat} (hN : N ≤ 60) (h2 : ldI m 362 36 = nI N) (hD : D ≤ 39) (hk : k < N) (hR : PRw m) (h34 : ldP m 362 34 = some 378) (h35 : ldP m 362 35 = some 379) (hd : d < 2) (h8 : ldI m 373 k = 8) (hr : ldI m 374 k = nI r) : gX12_runs_9 362 G (nI D) (nI d) (nI k) 1 m = G (nI D) (nI (d + 1)) (nI (k + 1)) 1 (stI (stI m 378 d (nI k)) 379 d (nI r)) := by
  rw [r_at hN h2 hD hk hR, if_pos h8, h34, Option.bind_some, ln78.1, gd_t (inB_nI hd (by decide)), nm_b, nI_clamp (by omega), show ldP (stI m 378 d (nI k)) 362 35 = some 379 from h35, Option.bind_some, show ldP (stI m 378 d (nI k)) 362 30 = some 374 from hR.2.1, Option.bind_some, ln37.2.1, gd_t (inB_nI (by omega) (by decide)), ln78.2, gd_t (inB_nI hd (by decide)), nm_b, nI_clamp (by omega), ldI_stI_ne (by decide), hr]
theorem r_close {r s : Nat} (hN : N ≤ 60) (h2 : ldI m 362 36 = nI N) (hD : D ≤ 39) (hk : k < N) (hR : PRw m) (h34 : ldP m 362 34 = some 378) (h35 : ldP m 362 35 = some 379) (hd : d < 2) (h9 : ldI m 373 k = 9) (hs : ldI m 378 d = nI s) (hr : ldI m 379 d = nI r) (r1 : 1 ≤ r) (r20 : r ≤ 20) : gX12_runs_9 362 G (nI D) (nI (d + 1)) (nI k) 1 m = if r = 1 then G (nI D) (nI d) (nI (k + 1)) 1 (stI m 379 d (nI (r - 1))) else G (nI D) (nI (d + 1)) (nI (s + 1)) 1 (stI m 379 d (nI (r - 1))) := by
  have hd1 : nI (d + 1) - 1 = nI d := pk_sub (a := d + 1) (b := 1) (by omega)
  have hr1 : nI r - 1 = nI (r - 1) := pk_sub (b := 1) r1
  rw [r_at hN h2 hD hk hR, if_neg (by rw [h9]; decide), if_pos h9, h35, Option.bind_some, hd1, ln78.2, gd_t (inB_nI hd (by decide)), gd_t (inB_nI hd (by decide)), nm_b, nI_clamp (by omega), hr, hr1, show ldP (stI m 379 d (nI (r - 1))) 362 35 = some 379 from h35, Option.bind_some, ln78.2, gd_t (inB_nI hd (by decide)), ldI_stI_s]
  by_cases e : r = 1
  · rw [if_pos e, e, if_pos (show nI (1 - 1) ≤ 0 by decide)]
    unfold fX12_runs_106 fX12_runs_129
    rw [if_pos rfl, if_pos rfl, truth1, Option.bind_some, nm_b, hd1, nI_1]
  · rw [if_neg e, if_neg (nI_nle (by omega) (by omega))]
    unfold fX12_runs_106 fX12_runs_129
    rw [if_neg one0, show ldP (stI m 379 d (nI (r - 1))) 362 34 = some 378 from h34, Option.bind_some, hd1, ln78.1, gd_t (inB_nI hd (by decide)), nI_clamp (by omega), if_neg one0, truth0, Option.bind_some, nm_b, Int32.sub_zero, ldI_stI_ne (by decide), hs, nI_1]
end RUNM
theorem no8 {w b : Nat} {x : Int32} (hw : w < 8) (h : x = nI w) (hb : 8 ≤ b ∧ b < 100) : ¬ x = nI b := fun q => absurd ((nI_eq (by omega) (by omega)).mp (h.symm.trans q)) (by omega)
section RUNS2
variable {n N : Nat} {ν : Nat → Int64} {c0 m0 : Mem}
theorem SCP.at8 {c m : Mem} {k : Nat} (hS : SCP n N c0 m0) (f : FRc (ldI m0 373) N c0 c) (g : FRm m0 m) (hk : k < N) (h8 : ldI m0 373 k = 8) : ∃ r : Nat, 1 ≤ r ∧ r ≤ 20 ∧ ldI c (6 + k) 0 = 8 ∧ ldI c (6 + k) 2 = nI r ∧ ldI m 373 k = 8 ∧ ldI m 374 k = nI r := by
  obtain ⟨w, w1, w2, w3, w4, w5, w6⟩ := hS.2.2.2.2.2 k hk
  have hw : w = 8 := (nI_eq (by omega) (by decide)).mp (w3.symm.trans h8)
  subst hw
  obtain ⟨r, r1, r2, r3, r4⟩ := w5 rfl
  exact ⟨r, r1, r2, (f.2.2 k hk 0 (Or.inl (by decide))).trans w2, (f.2.2 k hk 2 (Or.inl (by decide))).trans r3, by rw [g.2.2.1 373 (by decide) (by decide) (by decide) (by decide)]; exact w3, by rw [g.2.2.1 374 (by decide) (by decide) (by decide) (by decide)]; exact r4⟩
theorem SCP.at9 {c m : Mem} {k : Nat} (hS : SCP n N c0 m0) (f : FRc (ldI m0 373) N c0 c) (g : FRm m0 m) (hk : k < N) (h9 : ldI m0 373 k = 9) : ∃ s : Nat, (stk (ldI m0 373) k).getLast? = some s ∧ ldI c (6 + k) 0 = 9 ∧ ldI c (6 + k) 5 = nI s ∧ ldI m 373 k = 9 := by
  obtain ⟨w, w1, w2, w3, w4, w5, w6⟩ := hS.2.2.2.2.2 k hk
  have hw : w = 9 := (nI_eq (by omega) (by decide)).mp (w3.symm.trans h9)
  subst hw
  obtain ⟨s, s1, s2⟩ := w6 rfl
  exact ⟨s, s1, (f.2.2 k hk 0 (Or.inl (by decide))).trans w2, (f.2.2 k hk 5 (Or.inr (by rw [h9]; decide))).trans s2, by rw [g.2.2.1 373 (by decide) (by decide) (by decide) (by decide)]; exact w3⟩
theorem SCP.at {c m : Mem} {k : Nat} (hS : SCP n N c0 m0) (f : FRc (ldI m0 373) N c0 c) (g : FRm m0 m) (hk : k < N) (h8 : ¬ ldI m0 373 k = 8) (h9 : ¬ ldI m0 373 k = 9) : ∃ w : Nat, w < 8 ∧ ldI c (6 + k) 0 = nI w ∧ ldI m 373 k = nI w ∧ AR n w k c m := by
  have hm : ∀ a, 373 ≤ a → a ≤ 377 → ldI m a = ldI m0 a := fun a p q => g.2.2.1 a (by omega) (by omega) (by omega) (by omega)
  obtain ⟨w, w1, w2, w3, w4, w5, w6⟩ := (hS.2.2.2.2.2 k hk).cg (c' := c) (m' := m) (fun j => f.2.2 k hk j (Or.inr h8)) (fun a p q => by rw [hm a (by omega) q]) (fun i _ => by rw [hm 373 (by decide) (by decide)])
  have hw : w < 8 := by
    rw [hm 373 (by decide) (by decide)] at w3
    have e8 : w ≠ 8 := fun e => h8 (by rw [w3, e]; rfl)
    have e9 : w ≠ 9 := fun e => h9 (by rw [w3, e]; rfl)
    omega
  exact ⟨w, hw, w2, w3, w4 hw⟩
theorem ME.le {u : Nat → Int32} {rr : Nat → Nat} {k φ : Nat} (h : ME u N rr k φ) : k ≤ N := by
  rcases h with ⟨h1, h2, h3⟩ | ⟨s0, e0, h1, h2, h3, h4, h5, h6⟩ | ⟨s0, e0, s1, e1, h1, h2, h3, h4, h5, h6, h7, h10, h11, h12⟩
  · exact h2
  · have := h2.2.1; omega
  · have := h2.2.1; omega
theorem FR.left {c : Mem} {σ : Sg} {s : Nat} {v : Int32} (h : FR c 66 σ ν) (hs : s < 60) : FR (stI c (6 + s) 5 v) 66 σ ν := h.out (S := fun a => a = 6 + s) (SE.sI rfl) (fun a ha e => by unfold RG at ha; omega)
/-- past the fortieth change: the class looks on, and changes nothing -/
theorem run40 {σ : Sg} (hS : SCP n N c0 m0) (hP : PC c0) : ∀ (φ k j k1 : Nat) (rr : Nat → Nat) (c : Mem), φ < k1 → j + φ ≤ 30000 → ME (ldI m0 373) N rr k φ → LPc (ldI m0 373) rr k c → FRc (ldI m0 373) N c0 c → FR c 66 σ ν → ∃ c', zl4 (gX6_runOn_7 3 66) k1 (nI 40) (nI k) (nI j) c = some (nI 40, c') ∧ FR c' 66 σ ν ∧ FRc (ldI m0 373) N c0 c' := by
  intro φ
  induction φ using Nat.strongRecOn with
  | ind φ ih =>
  intro k j k1 rr c hk1 hj hM hL hf hF
  obtain ⟨k1, rfl⟩ : ∃ x, k1 = x + 1 := ⟨k1 - 1, by omega⟩
  have hN := hS.1
  have hle := hM.le
  have h2 : ldI c 3 2 = nI N := by rw [hf.2.1 3 (fun q => by unfold RG at q; omega) (Or.inl (by decide))]; exact hS.2.1
  rw [zl4_s]
  by_cases e : k = N
  · exact ⟨c, c_stop hN h2 (by omega) e, hF, hf⟩
  have hk : k < N := by omega
  rw [c_at_k hN h2 (by omega) hk (hP.fr hf)]
  by_cases h8 : ldI m0 373 k = 8
  · obtain ⟨r, r1, r2, r3, r4, -, -⟩ := hS.at8 hf (FRm.rf (m := m0)) hk h8
    obtain ⟨φ', l1, l2⟩ := me_rep hS.2.2.2.1 hS.2.2.2.2.1 hk h8 r1 r2 hM
    rw [if_pos r3, r4]
    exact ih φ' l1 (k + 1) (j + 1) k1 _ _ (by omega) (by omega) l2 (hL.rep h8 r1 r2) (hf.tr (FRc.left hN hk h8)) (hF.left (by omega))
  by_cases h9 : ldI m0 373 k = 9
  · obtain ⟨s, s1, s2, s3, -⟩ := hS.at9 hf (FRm.rf (m := m0)) hk h9
    obtain ⟨t1, t2, t3, t4⟩ := stk_last s1
    have hd := hL ((stk (ldI m0 373) k).length - 1) s (by rw [← List.getLast?_eq_getElem?]; exact s1)
    have hne : stk (ldI m0 373) k ≠ [] := by rw [t4]; exact List.append_ne_nil_of_right_ne_nil _ (by simp)
    rw [if_neg (by rw [s2]; decide), if_pos s2, s3, c_back (hP.fr hf) (by omega) hd.1 hd.2.1 hd.2.2, Option.bind_some]
    by_cases er : rr ((stk (ldI m0 373) k).length - 1) = 1
    · obtain ⟨φ', l1, l2⟩ := me_exit h9 er hne hM
      rw [if_pos (show (if rr ((stk (ldI m0 373) k).length - 1) = 1 then (0 : Int32) else 1) = 0 from if_pos er)]
      exact ih φ' l1 (k + 1) (j + 1) k1 _ _ (by omega) (by omega) l2 (hL.exit h9 s1) (hf.tr (FRc.left hN (by omega) t2)) (hF.left (by omega))
    · obtain ⟨φ', l1, l2⟩ := me_more h9 s1 (by omega) hM
      rw [if_neg (show ¬ (if rr ((stk (ldI m0 373) k).length - 1) = 1 then (0 : Int32) else 1) = 0 by rw [if_neg er]; decide)]
      rw [show ldI (stI c (6 + s) 5 (nI (rr ((stk (ldI m0 373) k).length - 1) - 1))) (6 + k) 5 = nI s by rw [ldI_stI_ne (by omega)]; exact s3, nI_1]
      exact ih φ' l1 (s + 1) (j + 1) k1 _ _ (by omega) (by omega) l2 (hL.more s1 (by omega)) (hf.tr (FRc.left hN (by omega) t2)) (hF.left (by omega))
  · obtain ⟨w, w1, w2, w3, w4⟩ := hS.at hf (FRm.rf (m := m0)) hk h8 h9
    rw [if_neg (show ¬ ldI c (6 + k) 0 = 8 from no8 (b := 8) w1 w2 (by decide)), if_neg (show ¬ ldI c (6 + k) 0 = 9 from no8 (b := 9) w1 w2 (by decide)), if_pos (show (40 : Int32) ≤ nI 40 by decide)]
    exact ⟨c, rfl, hF, hf⟩
/-- both runs of a script, side by side -/
theorem runs_bis (hS : SCP n N c0 m0) (hP : PC c0) (hR : PRw m0) (h34 : ldP m0 362 34 = some 378) (h35 : ldP m0 362 35 = some 379) (hp : ldP m0 362 13 = some 364) : ∀ (φ k j D k1 k2 : Nat) (rr : Nat → Nat) (c m : Mem), φ < k1 → φ + 1 < k2 → j + φ ≤ 30000 → D ≤ 39 → ME (ldI m0 373) N rr k φ → LPc (ldI m0 373) rr k c → LPm (ldI m0 373) rr k m → FRc (ldI m0 373) N c0 c → FRm m0 m → FR c 66 (ldI m 364) ν → okN n (ldI m 364) → ∃ c' m' D', zl4 (gX6_runOn_7 3 66) k1 (nI D) (nI k) (nI j) c = some (nI D', c') ∧ zl5 (gX12_runs_9 362) k2 (nI D) (nI (stk (ldI m0 373) k).length) (nI k) 1 m = some (nI D', m') ∧ FR c' 66 (ldI m' 364) ν ∧ okN n (ldI m' 364) ∧ FRc (ldI m0 373) N c0 c' ∧ FRm m0 m' := by
  intro φ
  induction φ using Nat.strongRecOn with
  | ind φ ih =>
  intro k j D k1 k2 rr c m hk1 hk2 hj hD hM hL hLm hf hg hF hok
  obtain ⟨k1, rfl⟩ : ∃ x, k1 = x + 1 := ⟨k1 - 1, by omega⟩
  obtain ⟨k2, rfl⟩ : ∃ x, k2 = x + 2 := ⟨k2 - 2, by omega⟩
  have hN := hS.1
  have hle := hM.le
  have h2 : ldI c 3 2 = nI N := by rw [hf.2.1 3 (fun q => by unfold RG at q; omega) (Or.inl (by decide))]; exact hS.2.1
  have h2m : ldI m 362 36 = nI N := by rw [hg.2.2.2 36 (by decide) (by decide)]; exact hS.2.2.1
  have hRm := hR.of hg.1
  have q34 : ldP m 362 34 = some 378 := by rw [hg.1]; exact h34
  have q35 : ldP m 362 35 = some 379 := by rw [hg.1]; exact h35
  have qp : ldP m 362 13 = some 364 := by rw [hg.1]; exact hp
  rw [zl4_s, zl5_s]
  by_cases e : k = N
  · exact ⟨c, m, D, c_stop hN h2 (by omega) e, r_end hN h2m e, hF, hok, hf, hg⟩
  have hk : k < N := by omega
  rw [c_at_k hN h2 (by omega) hk (hP.fr hf)]
  by_cases h8 : ldI m0 373 k = 8
  · obtain ⟨r, r1, r2, r3, r4, r5, r6⟩ := hS.at8 hf hg hk h8
    obtain ⟨φ', l1, l2⟩ := me_rep hS.2.2.2.1 hS.2.2.2.2.1 hk h8 r1 r2 hM
    have hlen : (stk (ldI m0 373) (k + 1)).length = (stk (ldI m0 373) k).length + 1 := by rw [stk, if_pos h8, List.length_append]; rfl
    have hd := hS.2.2.2.2.1 (k + 1) (by omega)
    rw [if_pos r3, r4, r_rep hN h2m hD hk hRm q34 q35 (by omega) r5 r6, ← hlen]
    have hσ : ldI (stI (stI m 378 (stk (ldI m0 373) k).length (nI k)) 379 (stk (ldI m0 373) k).length (nI r)) 364 = ldI m 364 := by funext x; rw [ldI_stI_ne (by decide), ldI_stI_ne (by decide)]
    exact ih φ' l1 (k + 1) (j + 1) D k1 (k2 + 1) _ _ _ (by omega) (by omega) (by omega) hD l2 (hL.rep h8 r1 r2) (hLm.rep h8) (hf.tr (FRc.left hN hk h8)) ((hg.tr (FRm.s (Or.inl rfl))).tr (FRm.s (Or.inr rfl))) (by rw [hσ]; exact hF.left (by omega)) (by rw [hσ]; exact hok)
  by_cases h9 : ldI m0 373 k = 9
  · obtain ⟨s, s1, s2, s3, s4⟩ := hS.at9 hf hg hk h9
    obtain ⟨t1, t2, t3, t4⟩ := stk_last s1
    have hs1 : (stk (ldI m0 373) k)[(stk (ldI m0 373) k).length - 1]? = some s := by rw [← List.getLast?_eq_getElem?]; exact s1
    have hd := hL ((stk (ldI m0 373) k).length - 1) s hs1
    have hdm := hLm ((stk (ldI m0 373) k).length - 1) s hs1
    have hne : stk (ldI m0 373) k ≠ [] := by rw [t4]; exact List.append_ne_nil_of_right_ne_nil _ (by simp)
    have hl2 := hS.2.2.2.2.1 k hle
    have hl1 := (stk_get_lt hs1).1
    have hlx : (stk (ldI m0 373) (s + 1)).length = (stk (ldI m0 373) k).length := by rw [← t3]
    have hly : (stk (ldI m0 373) (k + 1)).length = (stk (ldI m0 373) k).length - 1 := by rw [stk, if_neg h8, if_pos h9, List.length_dropLast]
    have hz : (stk (ldI m0 373) k).length = ((stk (ldI m0 373) k).length - 1) + 1 := by omega
    have hσ : ∀ v, ldI (stI m 379 ((stk (ldI m0 373) k).length - 1) v) 364 = ldI m 364 := fun v => by funext x; rw [ldI_stI_ne (by decide)]
    rw [if_neg (by rw [s2]; decide), if_pos s2, s3, c_back (hP.fr hf) (by omega) hd.1 hd.2.1 hd.2.2, Option.bind_some]
    have hcl := r_close (G := zl5 (gX12_runs_9 362) (k2 + 1)) hN h2m hD hk hRm q34 q35 (by omega) s4 hdm.1 hdm.2 hd.2.1 hd.2.2
    rw [← hz] at hcl
    rw [hcl]
    by_cases er : rr ((stk (ldI m0 373) k).length - 1) = 1
    · obtain ⟨φ', l1, l2⟩ := me_exit h9 er hne hM
      rw [if_pos (show (if rr ((stk (ldI m0 373) k).length - 1) = 1 then (0 : Int32) else 1) = 0 from if_pos er), if_pos er, if_pos er, ← hly]
      have hx1 := hL.exit (v := nI (rr ((stk (ldI m0 373) k).length - 1) - 1)) h9 s1
      have hx2 := hLm.exit (v := nI (rr ((stk (ldI m0 373) k).length - 1) - 1)) h9
      have hx3 := hσ (nI (rr ((stk (ldI m0 373) k).length - 1) - 1))
      rw [← hly] at hx1 hx2 hx3
      exact ih φ' l1 (k + 1) (j + 1) D k1 (k2 + 1) _ _ _ (by omega) (by omega) (by omega) hD l2 hx1 hx2 (hf.tr (FRc.left hN (by omega) t2)) (hg.tr (FRm.s (Or.inr rfl))) (by rw [hx3]; exact hF.left (by omega)) (by rw [hx3]; exact hok)
    · obtain ⟨φ', l1, l2⟩ := me_more h9 s1 (by omega) hM
      rw [if_neg (show ¬ (if rr ((stk (ldI m0 373) k).length - 1) = 1 then (0 : Int32) else 1) = 0 by rw [if_neg er]; decide), if_neg er, if_neg er]
      rw [show ldI (stI c (6 + s) 5 (nI (rr ((stk (ldI m0 373) k).length - 1) - 1))) (6 + k) 5 = nI s by rw [ldI_stI_ne (by omega)]; exact s3, nI_1]
      have hx3 := hσ (nI (rr ((stk (ldI m0 373) k).length - 1) - 1))
      have hz2 := ih φ' l1 (s + 1) (j + 1) D k1 (k2 + 1) _ _ _ (by omega) (by omega) (by omega) hD l2 (hL.more s1 (by omega)) (hLm.more (r := rr ((stk (ldI m0 373) k).length - 1) - 1) s1) (hf.tr (FRc.left hN (by omega) t2)) (hg.tr (FRm.s (Or.inr rfl))) (by rw [hx3]; exact hF.left (by omega)) (by rw [hx3]; exact hok)
      rw [hlx] at hz2
      exact hz2
  · obtain ⟨w, w1, w2, w3, w4⟩ := hS.at hf hg hk h8 h9
    have hst : stk (ldI m0 373) (k + 1) = stk (ldI m0 373) k := by rw [stk, if_neg h8, if_neg h9]
    rw [if_neg (show ¬ ldI c (6 + k) 0 = 8 from no8 (b := 8) w1 w2 (by decide)), if_neg (show ¬ ldI c (6 + k) 0 = 9 from no8 (b := 9) w1 w2 (by decide)), if_neg (show ¬ (40 : Int32) ≤ nI D from nI_ge (b := 40) (by omega) (by decide)), r_at hN h2m hD hk hRm, if_neg (show ¬ ldI m 373 k = 8 from no8 (b := 8) w1 w3 (by decide)), if_neg (show ¬ ldI m 373 k = 9 from no8 (b := 9) w1 w3 (by decide))]
    rcases exec_bis w1 w4 (by omega) w2 w3 hRm qp hF hok with ⟨F, f0, f1, f2⟩ | ⟨c', m', f1, f2, f3, f4, f5, f6, f7, f8⟩
    · refine ⟨c, m, D, by rw [f1, Option.bind_some, if_neg f0], ?_, hF, hok, hf, hg⟩
      rcases f2 with f2 | ⟨f2, f3⟩
      · rw [f2, Option.bind_some, if_pos rfl, zl5_s, r_stop (h := rfl)]
      · rw [f2, Option.bind_some, if_neg one0, f3, Option.bind_some, if_pos rfl, zl5_s, r_stop (h := rfl)]
    · rw [f1, Option.bind_some, if_pos rfl, f3, Option.bind_some, f2, Option.bind_some, if_neg one0, f4, Option.bind_some, if_neg one0]
      obtain ⟨φ', l1, l2⟩ := me_plain hk h8 h9 hM
      have hfc := hf.tr (FRc.se hN f7)
      have hgm := hg.tr f8.fr
      have hLc : LPc (ldI m0 373) rr (k + 1) c' := by
        intro i s hi
        rw [hst] at hi
        have := (stk_get_lt hi).2.1
        rw [(f7 (6 + s) (fun q => by unfold RG at q; omega)).1]
        exact hL i s hi
      by_cases eD : D = 39
      · subst eD
        obtain ⟨c'', g1, g2, g3⟩ := run40 hS hP φ' (k + 1) (j + 1) k1 rr c' (by omega) (by omega) l2 hLc hfc f5
        exact ⟨c'', m', 40, g1, by rw [zl5_s]; exact r_40, g2, f6, g3, hgm⟩
      · have hLm' : LPm (ldI m0 373) rr (k + 1) m' := by
          intro i s hi
          rw [hst] at hi
          rw [f8.2.2.1 378 (by decide) (by decide), f8.2.2.1 379 (by decide) (by decide)]
          exact hLm i s hi
        rw [← hst]
        exact ih φ' l1 (k + 1) (j + 1) (D + 1) k1 (k2 + 1) rr c' m' (by omega) (by omega) (by omega) (by omega) l2 hLc hLm' hfc hgm f5 f6
/-- .. from its start -/
theorem runs_all {c m : Mem} (hS : SCP n N c m) (hP : PC c) (hR : PRw m) (h34 : ldP m 362 34 = some 378) (h35 : ldP m 362 35 = some 379) (hp : ldP m 362 13 = some 364) (hF : FR c 66 (ldI m 364) ν) (hok : okN n (ldI m 364)) : ∃ c' m' D', fX6_runOn 3 66 c = some (nI D', c') ∧ fX12_runs 362 m = some (nI D', m') ∧ FR c' 66 (ldI m' 364) ν ∧ okN n (ldI m' 364) ∧ FRc (ldI m 373) N c c' ∧ FRm m m' := by
  have hx := Xs_le (j := 0) hS.2.2.2.2.1 N (Nat.le_refl N)
  have hN := hS.1
  have hFU : FU = FU := rfl
  exact runs_bis hS hP hR h34 h35 hp (Xs (ldI m 373) 0 N) 0 0 0 FU FU (fun _ => 0) c m (by unfold FU; omega) (by unfold FU; omega) (by omega) (by decide) (Or.inl ⟨rfl, Nat.zero_le _, rfl⟩) (fun i s h => by cases h) (fun i s h => by cases h) FRc.rf FRm.rf hF hok
end RUNS2
