/-! the law: a script is read and run -/
section RSX
variable {c c' m m' : Mem} {n : Nat} {ν : Nat → Int64}
def ScC (c c' : Mem) : Prop := ldP c' = ldP c ∧ (∀ a, (a < 1 ∨ a = 2 ∨ a = 4 ∨ 65 < a) → ldI c' a = ldI c a) ∧ (∀ a, a ≠ 1 → ldJ c' a = ldJ c a) ∧ ldI c' 1 1 = 0
def ScM (m m' : Mem) : Prop := ldP m' = ldP m ∧ (∀ a, a ≠ 362 → ldJ m' a = ldJ m a) ∧ (∀ a, a ≠ 362 → (a < 373 ∨ 377 < a) → ldI m' a = ldI m a) ∧ (∀ k, 10 ≤ k → k ≠ 36 → k ≠ 37 → k ≠ 38 → ldI m' 362 k = ldI m 362 k) ∧ ldI m' 362 2 = 0
theorem told_all (h : INV c m) : ∃ c1 c' m' n ν, okN n (ldI m 364) ∧ FR c 66 (ldI m 364) ν ∧ RS n ν c m ∧ fX9_begin 1 c = some c1 ∧ ldP c1 = ldP c ∧ ScC c c' ∧ ScM m m' ∧ fX12_runScript 362 m = fX12_runScript_82 362 m' ∧
    ((∃ N t, fX6_readFrom 3 1 66 c1 = some (.inl (), c') ∧ GD c' m' ∧ SCS n N t c' m' ∧ stk (ldI m' 373) N = []) ∨
     (fX6_readFrom 3 1 66 c1 = some (.inr 0, c') ∧ ER c' m')) := by
  obtain ⟨n, ν, h1, h2, hR⟩ := h
  have hR' := hR
  obtain ⟨h3, h4, h5, h6, h7, h8, h9, h10⟩ := hR
  obtain ⟨T, L, c1, m1, s1, s2, s3, s4, s5⟩ := begin_bis h8 h3.2.1 h4.1.1
  obtain ⟨x, hx⟩ : ∃ x, x = stI (stI (stI c1 3 2 0) 3 3 0) 3 4 0 := ⟨_, rfl⟩
  obtain ⟨y, hy⟩ : ∃ y, y = stI (stI (stI m1 362 36 0) 362 37 0) 362 38 0 := ⟨_, rfl⟩
  have tx : TR x y T L 0 := by
    rw [hx, hy]
    exact (((((s3.c6 (by decide)).c6 (by decide)).c6 (by decide)).m362 (by decide)).m362 (by decide)).m362 (by decide)
  have xa : ∀ a, a ≠ 3 → ldI x a = ldI c1 a := fun a q => by rw [hx, ldI_stI_ne q, ldI_stI_ne q, ldI_stI_ne q]
  have ya : ∀ a, a ≠ 362 → ldI y a = ldI m1 a := fun a q => by rw [hy, ldI_stI_ne q, ldI_stI_ne q, ldI_stI_ne q]
  have yk : ∀ k, k ≠ 36 → k ≠ 37 → k ≠ 38 → ldI y 362 k = ldI m1 362 k := fun k q r s => by rw [hy, ldI_stI, if_neg (fun w => s w.2), ldI_stI, if_neg (fun w => r w.2), ldI_stI, if_neg (fun w => q w.2)]
  have xp : ldP x = ldP c := by rw [hx]; exact s4.1
  have yp : ldP y = ldP m := by rw [hy]; exact s5.1
  have xj : ldJ x = ldJ c1 := by rw [hx]; rfl
  have yj : ldJ y = ldJ m1 := by rw [hy]; rfl
  have x2 : ldI x 3 2 = 0 := by rw [hx, ldI_stI, if_neg (by decide), ldI_stI, if_neg (by decide), ldI_stI_s]
  have x3 : ldI x 3 3 = 0 := by rw [hx, ldI_stI, if_neg (by decide), ldI_stI_s]
  have x4 : ldI x 3 4 = 0 := by rw [hx, ldI_stI_s]
  have y6 : ldI y 362 36 = 0 := by rw [hy, ldI_stI, if_neg (by decide), ldI_stI, if_neg (by decide), ldI_stI_s]
  have y7 : ldI y 362 37 = 0 := by rw [hy, ldI_stI, if_neg (by decide), ldI_stI_s]
  have y8 : ldI y 362 38 = 0 := by rw [hy, ldI_stI_s]
  have e364 : ldI y 364 = ldI m 364 := by rw [ya 364 (by decide), s5.2.1 364 (by decide)]
  have hF : FR x 66 (ldI m 364) ν := h1.same (fun a ha => by
    have q1 : a ≠ 1 := fun q => by unfold RG at ha; omega
    have q3 : a ≠ 3 := fun q => by unfold RG at ha; omega
    exact ⟨(xa a q3).trans (s4.2.1 a q1), by rw [xj]; exact s4.2.2.1 a q1, by rw [xp]⟩)
  have hL := s3.L600
  have hFU : 4000000 = FU := rfl
  have hT := script_bis (T := T) (L := L) (c0 := x) (m0 := y) (n := n) (σ := ldI m 364) (ν := ν) (h3.2.2.1.of xp) (h4.2.2.1.of yp) hF h2.2.1 (by rw [e364]; exact h2.2.1) h2.1 (by rw [yp]; exact h4.1.2.1) (by rw [yp]; exact h4.2.1.1) (h5.cg (fun f _ => by rw [yj, s5.2.2.1 369 (by decide)])) (L - 0) x y 0 0 0 0 FU FU FU rfl (Nat.le_refl _) tx ⟨x2, y6, x3, y7, by decide, Nat.le_refl _, x4, y8, fun k hk => by rw [show k = 0 by omega]; exact Nat.zero_le _, fun i hi => absurd hi (Nat.not_lt_zero _), fun k hk => absurd hk (Nat.not_lt_zero _)⟩ FSc.rf FSm.rf (by omega) (by omega) (by omega) (by omega)
  have hcl : fX6_readFrom 3 1 66 c1 = zl2 (gX6_readFrom_17 3 1 66) FU (nI 0) x := by
    unfold fX6_readFrom fX6_readFrom_17
    rw [nm_b, nm_b, nm_b, ← hx]
    rfl
  have hrf : fX12_runScript 362 m = (zl1 (gX12_closes_0 362) FU y).bind fun r => zl1 (gX12_runScript_19 362) FU r := by
    have e : zl1 (gX12_closes_0 362) FU y = some y := by
      rw [show FU = 3999999 + 1 from rfl, zl1_s]
      unfold gX12_closes_0
      rw [y8, if_pos (show (0 : Int32) ≤ 0 by decide)]
    rw [e, Option.bind_some]
    unfold fX12_runScript fX12_runScript_19
    rw [s2, Option.bind_some, nm_b, nm_b, nm_b, ← hy]
  have hC : ∀ c', FSc x c' → ScC c c' := fun c' hc => ⟨hc.1.trans xp, fun a ha => (hc.2.1 a ha).trans ((xa a (by omega)).trans (s4.2.1 a (by omega))), fun a ha => (hc.2.2.1 a ha).trans (by rw [xj]; exact s4.2.2.1 a ha), by rw [hc.2.2.2, xa 1 (by decide)]; exact s4.2.2.2⟩
  have hM : ∀ m', FSm y m' → ScM m m' := fun m' hm => ⟨hm.1.trans yp, fun a ha => (hm.2.1 a ha).trans (by rw [yj]; exact s5.2.2.1 a ha), fun a ha hb => (hm.2.2.1 a ha hb).trans ((ya a ha).trans (s5.2.1 a ha)), fun k hk p q r => (hm.2.2.2 k (by omega) p q r).trans ((yk k p q r).trans (s5.2.2.2.1 k (by omega))), (hm.2.2.2 2 (by decide) (by decide) (by decide) (by decide)).trans ((yk 2 (by decide) (by decide) (by decide)).trans s5.2.2.2.2.1)⟩
  rcases hT with ⟨c', m', N, t, r1, r2, r3, r4, r5, r6, r7⟩ | ⟨c', m', r1, r2, r3, r4, r5⟩
  · exact ⟨c1, c', m', n, ν, h2, h1, hR', s1, s4.1, hC c' r6, hM m' r7, hrf.trans r2, Or.inl ⟨N, t, hcl.trans r1, r3, r4, r5⟩⟩
  · exact ⟨c1, c', m', n, ν, h2, h1, hR', s1, s4.1, hC c' r4, hM m' r5, hrf.trans r2, Or.inr ⟨hcl.trans r1, r3⟩⟩
theorem op_runScript : OP (fun k y => k = 0 ∧ y = 1) (fX11_runScript 0) (fX12_runScript 362) := by
  intro c m h
  obtain ⟨c1, c', m', n, ν, h2, h1, ⟨h3, h4, h5, h6, h7, h8, h9, h10⟩, s1, s2, r1, r2, r3, r4⟩ := told_all h
  have hr : ∀ a, 65 < a → ldI c' a = ldI c a ∧ ldJ c' a = ldJ c a ∧ ldP c' a = ldP c a := fun a ha => ⟨r1.2.1 a (by omega), r1.2.2.1 a (by omega), by rw [r1.1]⟩
  have e364 : ldI m' 364 = ldI m 364 := r2.2.2.1 364 (by decide) (by decide)
  have g66 : FR c' 66 (ldI m 364) ν := h1.same (fun a ha => hr a (by unfold RG at ha; omega))
  have M' : MPt m' := h4.cg (by rw [r2.1])
  have C' : CI c' := h3.cg ⟨fun a _ => by rw [r1.1], fun g => g.same (fun a ha => hr a (by unfold RG at ha; omega)), fun g => g.same (fun a ha => hr a (by unfold RG at ha; omega))⟩
  have hb : ∀ {c2 m2 : Mem}, ldI c2 1 1 = 0 → ldI m2 362 2 = 0 → BF c2 m2 := fun a b => ⟨0, by decide, a, b, fun i hi => absurd hi (Nat.not_lt_zero _)⟩
  rcases r4 with ⟨N, t, k1, k2, k3, k4⟩ | ⟨k1, ⟨k, q, e1, e2, e3, e4, e5, e6⟩⟩
  · obtain ⟨t1, t2, t3, t4, t5, t6, t7, t8, t9, t10, t11⟩ := k3
    obtain ⟨m5, a1, a2, a3, a4, a5, a6⟩ := m_copies (μ := m_end m' 0) (a := 364) (b := 366) (x := 0) (y := 0) (by decide) (by decide) (by decide) (by decide) (by decide) (by decide) (by decide)
    have lay : fX12_laysAside 362 (m_end m' 0) = some m5 := by
      unfold fX12_laysAside
      rw [show ldP (m_end m' 0) 362 13 = some 364 from M'.1.2.1, Option.bind_some, show ldP (m_end m' 0) 362 15 = some 366 from M'.1.2.2.2.1, Option.bind_some, show fX12_copiesRow 364 0 366 0 (m_end m' 0) = some m5 from a1, Option.bind_some]
    have p5 : ldP m5 = ldP m := a4.trans r2.1
    have ka : ∀ a, a ≠ 362 → a ≠ 366 → ldI m5 a = ldI m' a := fun a x y => by rw [a6 a y, m_end_a x]
    have kk : ∀ k, ldI m5 362 k = ldI (m_end m' 0) 362 k := fun k => by rw [a6 362 (by decide)]
    have kq : ∀ k, 11 < k → ldI m5 362 k = ldI m' 362 k := fun k x => by rw [kk k, m_end_k, if_neg (by omega), if_neg (by omega), if_neg (by omega)]
    have kz : ∀ k, 11 < k → k ≠ 36 → k ≠ 37 → k ≠ 38 → ldI m5 362 k = ldI m 362 k := fun k x y z w => (kq k x).trans (r2.2.2.2.1 k (by omega) y z w)
    have f364 : ldI m5 364 = ldI m 364 := (ka 364 (by decide) (by decide)).trans e364
    have f366 : ∀ i, i < 196 → ldI m5 366 i = ldI m 364 i := fun i hi => by
      have := a2 i hi
      rw [Nat.zero_add] at this
      rw [this, m_end_a (by decide), e364]
    have M5 : MPt m5 := h4.cg (by rw [p5])
    have H5 : HI n ν c' m5 := h6.cg (fun a ha => hr a (by omega)) ((ka 368 (by decide) (by decide)).trans (r2.2.2.1 368 (by decide) (by decide))) (kz 21 (by decide) (by decide) (by decide) (by decide))
    obtain ⟨c3, y1, y2, y3, y4⟩ := keep_bis H5 C'.2.2.2.2.1 M5 g66 h2
    have yP : ∀ a, a < 184 → ldI c3 a = ldI c' a ∧ ldJ c3 a = ldJ c' a ∧ ldP c3 a = ldP c' a := fun a ha => y2 a (by omega)
    have g3 : FR c3 66 (ldI m5 364) ν := by rw [f364]; exact g66.same (fun a ha => yP a (by unfold RG at ha; omega))
    have u5 : ldI m5 373 = ldI m' 373 := ka 373 (by decide) (by decide)
    rw [k4] at t6
    have hN : N ≤ 60 := by
      have : ([] : List Nat).length = 0 := rfl
      omega
    have S5 : SCP n N c3 m5 := ⟨hN, by rw [(yP 3 (by decide)).1]; exact t1, by rw [kq 36 (by decide)]; exact t2, by rw [u5]; exact k4, fun k hk => by rw [u5]; exact t9 k hk, fun k hk => (t11 k hk).cg (fun j => by rw [(yP (6 + k) (by omega)).1]) (fun a x y => by rw [ka a (by omega) (by omega)]) (fun i _ => by rw [u5])⟩
    have P3 : PC c3 := ⟨by rw [(yP 3 (by decide)).2.2]; exact C'.2.2.1.1, by rw [(yP 3 (by decide)).2.2]; exact C'.2.2.1.2.1, fun i hi => by rw [(yP 4 (by decide)).2.2]; exact C'.2.2.1.2.2 i hi⟩
    obtain ⟨c4, m6, D, z1, z2, z3, z4, z5, z6⟩ := runs_all S5 P3 (h4.2.2.1.of p5) (by rw [p5]; exact h4.2.2.2.1) (by rw [p5]; exact h4.2.2.2.2.1) M5.1.2.1 g3 (by rw [f364]; exact h2)
    obtain ⟨m7, w1, w2, w3⟩ := y4 m6 (by rw [z6.1]) (z6.2.2.2 21 (by decide) (by decide)) (z6.2.2.1 368 (by decide) (by decide) (by decide) (by decide)) (fun j hj => by rw [z6.2.2.1 366 (by decide) (by decide) (by decide) (by decide)]; exact f366 j hj)
    have q0 : ldP c' = ldP c := r1.1
    have hA : fX11_runScript 0 c = some (.inl (nI D), c4) := by
      unfold fX11_runScript
      rw [h3.1.1, Option.bind_some, s1, Option.bind_some, s2, h3.1.2.1, Option.bind_some, h3.1.1, Option.bind_some, h3.1.2.2.1, Option.bind_some, k1, Option.bind_some, xbl, q0, h3.1.2.2.2.2.2.2.1, Option.bind_some, h3.1.2.2.1, Option.bind_some, y1, Option.bind_some, (yP 0 (by decide)).2.2, q0, h3.1.2.1, Option.bind_some, h3.1.2.2.1, Option.bind_some, z1, Option.bind_some]
    have hB : fX12_runScript 362 m = some (nI D, m7) := by
      rw [r3]
      unfold fX12_runScript_82
      rw [m_ends0 k2.1, Option.bind_some, if_neg one0, lay, Option.bind_some, z2, Option.bind_some, w1, Option.bind_some]
    have ce : ∀ a, a < 3 ∨ 95 ≤ a ∧ a < 184 ∨ 360 ≤ a → ldI c4 a = ldI c' a ∧ ldJ c4 a = ldJ c' a ∧ ldP c4 a = ldP c' a := fun a ha => by
      have n66 : ¬ RG 66 a := fun q => by unfold RG at q; omega
      have e := y2 a (fun q => by omega)
      exact ⟨(z5.2.1 a n66 (by omega)).trans e.1, (z5.1 a n66).2.trans e.2.1, (z5.1 a n66).1.trans e.2.2⟩
    have cp : ∀ a, ¬ RG 66 a → a ≠ 185 → (a < 184 ∨ a = 184 ∨ 360 ≤ a) → ldP c4 a = ldP c a := fun a x y z => by
      rw [(z5.1 a x).1]
      by_cases q : a = 184
      · subst q; rw [y3, q0]
      · rw [(y2 a (fun q => by omega)).2.2, q0]
    have mk : ∀ k, 11 < k → k ≠ 36 → k ≠ 37 → k ≠ 38 → k ≠ 24 → k ≠ 25 → k ≠ 21 → ldI m7 362 k = ldI m 362 k := fun k x a b d e f g => (w3.2.2.2 k g).trans ((z6.2.2.2 k e f).trans (kz k x a b d))
    have ma : ∀ a, a ≠ 362 → a ≠ 364 → a ≠ 366 → a ≠ 368 → (a < 373 ∨ 379 < a) → ldI m7 a = ldI m a := fun a x y z w v => (w3.2.2.1 a x w).trans ((z6.2.2.1 a x y (by omega) (by omega)).trans ((ka a x z).trans (r2.2.2.1 a x (by omega))))
    have mj : ∀ a, a ≠ 362 → ldJ m7 a = ldJ m a := fun a x => by rw [w3.2.1, z6.2.1, a5]; exact r2.2.1 a x
    have mp : ldP m7 = ldP m := by rw [w3.1, z6.1, p5]
    have e7 : ldI m7 364 = ldI m6 364 := w3.2.2.1 364 (by decide) (by decide)
    have f95 : ∀ o, 95 ≤ o → o + 29 ≤ 184 → FA c o → FA c4 o := fun o x y g => g.same (fun a ha => by
      unfold RG at ha
      have e := ce a (by omega)
      have e' := hr a (by omega)
      exact ⟨e.1.trans e'.1, e.2.1.trans e'.2.1, e.2.2.trans e'.2.2⟩)
    refine ⟨_, _, _, _, hA, hB, ⟨n, ν, by rw [e7]; exact z3, by rw [e7]; exact z4, h3.cg ⟨fun a ha => cp a (fun q => by unfold RG at q; omega) (by omega) (by omega), f95 95 (by decide) (by decide), f95 154 (by decide) (by decide)⟩, h4.cg (by rw [mp]), by rw [mj 369 (by decide)]; exact h5, w2.cg (fun a ha => ?_) rfl rfl, h7.cg (by rw [(ce 0 (by decide)).1, r1.2.1 0 (by decide)]) (fun a ha => ?_) (ma 365 (by decide) (by decide) (by decide) (by decide) (by decide)) (mj 370 (by decide)) (mk 22 (by decide) (by decide) (by decide) (by decide) (by decide) (by decide) (by decide)), hb (by rw [(ce 1 (by decide)).1]; exact r1.2.2.2) ?_, ⟨?_, ?_⟩, h10.cg (by rw [(ce 360 (by decide)).1, (hr 360 (by decide)).1]) ((ce 361 (by decide)).1.trans (hr 361 (by decide)).1) (ma 380 (by decide) (by decide) (by decide) (by decide) (by decide)) (mk 40 (by decide) (by decide) (by decide) (by decide) (by decide) (by decide) (by decide)) (mk 41 (by decide) (by decide) (by decide) (by decide) (by decide) (by decide) (by decide))⟩, ?_, ?_, Or.inl ⟨rfl, ?_⟩⟩
    · have n66 : ¬ RG 66 a := fun q => by unfold RG at q; omega
      exact ⟨z5.2.1 a n66 (by omega), (z5.1 a n66).2, (z5.1 a n66).1⟩
    · unfold RG at ha
      have e := ce a (by omega)
      have e' := hr a (by omega)
      exact ⟨e.1.trans e'.1, e.2.1.trans e'.2.1, e.2.2.trans e'.2.2⟩
    · rw [w3.2.2.2 2 (by decide), z6.2.2.2 2 (by decide) (by decide), kk 2, m_end_k]; exact r2.2.2.2.2
    · rw [(ce 1 (by decide)).1, w3.2.2.2 10 (by decide), z6.2.2.2 10 (by decide) (by decide), kk 10, m_end_k]; exact k2.2.2.1.trans k2.1.symm
    · rw [(ce 1 (by decide)).1, w3.2.2.2 11 (by decide), z6.2.2.2 11 (by decide) (by decide), kk 11, m_end_k]; exact k2.2.2.2.trans k2.2.1.symm
    · intro a ha
      have ha' : 362 ≤ a := by
        by_cases q : 362 ≤ a
        · exact q
        · exact absurd (show a < 362 by omega) ha
      have e := ce a (by omega)
      have e' := hr a (by omega)
      exact ⟨e.1.trans e'.1, e.2.1.trans e'.2.1, e.2.2.trans e'.2.2⟩
    · intro a ha
      have n1 : a ≠ 362 := fun q => ha (by omega)
      exact ⟨ma a n1 (fun q => ha (by omega)) (fun q => ha (by omega)) (fun q => ha (by omega)) (by
        by_cases q : a < 373
        · exact Or.inl q
        · refine Or.inr ?_
          by_cases q2 : 379 < a
          · exact q2
          · exact absurd ⟨by omega, by omega⟩ ha), mj a n1, by rw [mp]⟩
    · rw [w3.2.2.2 0 (by decide), z6.2.2.2 0 (by decide) (by decide), kk 0, m_end_k]; rfl
  · have hk0 : ¬ ldI m' 362 8 = 0 := by rw [e5]; exact fun w => absurd ((nI_eq (b := 0) (by omega) (by decide)).mp w) (by omega)
    have hA : fX11_runScript 0 c = some (.inr 0, c') := by
      unfold fX11_runScript
      rw [h3.1.1, Option.bind_some, s1, Option.bind_some, s2, h3.1.2.1, Option.bind_some, h3.1.1, Option.bind_some, h3.1.2.2.1, Option.bind_some, k1, Option.bind_some, xbr]
    have hB : fX12_runScript 362 m = some (0, m_end m' 1) := by
      rw [r3]
      unfold fX12_runScript_82
      rw [m_ends1 hk0, Option.bind_some, if_pos rfl]
    have ka : ∀ a, a ≠ 362 → (a < 373 ∨ 377 < a) → ldI (m_end m' 1) a = ldI m a := fun a x y => by rw [m_end_a x]; exact r2.2.2.1 a x y
    have kq : ∀ k, 11 < k → k ≠ 36 → k ≠ 37 → k ≠ 38 → ldI (m_end m' 1) 362 k = ldI m 362 k := fun k x y z w => by rw [m_end_k, if_neg (by omega), if_neg (by omega), if_neg (by omega), r2.2.2.2.1 k (by omega) y z w]
    have e4' : ldI (m_end m' 1) 364 = ldI m 364 := ka 364 (by decide) (by decide)
    refine ⟨_, _, _, _, hA, hB, ⟨n, ν, by rw [e4']; exact g66, by rw [e4']; exact h2, C', M'.cg rfl, h5.cg (fun f _ => by show ldJ m' 369 f = _; rw [r2.2.1 369 (by decide)]), h6.cg (fun a ha => hr a (by omega)) (ka 368 (by decide) (by decide)) (kq 21 (by decide) (by decide) (by decide) (by decide)), h7.cg (by rw [r1.2.1 0 (by decide)]) (fun a ha => hr a (by unfold RG at ha; omega)) (ka 365 (by decide) (by decide)) (r2.2.1 370 (by decide)) (kq 22 (by decide) (by decide) (by decide) (by decide)), hb r1.2.2.2 ?_, ⟨?_, ?_⟩, h10.cg (by rw [(hr 360 (by decide)).1]) (hr 361 (by decide)).1 (ka 380 (by decide) (by decide)) (kq 40 (by decide) (by decide) (by decide) (by decide)) (kq 41 (by decide) (by decide) (by decide) (by decide))⟩, fun a ha => hr a ?_, ?_, Or.inr ⟨0, rfl, rfl, ?_⟩⟩
    · rw [m_end_k]; exact r2.2.2.2.2
    · rw [m_end_k]; exact e3.trans e5.symm
    · rw [m_end_k]; exact e4.trans e6.symm
    · by_cases q : 65 < a
      · exact q
      · exact absurd (show a < 362 by omega) ha
    · intro a ha
      have n1 : a ≠ 362 := fun q => ha (by omega)
      exact ⟨ka a n1 (by
        by_cases q : a < 373
        · exact Or.inl q
        · refine Or.inr ?_
          by_cases q2 : 377 < a
          · exact q2
          · exact absurd ⟨by omega, by omega⟩ ha), r2.2.1 a n1, by show ldP m' a = _; rw [r2.1]⟩
    · rw [m_end_k]; rfl
end RSX
