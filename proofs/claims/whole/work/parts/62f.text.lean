/-! the law: a text is read -/
section RTX
variable {c c' m m' : Mem} {n : Nat} {ν : Nat → Int64}
def m_end (m : Mem) (b : Int32) : Mem := stI (stI (stI m 362 10 (ldI m 362 8)) 362 11 (ldI m 362 9)) 362 0 b
theorem m_ends0 (h : ldI m 362 8 = 0) : fX12_endsText 362 m = some (1, m_end m 0) := by
  unfold fX12_endsText
  rw [nm_b, nm_b, show ldI (stI (stI m 362 10 (ldI m 362 8)) 362 11 (ldI (stI m 362 10 (ldI m 362 8)) 362 9)) 362 8 = 0 by rw [ldI_stI, if_neg (by decide), ldI_stI, if_neg (by decide)]; exact h, if_pos rfl, m_goes1, Option.bind_some]
  unfold m_end
  rw [ldI_stI (b := 9), if_neg (show ¬ (362 = 362 ∧ 9 = 10) by decide)]
theorem m_ends1 (h : ¬ ldI m 362 8 = 0) : fX12_endsText 362 m = some (0, m_end m 1) := by
  unfold fX12_endsText
  rw [nm_b, nm_b, if_neg (show ¬ ldI (stI (stI m 362 10 (ldI m 362 8)) 362 11 (ldI (stI m 362 10 (ldI m 362 8)) 362 9)) 362 8 = 0 by rw [ldI_stI, if_neg (by decide), ldI_stI, if_neg (by decide)]; exact h), m_goes0, Option.bind_some]
  unfold m_end
  rw [ldI_stI (b := 9), if_neg (show ¬ (362 = 362 ∧ 9 = 10) by decide)]
theorem m_end_k {b : Int32} (k : Nat) : ldI (m_end m b) 362 k = if k = 0 then b else if k = 11 then ldI m 362 9 else if k = 10 then ldI m 362 8 else ldI m 362 k := by
  unfold m_end
  rw [ldI_stI, ldI_stI, ldI_stI]
  simp only [true_and]
theorem m_end_a {b : Int32} {a : Nat} (h : a ≠ 362) : ldI (m_end m b) a = ldI m a := by
  unfold m_end
  rw [ldI_stI_ne h, ldI_stI_ne h, ldI_stI_ne h]
theorem okN.clr {σ : Sg} (e : ∀ i, i < 196 → σ i = sp_clr i) : okN 0 σ := by
  refine okN.cg (σ := sp_clr) ⟨by decide, rfl, ⟨300, by decide, by decide, rfl⟩, fun f hf => absurd hf (Nat.not_lt_zero _), fun f _ hf w hw => ?_⟩ e
  unfold sp_clr
  rw [if_neg (by omega)]
/-- what a text changes of the reference's cells -/
def RTm (m m' : Mem) : Prop := ldP m' = ldP m ∧ (∀ a, a ≠ 362 → a ≠ 364 → a ≠ 366 → ldI m' a = ldI m a) ∧ (∀ a, a ≠ 362 → a ≠ 369 → a ≠ 371 → ldJ m' a = ldJ m a) ∧ (∀ k, 10 ≤ k → k ≠ 23 → ldI m' 362 k = ldI m 362 k) ∧ ldI m' 362 2 = 0 ∧ (∀ i, i < 196 → ldI m' 366 i = ldI m 364 i) ∧ ∀ i, i < 8 → ldJ m' 371 i = ldJ m 369 i
def RTc (c c' : Mem) : Prop := SE (fun a => a = 1 ∨ RG 95 a) c c' ∧ ldP c' 1 = ldP c 1 ∧ ldI c' 1 1 = 0
/-- both read the text -/
theorem read_bis (h : INV c m) : ∃ c1 c' m', fX9_begin 1 c = some c1 ∧ ldP c1 = ldP c ∧ RTc c c' ∧ RTm m m' ∧ fX12_readText 362 m = fX12_readText_49 362 m' ∧
    ((∃ n ν, fX8_readInto 95 1 c1 = some (.inl (), c') ∧ GD c' m' ∧ okN n (ldI m' 364) ∧ FR c' 95 (ldI m' 364) ν ∧ NMS n ν (ldJ m' 369)) ∨
     (fX8_readInto 95 1 c1 = some (.inr 0, c') ∧ ER c' m' ∧ FA c' 95)) := by
  obtain ⟨n, ν, h1, h2, h3, h4, h5, h6, h7, h8, h9, h10⟩ := h
  obtain ⟨T, L, c1, m1, s1, s2, s3, s4, s5⟩ := begin_bis h8 h3.2.1 h4.1.1
  obtain ⟨σ0, ν0, f0⟩ := h3.2.2.2.2.2.2.1
  have f1 : FR c1 95 σ0 ν0 := f0.same (fun a ha => by
    have q : a ≠ 1 := fun q => by unfold RG at ha; omega
    exact ⟨s4.2.1 a q, s4.2.2.1 a q, by rw [s4.1]⟩)
  obtain ⟨c2, k1, k2, k3⟩ := c_clear f1
  have M1 : MPt m1 := h4.cg (by rw [s5.1])
  obtain ⟨m2, a1, a2, a3, a4, a5, a6⟩ := m_copies (μ := m1) (a := 364) (b := 366) (x := 0) (y := 0) (by decide) (by decide) (by decide) (by decide) (by decide) (by decide) (by decide)
  have a1' : fX12_laysAside 362 m1 = some m2 := by
    unfold fX12_laysAside
    rw [M1.1.2.1, Option.bind_some, M1.1.2.2.2.1, Option.bind_some, show fX12_copiesRow 364 0 366 0 m1 = some m2 from a1, Option.bind_some]
  obtain ⟨m3, b1, b2, b3, b4, b5⟩ := m_copiesN (m := m2) ln3x.2.2.2.1 ln3x.2.2.2.2.2 (by decide)
  have M3 : MPt m3 := M1.cg (by rw [b3, a4])
  obtain ⟨m4, d1, d2, d3, d4, d5⟩ := m_clears M3
  obtain ⟨m5, hm5⟩ : ∃ x, x = stI m4 362 23 0 := ⟨_, rfl⟩
  have e1 : ldP m5 = ldP m1 := by rw [hm5]; show ldP m4 = _; rw [d3, b3, a4]
  have e2 : ∀ a, a ≠ 362 → a ≠ 364 → a ≠ 366 → ldI m5 a = ldI m1 a := fun a x y z => by rw [hm5, ldI_stI_ne x, d4 a y, b4, a6 a z]
  have e3 : ∀ a, a ≠ 369 → a ≠ 371 → ldJ m5 a = ldJ m1 a := fun a x y => by rw [hm5]; show ldJ m4 a = _; rw [d5 a x, b5 a y, a5]
  have e4 : ∀ k, k ≠ 23 → ldI m5 362 k = ldI m1 362 k := fun k x => by rw [hm5, ldI_stI, if_neg (fun q => x q.2), d4 362 (by decide), b4, a6 362 (by decide)]
  have e5 : ∀ i, i < 196 → ldI m5 364 i = sp_clr i := fun i hi => by rw [hm5, ldI_stI_ne (by decide)]; exact d2 i hi
  have e6 : ldI m5 362 23 = 0 := by rw [hm5, ldI_stI_s]
  have e7 : ∀ i, i < 196 → ldI m5 366 i = ldI m1 364 i := fun i hi => by
    have := a2 i hi
    rw [Nat.zero_add] at this
    rw [hm5, ldI_stI_ne (by decide), d4 366 (by decide), b4, this]
  have e8 : ∀ i, i < 8 → ldJ m5 371 i = ldJ m1 369 i := fun i hi => by rw [hm5]; show ldJ m4 371 i = _; rw [d5 371 (by decide), b2 i hi, a5]
  have t2 : TR c2 m5 T L 0 := (s3.cs k3).ms (by rw [e1]) (fun k hk => e4 k (by omega)) (e2 363 (by decide) (by decide) (by decide)) (e3 362 (by decide) (by decide))
  have hrd : fX12_readText 362 m = zl1 (gX12_readText_28 362) FU m5 := by
    unfold fX12_readText
    rw [s2, Option.bind_some, a1', Option.bind_some, a4, M1.2.1.1, Option.bind_some, M1.2.1.2.2.1, Option.bind_some, b1, Option.bind_some, d1, Option.bind_some, nm_b, ← hm5]
    rfl
  have hcl : fX8_readInto 95 1 c1 = zl3 (gX8_readInto_8 95 1) FU (ldI m5 362 23) (nI 0) c2 := by
    rw [e6]
    unfold fX8_readInto fX8_readInto_8
    rw [k1, Option.bind_some]
    rfl
  have hL := s3.L600
  have hFU : 4000000 = FU := rfl
  have hT := text_bis (T := T) (L := L) (L - 0) c2 m5 0 0 0 FU FU (fun _ => 0) rfl (Nat.le_refl _) t2 (by rw [e1]; exact M1.1.2.1) (by rw [e1]; exact M1.2.1.1) (okN.clr e5) (k2.cg e5 (fun _ _ => rfl)) ⟨fun f hf => absurd hf (Nat.not_lt_zero _), fun f g hf => absurd hf (Nat.not_lt_zero _)⟩ (Or.inl e6) (by omega) (by omega)
  have hC : ∀ c', FXc c2 c' → RTc c c' := fun c' hc => ⟨SE.tr (S := fun a => a = 1 ∨ RG 95 a) (fun a ha => by
    have q : a ≠ 1 := fun q => ha (Or.inl q)
    have q2 := k3 a (fun q => ha (Or.inr q))
    exact ⟨q2.1.trans (s4.2.1 a q), q2.2.1.trans (s4.2.2.1 a q), q2.2.2.trans (by rw [s4.1])⟩) hc.1, by rw [hc.2.1, (k3 1 (fun q => by unfold RG at q; omega)).2.2, s4.1], by rw [hc.2.2, (k3 1 (fun q => by unfold RG at q; omega)).1]; exact s4.2.2.2⟩
  have hM : ∀ m', FXm m5 m' → RTm m m' := fun m' hm => ⟨hm.1.trans (e1.trans s5.1), fun a x y z => (hm.2.1 a x y).trans ((e2 a x y z).trans (s5.2.1 a x)), fun a x y z => (hm.2.2.1 a x y).trans ((e3 a y z).trans (s5.2.2.1 a x)), fun k x y => (hm.2.2.2 k (by omega) y).trans ((e4 k y).trans (s5.2.2.2.1 k (by omega))), (hm.2.2.2 2 (by decide) (by decide)).trans ((e4 2 (by decide)).trans s5.2.2.2.2.1), fun i hi => by rw [hm.2.1 366 (by decide) (by decide), e7 i hi, s5.2.1 364 (by decide)], fun i hi => by rw [hm.2.2.1 371 (by decide) (by decide), e8 i hi, s5.2.2.1 369 (by decide)]⟩
  rcases hT with ⟨c', m', n', ν', p', r1, r2, r3, r4, r5, r6, r7, r8⟩ | ⟨c', m', r1, r2, r3, r4, r5, r6⟩
  · exact ⟨c1, c', m', s1, s4.1, hC c' r7, hM m' r8, hrd.trans r2, Or.inl ⟨n', ν', hcl.trans r1, r3.GD, r4, r5, r6⟩⟩
  · exact ⟨c1, c', m', s1, s4.1, hC c' r5, hM m' r6, hrd.trans r2, Or.inr ⟨hcl.trans r1, r3, r4⟩⟩
theorem Kp.rt (h : RTc c c') (hf : FA c' 95) : Kp c c' := ⟨fun a ha => by
  by_cases q : a = 1
  · subst q; exact h.2.1
  · exact (h.1 a (fun w => by unfold RG at w; omega)).2.2, fun _ => hf, fun g => g.same (fun a ha => h.1 a (fun w => by unfold RG at w ha; omega))⟩
theorem op_readText : OP (fun k y => k = 0 ∧ y = 1) (fX11_readText 0) (fX12_readText 362) := by
  intro c m h
  obtain ⟨c1, c', m', s1, s2, r1, r2, r3, r4⟩ := read_bis h
  obtain ⟨n, ν, h1, h2, h3, h4, h5, h6, h7, h8, h9, h10⟩ := h
  have p0 : ldP c' 0 = ldP c 0 := (r1.1 0 (fun q => by unfold RG at q; omega)).2.2
  have hr : ∀ o, 95 + 29 ≤ o ∨ o + 29 ≤ 95 → 1 < o → ∀ a, RG o a → ldI c' a = ldI c a ∧ ldJ c' a = ldJ c a ∧ ldP c' a = ldP c a := fun o ho h1 a ha => r1.1 a (fun q => by unfold RG at q ha; omega)
  have g66 : FR c' 66 (ldI m 364) ν := h1.same (hr 66 (by decide) (by decide))
  have M' : MPt m' := h4.cg (by rw [r2.1])
  have hb : ∀ {c2 m2 : Mem}, ldI c2 1 1 = 0 → ldI m2 362 2 = 0 → BF c2 m2 := fun a b => ⟨0, by decide, a, b, fun i hi => absurd hi (Nat.not_lt_zero _)⟩
  rcases r4 with ⟨n', ν', k1, k2, k3, k4, k5⟩ | ⟨k1, ⟨k, q, e1, e2, e3, e4, e5, e6⟩, k3⟩
  · obtain ⟨c2, y1, y2, y3⟩ := c_copyS g66 k4 (by decide)
    have S2 : SE (fun a => RG 66 a ∨ a = 184) c' (stI c2 184 1 0) := SE.tr (y3.mono (fun a ha => Or.inl ha)) (SE.sI (Or.inr rfl))
    have Sa : SE (fun a => a = 1 ∨ RG 66 a ∨ RG 95 a ∨ a = 184) c (stI c2 184 1 0) := SE.tr (r1.1.mono (fun a ha => ha.elim Or.inl (fun w => Or.inr (Or.inr (Or.inl w))))) (S2.mono (fun a ha => ha.elim (fun w => Or.inr (Or.inl w)) (fun w => Or.inr (Or.inr (Or.inr w)))))
    have P : ∀ a, ldP (stI c2 184 1 0) a = ldP c2 a := fun _ => rfl
    have p2 : ldP c2 0 = ldP c 0 := (y3 0 (fun q => by unfold RG at q; omega)).2.2.trans p0
    have hA : fX11_readText 0 c = some (.inl (ldI m' 364 0), stI c2 184 1 0) := by
      unfold fX11_readText fX5_forget
      rw [h3.1.1, Option.bind_some, s1, Option.bind_some, s2, h3.1.2.2.2.1, Option.bind_some, h3.1.1, Option.bind_some, k1, Option.bind_some, xbl, p0, h3.1.2.2.1, Option.bind_some, h3.1.2.2.2.1, Option.bind_some, y1, Option.bind_some, p2, h3.1.2.2.2.2.2.2.1, Option.bind_some, nm_b, Option.bind_some, P, p2, h3.1.2.2.1, Option.bind_some, ldI_stI_ne (by decide), y2.cnt]
    have hB : fX12_readText 362 m = some (ldI m' 364 0, stI (m_end m' 0) 362 21 0) := by
      rw [r3]
      unfold fX12_readText_49
      rw [m_ends0 k2.1, Option.bind_some, if_neg one0, nm_b, show ldP (stI (m_end m' 0) 362 21 0) 362 13 = some 364 from M'.1.2.1, Option.bind_some, ln364, gd_t (by decide), show ((0 : Int32)).toNatClampNeg = 0 from rfl, ldI_stI_ne (by decide), m_end_a (by decide)]
    have ka : ∀ a, a ≠ 362 → ldI (stI (m_end m' 0) 362 21 0) a = ldI m' a := fun a x => by rw [ldI_stI_ne x, m_end_a x]
    have kk : ∀ k, k ≠ 21 → ldI (stI (m_end m' 0) 362 21 0) 362 k = ldI (m_end m' 0) 362 k := fun k x => by rw [ldI_stI, if_neg (fun w => x w.2)]
    have kq : ∀ k, 11 < k → k ≠ 23 → k ≠ 21 → ldI (stI (m_end m' 0) 362 21 0) 362 k = ldI m 362 k := fun k x y z => by rw [kk k z, m_end_k, if_neg (by omega), if_neg (by omega), if_neg (by omega), r2.2.2.2.1 k (by omega) y]
    have e364 : ldI (stI (m_end m' 0) 362 21 0) 364 = ldI m' 364 := ka 364 (by decide)
    refine ⟨_, _, _, _, hA, hB, ⟨n', ν', ?_, by rw [e364]; exact k3, h3.cg ⟨fun a ha => ?_, fun _ => ?_, fun g => g.same (fun a ha => Sa a (fun w => by unfold RG at w ha; omega))⟩, h4.cg (by show ldP m' 362 = _; rw [r2.1]), k5, h6.nil ldI_stI_s ldI_stI_s (Sa 185 (fun w => by unfold RG at w; omega)).2.2 (fun i hi g => g.same (fun a ha => Sa a (fun w => by unfold RG at w ha; omega))), h7.cg (by rw [(Sa 0 (fun w => by unfold RG at w; omega)).1]) (fun a ha => Sa a (fun w => by unfold RG at w ha; omega)) ((ka 365 (by decide)).trans (r2.2.1 365 (by decide) (by decide) (by decide))) (r2.2.2.1 370 (by decide) (by decide) (by decide)) (kq 22 (by decide) (by decide) (by decide)), hb ?_ ?_, ⟨?_, ?_⟩, h10.cg (by rw [(Sa 360 (fun w => by unfold RG at w; omega)).1]) (Sa 361 (fun w => by unfold RG at w; omega)).1 ((ka 380 (by decide)).trans (r2.2.1 380 (by decide) (by decide) (by decide))) (kq 40 (by decide) (by decide) (by decide)) (kq 41 (by decide) (by decide) (by decide))⟩, ?_, ?_, Or.inl ⟨rfl, ?_⟩⟩
    · rw [e364]; exact y2.same (fun a ha => (SE.sI (S := fun a => a = 184) rfl) a (fun w => by unfold RG at ha; omega))
    · by_cases q : a = 1
      · subst q; exact (S2 1 (fun w => by unfold RG at w; omega)).2.2.trans r1.2.1
      · by_cases q2 : a = 184
        · subst q2; exact (y3 184 (fun w => by unfold RG at w; omega)).2.2.trans (r1.1 184 (fun w => by unfold RG at w; omega)).2.2
        · exact (Sa a (fun w => by unfold RG at w; omega)).2.2
    · exact ⟨_, _, k4.same (fun a ha => S2 a (fun w => by unfold RG at w ha; omega))⟩
    · rw [(S2 1 (fun w => by unfold RG at w; omega)).1]; exact r1.2.2
    · rw [kk 2 (by decide), m_end_k]; exact r2.2.2.2.2.1
    · rw [(S2 1 (fun w => by unfold RG at w; omega)).1, kk 10 (by decide), m_end_k]; exact k2.2.2.1.trans k2.1.symm
    · rw [(S2 1 (fun w => by unfold RG at w; omega)).1, kk 11 (by decide), m_end_k]; exact k2.2.2.2.trans k2.2.1.symm
    · exact Sa.mono (fun a ha => by unfold RG at ha; show a < 362; omega)
    · intro a ha
      have n1 : a ≠ 362 := fun q => ha (by omega)
      exact ⟨(ka a n1).trans (r2.2.1 a n1 (fun q => ha (by omega)) (fun q => ha (by omega))), r2.2.2.1 a n1 (fun q => ha (by omega)) (fun q => ha (by omega)), by show ldP m' a = _; rw [r2.1]⟩
    · rw [kk 0 (by decide), m_end_k]; rfl
  · have hk0 : ¬ ldI m' 362 8 = 0 := by rw [e5]; exact fun w => absurd ((nI_eq (b := 0) (by omega) (by decide)).mp w) (by omega)
    have hA : fX11_readText 0 c = some (.inr 0, c') := by
      unfold fX11_readText
      rw [h3.1.1, Option.bind_some, s1, Option.bind_some, s2, h3.1.2.2.2.1, Option.bind_some, h3.1.1, Option.bind_some, k1, Option.bind_some, xbr]
    obtain ⟨m2, a1, a2, a3, a4, a5, a6⟩ := m_copies (μ := m_end m' 1) (a := 366) (b := 364) (x := 0) (y := 0) (by decide) (by decide) (by decide) (by decide) (by decide) (by decide) (by decide)
    obtain ⟨m3, b1, b2, b3, b4, b5⟩ := m_copiesN (m := m2) ln3x.2.2.2.2.2 ln3x.2.2.2.1 (by decide)
    have hB : fX12_readText 362 m = some (0, m3) := by
      rw [r3]
      unfold fX12_readText_49
      rw [m_ends1 hk0, Option.bind_some, if_pos rfl, show ldP (m_end m' 1) 362 15 = some 366 from M'.1.2.2.2.1, Option.bind_some, show ldP (m_end m' 1) 362 13 = some 364 from M'.1.2.1, Option.bind_some, show fX12_copiesRow 366 0 364 0 (m_end m' 1) = some m2 from a1, Option.bind_some, a4, show ldP (m_end m' 1) 362 20 = some 371 from M'.2.1.2.2.1, Option.bind_some, show ldP (m_end m' 1) 362 18 = some 369 from M'.2.1.1, Option.bind_some, b1, Option.bind_some]
    have ka : ∀ a, a ≠ 362 → a ≠ 364 → ldI m3 a = ldI m' a := fun a x y => by rw [b4, a6 a y, m_end_a x]
    have kk : ∀ k, ldI m3 362 k = ldI (m_end m' 1) 362 k := fun k => by rw [b4, a6 362 (by decide)]
    have kq : ∀ k, 11 < k → k ≠ 23 → ldI m3 362 k = ldI m 362 k := fun k x y => by rw [kk k, m_end_k, if_neg (by omega), if_neg (by omega), if_neg (by omega), r2.2.2.2.1 k (by omega) y]
    have kj : ∀ a, a ≠ 369 → ldJ m3 a = ldJ m' a := fun a x => (b5 a x).trans (by rw [a5]; rfl)
    have kp : ldP m3 = ldP m := by rw [b3, a4]; exact r2.1
    have er : ∀ i, i < 196 → ldI m3 364 i = ldI m 364 i := fun i hi => by
      have := a2 i hi
      rw [Nat.zero_add] at this
      rw [b4, this, m_end_a (by decide)]; exact r2.2.2.2.2.2.1 i hi
    have en : ∀ i, i < 8 → ldJ m3 369 i = ldJ m 369 i := fun i hi => by
      rw [b2 i hi, a5]; exact r2.2.2.2.2.2.2 i hi
    refine ⟨_, _, _, _, hA, hB, ⟨n, ν, g66.cg er (fun _ _ => rfl), h2.cg er, h3.cg (Kp.rt r1 k3), h4.cg (by rw [kp]), h5.cg (fun f hf => en f (by have := h2.le; omega)), h6.cg (fun a ha => r1.1 a (fun w => by unfold RG at w; omega)) ((ka 368 (by decide) (by decide)).trans (r2.2.1 368 (by decide) (by decide) (by decide))) (kq 21 (by decide) (by decide)), h7.cg (by rw [(r1.1 0 (fun w => by unfold RG at w; omega)).1]) (fun a ha => r1.1 a (fun w => by unfold RG at w ha; omega)) ((ka 365 (by decide) (by decide)).trans (r2.2.1 365 (by decide) (by decide) (by decide))) ((kj 370 (by decide)).trans (r2.2.2.1 370 (by decide) (by decide) (by decide))) (kq 22 (by decide) (by decide)), hb r1.2.2 ?_, ⟨?_, ?_⟩, h10.cg (by rw [(r1.1 360 (fun w => by unfold RG at w; omega)).1]) (r1.1 361 (fun w => by unfold RG at w; omega)).1 ((ka 380 (by decide) (by decide)).trans (r2.2.1 380 (by decide) (by decide) (by decide))) (kq 40 (by decide) (by decide)) (kq 41 (by decide) (by decide))⟩, r1.1.mono (fun a ha => by unfold RG at ha; show a < 362; omega), ?_, Or.inr ⟨0, rfl, rfl, ?_⟩⟩
    · rw [kk 2, m_end_k]; exact r2.2.2.2.2.1
    · rw [kk 10, m_end_k]; exact e3.trans e5.symm
    · rw [kk 11, m_end_k]; exact e4.trans e6.symm
    · intro a ha
      have n1 : a ≠ 362 := fun q => ha (by omega)
      have n2 : a ≠ 364 := fun q => ha (by omega)
      have n3 : a ≠ 369 := fun q => ha (by omega)
      exact ⟨(ka a n1 n2).trans (r2.2.1 a n1 n2 (fun q => ha (by omega))), (kj a n3).trans (r2.2.2.1 a n1 n3 (fun q => ha (by omega))), by rw [kp]⟩
    · rw [kk 0, m_end_k]; rfl
end RTX
