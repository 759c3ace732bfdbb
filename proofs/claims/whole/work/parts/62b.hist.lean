/-! the law: what was before, and what is saved -/
section HISS
variable {c c' m m' : Mem} {n u : Nat} {ν : Nat → Int64} {π : Nat → Nat} {ρ : Nat → Sg} {σ : Sg}
theorem ln185 : Ln 185 = 6 := by decide
theorem ln3x : Ln 365 = 196 ∧ Ln 366 = 196 ∧ Ln 368 = 1176 ∧ Ln 369 = 8 ∧ Ln 370 = 8 ∧ Ln 371 = 8 := by decide
theorem NMS.cg {η η' : Nat → Int64} (h : NMS n ν η) (e : ∀ f, f < n → η' f = η f) : NMS n ν η' := ⟨fun f hf => by
  obtain ⟨w, l, h1, h2, h3⟩ := h.1 f hf
  exact ⟨w, l, h1, h2, by rw [e f hf]; exact h3⟩, h.2⟩
/-- names are copied -/
theorem m_copiesN {a b : Nat} (ha : Ln a = 8) (hb : Ln b = 8) (hab : a ≠ b) : ∃ m', fX12_copiesNames a b m = some m' ∧ (∀ i, i < 8 → ldJ m' b i = ldJ m a i) ∧ ldP m' = ldP m ∧ ldI m' = ldI m ∧ ∀ o, o ≠ b → ldJ m' o = ldJ m o := by
  unfold fX12_copiesNames fX12_copiesNames_2
  refine zl2_fob (N := 8) (I := fun j μ => (∀ i, i < j → ldJ μ b i = ldJ m a i) ∧ ldP μ = ldP m ∧ ldI μ = ldI m ∧ ∀ o, o ≠ b → ldJ μ o = ldJ m o) (Qr := fun r => ∃ m', r = some m' ∧ (∀ i, i < 8 → ldJ m' b i = ldJ m a i) ∧ ldP m' = ldP m ∧ ldI m' = ldI m ∧ ∀ o, o ≠ b → ldJ m' o = ldJ m o) (by decide) ⟨fun i hi => absurd hi (Nat.not_lt_zero _), rfl, rfl, fun _ _ => rfl⟩ (fun j μ self hj hI => ?_) (fun μ self hI => ?_)
  · obtain ⟨h1, h2, h3, h4⟩ := hI
    simp only [gX12_copiesNames_2, if_neg (show ¬ (8 : Int32) ≤ nI j from n8 hj), gd_t (inB_nI (show j < Ln a by omega) (by omega)), gd_t (inB_nI (show j < Ln b by omega) (by omega)), nI_clamp (show j < 2 ^ 31 by omega), nm_b, nI_1]
    refine Or.inl ⟨_, rfl, fun i hi => ?_, h2, h3, fun o ho => by rw [ldJ_stJ_ne ho]; exact h4 o ho⟩
    rw [ldJ_stJ]
    by_cases e : i = j
    · subst e; rw [if_pos ⟨rfl, rfl⟩, h4 a hab]
    · rw [if_neg (by omega)]; exact h1 i (by omega)
  · simp only [gX12_copiesNames_2, if_pos (show (8 : Int32) ≤ nI 8 by decide)]
    exact ⟨_, rfl, hI⟩
theorem SV.fa (h : SV c m) : FA c 124 := by
  rcases h with ⟨-, -, h⟩ | ⟨-, -, n, ν, h, -⟩
  · exact h
  · exact ⟨_, _, h⟩
theorem op_save : OPn (fX11_save 0) (fX12_save 362) := by
  intro c m h
  obtain ⟨n, ν, h1, h2, h3, h4, h5, h6, h7, h8, h9, h10⟩ := h
  obtain ⟨σ1, ν1, g1⟩ := h7.fa
  obtain ⟨c1, k1, k2, k3⟩ := c_copyS g1 h1 (by decide)
  have q0 : ∀ {a}, a < 124 → ¬ RG 124 a := fun h q => by unfold RG at q; omega
  have q1 : ∀ {a}, 153 ≤ a → ¬ RG 124 a := fun h q => by unfold RG at q; omega
  have hA : fX11_save 0 c = some (ldI m 364 2, stI c1 0 8 1) := by
    unfold fX11_save
    rw [h3.1.2.2.2.2.1, Option.bind_some, h3.1.2.2.1, Option.bind_some, k1, Option.bind_some, nm_b, show ldP (stI c1 0 8 1) 0 2 = some 66 from by rw [show ldP (stI c1 0 8 1) 0 2 = ldP c1 0 2 from rfl, (k3 0 (q0 (by decide))).2.2]; exact h3.1.2.2.1, Option.bind_some, ldI_stI_ne (by decide), (k3 66 (q0 (by decide))).1, h1.tim]
  have p13 : ldP (stI m 362 0 0) 362 13 = some 364 := h4.1.2.1
  have p14 : ldP (stI m 362 0 0) 362 14 = some 365 := h4.1.2.2.1
  obtain ⟨m2, a1, a2, a3, a4, a5, a6⟩ := m_copies (μ := stI m 362 0 0) (a := 364) (b := 365) (x := 0) (y := 0) (by decide) (by decide) (by decide) (by decide) (by decide) (by decide) (by decide)
  have a1' : fX12_copiesRow 364 0 365 0 (stI m 362 0 0) = some m2 := a1
  obtain ⟨m3, b1, b2, b3, b4, b5⟩ := m_copiesN (m := m2) ln3x.2.2.2.1 ln3x.2.2.2.2.1 (by decide)
  have e364 : ldI (stI m3 362 22 1) 364 = ldI m 364 := by funext i; rw [ldI_stI_ne (by decide), b4, a6 364 (by decide), ldI_stI_ne (by decide)]
  have hB : fX12_save 362 m = some (ldI m 364 2, stI m3 362 22 1) := by
    unfold fX12_save
    rw [nm_b, p13, Option.bind_some, p14, Option.bind_some, a1', Option.bind_some, a4, show ldP (stI m 362 0 0) 362 18 = some 369 from h4.2.1.1, Option.bind_some, show ldP (stI m 362 0 0) 362 19 = some 370 from h4.2.1.2.1, Option.bind_some, b1, Option.bind_some, nm_b, show ldP (stI m3 362 22 1) 362 13 = some 364 from by rw [show ldP (stI m3 362 22 1) = ldP m3 from rfl, b3, a4]; exact h4.1.2.1, Option.bind_some, ln364, gd_t (by decide), show ((2 : Int32)).toNatClampNeg = 2 from rfl, e364]
  refine ⟨ldI m 364 2, stI c1 0 8 1, stI m3 362 22 1, hA, hB, ?_, ?_, ?_⟩
  · have hS : SE (fun a => a = 0 ∨ RG 124 a) c (stI c1 0 8 1) := SE.tr (k3.mono (fun a ha => Or.inr ha)) (SE.sI (Or.inl rfl))
    have hP : ldP (stI c1 0 8 1) 0 = ldP c 0 := (k3 0 (q0 (by decide))).2.2
    have hne : ∀ a, a ≠ 0 → ¬ RG 124 a → ¬ (a = 0 ∨ RG 124 a) := fun a x y q => q.elim x y
    have km : ∀ a, a ≠ 362 → a ≠ 365 → ldI (stI m3 362 22 1) a = ldI m a := fun a x y => by funext i; rw [ldI_stI_ne x, b4, a6 a y, ldI_stI_ne x]
    have kj : ∀ a, a ≠ 370 → ldJ (stI m3 362 22 1) a = ldJ m a := fun a x => (b5 a x).trans (by rw [a5]; rfl)
    have kk : ∀ k, k ≠ 22 → k ≠ 0 → ldI (stI m3 362 22 1) 362 k = ldI m 362 k := fun k x y => by rw [ldI_stI, if_neg (fun q => x q.2), b4, a6 362 (by decide), ldI_stI, if_neg (fun q => y q.2)]
    have hh : FR (stI c1 0 8 1) 66 (ldI m 364) ν := h1.same (fun a ha => hS a (fun q => by unfold RG at q ha; omega))
    refine ⟨n, ν, by rw [e364]; exact hh, by rw [e364]; exact h2, h3.cg ⟨fun a ha => ?_, fun hf => hf.same (fun a ha => hS a (fun q => by unfold RG at q ha; omega)), fun hf => hf.same (fun a ha => hS a (fun q => by unfold RG at q ha; omega))⟩, h4.cg (by rw [show ldP (stI m3 362 22 1) = ldP m3 from rfl, b3, a4]; rfl), by rw [kj 369 (by decide)]; exact h5, h6.cg (fun a ha => hS a (fun q => by unfold RG at q; omega)) (km 368 (by decide) (by decide)) (kk 21 (by decide) (by decide)), Or.inr ⟨ldI_stI_s, ldI_stI_s, n, ν, ?_, ?_, ?_⟩, h8.cg (by rw [(hS 1 (fun q => by unfold RG at q; omega)).1]) (hS 2 (fun q => by unfold RG at q; omega)).1 (km 363 (by decide) (by decide)) (kk 2 (by decide) (by decide)), ⟨?_, ?_⟩, h10.cg (by rw [(hS 360 (fun q => by unfold RG at q; omega)).1]) (hS 361 (fun q => by unfold RG at q; omega)).1 (km 380 (by decide) (by decide)) (kk 40 (by decide) (by decide)) (kk 41 (by decide) (by decide))⟩
    · by_cases q : a = 0
      · subst q; exact hP
      · exact (hS a (fun q => by unfold RG at q; omega)).2.2
    · have e : ∀ i, i < 196 → ldI (stI m3 362 22 1) 365 i = ldI m 364 i := fun i hi => by
        have := a2 i hi
        rw [Nat.zero_add] at this
        rw [ldI_stI_ne (by decide), b4, this, ldI_stI_ne (by decide)]
      exact (k2.same (c' := stI c1 0 8 1) (fun a ha => (SE.sI (S := fun a => a = 0) rfl) a (fun q => by unfold RG at ha; omega))).cg e (fun _ _ => rfl)
    · exact h2.cg (fun i hi => by
        have := a2 i hi
        rw [Nat.zero_add] at this
        rw [ldI_stI_ne (by decide), b4, this, ldI_stI_ne (by decide)])
    · exact h5.cg (fun f hf => by
        have := h2.le
        rw [show ldJ (stI m3 362 22 1) 370 f = ldJ m3 370 f from rfl, b2 f (by omega), a5]; rfl)
    · rw [(hS 1 (fun q => by unfold RG at q; omega)).1, kk 10 (by decide) (by decide)]; exact h9.1
    · rw [(hS 1 (fun q => by unfold RG at q; omega)).1, kk 11 (by decide) (by decide)]; exact h9.2
  · exact SE.tr (k3.mono (fun a ha => by unfold RG at ha; show a < 362; omega)) (SE.sI (by decide))
  · intro a ha
    have n1 : a ≠ 362 := fun q => ha (by omega)
    have n2 : a ≠ 365 := fun q => ha (by omega)
    have n3 : a ≠ 370 := fun q => ha (by omega)
    exact ⟨by funext i; rw [ldI_stI_ne n1, b4, a6 a n2, ldI_stI_ne n1], by rw [show ldJ (stI m3 362 22 1) a = ldJ m3 a from rfl, b5 a n3, a5]; rfl, by rw [show ldP (stI m3 362 22 1) a = ldP m3 a from rfl, b3, a4]; rfl⟩
/-- a history of nothing -/
theorem HI.nil {n' : Nat} {ν' : Nat → Int64} (h : HI n ν c m) (h1 : ldI c' 184 1 = 0) (h2 : ldI m' 362 21 = 0) (kp : ldP c' 185 = ldP c 185) (kf : ∀ i, i < 6 → FA c (186 + 29 * i) → FA c' (186 + 29 * i)) : HI n' ν' c' m' := by
  obtain ⟨π, u, ⟨g1, g2, g3⟩, -⟩ := h
  refine ⟨π, 0, ⟨g1, g2, fun i hi => ⟨by rw [kp]; exact (g3 i hi).1, ?_⟩⟩, by decide, h1, h2, fun i hi => absurd hi (Nat.not_lt_zero _)⟩
  obtain ⟨j, j1, j2⟩ := g1 i hi
  have := (g3 i hi).2
  rw [j2] at this ⊢
  exact kf j j1 this
theorem op_restore : OP (fun k y => k = 1 ∧ y = 1) (fX11_restore 0) (fX12_restore 362) := by
  intro c m h
  have h' := h
  obtain ⟨n, ν, h1, h2, h3, h4, h5, h6, h7, h8, h9, h10⟩ := h
  rcases h7 with ⟨s1, s2, s3⟩ | ⟨s1, s2, n2, ν2, s3, s4, s5⟩
  · have hB : fX12_restore 362 m = some (0, stI m 362 0 1) := by
      unfold fX12_restore
      rw [s2, m_goes0, Option.bind_some, if_pos rfl]
    refine OP.r (e := fun k y => k = 1 ∧ y = 1) (A := fX11_restore 0) (B := fX12_restore 362) (k := 1) (v := 0) ?_ hB (h'.st0 1) MFr.s ⟨rfl, ldI_stI_s⟩
    unfold fX11_restore
    rw [if_pos s1]
  · obtain ⟨c1, k1, k2, k3⟩ := c_copyS h1 s3 (by decide)
    have hout : ∀ {a}, a < 66 ∨ 95 ≤ a → ¬ RG 66 a := fun h q => by unfold RG at q; omega
    have hS : SE (fun a => RG 66 a ∨ a = 184) c (stI c1 184 1 0) := SE.tr (k3.mono (fun a ha => Or.inl ha)) (SE.sI (Or.inr rfl))
    have hA : fX11_restore 0 c = some (.inl (ldI m 365 2), stI c1 184 1 0) := by
      unfold fX11_restore fX5_forget
      rw [s1, if_neg one0, h3.1.2.2.1, Option.bind_some, h3.1.2.2.2.2.1, Option.bind_some, k1, Option.bind_some, (k3 0 (hout (by decide))).2.2, h3.1.2.2.2.2.2.2.1, Option.bind_some, nm_b, Option.bind_some, show ldP (stI c1 184 1 0) 0 2 = some 66 from by rw [show ldP (stI c1 184 1 0) 0 2 = ldP c1 0 2 from rfl, (k3 0 (hout (by decide))).2.2]; exact h3.1.2.2.1, Option.bind_some, ldI_stI_ne (by decide), k2.tim]
    obtain ⟨m2, a1, a2, a3, a4, a5, a6⟩ := m_copies (μ := stI m 362 0 0) (a := 365) (b := 364) (x := 0) (y := 0) (by decide) (by decide) (by decide) (by decide) (by decide) (by decide) (by decide)
    have a1' : fX12_copiesRow 365 0 364 0 (stI m 362 0 0) = some m2 := a1
    obtain ⟨m3, b1, b2, b3, b4, b5⟩ := m_copiesN (m := m2) ln3x.2.2.2.2.1 ln3x.2.2.2.1 (by decide)
    have e : ∀ i, i < 196 → ldI (stI m3 362 21 0) 364 i = ldI m 365 i := fun i hi => by
        have := a2 i hi
        rw [Nat.zero_add] at this
        rw [ldI_stI_ne (by decide), b4, this, ldI_stI_ne (by decide)]
    have hB : fX12_restore 362 m = some (ldI m 365 2, stI m3 362 21 0) := by
      unfold fX12_restore
      rw [s2, m_goes1, Option.bind_some, if_neg one0, show ldP (stI m 362 0 0) 362 14 = some 365 from h4.1.2.2.1, Option.bind_some, show ldP (stI m 362 0 0) 362 13 = some 364 from h4.1.2.1, Option.bind_some, a1', Option.bind_some, a4, show ldP (stI m 362 0 0) 362 19 = some 370 from h4.2.1.2.1, Option.bind_some, show ldP (stI m 362 0 0) 362 18 = some 369 from h4.2.1.1, Option.bind_some, b1, Option.bind_some, nm_b, show ldP (stI m3 362 21 0) 362 13 = some 364 from by rw [show ldP (stI m3 362 21 0) = ldP m3 from rfl, b3, a4]; exact h4.1.2.1, Option.bind_some, ln364, gd_t (by decide), show ((2 : Int32)).toNatClampNeg = 2 from rfl, e 2 (by decide)]
    have km : ∀ a, a ≠ 362 → a ≠ 364 → ldI (stI m3 362 21 0) a = ldI m a := fun a x y => by funext i; rw [ldI_stI_ne x, b4, a6 a y, ldI_stI_ne x]
    have kj : ∀ a, a ≠ 369 → ldJ (stI m3 362 21 0) a = ldJ m a := fun a x => (b5 a x).trans (by rw [a5]; rfl)
    have kk : ∀ k, k ≠ 21 → k ≠ 0 → ldI (stI m3 362 21 0) 362 k = ldI m 362 k := fun k x y => by rw [ldI_stI, if_neg (fun q => x q.2), b4, a6 362 (by decide), ldI_stI, if_neg (fun q => y q.2)]
    refine ⟨.inl (ldI m 365 2), stI c1 184 1 0, ldI m 365 2, stI m3 362 21 0, hA, hB, ?_, ?_, ?_, Or.inl ⟨rfl, ?_⟩⟩
    · have hk2 : FR (stI c1 184 1 0) 66 (ldI m 365) ν2 := k2.same (fun a ha => (SE.sI (S := fun a => a = 184) rfl) a (fun q => by unfold RG at ha; omega))
      refine ⟨n2, ν2, hk2.cg e (fun _ _ => rfl), s4.cg e, h3.cg ⟨fun a ha => ?_, fun hf => hf.same (fun a ha => hS a (fun q => by unfold RG at q ha; omega)), fun hf => hf.same (fun a ha => hS a (fun q => by unfold RG at q ha; omega))⟩, h4.cg (by rw [show ldP (stI m3 362 21 0) = ldP m3 from rfl, b3, a4]; rfl), s5.cg (fun f hf => ?_), h6.nil ldI_stI_s ldI_stI_s (hS 185 (fun q => by unfold RG at q; omega)).2.2 (fun i hi hf => hf.same (fun a ha => hS a (fun q => by unfold RG at q ha; omega))), Or.inr ⟨by rw [(hS 0 (fun q => by unfold RG at q; omega)).1]; exact s1, (kk 22 (by decide) (by decide)).trans s2, n2, ν2, ?_, ?_, ?_⟩, h8.cg (by rw [(hS 1 (fun q => by unfold RG at q; omega)).1]) (hS 2 (fun q => by unfold RG at q; omega)).1 (km 363 (by decide) (by decide)) (kk 2 (by decide) (by decide)), ⟨?_, ?_⟩, h10.cg (by rw [(hS 360 (fun q => by unfold RG at q; omega)).1]) (hS 361 (fun q => by unfold RG at q; omega)).1 (km 380 (by decide) (by decide)) (kk 40 (by decide) (by decide)) (kk 41 (by decide) (by decide))⟩
      · by_cases q : a = 184
        · subst q; exact (k3 184 (hout (by decide))).2.2
        · exact (hS a (fun q => by unfold RG at q; omega)).2.2
      · have := s4.le
        rw [show ldJ (stI m3 362 21 0) 369 f = ldJ m3 369 f from rfl, b2 f (by omega), a5]; rfl
      · rw [km 365 (by decide) (by decide)]; exact s3.same (fun a ha => hS a (fun q => by unfold RG at q ha; omega))
      · rw [km 365 (by decide) (by decide)]; exact s4
      · rw [kj 370 (by decide)]; exact s5
      · rw [(hS 1 (fun q => by unfold RG at q; omega)).1, kk 10 (by decide) (by decide)]; exact h9.1
      · rw [(hS 1 (fun q => by unfold RG at q; omega)).1, kk 11 (by decide) (by decide)]; exact h9.2
    · exact SE.tr (k3.mono (fun a ha => by unfold RG at ha; show a < 362; omega)) (SE.sI (by decide))
    · intro a ha
      have n1 : a ≠ 362 := fun q => ha (by omega)
      have n2 : a ≠ 364 := fun q => ha (by omega)
      have n3 : a ≠ 369 := fun q => ha (by omega)
      exact ⟨by funext i; rw [ldI_stI_ne n1, b4, a6 a n2, ldI_stI_ne n1], by rw [show ldJ (stI m3 362 21 0) a = ldJ m3 a from rfl, b5 a n3, a5]; rfl, by rw [show ldP (stI m3 362 21 0) a = ldP m3 a from rfl, b3, a4]; rfl⟩
    · rw [ldI_stI, if_neg (by decide), b4, a6 362 (by decide), ldI_stI_s]
theorem op_undo : OPn (fX11_undo 0) (fX12_undo 362) := by
  intro c m h
  have h' := h
  obtain ⟨n, ν, h1, h2, h3, h4, h5, ⟨π, u, ⟨g1, g2, g3⟩, v1, v2, v3, v4⟩, h7, h8, h9, h10⟩ := h
  by_cases eu : u = 0
  · subst eu
    refine ⟨-1, c, stI m 362 0 0, ?_, ?_, h'.st0 0, SE.rf, MFr.s⟩
    · unfold fX11_undo fX5_goBack
      rw [h3.1.2.2.2.2.2.2.1, Option.bind_some, h3.1.2.2.1, Option.bind_some, v2, if_pos (show nI 0 < 1 by decide), Option.bind_some, if_pos rfl]
    · unfold fX12_undo
      rw [nm_b, show ldI (stI m 362 0 0) 362 21 = 0 by rw [ldI_stI, if_neg (by decide)]; exact v3, if_pos rfl]
  · obtain ⟨w, rfl⟩ : ∃ w, u = w + 1 := ⟨u - 1, by omega⟩
    obtain ⟨j, j1, j2⟩ := g1 w (by omega)
    obtain ⟨hr, ho⟩ := v4 w (by omega)
    have hr1 : FR (stI c 184 1 (nI w)) (π w) (fun j => ldI m 368 (196 * w + j)) ν := hr.same (fun a ha => (SE.sI (S := fun a => a = 184) rfl) a (fun q => by unfold RG at ha; omega))
    have h11 : FR (stI c 184 1 (nI w)) 66 (ldI m 364) ν := h1.same (fun a ha => (SE.sI (S := fun a => a = 184) rfl) a (fun q => by unfold RG at ha; omega))
    obtain ⟨c1, k1, k2, k3⟩ := c_copyS h11 hr1 (by omega)
    have hS : SE (fun a => RG 66 a ∨ a = 184) c c1 := SE.tr (SE.sI (Or.inr rfl)) (k3.mono (fun a ha => Or.inl ha))
    have hS2 : ldI c1 184 = ldI (stI c 184 1 (nI w)) 184 := (k3 184 (fun q => by unfold RG at q; omega)).1
    have hw : nI (w + 1) - 1 = nI w := pk_sub (a := w + 1) (b := 1) (by omega)
    have hA : fX11_undo 0 c = some (nI w, c1) := by
      unfold fX11_undo fX5_goBack
      rw [h3.1.2.2.2.2.2.2.1, Option.bind_some, h3.1.2.2.1, Option.bind_some, v2, if_neg (show ¬ nI (w + 1) < 1 from nI_nlt (b := 1) (by omega) (by omega)), h3.2.2.2.2.1, Option.bind_some, ln185, if_pos (show nI (w + 1) ≤ Int32.ofNat 6 from nI_le (by omega) (by decide)), hw, nm_b, show ldP (stI c 184 1 (nI w)) 184 0 = some 185 from h3.2.2.2.2.1, Option.bind_some, ldI_stI_s, ln185, gd_t (inB_nI (by omega) (by decide)), nI_clamp (by omega), show ldP (stI c 184 1 (nI w)) 185 w = some (π w) from (g3 w (by omega)).1, Option.bind_some, k1, Option.bind_some, Option.bind_some, if_neg one0, (hS 0 (fun q => by unfold RG at q; omega)).2.2, h3.1.2.2.2.2.2.2.1, Option.bind_some, hS2, ldI_stI_s]
    obtain ⟨m2, a1, a2, a3, a4, a5, a6⟩ := m_copies (μ := stI (stI m 362 0 0) 362 21 (nI w)) (a := 368) (b := 364) (x := 196 * w) (y := 0) (by rw [ln3x.2.2.1]; omega) (by decide) (by decide) (by omega) (by decide) (by decide) (by decide)
    have a1' : fX12_copiesRow 368 (196 * nI w) 364 0 (stI (stI m 362 0 0) 362 21 (nI w)) = some m2 := by rw [show (196 : Int32) * nI w = nI (196 * w) from pk_mul 196 w]; exact a1
    have e : ∀ i, i < 196 → ldI m2 364 i = ldI m 368 (196 * w + i) := fun i hi => by
        have := a2 i hi
        rw [Nat.zero_add] at this
        rw [this, ldI_stI_ne (by decide), ldI_stI_ne (by decide)]
    have e21 : ldI m2 362 21 = nI w := by rw [a6 362 (by decide), ldI_stI_s]
    have hB : fX12_undo 362 m = some (nI w, m2) := by
      unfold fX12_undo
      rw [nm_b, show ldI (stI m 362 0 0) 362 21 = nI (w + 1) by rw [ldI_stI, if_neg (by decide)]; exact v3, if_neg (show ¬ nI (w + 1) = 0 from fun q => absurd ((nI_eq (b := 0) (by omega) (by decide)).mp q) (by omega)), hw, nm_b, show ldP (stI (stI m 362 0 0) 362 21 (nI w)) 362 17 = some 368 from h4.1.2.2.2.2.2, Option.bind_some, show ldP (stI (stI m 362 0 0) 362 21 (nI w)) 362 13 = some 364 from h4.1.2.1, Option.bind_some, ldI_stI_s, a1', Option.bind_some, e21]
    have km : ∀ a, a ≠ 362 → a ≠ 364 → ldI m2 a = ldI m a := fun a x y => by funext i; rw [a6 a y, ldI_stI_ne x, ldI_stI_ne x]
    have kk : ∀ k, k ≠ 21 → k ≠ 0 → ldI m2 362 k = ldI m 362 k := fun k x y => by rw [a6 362 (by decide), ldI_stI, if_neg (fun q => x q.2), ldI_stI, if_neg (fun q => y q.2)]
    refine ⟨nI w, c1, m2, hA, hB, ⟨n, ν, k2.cg e (fun _ _ => rfl), ho.cg e, h3.cg ⟨fun a ha => ?_, fun hf => hf.same (fun a ha => hS a (fun q => by unfold RG at q ha; omega)), fun hf => hf.same (fun a ha => hS a (fun q => by unfold RG at q ha; omega))⟩, h4.cg (by rw [a4]; rfl), by rw [a5]; exact h5, ⟨π, w, ⟨g1, g2, fun i hi => ⟨by rw [(hS 185 (fun q => by unfold RG at q; omega)).2.2]; exact (g3 i hi).1, ?_⟩⟩, by omega, by rw [hS2, ldI_stI_s], e21, fun i hi => ?_⟩, h7.cg (by rw [(hS 0 (fun q => by unfold RG at q; omega)).1]) (fun a ha => hS a (fun q => by unfold RG at q ha; omega)) (km 365 (by decide) (by decide)) (by rw [a5]; rfl) (kk 22 (by decide) (by decide)), h8.cg (by rw [(hS 1 (fun q => by unfold RG at q; omega)).1]) (hS 2 (fun q => by unfold RG at q; omega)).1 (km 363 (by decide) (by decide)) (kk 2 (by decide) (by decide)), ⟨?_, ?_⟩, h10.cg (by rw [(hS 360 (fun q => by unfold RG at q; omega)).1]) (hS 361 (fun q => by unfold RG at q; omega)).1 (km 380 (by decide) (by decide)) (kk 40 (by decide) (by decide)) (kk 41 (by decide) (by decide))⟩, ?_, ?_⟩
    · by_cases q : a = 184
      · subst q; exact (k3 184 (fun q => by unfold RG at q; omega)).2.2
      · exact (hS a (fun q => by unfold RG at q; omega)).2.2
    · obtain ⟨j, j1, j2⟩ := g1 i hi
      exact (g3 i hi).2.same (fun a ha => hS a (fun q => by unfold RG at q ha; omega))
    · obtain ⟨j, j1, j2⟩ := g1 i (by omega)
      rw [km 368 (by decide) (by decide)]
      exact ⟨(v4 i (by omega)).1.same (fun a ha => hS a (fun q => by unfold RG at q ha; omega)), (v4 i (by omega)).2⟩
    · rw [(hS 1 (fun q => by unfold RG at q; omega)).1, kk 10 (by decide) (by decide)]; exact h9.1
    · rw [(hS 1 (fun q => by unfold RG at q; omega)).1, kk 11 (by decide) (by decide)]; exact h9.2
    · exact hS.mono (fun a ha => by unfold RG at ha; show a < 362; omega)
    · intro a ha
      have n1 : a ≠ 362 := fun q => ha (by omega)
      have n2 : a ≠ 364 := fun q => ha (by omega)
      exact ⟨km a n1 n2, by rw [a5]; rfl, by rw [a4]; rfl⟩
end HISS
