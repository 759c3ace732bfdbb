/-! the law: the changes, one by one -/
section CHG2
variable {c c' m m' : Mem} {n : Nat} {ν : Nat → Int64} {σ : Sg}
theorem rf0 : fX11_refuse 0 c = some (.inl (), c) := rfl
theorem rf1 : fX11_refuse 1 c = some (.inr 0, c) := rfl
theorem rf2 : fX11_refuse 2 c = some (.inr 1, c) := rfl
theorem m_kept {v : Int32} (h : fX12_keeps 362 m = some m') : fX12_kept 362 v m = some (v, m') := by
  unfold fX12_kept
  rw [h, Option.bind_some]
theorem r_le {x : Int32} {b : Nat} (h : nI 1 ≤ x ∧ x ≤ nI b) (hb : b < 2 ^ 31) : ∃ a : Nat, 1 ≤ a ∧ a ≤ b ∧ x = nI a := (or1 (by decide) hb).mp h
theorem op_push (v x : Int32) : OP (fun k y => (k = 2 ∧ y = 1) ∨ (k = 0 ∧ y = 2) ∨ (k = 1 ∧ y = 3)) (fun c => fX11_push 0 v x c) (fun m => fX12_push 362 v x m) := by
  intro c m h
  have h' := h
  obtain ⟨n, ν, h1, h2, h3⟩ := h
  have hC := h3.1
  have hp := h3.2.1.1.2.1
  have hn := h2.le
  rcases f_cases n v hn with ⟨f, hf, rfl⟩ | hv
  · have hf8 : f < 8 := by omega
    have hkn := known_y hC.1.2.2.1 h1 h2 hf
    by_cases e : nI 1 ≤ x ∧ x ≤ nI 999
    · by_cases e2 : lvN (ldI m 364) f
      · obtain ⟨a, a1, a9, rfl⟩ := r_le e (by decide)
        obtain ⟨c1, m1, b1, b2, b3, b4, b5, b6, -, -, -, b10⟩ := change_bis h1 h2 h3
        obtain ⟨c2, d1, d2⟩ := c_loseGauge b3 hf8 (nI a)
        obtain ⟨y, m2, g1, g2, g3, g4⟩ := m_lowers (μ := m1) (by rw [b6]; exact hp) hf8 (nI a)
        rw [b5] at g3 g4
        obtain ⟨m3, i1, i2, i3, i4, i5⟩ := b10 c2 m2 d2.2 g2.mc (by rw [g3]; exact d2.1) (by rw [g3]; exact h2.lower hf a9)
        refine ⟨.inl y, c2, y, m3, ?_, ?_, i2, i3, i4, Or.inl ⟨rfl, i5⟩⟩
        · show fX11_push 0 (nI f) (nI a) c = _
          unfold fX11_push
          rw [hkn, Option.bind_some, xbl, c_fShift h1 hf8, Option.bind_some, if_pos e, if_pos e2, rf0, Option.bind_some, xbl, hC.1.2.2.2.2.2.2.1, Option.bind_some, hC.1.2.2.1, Option.bind_some, b1, Option.bind_some, d1, Option.bind_some, d2.1.gau hf8, g4]
        · show fX12_push 362 (nI f) (nI a) m = _
          unfold fX12_push fX12_push_29
          rw [isF_y hp h2 hf, Option.bind_some, m_isBy, Option.bind_some, bI_t e, if_neg one0, m_lives hp hf8, Option.bind_some, if_pos e2, if_neg one0, m_goesAll, Option.bind_some]
          simp only [if_neg one0]
          rw [b4, Option.bind_some, g1, Option.bind_some, m_kept i1, Option.bind_some]
      · have hB : fX12_push 362 (nI f) x m = some (0, stI (stI m 362 0 0) 362 0 3) := by
          unfold fX12_push fX12_push_28 fX12_push_29
          rw [isF_y hp h2 hf, Option.bind_some, m_isBy, Option.bind_some, bI_t e, if_neg one0, m_lives hp hf8, Option.bind_some, if_neg e2, if_pos rfl, m_goesAll, Option.bind_some]
          simp only [if_neg one0, if_pos]
        refine OP.r (e := fun k y => (k = 2 ∧ y = 1) ∨ (k = 0 ∧ y = 2) ∨ (k = 1 ∧ y = 3)) (A := fun c => fX11_push 0 (nI f) x c) (B := fun m => fX12_push 362 (nI f) x m) (k := 1) (v := 0) ?_ hB ((h'.st0 0).st0 3) (MFr.tr MFr.s MFr.s) (Or.inr (Or.inr ⟨rfl, ldI_stI_s⟩))
        show fX11_push 0 (nI f) x c = _
        unfold fX11_push
        rw [hkn, Option.bind_some, xbl, c_fShift h1 hf8, Option.bind_some, if_pos e, if_neg e2, rf2, Option.bind_some, xbr]
    · have hB : fX12_push 362 (nI f) x m = some (0, stI m 362 0 2) := by
        unfold fX12_push fX12_push_28 fX12_push_29
        rw [isF_y hp h2 hf, Option.bind_some, m_isBy, Option.bind_some, bI_f e, if_neg one0, m_lives hp hf8, Option.bind_some, m_goesAll, m_goesAll, Option.bind_some, Option.bind_some]
        simp only [if_neg one0, if_pos, ite_self]
      refine OP.r (e := fun k y => (k = 2 ∧ y = 1) ∨ (k = 0 ∧ y = 2) ∨ (k = 1 ∧ y = 3)) (A := fun c => fX11_push 0 (nI f) x c) (B := fun m => fX12_push 362 (nI f) x m) (k := 0) (v := 0) ?_ hB (h'.st0 2) MFr.s (Or.inr (Or.inl ⟨rfl, ldI_stI_s⟩))
      show fX11_push 0 (nI f) x c = _
      unfold fX11_push
      rw [hkn, Option.bind_some, xbl, c_fShift h1 hf8, Option.bind_some, if_neg e, rf1, Option.bind_some, xbr]
  · have hB : fX12_push 362 v x m = some (0, stI m 362 0 1) := by
      unfold fX12_push fX12_push_28 fX12_push_29
      rw [isF_n hp h2 hv, Option.bind_some, m_isBy, Option.bind_some, if_pos rfl, m_goesAll, Option.bind_some]
      simp only [if_pos]
    refine OP.r (e := fun k y => (k = 2 ∧ y = 1) ∨ (k = 0 ∧ y = 2) ∨ (k = 1 ∧ y = 3)) (A := fun c => fX11_push 0 v x c) (B := fun m => fX12_push 362 v x m) (k := 2) (v := 0) ?_ hB (h'.st0 1) MFr.s (Or.inl ⟨rfl, ldI_stI_s⟩)
    show fX11_push 0 v x c = _
    unfold fX11_push
    rw [known_n hC.1.2.2.1 h1 h2 hv, Option.bind_some, xbr]
theorem op_lift (v x : Int32) : OP (fun k y => (k = 2 ∧ y = 1) ∨ (k = 0 ∧ y = 2) ∨ (k = 1 ∧ y = 3)) (fun c => fX11_lift 0 v x c) (fun m => fX12_lift 362 v x m) := by
  intro c m h
  have h' := h
  obtain ⟨n, ν, h1, h2, h3⟩ := h
  have hC := h3.1
  have hp := h3.2.1.1.2.1
  have hn := h2.le
  rcases f_cases n v hn with ⟨f, hf, rfl⟩ | hv
  · have hf8 : f < 8 := by omega
    have hkn := known_y hC.1.2.2.1 h1 h2 hf
    by_cases e : nI 1 ≤ x ∧ x ≤ nI 999
    · by_cases e2 : lvN (ldI m 364) f
      · obtain ⟨a, a1, a9, rfl⟩ := r_le e (by decide)
        obtain ⟨c1, m1, b1, b2, b3, b4, b5, b6, -, -, -, b10⟩ := change_bis h1 h2 h3
        obtain ⟨c2, d1, d2⟩ := c_gainGauge b3 hf8 e2 (nI a)
        obtain ⟨y, m2, g1, g2, g3, g4⟩ := m_raises (μ := m1) (by rw [b6]; exact hp) hf8 (nI a)
        rw [b5] at g3 g4
        obtain ⟨m3, i1, i2, i3, i4, i5⟩ := b10 c2 m2 d2.2 g2.mc (by rw [g3]; exact d2.1) (by rw [g3]; exact h2.raise hf a9)
        refine ⟨.inl y, c2, y, m3, ?_, ?_, i2, i3, i4, Or.inl ⟨rfl, i5⟩⟩
        · show fX11_lift 0 (nI f) (nI a) c = _
          unfold fX11_lift
          rw [hkn, Option.bind_some, xbl, c_fShift h1 hf8, Option.bind_some, if_pos e, if_pos e2, rf0, Option.bind_some, xbl, hC.1.2.2.2.2.2.2.1, Option.bind_some, hC.1.2.2.1, Option.bind_some, b1, Option.bind_some, d1, Option.bind_some, d2.1.gau hf8, g4]
        · show fX12_lift 362 (nI f) (nI a) m = _
          unfold fX12_lift fX12_lift_29
          rw [isF_y hp h2 hf, Option.bind_some, m_isBy, Option.bind_some, bI_t e, if_neg one0, m_lives hp hf8, Option.bind_some, if_pos e2, if_neg one0, m_goesAll, Option.bind_some]
          simp only [if_neg one0]
          rw [b4, Option.bind_some, g1, Option.bind_some, m_kept i1, Option.bind_some]
      · have hB : fX12_lift 362 (nI f) x m = some (0, stI (stI m 362 0 0) 362 0 3) := by
          unfold fX12_lift fX12_lift_28 fX12_lift_29
          rw [isF_y hp h2 hf, Option.bind_some, m_isBy, Option.bind_some, bI_t e, if_neg one0, m_lives hp hf8, Option.bind_some, if_neg e2, if_pos rfl, m_goesAll, Option.bind_some]
          simp only [if_neg one0, if_pos]
        refine OP.r (e := fun k y => (k = 2 ∧ y = 1) ∨ (k = 0 ∧ y = 2) ∨ (k = 1 ∧ y = 3)) (A := fun c => fX11_lift 0 (nI f) x c) (B := fun m => fX12_lift 362 (nI f) x m) (k := 1) (v := 0) ?_ hB ((h'.st0 0).st0 3) (MFr.tr MFr.s MFr.s) (Or.inr (Or.inr ⟨rfl, ldI_stI_s⟩))
        show fX11_lift 0 (nI f) x c = _
        unfold fX11_lift
        rw [hkn, Option.bind_some, xbl, c_fShift h1 hf8, Option.bind_some, if_pos e, if_neg e2, rf2, Option.bind_some, xbr]
    · have hB : fX12_lift 362 (nI f) x m = some (0, stI m 362 0 2) := by
        unfold fX12_lift fX12_lift_28 fX12_lift_29
        rw [isF_y hp h2 hf, Option.bind_some, m_isBy, Option.bind_some, bI_f e, if_neg one0, m_lives hp hf8, Option.bind_some, m_goesAll, m_goesAll, Option.bind_some, Option.bind_some]
        simp only [if_neg one0, if_pos, ite_self]
      refine OP.r (e := fun k y => (k = 2 ∧ y = 1) ∨ (k = 0 ∧ y = 2) ∨ (k = 1 ∧ y = 3)) (A := fun c => fX11_lift 0 (nI f) x c) (B := fun m => fX12_lift 362 (nI f) x m) (k := 0) (v := 0) ?_ hB (h'.st0 2) MFr.s (Or.inr (Or.inl ⟨rfl, ldI_stI_s⟩))
      show fX11_lift 0 (nI f) x c = _
      unfold fX11_lift
      rw [hkn, Option.bind_some, xbl, c_fShift h1 hf8, Option.bind_some, if_neg e, rf1, Option.bind_some, xbr]
  · have hB : fX12_lift 362 v x m = some (0, stI m 362 0 1) := by
      unfold fX12_lift fX12_lift_28 fX12_lift_29
      rw [isF_n hp h2 hv, Option.bind_some, m_isBy, Option.bind_some, if_pos rfl, m_goesAll, Option.bind_some]
      simp only [if_pos]
    refine OP.r (e := fun k y => (k = 2 ∧ y = 1) ∨ (k = 0 ∧ y = 2) ∨ (k = 1 ∧ y = 3)) (A := fun c => fX11_lift 0 v x c) (B := fun m => fX12_lift 362 v x m) (k := 2) (v := 0) ?_ hB (h'.st0 1) MFr.s (Or.inl ⟨rfl, ldI_stI_s⟩)
    show fX11_lift 0 v x c = _
    unfold fX11_lift
    rw [known_n hC.1.2.2.1 h1 h2 hv, Option.bind_some, xbr]
theorem op_heal (v x : Int32) : OP (fun k y => (k = 2 ∧ y = 1) ∨ (k = 0 ∧ y = 2)) (fun c => fX11_heal 0 v x c) (fun m => fX12_heal 362 v x m) := by
  intro c m h
  have h' := h
  obtain ⟨n, ν, h1, h2, h3⟩ := h
  have hC := h3.1
  have hp := h3.2.1.1.2.1
  have hn := h2.le
  rcases f_cases n v hn with ⟨f, hf, rfl⟩ | hv
  · have hf8 : f < 8 := by omega
    have hkn := known_y hC.1.2.2.1 h1 h2 hf
    by_cases e : nI 1 ≤ x ∧ x ≤ nI 999
    · obtain ⟨a, a1, a9, rfl⟩ := r_le e (by decide)
      obtain ⟨c1, m1, b1, b2, b3, b4, b5, b6, -, -, -, b10⟩ := change_bis h1 h2 h3
      obtain ⟨c2, d1, d2⟩ := c_gainLife b3 hf8 (nI a)
      obtain ⟨y, m2, g1, g2, g3, g4⟩ := m_heals (μ := m1) (by rw [b6]; exact hp) hf8 (nI a)
      rw [b5] at g3 g4
      obtain ⟨m3, i1, i2, i3, i4, i5⟩ := b10 c2 m2 d2.2 g2.mc (by rw [g3]; exact d2.1) (by rw [g3]; exact h2.heal hf a9)
      refine ⟨.inl y, c2, y, m3, ?_, ?_, i2, i3, i4, Or.inl ⟨rfl, i5⟩⟩
      · show fX11_heal 0 (nI f) (nI a) c = _
        unfold fX11_heal
        rw [hkn, Option.bind_some, xbl, c_fHeal, Option.bind_some, if_pos e, rf0, Option.bind_some, xbl, hC.1.2.2.2.2.2.2.1, Option.bind_some, hC.1.2.2.1, Option.bind_some, b1, Option.bind_some, d1, Option.bind_some, d2.1.lif hf8, g4]
      · show fX12_heal 362 (nI f) (nI a) m = _
        unfold fX12_heal
        rw [isF_y hp h2 hf, Option.bind_some, m_isBy, Option.bind_some, bI_t e, m_goesBoth, Option.bind_some]
        simp only [if_neg one0]
        rw [b4, Option.bind_some, g1, Option.bind_some, m_kept i1, Option.bind_some]
    · have hB : fX12_heal 362 (nI f) x m = some (0, stI m 362 0 2) := by
        unfold fX12_heal
        rw [isF_y hp h2 hf, Option.bind_some, m_isBy, Option.bind_some, bI_f e, m_goesBoth, Option.bind_some]
        simp only [if_neg one0, if_pos]
      refine OP.r (e := fun k y => (k = 2 ∧ y = 1) ∨ (k = 0 ∧ y = 2)) (A := fun c => fX11_heal 0 (nI f) x c) (B := fun m => fX12_heal 362 (nI f) x m) (k := 0) (v := 0) ?_ hB (h'.st0 2) MFr.s (Or.inr ⟨rfl, ldI_stI_s⟩)
      show fX11_heal 0 (nI f) x c = _
      unfold fX11_heal
      rw [hkn, Option.bind_some, xbl, c_fHeal, Option.bind_some, if_neg e, rf1, Option.bind_some, xbr]
  · have hB : fX12_heal 362 v x m = some (0, stI m 362 0 1) := by
      unfold fX12_heal
      rw [isF_n hp h2 hv, Option.bind_some, m_isBy, Option.bind_some, m_goesBoth, Option.bind_some]
      simp only [if_pos]
    refine OP.r (e := fun k y => (k = 2 ∧ y = 1) ∨ (k = 0 ∧ y = 2)) (A := fun c => fX11_heal 0 v x c) (B := fun m => fX12_heal 362 v x m) (k := 2) (v := 0) ?_ hB (h'.st0 1) MFr.s (Or.inl ⟨rfl, ldI_stI_s⟩)
    show fX11_heal 0 v x c = _
    unfold fX11_heal
    rw [known_n hC.1.2.2.1 h1 h2 hv, Option.bind_some, xbr]
theorem op_setSpeed (v x : Int32) : OP (fun k y => (k = 2 ∧ y = 1) ∨ (k = 0 ∧ y = 2)) (fun c => fX11_setSpeed 0 v x c) (fun m => fX12_setSpeed 362 v x m) := by
  intro c m h
  have h' := h
  obtain ⟨n, ν, h1, h2, h3⟩ := h
  have hC := h3.1
  have hp := h3.2.1.1.2.1
  have hn := h2.le
  have h99 : ∀ m, fX12_isIn x.toInt64 1 99 m = some (bI (nI 1 ≤ x ∧ x ≤ nI 99)) := fun m => m_isIn (by decide) (by decide) rfl rfl
  rcases f_cases n v hn with ⟨f, hf, rfl⟩ | hv
  · have hf8 : f < 8 := by omega
    have hkn := known_y hC.1.2.2.1 h1 h2 hf
    by_cases e : nI 1 ≤ x ∧ x ≤ nI 99
    · obtain ⟨a, a1, a9, rfl⟩ := r_le e (by decide)
      obtain ⟨c1, m1, b1, b2, b3, b4, b5, b6, -, -, -, b10⟩ := change_bis h1 h2 h3
      have d2 : CH c1 66 (upd (ldI m 364) (4 + 12 * f + 1) (nI a)) ν (stI c1 (66 + 5 + 3 * f) 6 (nI a)) := ⟨b3.set (f := f) (w := 1) (v := nI a) hf8 (by decide), SE.sI ⟨by omega, by omega⟩⟩
      have g1 := m_swaps (m := m1) (by rw [b6]; exact hp) (i := 4 + 12 * f + 1) (by omega) (nI a)
      have g3 : ldI (stI m1 364 (4 + 12 * f + 1) (nI a)) 364 = upd (ldI m 364) (4 + 12 * f + 1) (nI a) := by rw [ldI_stI_self, b5]
      obtain ⟨m3, i1, i2, i3, i4, i5⟩ := b10 (stI c1 (66 + 5 + 3 * f) 6 (nI a)) (stI m1 364 (4 + 12 * f + 1) (nI a)) d2.2 MX.st (by rw [g3]; exact d2.1) (by rw [g3]; exact h2.ls hf a1 a9)
      refine ⟨.inl (ldI m 364 (4 + 12 * f + 1)), _, ldI m 364 (4 + 12 * f + 1), m3, ?_, ?_, i2, i3, i4, Or.inl ⟨rfl, i5⟩⟩
      · show fX11_setSpeed 0 (nI f) (nI a) c = _
        unfold fX11_setSpeed
        rw [hkn, Option.bind_some, xbl, c_fSpeed, Option.bind_some, if_pos e, rf0, Option.bind_some, xbl, hC.1.2.2.2.2.2.2.1, Option.bind_some, hC.1.2.2.1, Option.bind_some, b1, Option.bind_some, nm_b, nm_b, b3.spd hf8]
      · show fX12_setSpeed 362 (nI f) (nI a) m = _
        unfold fX12_setSpeed
        rw [isF_y hp h2 hf, Option.bind_some, h99 m, Option.bind_some, bI_t e, m_goesBoth, Option.bind_some]
        simp only [if_neg one0]
        rw [b4, Option.bind_some, show fX12_cellOf (nI f) 1 m1 = some (4 + 12 * nI f + 1) from rfl, Option.bind_some, show (4 : Int32) + 12 * nI f + 1 = nI (4 + 12 * f + 1) by rw [show (4 : Int32) = nI 4 from rfl, show (12 : Int32) = nI 12 from rfl, pk_mul, nI_add, nI_1], g1, Option.bind_some, b5, m_kept i1, Option.bind_some]
    · have hB : fX12_setSpeed 362 (nI f) x m = some (0, stI m 362 0 2) := by
        unfold fX12_setSpeed
        rw [isF_y hp h2 hf, Option.bind_some, h99 m, Option.bind_some, bI_f e, m_goesBoth, Option.bind_some]
        simp only [if_neg one0, if_pos]
      refine OP.r (e := fun k y => (k = 2 ∧ y = 1) ∨ (k = 0 ∧ y = 2)) (A := fun c => fX11_setSpeed 0 (nI f) x c) (B := fun m => fX12_setSpeed 362 (nI f) x m) (k := 0) (v := 0) ?_ hB (h'.st0 2) MFr.s (Or.inr ⟨rfl, ldI_stI_s⟩)
      show fX11_setSpeed 0 (nI f) x c = _
      unfold fX11_setSpeed
      rw [hkn, Option.bind_some, xbl, c_fSpeed, Option.bind_some, if_neg e, rf1, Option.bind_some, xbr]
  · have hB : fX12_setSpeed 362 v x m = some (0, stI m 362 0 1) := by
      unfold fX12_setSpeed
      rw [isF_n hp h2 hv, Option.bind_some, h99 m, Option.bind_some, m_goesBoth, Option.bind_some]
      simp only [if_pos]
    refine OP.r (e := fun k y => (k = 2 ∧ y = 1) ∨ (k = 0 ∧ y = 2)) (A := fun c => fX11_setSpeed 0 v x c) (B := fun m => fX12_setSpeed 362 v x m) (k := 2) (v := 0) ?_ hB (h'.st0 1) MFr.s (Or.inl ⟨rfl, ldI_stI_s⟩)
    show fX11_setSpeed 0 v x c = _
    unfold fX11_setSpeed
    rw [known_n hC.1.2.2.1 h1 h2 hv, Option.bind_some, xbr]
theorem op_extra (v : Int32) : OP (fun k y => (k = 2 ∧ y = 1) ∨ (k = 1 ∧ y = 2)) (fun c => fX11_extra 0 v c) (fun m => fX12_extra 362 v m) := by
  intro c m h
  have h' := h
  obtain ⟨n, ν, h1, h2, h3⟩ := h
  have hC := h3.1
  have hp := h3.2.1.1.2.1
  have hn := h2.le
  rcases f_cases n v hn with ⟨f, hf, rfl⟩ | hv
  · have hf8 : f < 8 := by omega
    have hkn := known_y hC.1.2.2.1 h1 h2 hf
    obtain ⟨e, -, e3, he⟩ := h2.ext hf
    by_cases l : lvN (ldI m 364) f
    · obtain ⟨c1, m1, b1, b2, b3, b4, b5, b6, b7, b8, b9, b10⟩ := change_bis h1 h2 h3
      have hg := m_gives (m := m1) (by rw [b6]; exact hp) (by rw [b5]; exact h2) hf
      rw [b5] at hg
      by_cases q : e < 3
      · rw [if_neg (show ¬ ldI m 364 (4 + 12 * f + 6) = 3 from fun h => by rw [he] at h; have := (nI_eq (a := e) (b := 3) (by omega) (by decide)).mp h; omega)] at hg
        obtain ⟨c2, d1, d2⟩ := c_gainExtras b3 hf8 1
        have er : ldI (stI m1 364 (4 + 12 * f + 6) (jmin (ldI m 364 (4 + 12 * f + 6) + 1) 3)) 364 = sp_xtr (ldI m 364) f 1 := by rw [ldI_stI_self, b5]; rfl
        obtain ⟨m3, i1, i2, i3, i4, i5⟩ := b10 c2 _ d2.2 MX.st (by rw [er]; exact d2.1) (by rw [er]; exact h2.xtr hf (m := 1) (by decide))
        refine ⟨.inl 1, c2, 1, m3, ?_, ?_, i2, i3, i4, Or.inl ⟨rfl, i5⟩⟩
        · show fX11_extra 0 (nI f) c = _
          unfold fX11_extra
          rw [hkn, Option.bind_some, xbl, c_fExtra h1 hf8, Option.bind_some, if_pos l, rf0, Option.bind_some, xbl, h1.ext hf8, he, if_pos (show nI e < 3 from nI_lt (b := 3) q (by decide)), hC.1.2.2.2.2.2.2.1, Option.bind_some, hC.1.2.2.1, Option.bind_some, b1, Option.bind_some, d1, Option.bind_some]
        · show fX12_extra 362 (nI f) m = _
          unfold fX12_extra fX12_extra_25
          rw [isF_y hp h2 hf, Option.bind_some, if_neg one0, m_lives hp hf8, Option.bind_some, if_pos l, if_neg one0, m_goesBoth, Option.bind_some]
          simp only [if_neg one0]
          rw [b4, Option.bind_some, hg, Option.bind_some]
          simp only [if_neg one0]
          rw [i1, Option.bind_some]
      · rw [if_pos (show ldI m 364 (4 + 12 * f + 6) = 3 by rw [he, show e = 3 by omega]; rfl)] at hg
        refine ⟨.inl 0, c, 0, m1, ?_, ?_, b8 h', SE.rf, b9, Or.inl ⟨rfl, b7 _ rfl⟩⟩
        · show fX11_extra 0 (nI f) c = _
          unfold fX11_extra
          rw [hkn, Option.bind_some, xbl, c_fExtra h1 hf8, Option.bind_some, if_pos l, rf0, Option.bind_some, xbl, h1.ext hf8, he, if_neg (show ¬ nI e < 3 from nI_nlt (b := 3) (by omega) (by omega))]
        · show fX12_extra 362 (nI f) m = _
          unfold fX12_extra fX12_extra_25
          rw [isF_y hp h2 hf, Option.bind_some, if_neg one0, m_lives hp hf8, Option.bind_some, if_pos l, if_neg one0, m_goesBoth, Option.bind_some]
          simp only [if_neg one0]
          rw [b4, Option.bind_some, hg, Option.bind_some]
          simp only [if_pos]
    · have hB : fX12_extra 362 (nI f) m = some (0, stI m 362 0 2) := by
        unfold fX12_extra fX12_extra_24 fX12_extra_25
        rw [isF_y hp h2 hf, Option.bind_some, if_neg one0, m_lives hp hf8, Option.bind_some, if_neg l, if_pos rfl, m_goesBoth, Option.bind_some]
        simp only [if_neg one0, if_pos]
      refine OP.r (e := fun k y => (k = 2 ∧ y = 1) ∨ (k = 1 ∧ y = 2)) (A := fun c => fX11_extra 0 (nI f) c) (B := fun m => fX12_extra 362 (nI f) m) (k := 1) (v := 0) ?_ hB (h'.st0 2) MFr.s (Or.inr ⟨rfl, ldI_stI_s⟩)
      show fX11_extra 0 (nI f) c = _
      unfold fX11_extra
      rw [hkn, Option.bind_some, xbl, c_fExtra h1 hf8, Option.bind_some, if_neg l, rf2, Option.bind_some, xbr]
  · have hB : fX12_extra 362 v m = some (0, stI m 362 0 1) := by
      unfold fX12_extra fX12_extra_24 fX12_extra_25
      rw [isF_n hp h2 hv, Option.bind_some, if_pos rfl, m_goesBoth, Option.bind_some]
      simp only [if_pos]
    refine OP.r (e := fun k y => (k = 2 ∧ y = 1) ∨ (k = 1 ∧ y = 2)) (A := fun c => fX11_extra 0 v c) (B := fun m => fX12_extra 362 v m) (k := 2) (v := 0) ?_ hB (h'.st0 1) MFr.s (Or.inl ⟨rfl, ldI_stI_s⟩)
    show fX11_extra 0 v c = _
    unfold fX11_extra
    rw [known_n hC.1.2.2.1 h1 h2 hv, Option.bind_some, xbr]
theorem op_setWheel (x : Int32) : OP (fun k y => k = 0 ∧ y = 1) (fun c => fX11_setWheel 0 x c) (fun m => fX12_setWheel 362 x m) := by
  intro c m h
  have h' := h
  obtain ⟨n, ν, h1, h2, h3⟩ := h
  have hC := h3.1
  have hp := h3.2.1.1.2.1
  by_cases e : nI 100 ≤ x ∧ x ≤ nI 999
  · obtain ⟨a, a1, a9, rfl⟩ := (or1 (by decide) (by decide)).mp e
    obtain ⟨c1, m1, b1, b2, b3, b4, b5, b6, -, -, -, b10⟩ := change_bis h1 h2 h3
    have d2 : CH c1 66 (upd (ldI m 364) 1 (nI a)) ν (stI c1 66 3 (nI a)) := ⟨b3.hd (j := 1) (v := nI a) (by decide), SE.sI ⟨by omega, by omega⟩⟩
    have g1 := m_swaps (m := m1) (by rw [b6]; exact hp) (i := 1) (by omega) (nI a)
    have g3 : ldI (stI m1 364 1 (nI a)) 364 = upd (ldI m 364) 1 (nI a) := by rw [ldI_stI_self, b5]
    obtain ⟨m3, i1, i2, i3, i4, i5⟩ := b10 (stI c1 66 3 (nI a)) (stI m1 364 1 (nI a)) d2.2 MX.st (by rw [g3]; exact d2.1) (by rw [g3]; exact h2.w a1 a9)
    refine ⟨.inl (ldI m 364 1), _, ldI m 364 1, m3, ?_, ?_, i2, i3, i4, Or.inl ⟨rfl, i5⟩⟩
    · show fX11_setWheel 0 (nI a) c = _
      unfold fX11_setWheel
      rw [hC.1.2.2.1, Option.bind_some, c_fWheel, Option.bind_some, if_pos e, rf0, Option.bind_some, xbl, hC.1.2.2.2.2.2.2.1, Option.bind_some, hC.1.2.2.1, Option.bind_some, b1, Option.bind_some, b2, hC.1.2.2.1, Option.bind_some, nm_b, Option.bind_some, nm_b, b3.whl]
    · show fX12_setWheel 362 (nI a) m = _
      unfold fX12_setWheel
      rw [m_isWheel, Option.bind_some, bI_t e, m_goes1, Option.bind_some, if_neg one0, b4, Option.bind_some, show fX12_swapsCell 362 1 (nI a) m1 = _ from g1, Option.bind_some, b5, m_kept i1, Option.bind_some]
  · have hB : fX12_setWheel 362 x m = some (0, stI m 362 0 1) := by
      unfold fX12_setWheel
      rw [m_isWheel, Option.bind_some, bI_f e, m_goes0, Option.bind_some, if_pos rfl]
    refine OP.r (e := fun k y => k = 0 ∧ y = 1) (A := fun c => fX11_setWheel 0 x c) (B := fun m => fX12_setWheel 362 x m) (k := 0) (v := 0) ?_ hB (h'.st0 1) MFr.s ⟨rfl, ldI_stI_s⟩
    show fX11_setWheel 0 x c = _
    unfold fX11_setWheel
    rw [hC.1.2.2.1, Option.bind_some, c_fWheel, Option.bind_some, if_neg e, rf1, Option.bind_some, xbr]
theorem op_play (x : Int32) : OP (fun k y => (k = 0 ∧ y = 1) ∨ (k = 1 ∧ y = 2)) (fun c => fX11_play 0 x c) (fun m => fX12_play 362 x m) := by
  intro c m h
  have h' := h
  obtain ⟨n, ν, h1, h2, h3⟩ := h
  have hC := h3.1
  have hp := h3.2.1.1.2.1
  have h99 : fX12_isIn x.toInt64 1 99 m = some (bI (nI 1 ≤ x ∧ x ≤ nI 99)) := m_isIn (by decide) (by decide) rfl rfl
  by_cases e : nI 1 ≤ x ∧ x ≤ nI 99
  · by_cases e2 : sp_over (ldI m 364) = true ∨ 9999 < ldI m 364 3 + x
    · have hB : fX12_play 362 x m = some (0, stI m 362 0 2) := by
        unfold fX12_play fX12_play_28 fX12_play_29
        rw [h99, Option.bind_some, bI_t e, if_neg one0, m_mayPlay hp h2, Option.bind_some, if_pos e2, if_pos rfl, m_goesBoth, Option.bind_some]
        simp only [if_neg one0, if_pos]
      refine OP.r (e := fun k y => (k = 0 ∧ y = 1) ∨ (k = 1 ∧ y = 2)) (A := fun c => fX11_play 0 x c) (B := fun m => fX12_play 362 x m) (k := 1) (v := 0) ?_ hB (h'.st0 2) MFr.s (Or.inr ⟨rfl, ldI_stI_s⟩)
      show fX11_play 0 x c = _
      unfold fX11_play
      rw [hC.1.2.2.1, Option.bind_some, c_fPlay h1, Option.bind_some, if_pos e, if_pos e2, rf2, Option.bind_some, xbr]
    · obtain ⟨a, a1, a9, rfl⟩ := r_le e (by decide)
      obtain ⟨c1, m1, b1, b2, b3, b4, b5, b6, -, -, -, b10⟩ := change_bis h1 h2 h3
      obtain ⟨c2, d1, d2⟩ := c_playOn b3 h2 (k := a) (by omega)
      obtain ⟨m2, g1, g2, g3, -⟩ := m_plays (μ := m1) (n := n) (by rw [b6]; exact hp) (by rw [b5]; exact h2) (k := a) (by omega)
      rw [b5] at g1 g3
      obtain ⟨m3, i1, i2, i3, i4, i5⟩ := b10 c2 m2 d2.2 g2 (by rw [g3]; exact d2.1) (by rw [g3]; exact h2.play a)
      refine ⟨.inl (nI (sp_play a (ldI m 364)).1), c2, nI (sp_play a (ldI m 364)).1, m3, ?_, ?_, i2, i3, i4, Or.inl ⟨rfl, i5⟩⟩
      · show fX11_play 0 (nI a) c = _
        unfold fX11_play
        rw [hC.1.2.2.1, Option.bind_some, c_fPlay h1, Option.bind_some, if_pos e, if_neg e2, rf0, Option.bind_some, xbl, hC.1.2.2.2.2.2.2.1, Option.bind_some, hC.1.2.2.1, Option.bind_some, b1, Option.bind_some, b2, hC.1.2.2.1, Option.bind_some, d1, Option.bind_some]
      · show fX12_play 362 (nI a) m = _
        unfold fX12_play fX12_play_29
        rw [h99, Option.bind_some, bI_t e, if_neg one0, m_mayPlay hp h2, Option.bind_some, if_neg e2, if_neg one0, m_goesBoth, Option.bind_some]
        simp only [if_neg one0]
        rw [b4, Option.bind_some, g1, Option.bind_some, m_kept i1, Option.bind_some]
  · have hB : fX12_play 362 x m = some (0, stI m 362 0 1) := by
      unfold fX12_play fX12_play_28 fX12_play_29
      rw [h99, Option.bind_some, bI_f e, if_pos rfl, m_goesBoth, Option.bind_some]
      simp only [if_pos]
    refine OP.r (e := fun k y => (k = 0 ∧ y = 1) ∨ (k = 1 ∧ y = 2)) (A := fun c => fX11_play 0 x c) (B := fun m => fX12_play 362 x m) (k := 0) (v := 0) ?_ hB (h'.st0 1) MFr.s (Or.inl ⟨rfl, ldI_stI_s⟩)
    show fX11_play 0 x c = _
    unfold fX11_play
    rw [hC.1.2.2.1, Option.bind_some, c_fPlay h1, Option.bind_some, if_neg e, rf1, Option.bind_some, xbr]
theorem op_setAct (v i k x : Int32) : OP (fun k y => (k = 2 ∧ y = 1) ∨ (k = 0 ∧ y = 2)) (fun c => fX11_setAct 0 v i k x c) (fun m => fX12_setAct 362 v i k x m) := by
  intro c m h
  have h' := h
  obtain ⟨n, ν, h1, h2, h3⟩ := h
  have hC := h3.1
  have hp := h3.2.1.1.2.1
  have hn := h2.le
  rcases f_cases n v hn with ⟨f, hf, rfl⟩ | hv
  · have hf8 : f < 8 := by omega
    have hkn := known_y hC.1.2.2.1 h1 h2 hf
    by_cases e : okA (ldI m 364) f i k x
    · have e' := e
      obtain ⟨i', k', y', a, r1, r2, r3, r4, r9, r5, r6, r7, r8⟩ := e
      subst r1; subst r2; subst r3
      have hmo := mo_bd (q := k')
      obtain ⟨c1, m1, b1, b2, b3, b4, b5, b6, -, -, -, b10⟩ := change_bis h1 h2 h3
      obtain ⟨c2, d1, d2⟩ := c_putAct b3 hf8 (nI i') (nI k') (nI y')
      have hh : sp_has (ldI m 364) f (nI i') := ⟨nI_pos' (by omega), by rw [r4]; exact nI_lt r5 (by omega), nI_lt (b := 6) (by omega) (by decide)⟩
      have hkA : fX3_kindAt (66 + 5 + 3 * f) (nI i') c1 = some (ldI m 364 (100 + 6 * f + i')) := by
        rw [c_kindAt b3 hf8, if_pos hh, nI_clamp (by omega)]
      rw [if_pos hh, nI_clamp (by omega)] at d2
      have g1 := m_setsAct (m := m1) (by rw [b6]; exact hp) hf8 (i := i') (by omega) (nI k') (nI y')
      rw [b5] at g1
      have er : ldI (stI (stI m1 364 (148 + 6 * f + i') (nI y')) 364 (100 + 6 * f + i') (nI k')) 364 = upd (upd (ldI m 364) (100 + 6 * f + i') (nI k')) (148 + 6 * f + i') (nI y') := by
        rw [ldI_stI_self, ldI_stI_self, b5, upd_comm (by omega)]
      obtain ⟨m3, i1, i2, i3, i4, i5⟩ := b10 c2 _ d2.2 (MX.st.tr MX.st) (by rw [er]; exact d2.1) (by rw [er]; exact h2.act' hf r4 r9 r5 r6 r7 r8)
      refine ⟨.inl (ldI m 364 (100 + 6 * f + i')), c2, ldI m 364 (100 + 6 * f + i'), m3, ?_, ?_, i2, i3, i4, Or.inl ⟨rfl, i5⟩⟩
      · show fX11_setAct 0 (nI f) (nI i') (nI k') (nI y') c = _
        unfold fX11_setAct
        rw [hkn, Option.bind_some, xbl, c_fAct h1 h2 hf, Option.bind_some, bI_f (fun q => q e'), rf0, Option.bind_some, xbl, hC.1.2.2.2.2.2.2.1, Option.bind_some, hC.1.2.2.1, Option.bind_some, b1, Option.bind_some, hkA, Option.bind_some, d1, Option.bind_some]
      · show fX12_setAct 362 (nI f) (nI i') (nI k') (nI y') m = _
        unfold fX12_setAct fX12_setAct_32
        rw [isF_y hp h2 hf, Option.bind_some, if_neg one0, m_maySet hp h2 hf, Option.bind_some, bI_t e', if_neg one0, m_goesBoth, Option.bind_some]
        simp only [if_neg one0]
        rw [b4, Option.bind_some, g1, Option.bind_some, m_kept i1, Option.bind_some]
    · have hB : fX12_setAct 362 (nI f) i k x m = some (0, stI m 362 0 2) := by
        unfold fX12_setAct fX12_setAct_31 fX12_setAct_32
        rw [isF_y hp h2 hf, Option.bind_some, if_neg one0, m_maySet hp h2 hf, Option.bind_some, bI_f e, if_pos rfl, m_goesBoth, Option.bind_some]
        simp only [if_neg one0, if_pos]
      refine OP.r (e := fun k y => (k = 2 ∧ y = 1) ∨ (k = 0 ∧ y = 2)) (A := fun c => fX11_setAct 0 (nI f) i k x c) (B := fun m => fX12_setAct 362 (nI f) i k x m) (k := 0) (v := 0) ?_ hB (h'.st0 2) MFr.s (Or.inr ⟨rfl, ldI_stI_s⟩)
      show fX11_setAct 0 (nI f) i k x c = _
      unfold fX11_setAct
      rw [hkn, Option.bind_some, xbl, c_fAct h1 h2 hf, Option.bind_some, bI_t e, rf1, Option.bind_some, xbr]
  · have hB : fX12_setAct 362 v i k x m = some (0, stI m 362 0 1) := by
      unfold fX12_setAct fX12_setAct_31 fX12_setAct_32
      rw [isF_n hp h2 hv, Option.bind_some, if_pos rfl, m_goesBoth, Option.bind_some]
      simp only [if_pos]
    refine OP.r (e := fun k y => (k = 2 ∧ y = 1) ∨ (k = 0 ∧ y = 2)) (A := fun c => fX11_setAct 0 v i k x c) (B := fun m => fX12_setAct 362 v i k x m) (k := 2) (v := 0) ?_ hB (h'.st0 1) MFr.s (Or.inl ⟨rfl, ldI_stI_s⟩)
    show fX11_setAct 0 v i k x c = _
    unfold fX11_setAct
    rw [known_n hC.1.2.2.1 h1 h2 hv, Option.bind_some, xbr]
end CHG2
