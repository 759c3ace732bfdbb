/-! the reference's first loss -/
section LOSM
variable {μ : Mem} {n : Nat}
theorem m_firstLoss22 (hp : ldP μ 362 13 = some 364) (hq : ldP μ 362 16 = some 367) (h : okN n (ldI μ 364)) {m1 : Mem} (h1 : LV μ m1) {f : Nat} (hf : f < n) : ∃ m3, fX12_firstLoss_22 362 (nI f) 0 (-1) m1 = some (noI (sp_fl f 200 1 (ldI μ 364)), m3) ∧ QE μ m3 := by
  have hf8 : f < 8 := by have := h.le; omega
  unfold fX12_firstLoss_22
  refine zl3_m (P := fun q v2 v3 m => MX m1 m ∧ ((∃ j τ, j ≤ 200 ∧ q = 201 - j ∧ v2 = nI j ∧ v3 = -1 ∧ okN n τ ∧ ldI m 364 = τ ∧ sp_fl f (200 - j) (j + 1) τ = sp_fl f 200 1 (ldI μ 364)) ∨ (q = 0 ∧ ∃ j, 1 ≤ j ∧ j ≤ 200 ∧ v2 = nI j ∧ v3 = nI j ∧ sp_fl f 200 1 (ldI μ 364) = some j))) (Qr := fun r => ∃ m3, r = some (noI (sp_fl f 200 1 (ldI μ 364)), m3) ∧ QE μ m3) (fun q v2 v3 m self hP => ?_) FU 201 0 (-1) m1 (FU_gt (by decide)) ⟨MX.rf, Or.inl ⟨0, ldI μ 364, Nat.zero_le _, rfl, rfl, rfl, h, h1.s, rfl⟩⟩
  obtain ⟨g3, hP⟩ := hP
  have hpm := g3.q (h1.p hp)
  have hqm := g3.q (h1.p hq)
  rcases hP with ⟨j, τ, e1, e2, e3, e4, g1, g2, g4⟩ | ⟨e1, j, e0, e2, e3, e4, e5⟩
  · subst e2; subst e3; subst e4
    have hok : okN n (ldI m 364) := by rw [g2]; exact g1
    by_cases hj : j < 200
    · simp only [gX12_firstLoss_22, if_neg (show ¬ (200 : Int32) ≤ nI j from nI_ge hj (by decide)), m_isOver hpm hok, Option.bind_some, m_of2 hpm hf8, nm_b, nI_1]
      by_cases ho : sp_over (ldI m 364) = true
      · rw [if_pos trivial, if_pos ho, if_neg one0]
        rw [g2] at ho
        rw [fl_over ho] at g4
        obtain ⟨m3, a3, b3⟩ := m_comesBack (v := -1) hpm hqm h1 g3
        rw [a3, Option.bind_some]
        exact Or.inr ⟨m3, by rw [← g4]; rfl, b3⟩
      · rw [if_pos trivial, if_neg ho, if_pos rfl]
        obtain ⟨w, m2, a1, a2, a3, a4, a5, a6, a7, a8⟩ := m_turns hpm hok ho
        have c5 := g3.tr a5
        rw [g2] at a1 a3 a6
        rw [a4, Option.bind_some, m_of2 (c5.q (h1.p hp)) hf8, Option.bind_some, g2, a6]
        have e7 : sp_play 1 τ = (1, sp_take (sp_next τ).2 w) := play_1 a1
        rw [show 200 - j = (200 - (j + 1)) + 1 by omega, sp_fl, e7] at g4
        dsimp only at g4
        by_cases e : sp_take (sp_next τ).2 w (4 + 12 * f + 2) < τ (4 + 12 * f + 2)
        · rw [if_neg (i32_nle.mpr e)]
          rw [if_pos e] at g4
          exact Or.inl ⟨0, _, _, _, by omega, ⟨c5, Or.inr ⟨rfl, j + 1, by omega, by omega, rfl, rfl, g4.symm⟩⟩, rfl⟩
        · rw [if_pos (i32_nlt.mp e)]
          rw [if_neg e] at g4
          exact Or.inl ⟨201 - (j + 1), _, _, _, by omega, ⟨c5, Or.inl ⟨j + 1, _, by omega, rfl, rfl, rfl, g1.next.1.take a2 a3, a6, g4⟩⟩, rfl⟩
    · have : j = 200 := by omega
      subst this
      refine Or.inr ?_
      simp only [gX12_firstLoss_22, if_pos (show (200 : Int32) ≤ nI 200 by decide)]
      obtain ⟨m3, a3, b3⟩ := m_comesBack (v := -1) hpm hqm h1 g3
      rw [a3, Option.bind_some]
      exact ⟨m3, by rw [← g4]; rfl, b3⟩
  · subst e3; subst e4
    refine Or.inr ?_
    obtain ⟨m3, a3, b3⟩ := m_comesBack (v := nI j) hpm hqm h1 g3
    have h9 : ¬ nI j = -1 := nI_m1 (by omega)
    simp only [gX12_firstLoss_22, if_neg h9, a3, Option.bind_some, ite_self]
    exact ⟨m3, by rw [e5]; rfl, b3⟩
end LOSM
