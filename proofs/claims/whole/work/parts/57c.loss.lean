/-! forecasts: the first loss -/
def sp_fl (f : Nat) : Nat → Nat → Sg → Option Nat
  | 0, _, _ => none
  | k + 1, t, σ => if (sp_play 1 σ).2 (4 + 12 * f + 2) < σ (4 + 12 * f + 2) then some t else sp_fl f k (t + 1) (sp_play 1 σ).2
theorem fl_over {f : Nat} {σ : Sg} (h : sp_over σ = true) : ∀ k t, sp_fl f k t σ = none := by
  intro k
  induction k with
  | zero => intro t; rfl
  | succ k ih =>
    intro t
    have e : (sp_play 1 σ).2 = σ := by rw [play_over h]
    rw [sp_fl, e, if_neg (fun h => by rw [i32_lt] at h; omega)]
    exact ih _
section LOSS
variable {μ : Mem} {n : Nat} {σ : Sg} {ν : Nat → Int64}
theorem c_turnOfLoss (h : FR μ 66 σ ν) (hl : FA μ 154) (hp : ldP μ 153 0 = some 154) (hok : okN n σ) {f : Nat} (hf : f < 8) : ∃ μ', fX4_turnOfLoss 153 66 (nI f) μ = some (noI (sp_fl f 200 1 σ), μ') ∧ FA μ' 154 ∧ SE (RG 154) μ μ' := by
  obtain ⟨σ0, ν0, hl⟩ := hl
  have hn : ¬ RG 154 153 := fun h => by unfold RG at h; omega
  unfold fX4_turnOfLoss fX4_turnOfLoss_20
  obtain ⟨m1, a1, b1⟩ := c_copyS hl h (Or.inr (by decide))
  rw [hp, Option.bind_some, a1, Option.bind_some, (b1.2 153 hn).2.2, hp, Option.bind_some, c_at b1.1, Option.bind_some, sp_at_nI hf]
  refine zl2_m (P := fun q v4 m => ∃ j τ, j ≤ 200 ∧ q = 200 - j ∧ v4 = nI (j + 1) ∧ okN n τ ∧ FR m 154 τ ν ∧ SE (RG 154) μ m ∧ sp_fl f (200 - j) (j + 1) τ = sp_fl f 200 1 σ) (Qr := fun r => ∃ μ', r = some (noI (sp_fl f 200 1 σ), μ') ∧ FA μ' 154 ∧ SE (RG 154) μ μ') (fun q v4 m self hP => ?_) FU 200 1 m1 (FU_gt (by decide)) ⟨0, σ, Nat.zero_le _, rfl, rfl, hok, b1.1, b1.2, rfl⟩
  obtain ⟨j, τ, e1, e2, e3, g1, g2, g3, g4⟩ := hP
  subst e2; subst e3
  have hpm : ldP m 153 0 = some 154 := by rw [(g3 153 hn).2.2]; exact hp
  by_cases hj : j < 200
  · obtain ⟨m2, a2, b2⟩ := c_playOn g2 g1 (k := 1) (by decide)
    have t2 := g3.tr b2.2
    rw [show 200 - j = (200 - (j + 1)) + 1 by omega, sp_fl] at g4
    have e5 : ¬ (200 : Int32) < nI (j + 1) := nI_nlt (a := 200) (b := j + 1) (by omega) (by decide)
    simp only [gX4_turnOfLoss_20, if_neg e5, hpm, Option.bind_some, show (1 : Int32) = nI 1 from rfl, a2, nm_b, ob, g2.lif hf, b2.1.lif hf]
    by_cases e : (sp_play 1 τ).2 (4 + 12 * f + 2) < τ (4 + 12 * f + 2)
    · rw [if_neg (i32_nle.mpr e)]
      rw [if_pos e] at g4
      exact Or.inr ⟨m2, by rw [← g4]; rfl, ⟨_, _, b2.1⟩, t2⟩
    · rw [if_pos (i32_nlt.mp e), nI_add]
      rw [if_neg e] at g4
      exact Or.inl ⟨_, _, _, by omega, ⟨j + 1, _, by omega, rfl, rfl, g1.play 1, b2.1, t2, g4⟩, rfl⟩
  · have : j = 200 := by omega
    subst this
    refine Or.inr ?_
    simp only [gX4_turnOfLoss_20, if_pos (show (200 : Int32) < nI (200 + 1) by decide)]
    exact ⟨m, by rw [← g4]; rfl, ⟨_, _, g2⟩, g3⟩
end LOSS
