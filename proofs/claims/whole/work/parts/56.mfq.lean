/-! the model's fight: its questions -/
theorem ln364 : Ln 364 = 196 := by decide
theorem z0 : (0 : Int32).toNatClampNeg = 0 := rfl
theorem z1 : (1 : Int32).toNatClampNeg = 1 := rfl
theorem z2 : (2 : Int32).toNatClampNeg = 2 := rfl
theorem z3 : (3 : Int32).toNatClampNeg = 3 := rfl
theorem ib0 : inB 0 196 = true := by decide
theorem ib1 : inB 1 196 = true := by decide
theorem ib2 : inB 2 196 = true := by decide
theorem ib3 : inB 3 196 = true := by decide
/-- what does not depend on the fighters that there are not -/
theorem first_ext {c : Nat → Bool} {n : Nat} : ∀ m, n ≤ m → (∀ f, n ≤ f → f < m → c f = false) → sp_first c m = sp_first c n := by
  intro m
  induction m with
  | zero => intro h _; rw [show n = 0 by omega]
  | succ m ih =>
    intro h h2
    by_cases e : n = m + 1
    · rw [e]
    · rw [← ih (by omega) (fun f h3 h4 => h2 f h3 (by omega))]
      rw [sp_first, h2 m (by omega) (by omega)]
      cases sp_first c m <;> rfl
theorem best_ext {c : Nat → Bool} {t : Nat → Nat → Bool} {n : Nat} : ∀ m, n ≤ m → (∀ f, n ≤ f → f < m → c f = false) → sp_best c t m = sp_best c t n := by
  intro m
  induction m with
  | zero => intro h _; rw [show n = 0 by omega]
  | succ m ih =>
    intro h h2
    by_cases e : n = m + 1
    · rw [e]
    · rw [← ih (by omega) (fun f h3 h4 => h2 f h3 (by omega))]
      rw [sp_best, h2 m (by omega) (by omega), Bool.false_and, if_neg (by decide)]
theorem any_ext {σ : Sg} {sd : Int32} {n : Nat} : ∀ m, n ≤ m → (∀ f, n ≤ f → f < m → ¬ lvN σ f) → sp_any σ sd m = sp_any σ sd n := by
  intro m
  induction m with
  | zero => intro h _; rw [show n = 0 by omega]
  | succ m ih =>
    intro h h2
    by_cases e : n = m + 1
    · rw [e]
    · rw [← ih (by omega) (fun f h3 h4 => h2 f h3 (by omega))]
      rw [sp_any, decide_eq_false (h2 m (by omega) (by omega)), Bool.false_and, Bool.or_false]
theorem lt_ext {σ : Sg} {n : Nat} : ∀ m, n ≤ m → (∀ f, n ≤ f → f < m → ¬ lvN σ f) → sp_lt σ m = sp_lt σ n := by
  intro m
  induction m with
  | zero => intro h _; rw [show n = 0 by omega]
  | succ m ih =>
    intro h h2
    by_cases e : n = m + 1
    · rw [e]
    · rw [← ih (by omega) (fun f h3 h4 => h2 f h3 (by omega))]
      rw [sp_lt, if_neg (h2 m (by omega) (by omega))]
theorem sl_ext {σ : Sg} {sd : Int32} {n : Nat} : ∀ m, n ≤ m → (∀ f, n ≤ f → f < m → σ (4 + 12 * f + 2) = 0) → sp_sl σ sd m = sp_sl σ sd n := by
  intro m
  induction m with
  | zero => intro h _; rw [show n = 0 by omega]
  | succ m ih =>
    intro h h2
    by_cases e : n = m + 1
    · rw [e]
    · rw [← ih (by omega) (fun f h3 h4 => h2 f h3 (by omega))]
      rw [sp_sl, h2 m (by omega) (by omega), Int32.add_zero]
      by_cases e2 : σ (4 + 12 * m) = sd
      · rw [if_pos e2]
      · rw [if_neg e2]
theorem cnt_ext {σ : Sg} {n : Nat} : ∀ m, n ≤ m → (∀ f, n ≤ f → f < m → ¬ lvN σ f) → sp_cnt σ m = sp_cnt σ n := by
  intro m
  induction m with
  | zero => intro h _; rw [show n = 0 by omega]
  | succ m ih =>
    intro h h2
    by_cases e : n = m + 1
    · rw [e]
    · rw [← ih (by omega) (fun f h3 h4 => h2 f h3 (by omega))]
      rw [sp_cnt, if_neg (h2 m (by omega) (by omega))]
theorem spd_ext {σ : Sg} {n : Nat} : ∀ m, n ≤ m → (∀ f, n ≤ f → f < m → ¬ lvN σ f) → sp_spd σ m = sp_spd σ n := by
  intro m
  induction m with
  | zero => intro h _; rw [show n = 0 by omega]
  | succ m ih =>
    intro h h2
    by_cases e : n = m + 1
    · rw [e]
    · rw [← ih (by omega) (fun f h3 h4 => h2 f h3 (by omega))]
      rw [sp_spd, if_neg (h2 m (by omega) (by omega))]
theorem okN.dead {σ : Sg} {n : Nat} (h : okN n σ) : ∀ f, n ≤ f → f < 8 → ¬ lvN σ f := fun f h1 h2 h3 => by have := h.liv h2 h3; omega
section MFQ
variable {μ : Mem} {n f : Nat}
theorem m_of (hp : ldP μ 362 13 = some 364) (hf : f < 8) {w : Nat} {W : Int32} (hw : w < 12) (hW : W = nI w) : fX12_of 362 (nI f) W μ = some (ldI μ 364 (4 + 12 * f + w)) := by
  subst hW
  unfold fX12_of fX12_cellOf
  rw [hp, Option.bind_some, Option.bind_some, show (4 : Int32) = nI 4 from rfl, show (12 : Int32) = nI 12 from rfl, pk_mul, nI_add, nI_add, ln364, gd_t (inB_nI (by omega) (by decide)), nI_clamp (by omega)]
theorem m_of0 (hp : ldP μ 362 13 = some 364) (hf : f < 8) : fX12_of 362 (nI f) 0 μ = some (ldI μ 364 (4 + 12 * f)) := m_of hp hf (w := 0) (by decide) rfl
theorem m_of1 (hp : ldP μ 362 13 = some 364) (hf : f < 8) : fX12_of 362 (nI f) 1 μ = some (ldI μ 364 (4 + 12 * f + 1)) := m_of hp hf (w := 1) (by decide) rfl
theorem m_of2 (hp : ldP μ 362 13 = some 364) (hf : f < 8) : fX12_of 362 (nI f) 2 μ = some (ldI μ 364 (4 + 12 * f + 2)) := m_of hp hf (w := 2) (by decide) rfl
theorem m_of3 (hp : ldP μ 362 13 = some 364) (hf : f < 8) : fX12_of 362 (nI f) 3 μ = some (ldI μ 364 (4 + 12 * f + 3)) := m_of hp hf (w := 3) (by decide) rfl
theorem m_of4 (hp : ldP μ 362 13 = some 364) (hf : f < 8) : fX12_of 362 (nI f) 4 μ = some (ldI μ 364 (4 + 12 * f + 4)) := m_of hp hf (w := 4) (by decide) rfl
theorem m_of5 (hp : ldP μ 362 13 = some 364) (hf : f < 8) : fX12_of 362 (nI f) 5 μ = some (ldI μ 364 (4 + 12 * f + 5)) := m_of hp hf (w := 5) (by decide) rfl
theorem m_of6 (hp : ldP μ 362 13 = some 364) (hf : f < 8) : fX12_of 362 (nI f) 6 μ = some (ldI μ 364 (4 + 12 * f + 6)) := m_of hp hf (w := 6) (by decide) rfl
theorem m_of7 (hp : ldP μ 362 13 = some 364) (hf : f < 8) : fX12_of 362 (nI f) 7 μ = some (ldI μ 364 (4 + 12 * f + 7)) := m_of hp hf (w := 7) (by decide) rfl
theorem m_of8 (hp : ldP μ 362 13 = some 364) (hf : f < 8) : fX12_of 362 (nI f) 8 μ = some (ldI μ 364 (4 + 12 * f + 8)) := m_of hp hf (w := 8) (by decide) rfl
theorem m_of9 (hp : ldP μ 362 13 = some 364) (hf : f < 8) : fX12_of 362 (nI f) 9 μ = some (ldI μ 364 (4 + 12 * f + 9)) := m_of hp hf (w := 9) (by decide) rfl
theorem m_of10 (hp : ldP μ 362 13 = some 364) (hf : f < 8) : fX12_of 362 (nI f) 10 μ = some (ldI μ 364 (4 + 12 * f + 10)) := m_of hp hf (w := 10) (by decide) rfl
theorem m_of11 (hp : ldP μ 362 13 = some 364) (hf : f < 8) : fX12_of 362 (nI f) 11 μ = some (ldI μ 364 (4 + 12 * f + 11)) := m_of hp hf (w := 11) (by decide) rfl
theorem m_sets (hp : ldP μ 362 13 = some 364) (hf : f < 8) {w : Nat} {W v : Int32} (hw : w < 12) (hW : W = nI w) : fX12_sets 362 (nI f) W v μ = some (stI μ 364 (4 + 12 * f + w) v) := by
  subst hW
  unfold fX12_sets fX12_cellOf
  rw [hp, Option.bind_some, Option.bind_some, show (4 : Int32) = nI 4 from rfl, show (12 : Int32) = nI 12 from rfl, pk_mul, nI_add, nI_add, ln364, gd_t (inB_nI (by omega) (by decide)), nI_clamp (by omega), nm_b]
theorem m_lives (hp : ldP μ 362 13 = some 364) (hf : f < 8) : fX12_lives 362 (nI f) μ = some (if lvN (ldI μ 364) f then 1 else 0) := by
  unfold fX12_lives
  rw [m_of2 hp hf, Option.bind_some]
  by_cases e : lvN (ldI μ 364) f
  · rw [if_pos e, if_neg (i32_nle.mpr e)]
  · rw [if_neg e, if_pos (i32_nlt.mp e)]
theorem jn {n j : Nat} (h : j < n) (h2 : n ≤ 8) : ¬ nI n ≤ nI j := nI_ge h (by omega)
theorem one0 : ¬ ((1 : Int32) = 0) := by decide
def sp_lo (σ : Sg) (sd : Int32) : Nat → Nat
  | 0 => 0
  | j + 1 => if lvN σ j ∧ σ (4 + 12 * j) = sd then sp_lo σ sd j + 1 else sp_lo σ sd j
theorem lo_le {σ : Sg} {sd : Int32} : ∀ j, sp_lo σ sd j ≤ j := by
  intro j
  induction j with
  | zero => exact Nat.le_refl _
  | succ j ih =>
    unfold sp_lo
    by_cases e : lvN σ j ∧ σ (4 + 12 * j) = sd
    · rw [if_pos e]; omega
    · rw [if_neg e]; omega
theorem lo_any {σ : Sg} {sd : Int32} : ∀ j, sp_lo σ sd j = 0 ↔ sp_any σ sd j = false := by
  intro j
  induction j with
  | zero => exact ⟨fun _ => rfl, fun _ => rfl⟩
  | succ j ih =>
    unfold sp_lo sp_any
    by_cases e : lvN σ j ∧ σ (4 + 12 * j) = sd
    · rw [if_pos e, decide_eq_true e.1, decide_eq_true e.2, Bool.and_self, Bool.or_true]
      exact ⟨fun h => by omega, fun h => by cases h⟩
    · rw [if_neg e, ih]
      have : (decide (lvN σ j) && decide (σ (4 + 12 * j) = sd)) = false := by
        rw [← Bool.decide_and]; exact decide_eq_false e
      rw [this, Bool.or_false]
theorem truth0 : fX12_truth 0 μ = some 0 := rfl
theorem truth1 : fX12_truth 1 μ = some 1 := rfl
theorem m_livingOn (hp : ldP μ 362 13 = some 364) (h : okN n (ldI μ 364)) (sd : Int32) : fX12_livingOn 362 sd μ = some (nI (sp_lo (ldI μ 364) sd n)) := by
  have hn := h.le
  unfold fX12_livingOn fX12_livingOn_4
  refine zl2_for (N := n) (I := fun j a => a = nI (sp_lo (ldI μ 364) sd j)) (Qr := fun r => r = some (nI (sp_lo (ldI μ 364) sd n))) (by omega) rfl (fun j a self hj hI => ?_) (fun a self hI => ?_)
  · subst hI
    have hj8 : j < 8 := by omega
    simp only [gX12_livingOn_4, hp, Option.bind_some, ln364, gd_t ib0, z0, h.2.1, if_neg (jn hj hn), m_lives hp hj8, m_of0 hp hj8, truth0, truth1, nm_b, nI_1, Int32.add_zero]
    by_cases e : lvN (ldI μ 364) j
    · rw [if_pos e, if_neg one0]
      by_cases e2 : ldI μ 364 (4 + 12 * j) = sd
      · exact Or.inl ⟨_, by rw [if_pos e2], by rw [sp_lo, if_pos ⟨e, e2⟩]⟩
      · exact Or.inl ⟨_, by rw [if_neg e2], by rw [sp_lo, if_neg (fun h => e2 h.2)]⟩
    · rw [if_neg e, if_pos rfl]
      exact Or.inl ⟨_, rfl, by rw [sp_lo, if_neg (fun h => e h.1)]⟩
  · subst hI
    simp only [gX12_livingOn_4, hp, Option.bind_some, ln364, gd_t ib0, z0, h.2.1, if_pos (show nI n ≤ nI n from nI_le (Nat.le_refl _) (by omega))]
theorem nI0_iff {a : Nat} (h : a < 2 ^ 31) : nI a = 0 ↔ a = 0 := nI_eq (b := 0) h (by decide)
theorem m_isOver (hp : ldP μ 362 13 = some 364) (h : okN n (ldI μ 364)) : fX12_isOver 362 μ = some (if sp_over (ldI μ 364) = true then 1 else 0) := by
  have hn := h.le
  unfold fX12_isOver
  rw [m_livingOn hp h, m_livingOn hp h, Option.bind_some, Option.bind_some]
  unfold sp_over
  rw [any_ext 8 hn h.dead, any_ext 8 hn h.dead]
  have l0 := lo_le (σ := ldI μ 364) (sd := 0) n
  have l1 := lo_le (σ := ldI μ 364) (sd := 1) n
  by_cases e0 : sp_lo (ldI μ 364) 0 n = 0
  · rw [if_pos ((nI0_iff (by omega)).mpr e0), (lo_any n).mp e0]; rfl
  · rw [if_neg (fun e => e0 ((nI0_iff (by omega)).mp e))]
    have a0 : sp_any (ldI μ 364) 0 n = true := by
      cases hh : sp_any (ldI μ 364) 0 n with
      | true => rfl
      | false => exact absurd ((lo_any n).mpr hh) e0
    by_cases e1 : sp_lo (ldI μ 364) 1 n = 0
    · rw [if_pos ((nI0_iff (by omega)).mpr e1), (lo_any n).mp e1, a0]; rfl
    · rw [if_neg (fun e => e1 ((nI0_iff (by omega)).mp e))]
      have a1 : sp_any (ldI μ 364) 1 n = true := by
        cases hh : sp_any (ldI μ 364) 1 n with
        | true => rfl
        | false => exact absurd ((lo_any n).mpr hh) e1
      rw [a0, a1]; rfl
theorem m_won (hp : ldP μ 362 13 = some 364) (h : okN n (ldI μ 364)) : fX12_sideThatWon 362 μ = some (sp_won (ldI μ 364)) := by
  have hn := h.le
  unfold fX12_sideThatWon
  rw [m_isOver hp h, Option.bind_some, m_livingOn hp h, m_livingOn hp h, Option.bind_some, Option.bind_some]
  unfold sp_over sp_won
  rw [any_ext 8 hn h.dead, any_ext 8 hn h.dead]
  have l0 := lo_le (σ := ldI μ 364) (sd := 0) n
  have l1 := lo_le (σ := ldI μ 364) (sd := 1) n
  have k0 := lo_any (σ := ldI μ 364) (sd := 0) n
  have k1 := lo_any (σ := ldI μ 364) (sd := 1) n
  have p0 : nI (sp_lo (ldI μ 364) 0 n) ≤ 0 ↔ sp_lo (ldI μ 364) 0 n = 0 := Iff.trans (nI_leI (b := 0) (by omega) (by decide)) (by omega)
  have p1 : nI (sp_lo (ldI μ 364) 1 n) ≤ 0 ↔ sp_lo (ldI μ 364) 1 n = 0 := Iff.trans (nI_leI (b := 0) (by omega) (by decide)) (by omega)
  simp only [p0, p1, k0, k1]
  cases sp_any (ldI μ 364) 0 n <;> cases sp_any (ldI μ 364) 1 n <;> rfl
theorem m_lifeOn (hp : ldP μ 362 13 = some 364) (h : okN n (ldI μ 364)) (sd : Int32) : fX12_lifeOn 362 sd μ = some (sp_sl (ldI μ 364) sd 8) := by
  have hn := h.le
  rw [sl_ext 8 hn (fun f h1 h2 => h.2.2.2.2 f h1 h2 2 (by decide))]
  unfold fX12_lifeOn fX12_lifeOn_4
  refine zl2_for (N := n) (I := fun j a => a = sp_sl (ldI μ 364) sd j) (Qr := fun r => r = some (sp_sl (ldI μ 364) sd n)) (by omega) rfl (fun j a self hj hI => ?_) (fun a self hI => ?_)
  · subst hI
    have hj8 : j < 8 := by omega
    simp only [gX12_lifeOn_4, hp, Option.bind_some, ln364, gd_t ib0, z0, h.2.1, if_neg (jn hj hn), m_of0 hp hj8, m_of2 hp hj8, nm_b, nI_1, Int32.add_zero]
    by_cases e2 : ldI μ 364 (4 + 12 * j) = sd
    · exact Or.inl ⟨_, by rw [if_pos e2], by rw [sp_sl, if_pos e2]⟩
    · exact Or.inl ⟨_, by rw [if_neg e2], by rw [sp_sl, if_neg e2]⟩
  · subst hI
    simp only [gX12_lifeOn_4, hp, Option.bind_some, ln364, gd_t ib0, z0, h.2.1, if_pos (show nI n ≤ nI n from nI_le (Nat.le_refl _) (by omega))]
end MFQ
