/-! the model's fight: who is next, who is hit -/
section MFR
variable {μ : Mem} {n f : Nat}
theorem nI_m1 {b : Nat} (h : b < 2 ^ 31) : ¬ nI b = -1 := fun e => nI_pos h (by rw [e]; decide)
theorem noI_m1 {x : Option Nat} (h : ∀ f, x = some f → f < 2 ^ 31) : noI x = -1 ↔ x = none := by
  cases x with
  | none => exact ⟨fun _ => rfl, fun _ => rfl⟩
  | some f => exact ⟨fun e => absurd e (nI_m1 (h f rfl)), fun e => by cases e⟩
theorem m_ticksFor (hp : ldP μ 362 13 = some 364) (h : okN n (ldI μ 364)) (hf : f < n) : fX12_ticksFor 362 (nI f) μ = some (sp_tk (ldI μ 364) f) := by
  have hn := h.le
  unfold fX12_ticksFor
  rw [hp, Option.bind_some, ln364, gd_t ib1, m_of4 hp (by omega), Option.bind_some, nm_b, z1, m_of1 hp (by omega), Option.bind_some]
  obtain ⟨g, g1, g2, g3⟩ := h.gau hf
  obtain ⟨v, v1, v2, v3⟩ := h.whl
  obtain ⟨s, s1, s2, s3⟩ := h.spd hf
  unfold sp_tk
  rw [g3, v3, s3]
  by_cases e : v ≤ g
  · rw [if_pos (nI_le e (by omega))]
    by_cases e2 : v = g
    · subst e2
      rw [pk_sub (Nat.le_refl _), Nat.sub_self, if_neg (by decide)]
    · rw [if_neg (fun e3 => by
        have := pk_sneg (a := v) (b := g) (by omega) (by omega)
        rw [i32_lt] at this e3
        omega)]
  · rw [if_neg (nI_ge (by omega) (by omega)), pk_sub (by omega), if_pos (show (0 : Int32) < nI (v - g) from nI_lt (a := 0) (by omega) (by omega)), Option.bind_some, gd_t (by
      simp only [nz, Bool.not_eq_true', decide_eq_false_iff_not]
      exact nI_ne0 s1 (by omega))]
theorem m_withExtra (hp : ldP μ 362 13 = some 364) (h : okN n (ldI μ 364)) : fX12_withExtra 362 μ = some (noI (sp_fx (ldI μ 364))) := by
  have hn := h.le
  have he : sp_fx (ldI μ 364) = sp_first (fx_c (ldI μ 364)) n := first_ext 8 hn (fun f h1 h2 => by
    unfold fx_c; rw [decide_eq_false (h.dead f h1 h2), Bool.false_and])
  rw [he]
  unfold fX12_withExtra fX12_withExtra_2
  refine zl1_for (N := n) (I := fun j => sp_first (fx_c (ldI μ 364)) j = none) (Qr := fun r => r = some (noI (sp_first (fx_c (ldI μ 364)) n))) (by omega) rfl (fun j self hj hI => ?_) (fun self hI => ?_)
  · have hj8 : j < 8 := by omega
    simp only [gX12_withExtra_2, hp, Option.bind_some, ln364, gd_t ib0, z0, h.2.1, if_neg (jn hj hn), m_lives hp hj8, m_of6 hp hj8, nm_b, nI_1, le0]
    by_cases e : lvN (ldI μ 364) j
    · rw [if_pos e, if_neg one0]
      by_cases e2 : 0 < ldI μ 364 (4 + 12 * j + 6)
      · have h3 : sp_first (fx_c (ldI μ 364)) (j + 1) = some j := by simp only [sp_first, hI, fx_c, decide_eq_true e, decide_eq_true e2, Bool.and_self, if_true]
        refine Or.inr ?_
        rw [if_neg (fun h => h e2), first_stay h3 (show j + 1 ≤ n by omega)]
        rfl
      · exact Or.inl ⟨by rw [if_pos e2], by simp only [sp_first, hI, fx_c, decide_eq_false e2, Bool.and_false]; rfl⟩
    · rw [if_neg e, if_pos rfl]
      exact Or.inl ⟨rfl, by simp only [sp_first, hI, fx_c, decide_eq_false e, Bool.false_and]; rfl⟩
  · simp only [gX12_withExtra_2, hp, Option.bind_some, ln364, gd_t ib0, z0, h.2.1, if_pos (show nI n ≤ nI n from nI_le (Nat.le_refl _) (by omega)), hI]
    rfl
theorem m_isAhead (hp : ldP μ 362 13 = some 364) (h : okN n (ldI μ 364)) {a b : Nat} (ha : a < n) (hb : b < n) : fX12_isAhead 362 (nI a) (nI b) μ = some (if rd_t (ldI μ 364) a b = true then 1 else 0) := by
  have hn := h.le
  unfold fX12_isAhead
  rw [if_neg (nI_m1 (by omega)), m_of4 hp (by omega), Option.bind_some, m_of4 hp (by omega), Option.bind_some, nm_b, m_of3 hp (by omega), Option.bind_some, m_of3 hp (by omega), Option.bind_some]
  obtain ⟨x, x1, x2, x3⟩ := h.gau ha
  obtain ⟨y, y1, y2, y3⟩ := h.gau hb
  unfold rd_t
  rw [x3, y3]
  by_cases e1 : y < x
  · rw [pk_sub (by omega), if_pos (show (0 : Int32) < nI (x - y) from nI_lt (a := 0) (by omega) (by omega)), decide_eq_true (nI_lt e1 (by omega))]; rfl
  · rw [decide_eq_false (nI_nlt (by omega) (by omega)), Bool.false_or]
    by_cases e2 : x = y
    · subst e2
      rw [pk_sub (Nat.le_refl _), Nat.sub_self, if_neg (by decide), if_pos (by decide), decide_eq_true rfl, Bool.true_and]
      by_cases e3 : ldI μ 364 (4 + 12 * b + 3) < ldI μ 364 (4 + 12 * a + 3)
      · rw [if_neg (i32_nle.mpr e3), decide_eq_true e3]; rfl
      · rw [if_pos (i32_nlt.mp e3), decide_eq_false e3]; rfl
    · have h3 := pk_sneg (a := x) (b := y) (by omega) (by omega)
      rw [if_neg (fun e3 => by rw [i32_lt] at h3 e3; omega), if_neg (fun e3 => by rw [e3] at h3; exact absurd h3 (by decide)), decide_eq_false (fun e3 => e2 ((nI_eq (by omega) (by omega)).mp e3)), Bool.false_and]
      rfl
theorem m_ready (hp : ldP μ 362 13 = some 364) (h : okN n (ldI μ 364)) : fX12_ready 362 μ = some (noI (sp_rd (ldI μ 364))) := by
  have hn := h.le
  have he : sp_rd (ldI μ 364) = sp_best (rd_c (ldI μ 364)) (rd_t (ldI μ 364)) n := best_ext 8 hn (fun f h1 h2 => by
    unfold rd_c; rw [decide_eq_false (h.dead f h1 h2), Bool.false_and])
  rw [he]
  unfold fX12_ready fX12_ready_4
  refine zl2_for (N := n) (I := fun j a => a = noI (sp_best (rd_c (ldI μ 364)) (rd_t (ldI μ 364)) j)) (Qr := fun r => r = some (noI (sp_best (rd_c (ldI μ 364)) (rd_t (ldI μ 364)) n))) (by omega) rfl (fun j a self hj hI => ?_) (fun a self hI => ?_)
  · subst hI
    have hj8 : j < 8 := by omega
    simp only [gX12_ready_4, hp, Option.bind_some, ln364, gd_t ib0, gd_t ib1, z0, z1, h.2.1, if_neg (jn hj hn), m_lives hp hj8, m_of4 hp hj8, nm_b, nI_1]
    by_cases e : lvN (ldI μ 364) j
    · rw [if_pos e, if_neg one0]
      by_cases e2 : ldI μ 364 (4 + 12 * j + 4) < ldI μ 364 1
      · have h3 : rd_c (ldI μ 364) j = false := by simp only [rd_c, decide_eq_false (fun h => i32_nlt.mpr h e2), Bool.and_false]
        exact Or.inl ⟨_, by rw [if_pos e2], by simp only [sp_best, h3, Bool.false_and]; rfl⟩
      · have h3 : rd_c (ldI μ 364) j = true := by simp only [rd_c, decide_eq_true e, decide_eq_true (i32_nlt.mp e2), Bool.and_self]
        rw [if_neg e2]
        cases hb : sp_best (rd_c (ldI μ 364)) (rd_t (ldI μ 364)) j with
        | none =>
          rw [show fX12_isAhead 362 (nI j) (noI none) μ = some 1 from if_pos rfl, Option.bind_some, if_neg one0]
          exact Or.inl ⟨_, rfl, by simp only [sp_best, h3, hb, Bool.and_self, if_true]; rfl⟩
        | some b =>
          have hbn : b < n := by have := (best_lt hb).1; omega
          rw [show fX12_isAhead 362 (nI j) (noI (some b)) μ = _ from m_isAhead hp h hj hbn, Option.bind_some]
          by_cases e3 : rd_t (ldI μ 364) j b = true
          · rw [if_pos e3, if_neg one0]
            exact Or.inl ⟨_, rfl, by simp only [sp_best, h3, hb, e3, Bool.and_self, if_true]; rfl⟩
          · rw [if_neg e3, if_pos rfl]
            exact Or.inl ⟨_, rfl, by simp only [sp_best, h3, hb, Bool.not_eq_true _ ▸ e3, Bool.and_false]; rfl⟩
    · rw [if_neg e, if_pos rfl]
      have h3 : rd_c (ldI μ 364) j = false := by simp only [rd_c, decide_eq_false e, Bool.false_and]
      exact Or.inl ⟨_, rfl, by simp only [sp_best, h3, Bool.false_and]; rfl⟩
  · subst hI
    simp only [gX12_ready_4, hp, Option.bind_some, ln364, gd_t ib0, z0, h.2.1, if_pos (show nI n ≤ nI n from nI_le (Nat.le_refl _) (by omega))]
theorem m_leastTicks (hp : ldP μ 362 13 = some 364) (h : okN n (ldI μ 364)) (hl : ∃ f, f < 8 ∧ lvN (ldI μ 364) f) : fX12_leastTicks 362 μ = some (sp_lt (ldI μ 364) 8) := by
  have hn := h.le
  rw [lt_ext 8 hn h.dead]
  unfold fX12_leastTicks fX12_leastTicks_4
  refine zl2_for (N := n) (I := fun j a => (a = -1 ∧ sp_lt (ldI μ 364) j = 999 ∧ ∀ f, f < j → ¬ lvN (ldI μ 364) f) ∨ (a = sp_lt (ldI μ 364) j ∧ ¬ a = -1)) (Qr := fun r => r = some (sp_lt (ldI μ 364) n)) (by omega) (Or.inl ⟨rfl, rfl, fun f hf => absurd hf (Nat.not_lt_zero _)⟩) (fun j a self hj hI => ?_) (fun a self hI => ?_)
  · have hj8 : j < 8 := by omega
    simp only [gX12_leastTicks_4, hp, Option.bind_some, ln364, gd_t ib0, z0, h.2.1, if_neg (jn hj hn), m_lives hp hj8, m_ticksFor hp h hj, nm_b, nI_1]
    by_cases e : lvN (ldI μ 364) j
    · rw [if_pos e, if_neg one0]
      obtain ⟨T, t1, t2, -⟩ := h.tk hj
      rcases hI with ⟨i1, i2, i3⟩ | ⟨i1, i2⟩
      · rw [if_pos i1]
        refine Or.inl ⟨_, rfl, Or.inr ⟨?_, by rw [t2]; exact nI_m1 (by omega)⟩⟩
        rw [sp_lt, if_pos e, i2, t2, show (999 : Int32) = nI 999 from rfl, jmin_nI (by omega) (by omega), Nat.min_eq_right t1]
      · rw [if_neg i2]
        by_cases e2 : a ≤ sp_tk (ldI μ 364) j
        · rw [if_pos e2]
          refine Or.inl ⟨_, rfl, Or.inr ⟨?_, i2⟩⟩
          rw [sp_lt, if_pos e, ← i1]; unfold jmin; rw [if_neg (i32_nlt.mpr e2)]
        · rw [if_neg e2]
          refine Or.inl ⟨_, rfl, Or.inr ⟨?_, by rw [t2]; exact nI_m1 (by omega)⟩⟩
          rw [sp_lt, if_pos e, ← i1]; unfold jmin; rw [if_pos (i32_nle.mp e2)]
    · rw [if_neg e, if_pos rfl]
      refine Or.inl ⟨_, rfl, ?_⟩
      rw [sp_lt, if_neg e]
      rcases hI with ⟨i1, i2, i3⟩ | hI
      · refine Or.inl ⟨i1, i2, fun f hf => ?_⟩
        by_cases e3 : f = j
        · subst e3; exact e
        · exact i3 f (by omega)
      · exact Or.inr hI
  · simp only [gX12_leastTicks_4, hp, Option.bind_some, ln364, gd_t ib0, z0, h.2.1, if_pos (show nI n ≤ nI n from nI_le (Nat.le_refl _) (by omega))]
    rcases hI with ⟨i1, i2, i3⟩ | ⟨i1, i2⟩
    · obtain ⟨f, f1, f2⟩ := hl
      exact absurd f2 (i3 f (h.liv f1 f2))
    · rw [i1]
theorem m_weakest (hp : ldP μ 362 13 = some 364) (h : okN n (ldI μ 364)) (sd : Int32) : fX12_weakest 362 sd μ = some (noI (sp_weak (ldI μ 364) sd)) := by
  have hn := h.le
  have he : sp_weak (ldI μ 364) sd = sp_best (sd_c (ldI μ 364) sd) (fun f b => decide (ldI μ 364 (4 + 12 * f + 2) < ldI μ 364 (4 + 12 * b + 2))) n := best_ext 8 hn (fun f h1 h2 => by
    unfold sd_c; rw [decide_eq_false (h.dead f h1 h2), Bool.false_and])
  rw [he]
  unfold fX12_weakest fX12_weakest_4
  refine zl2_for (N := n) (I := fun j a => a = noI (sp_best (sd_c (ldI μ 364) sd) (fun f b => decide (ldI μ 364 (4 + 12 * f + 2) < ldI μ 364 (4 + 12 * b + 2))) j)) (Qr := fun r => r = some (noI (sp_best (sd_c (ldI μ 364) sd) (fun f b => decide (ldI μ 364 (4 + 12 * f + 2) < ldI μ 364 (4 + 12 * b + 2))) n))) (by omega) rfl (fun j a self hj hI => ?_) (fun a self hI => ?_)
  · subst hI
    have hj8 : j < 8 := by omega
    simp only [gX12_weakest_4, hp, Option.bind_some, ln364, gd_t ib0, z0, h.2.1, if_neg (jn hj hn), m_lives hp hj8, m_of0 hp hj8, m_of2 hp hj8, nm_b, nI_1]
    by_cases e : lvN (ldI μ 364) j
    · rw [if_pos e, if_neg one0]
      by_cases e2 : ldI μ 364 (4 + 12 * j) = sd
      · have h3 : sd_c (ldI μ 364) sd j = true := by simp only [sd_c, decide_eq_true e, decide_eq_true e2, Bool.and_self]
        rw [if_pos e2]
        cases hb : sp_best (sd_c (ldI μ 364) sd) (fun f b => decide (ldI μ 364 (4 + 12 * f + 2) < ldI μ 364 (4 + 12 * b + 2))) j with
        | none =>
          rw [if_pos (show noI none = -1 from rfl)]
          exact Or.inl ⟨_, rfl, by simp only [sp_best, h3, hb, Bool.and_self, if_true]; rfl⟩
        | some b =>
          have hb8 : b < 8 := by have := (best_lt hb).1; omega
          rw [if_neg (show ¬ noI (some b) = -1 from nI_m1 (by omega)), show fX12_of 362 (noI (some b)) 2 μ = _ from m_of2 hp hb8, Option.bind_some]
          by_cases e3 : ldI μ 364 (4 + 12 * b + 2) ≤ ldI μ 364 (4 + 12 * j + 2)
          · exact Or.inl ⟨_, by rw [if_pos e3], by simp only [sp_best, h3, hb, decide_eq_false (i32_nlt.mpr e3), Bool.and_false]; rfl⟩
          · exact Or.inl ⟨_, by rw [if_neg e3], by simp only [sp_best, h3, hb, decide_eq_true (i32_nle.mp e3), Bool.and_self, if_true]; rfl⟩
      · have h3 : sd_c (ldI μ 364) sd j = false := by simp only [sd_c, decide_eq_false e2, Bool.and_false]
        exact Or.inl ⟨_, by rw [if_neg e2], by simp only [sp_best, h3, Bool.false_and]; rfl⟩
    · rw [if_neg e, if_pos rfl]
      have h3 : sd_c (ldI μ 364) sd j = false := by simp only [sd_c, decide_eq_false e, Bool.false_and]
      exact Or.inl ⟨_, rfl, by simp only [sp_best, h3, Bool.false_and]; rfl⟩
  · subst hI
    simp only [gX12_weakest_4, hp, Option.bind_some, ln364, gd_t ib0, z0, h.2.1, if_pos (show nI n ≤ nI n from nI_le (Nat.le_refl _) (by omega))]
theorem m_fullest (hp : ldP μ 362 13 = some 364) (h : okN n (ldI μ 364)) (sd : Int32) : fX12_fullest 362 sd μ = some (noI (sp_full (ldI μ 364) sd)) := by
  have hn := h.le
  have he : sp_full (ldI μ 364) sd = sp_best (sd_c (ldI μ 364) sd) (fun f b => decide (ldI μ 364 (4 + 12 * b + 4) < ldI μ 364 (4 + 12 * f + 4))) n := best_ext 8 hn (fun f h1 h2 => by
    unfold sd_c; rw [decide_eq_false (h.dead f h1 h2), Bool.false_and])
  rw [he]
  unfold fX12_fullest fX12_fullest_4
  refine zl2_for (N := n) (I := fun j a => a = noI (sp_best (sd_c (ldI μ 364) sd) (fun f b => decide (ldI μ 364 (4 + 12 * b + 4) < ldI μ 364 (4 + 12 * f + 4))) j)) (Qr := fun r => r = some (noI (sp_best (sd_c (ldI μ 364) sd) (fun f b => decide (ldI μ 364 (4 + 12 * b + 4) < ldI μ 364 (4 + 12 * f + 4))) n))) (by omega) rfl (fun j a self hj hI => ?_) (fun a self hI => ?_)
  · subst hI
    have hj8 : j < 8 := by omega
    simp only [gX12_fullest_4, hp, Option.bind_some, ln364, gd_t ib0, z0, h.2.1, if_neg (jn hj hn), m_lives hp hj8, m_of0 hp hj8, m_of4 hp hj8, nm_b, nI_1]
    by_cases e : lvN (ldI μ 364) j
    · rw [if_pos e, if_neg one0]
      by_cases e2 : ldI μ 364 (4 + 12 * j) = sd
      · have h3 : sd_c (ldI μ 364) sd j = true := by simp only [sd_c, decide_eq_true e, decide_eq_true e2, Bool.and_self]
        rw [if_pos e2]
        cases hb : sp_best (sd_c (ldI μ 364) sd) (fun f b => decide (ldI μ 364 (4 + 12 * b + 4) < ldI μ 364 (4 + 12 * f + 4))) j with
        | none =>
          rw [if_pos (show noI none = -1 from rfl)]
          exact Or.inl ⟨_, rfl, by simp only [sp_best, h3, hb, Bool.and_self, if_true]; rfl⟩
        | some b =>
          have hb8 : b < 8 := by have := (best_lt hb).1; omega
          rw [if_neg (show ¬ noI (some b) = -1 from nI_m1 (by omega)), show fX12_of 362 (noI (some b)) 4 μ = _ from m_of4 hp hb8, Option.bind_some]
          by_cases e3 : ldI μ 364 (4 + 12 * j + 4) ≤ ldI μ 364 (4 + 12 * b + 4)
          · exact Or.inl ⟨_, by rw [if_pos e3], by simp only [sp_best, h3, hb, decide_eq_false (i32_nlt.mpr e3), Bool.and_false]; rfl⟩
          · exact Or.inl ⟨_, by rw [if_neg e3], by simp only [sp_best, h3, hb, decide_eq_true (i32_nle.mp e3), Bool.and_self, if_true]; rfl⟩
      · have h3 : sd_c (ldI μ 364) sd j = false := by simp only [sd_c, decide_eq_false e2, Bool.and_false]
        exact Or.inl ⟨_, by rw [if_neg e2], by simp only [sp_best, h3, Bool.false_and]; rfl⟩
    · rw [if_neg e, if_pos rfl]
      have h3 : sd_c (ldI μ 364) sd j = false := by simp only [sd_c, decide_eq_false e, Bool.false_and]
      exact Or.inl ⟨_, rfl, by simp only [sp_best, h3, Bool.false_and]; rfl⟩
  · subst hI
    simp only [gX12_fullest_4, hp, Option.bind_some, ln364, gd_t ib0, z0, h.2.1, if_pos (show nI n ≤ nI n from nI_le (Nat.le_refl _) (by omega))]
theorem m_emptiest (hp : ldP μ 362 13 = some 364) (h : okN n (ldI μ 364)) {w : Nat} (hw : w < n) : fX12_emptiestBeside 362 (nI w) μ = some (noI (sp_lift (ldI μ 364) w)) := by
  have hn := h.le
  have hw8 : w < 8 := by omega
  have he : sp_lift (ldI μ 364) w = sp_best (fun f => decide (f ≠ w) && sd_c (ldI μ 364) (ldI μ 364 (4 + 12 * w)) f) (fun f b => decide (ldI μ 364 (4 + 12 * f + 4) < ldI μ 364 (4 + 12 * b + 4))) n := best_ext 8 hn (fun f h1 h2 => by
    unfold sd_c; rw [decide_eq_false (h.dead f h1 h2), Bool.false_and, Bool.and_false])
  rw [he]
  unfold fX12_emptiestBeside fX12_emptiestBeside_4
  refine zl2_for (N := n) (I := fun j a => a = noI (sp_best (fun f => decide (f ≠ w) && sd_c (ldI μ 364) (ldI μ 364 (4 + 12 * w)) f) (fun f b => decide (ldI μ 364 (4 + 12 * f + 4) < ldI μ 364 (4 + 12 * b + 4))) j)) (Qr := fun r => r = some (noI (sp_best (fun f => decide (f ≠ w) && sd_c (ldI μ 364) (ldI μ 364 (4 + 12 * w)) f) (fun f b => decide (ldI μ 364 (4 + 12 * f + 4) < ldI μ 364 (4 + 12 * b + 4))) n))) (by omega) rfl (fun j a self hj hI => ?_) (fun a self hI => ?_)
  · subst hI
    have hj8 : j < 8 := by omega
    simp only [gX12_emptiestBeside_4, hp, Option.bind_some, ln364, gd_t ib0, z0, h.2.1, if_neg (jn hj hn), m_lives hp hj8, m_of0 hp hj8, m_of0 hp hw8, m_of4 hp hj8, nm_b, nI_1]
    by_cases e0 : j = w
    · have h3 : (decide (j ≠ w) && sd_c (ldI μ 364) (ldI μ 364 (4 + 12 * w)) j) = false := by rw [decide_eq_false (fun h => h e0), Bool.false_and]
      exact Or.inl ⟨_, by rw [if_pos (by rw [e0])], by simp only [sp_best, h3, Bool.false_and]; rfl⟩
    · rw [if_neg (fun e => e0 ((nI_eq (by omega) (by omega)).mp e))]
      by_cases e : lvN (ldI μ 364) j
      · rw [if_pos e, if_neg one0]
        by_cases e2 : ldI μ 364 (4 + 12 * j) = ldI μ 364 (4 + 12 * w)
        · have h3 : (decide (j ≠ w) && sd_c (ldI μ 364) (ldI μ 364 (4 + 12 * w)) j) = true := by simp only [sd_c, decide_eq_true (show j ≠ w from e0), decide_eq_true e, decide_eq_true e2, Bool.and_self]
          rw [if_pos e2]
          cases hb : sp_best (fun f => decide (f ≠ w) && sd_c (ldI μ 364) (ldI μ 364 (4 + 12 * w)) f) (fun f b => decide (ldI μ 364 (4 + 12 * f + 4) < ldI μ 364 (4 + 12 * b + 4))) j with
          | none =>
            rw [if_pos (show noI none = -1 from rfl)]
            exact Or.inl ⟨_, rfl, by simp only [sp_best, h3, hb, Bool.and_self, if_true]; rfl⟩
          | some b =>
            have hb8 : b < 8 := by have := (best_lt hb).1; omega
            rw [if_neg (show ¬ noI (some b) = -1 from nI_m1 (by omega)), show fX12_of 362 (noI (some b)) 4 μ = _ from m_of4 hp hb8, Option.bind_some]
            by_cases e3 : ldI μ 364 (4 + 12 * b + 4) ≤ ldI μ 364 (4 + 12 * j + 4)
            · exact Or.inl ⟨_, by rw [if_pos e3], by simp only [sp_best, h3, hb, decide_eq_false (i32_nlt.mpr e3), Bool.and_false]; rfl⟩
            · exact Or.inl ⟨_, by rw [if_neg e3], by simp only [sp_best, h3, hb, decide_eq_true (i32_nle.mp e3), Bool.and_self, if_true]; rfl⟩
        · have h3 : (decide (j ≠ w) && sd_c (ldI μ 364) (ldI μ 364 (4 + 12 * w)) j) = false := by simp only [sd_c, decide_eq_false e2, Bool.and_false]
          exact Or.inl ⟨_, by rw [if_neg e2], by simp only [sp_best, h3, Bool.false_and]; rfl⟩
      · rw [if_neg e, if_pos rfl]
        have h3 : (decide (j ≠ w) && sd_c (ldI μ 364) (ldI μ 364 (4 + 12 * w)) j) = false := by simp only [sd_c, decide_eq_false e, Bool.false_and, Bool.and_false]
        exact Or.inl ⟨_, rfl, by simp only [sp_best, h3, Bool.false_and]; rfl⟩
  · subst hI
    simp only [gX12_emptiestBeside_4, hp, Option.bind_some, ln364, gd_t ib0, z0, h.2.1, if_pos (show nI n ≤ nI n from nI_le (Nat.le_refl _) (by omega))]
end MFR
