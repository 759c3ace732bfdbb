/-! the class's Fight: its questions -/
section CFQ
variable {μ : Mem} {o : Nat} {σ : Sg} {ν : Nat → Int64}
theorem n8 {j : Nat} (hj : j < 8) : ¬ nI 8 ≤ nI j := nI_ge hj (by decide)
theorem FR.inb (h : FR μ o σ ν) {j : Nat} (hj : j < 8) : inB (nI j) (Ln (o + 1)) = true := by rw [h.ln8]; exact inB_nI hj (by decide)
theorem cl8 {j : Nat} (hj : j < 8) : (nI j).toNatClampNeg = j := nI_clamp (by omega)
theorem le0 {x : Int32} : x ≤ 0 ↔ ¬ 0 < x := by rw [i32_lt, i32_le]; omega
theorem c_lives (h : FR μ o σ ν) (sd : Int32) : fX2_lives o sd μ = some (if sp_any σ sd 8 = true then 1 else 0) := by
  unfold fX2_lives fX2_lives_11
  rw [h.p0, Option.bind_some, nm_b, h.ln]
  refine zl1_for (N := 8) (I := fun j => sp_any σ sd j = false) (Qr := fun r => r = some (if sp_any σ sd 8 = true then 1 else 0)) (by decide) rfl (fun j self hj hI => ?_) (fun self hI => ?_)
  · simp only [gX2_lives_11, if_neg (n8 hj), gd_t (h.inb hj), cl8 hj, h.pf hj, Option.bind_some, nm_b, nI_1, h.lif hj, h.sid hj, le0]
    have h8 : ∀ k, j < k → sp_any σ sd (j + 1) = true → sp_any σ sd k = true := by
      intro k hk h1
      induction k with
      | zero => omega
      | succ k ih =>
        by_cases e : k = j
        · subst e; exact h1
        · simp only [sp_any, ih (by omega), Bool.true_or]
    by_cases h1 : 0 < σ (4 + 12 * j + 2)
    · by_cases h2 : σ (4 + 12 * j) = sd
      · refine Or.inr ?_
        rw [if_neg (fun h => h h1), if_pos h2, h8 8 hj (by simp only [sp_any, lvN, decide_eq_true h1, decide_eq_true h2, Bool.and_true, Bool.or_true]), if_pos rfl]
      · refine Or.inl ⟨by rw [if_neg (fun h => h h1), if_neg h2], ?_⟩
        simp only [sp_any, hI, decide_eq_false h2, Bool.and_false, Bool.or_false]
    · refine Or.inl ⟨by rw [if_pos h1], ?_⟩
      simp only [sp_any, hI, lvN, decide_eq_false h1, Bool.false_and, Bool.or_false]
  · simp only [gX2_lives_11, if_pos (show nI 8 ≤ nI 8 from nI_le (Nat.le_refl _) (by decide)), hI]
    rfl
theorem c_over (h : FR μ o σ ν) : fX2_over o μ = some (if sp_over σ = true then 1 else 0) := by
  unfold fX2_over
  simp only [c_lives h, Option.bind_some, sp_over]
  by_cases h0 : sp_any σ 0 8 = true <;> by_cases h1 : sp_any σ 1 8 = true <;> simp [h0, h1]
theorem c_wonBy (h : FR μ o σ ν) : fX2_wonBy o μ = some (sp_won σ) := by
  unfold fX2_wonBy
  simp only [c_lives h, Option.bind_some, sp_won]
  by_cases h0 : sp_any σ 0 8 = true <;> by_cases h1 : sp_any σ 1 8 = true <;> simp [h0, h1]
theorem c_living (h : FR μ o σ ν) : fX2_living o μ = some (sp_cnt σ 8) := by
  unfold fX2_living fX2_living_13
  rw [h.p0, Option.bind_some, nm_b, h.ln]
  refine zl2_for (N := 8) (I := fun j a => a = sp_cnt σ j) (Qr := fun r => r = some (sp_cnt σ 8)) (by decide) rfl (fun j a self hj hI => ?_) (fun a self hI => ?_)
  · subst hI
    simp only [gX2_living_13, if_neg (n8 hj), gd_t (h.inb hj), cl8 hj, h.pf hj, Option.bind_some, nm_b, nI_1, h.lif hj, le0]
    by_cases h1 : 0 < σ (4 + 12 * j + 2)
    · exact Or.inl ⟨_, by rw [if_neg (fun h => h h1)], by simp only [sp_cnt, lvN, if_pos h1]⟩
    · exact Or.inl ⟨_, by rw [if_pos h1], by simp only [sp_cnt, lvN, if_neg h1]⟩
  · subst hI
    simp only [gX2_living_13, if_pos (show nI 8 ≤ nI 8 from nI_le (Nat.le_refl _) (by decide))]
theorem c_speeds (h : FR μ o σ ν) : fX2_speedOfLiving o μ = some (sp_spd σ 8) := by
  unfold fX2_speedOfLiving fX2_speedOfLiving_13
  rw [h.p0, Option.bind_some, nm_b, h.ln]
  refine zl2_for (N := 8) (I := fun j a => a = sp_spd σ j) (Qr := fun r => r = some (sp_spd σ 8)) (by decide) rfl (fun j a self hj hI => ?_) (fun a self hI => ?_)
  · subst hI
    simp only [gX2_speedOfLiving_13, if_neg (n8 hj), gd_t (h.inb hj), cl8 hj, h.pf hj, Option.bind_some, nm_b, nI_1, h.lif hj, h.spd hj, le0]
    by_cases h1 : 0 < σ (4 + 12 * j + 2)
    · exact Or.inl ⟨_, by rw [if_neg (fun h => h h1)], by simp only [sp_spd, lvN, if_pos h1]⟩
    · exact Or.inl ⟨_, by rw [if_pos h1], by simp only [sp_spd, lvN, if_neg h1]⟩
  · subst hI
    simp only [gX2_speedOfLiving_13, if_pos (show nI 8 ≤ nI 8 from nI_le (Nat.le_refl _) (by decide))]
theorem c_sideLife (h : FR μ o σ ν) (sd : Int32) : fX2_sideLife o sd μ = some (sp_sl σ sd 8) := by
  unfold fX2_sideLife fX2_sideLife_14
  rw [h.p0, Option.bind_some, nm_b, h.ln]
  refine zl2_for (N := 8) (I := fun j a => a = sp_sl σ sd j) (Qr := fun r => r = some (sp_sl σ sd 8)) (by decide) rfl (fun j a self hj hI => ?_) (fun a self hI => ?_)
  · subst hI
    simp only [gX2_sideLife_14, if_neg (n8 hj), gd_t (h.inb hj), cl8 hj, h.pf hj, Option.bind_some, nm_b, nI_1, h.lif hj, h.sid hj]
    by_cases h1 : σ (4 + 12 * j) = sd
    · exact Or.inl ⟨_, by rw [if_pos h1], by simp only [sp_sl, if_pos h1]⟩
    · exact Or.inl ⟨_, by rw [if_neg h1], by simp only [sp_sl, if_neg h1]⟩
  · subst hI
    simp only [gX2_sideLife_14, if_pos (show nI 8 ≤ nI 8 from nI_le (Nat.le_refl _) (by decide))]
/-- the object of a fighter, or nobody's -/
def ob (o : Nat) : Option Nat → Nat
  | none => o + 2
  | some f => o + 5 + 3 * f
theorem ob_ne {o f : Nat} : ¬ o + 5 + 3 * f = o + 2 := by omega
theorem first_lt {c : Nat → Bool} : ∀ {n f : Nat}, sp_first c n = some f → f < n ∧ c f = true := by
  intro n
  induction n with
  | zero => intro f h; cases h
  | succ n ih =>
    intro f h
    simp only [sp_first] at h
    cases hf : sp_first c n with
    | some g => rw [hf] at h; cases h; exact ⟨by have := (ih hf).1; omega, (ih hf).2⟩
    | none =>
      rw [hf] at h
      by_cases hc : c n = true
      · simp only [hc, if_true] at h; cases h; exact ⟨by omega, hc⟩
      · simp only [hc] at h; cases h
theorem first_stay {c : Nat → Bool} {j f : Nat} (h : sp_first c j = some f) : ∀ {n : Nat}, j ≤ n → sp_first c n = some f := by
  intro n
  induction n with
  | zero => intro hj; have : j = 0 := by omega
            subst this; exact h
  | succ n ih =>
    intro hj
    by_cases e : j = n + 1
    · subst e; exact h
    · simp only [sp_first, ih (by omega)]
theorem best_lt {c : Nat → Bool} {t : Nat → Nat → Bool} : ∀ {n f : Nat}, sp_best c t n = some f → f < n ∧ c f = true := by
  intro n
  induction n with
  | zero => intro f h; cases h
  | succ n ih =>
    intro f h
    unfold sp_best at h
    generalize hq : (c n && (match sp_best c t n with
      | none => true
      | some b => t n b)) = q at h
    cases q with
    | true =>
      rw [if_pos rfl] at h
      cases h
      exact ⟨by omega, by rw [Bool.and_eq_true] at hq; exact hq.1⟩
    | false =>
      rw [if_neg (by decide)] at h
      have := ih h
      exact ⟨by omega, this.2⟩
theorem c_firstX (h : FR μ o σ ν) : fX2_firstWithExtra o μ = some (ob o (sp_fx σ)) := by
  unfold fX2_firstWithExtra fX2_firstWithExtra_10
  rw [h.p0, Option.bind_some, nm_b, h.ln]
  refine zl1_for (N := 8) (I := fun j => sp_first (fx_c σ) j = none) (Qr := fun r => r = some (ob o (sp_fx σ))) (by decide) rfl (fun j self hj hI => ?_) (fun self hI => ?_)
  · simp only [gX2_firstWithExtra_10, if_neg (n8 hj), gd_t (h.inb hj), cl8 hj, h.pf hj, Option.bind_some, nm_b, nI_1, h.lif hj, h.ext hj, le0]
    by_cases h1 : 0 < σ (4 + 12 * j + 2)
    · by_cases h2 : 0 < σ (4 + 12 * j + 6)
      · refine Or.inr ?_
        have h3 : sp_first (fx_c σ) (j + 1) = some j := by simp only [sp_first, hI, fx_c, lvN, decide_eq_true h1, decide_eq_true h2, Bool.and_self, if_true]
        rw [if_neg (fun h => h h1), if_neg (fun h => h h2), show sp_fx σ = some j from first_stay h3 (by omega)]
        rfl
      · exact Or.inl ⟨by rw [if_neg (fun h => h h1), if_pos h2], by simp only [sp_first, hI, fx_c, decide_eq_false h2, Bool.and_false]; rfl⟩
    · exact Or.inl ⟨by rw [if_pos h1], by simp only [sp_first, hI, fx_c, lvN, decide_eq_false h1, Bool.false_and]; rfl⟩
  · simp only [gX2_firstWithExtra_10, if_pos (show nI 8 ≤ nI 8 from nI_le (Nat.le_refl _) (by decide)), h.p1, Option.bind_some, sp_fx, hI]
    rfl
theorem c_ticksLeft (h : FR μ o σ ν) {f : Nat} (hf : f < 8) (hsp : 1 ≤ σ (4 + 12 * f + 1)) : fX3_ticksLeft (o + 5 + 3 * f) (σ 1) μ = some (sp_tk σ f) := by
  unfold fX3_ticksLeft
  simp only [h.gau hf, h.spd hf, sp_tk]
  by_cases h1 : σ 1 ≤ σ (4 + 12 * f + 4)
  · rw [if_pos h1, if_pos h1]
  · have h2 : nz (σ (4 + 12 * f + 1)) = true := by
      simp only [nz, Bool.not_eq_true', decide_eq_false_iff_not]
      intro e; rw [e] at hsp; exact absurd hsp (by decide)
    rw [if_neg h1, if_neg h1, if_pos hsp, gd_t h2]
theorem c_ticksToFirst (h : FR μ o σ ν) (hsp : ∀ f, f < 8 → lvN σ f → 1 ≤ σ (4 + 12 * f + 1)) : fX2_ticksToFirst o μ = some (sp_lt σ 8) := by
  unfold fX2_ticksToFirst fX2_ticksToFirst_15
  rw [h.p0, Option.bind_some, nm_b, h.ln]
  refine zl2_for (N := 8) (I := fun j a => a = sp_lt σ j) (Qr := fun r => r = some (sp_lt σ 8)) (by decide) rfl (fun j a self hj hI => ?_) (fun a self hI => ?_)
  · subst hI
    simp only [gX2_ticksToFirst_15, if_neg (n8 hj), gd_t (h.inb hj), cl8 hj, h.pf hj, Option.bind_some, nm_b, nI_1, h.lif hj, h.whl, le0]
    by_cases h1 : 0 < σ (4 + 12 * j + 2)
    · exact Or.inl ⟨_, by rw [if_neg (fun h => h h1), c_ticksLeft h hj (hsp j hj h1), Option.bind_some], by simp only [sp_lt, lvN, if_pos h1]⟩
    · exact Or.inl ⟨_, by rw [if_pos h1], by simp only [sp_lt, lvN, if_neg h1]⟩
  · subst hI
    simp only [gX2_ticksToFirst_15, if_pos (show nI 8 ≤ nI 8 from nI_le (Nat.le_refl _) (by decide))]
theorem c_firstReady (h : FR μ o σ ν) : fX2_firstReady o μ = some (ob o (sp_rd σ)) := by
  unfold fX2_firstReady fX2_firstReady_16
  rw [h.p1, Option.bind_some, h.p0, Option.bind_some, nm_b, h.ln]
  refine zl2_for (N := 8) (I := fun j a => a = ob o (sp_best (rd_c σ) (rd_t σ) j)) (Qr := fun r => r = some (ob o (sp_rd σ))) (by decide) rfl (fun j a self hj hI => ?_) (fun a self hI => ?_)
  · subst hI
    simp only [gX2_firstReady_16, if_neg (n8 hj), gd_t (h.inb hj), cl8 hj, h.pf hj, Option.bind_some, nm_b, nI_1, h.lif hj, h.gau hj, h.luk hj, h.whl, h.p1, le0]
    by_cases h1 : 0 < σ (4 + 12 * j + 2)
    · rw [if_neg (fun h => h h1)]
      by_cases h2 : σ (4 + 12 * j + 4) < σ 1
      · refine Or.inl ⟨_, by rw [if_pos h2], ?_⟩
        have h3 : rd_c σ j = false := by simp only [rd_c, decide_eq_false (fun h => i32_nlt.mpr h h2), Bool.and_false]
        simp only [sp_best, h3, Bool.false_and]; rfl
      · have h3 : rd_c σ j = true := by simp only [rd_c, lvN, decide_eq_true h1, decide_eq_true (i32_nlt.mp h2), Bool.and_self]
        rw [if_neg h2]
        cases hb : sp_best (rd_c σ) (rd_t σ) j with
        | none =>
          refine Or.inl ⟨_, by rw [if_pos (show ob o none = o + 2 from rfl)], ?_⟩
          simp only [sp_best, h3, hb, Bool.and_self, if_true]; rfl
        | some b =>
          have hb8 : b < 8 := by have := (best_lt hb).1; omega
          simp only [ob, if_neg ob_ne, h.gau hb8, h.luk hb8]
          by_cases h4 : σ (4 + 12 * b + 4) < σ (4 + 12 * j + 4)
          · refine Or.inl ⟨_, by rw [if_pos h4], ?_⟩
            simp only [sp_best, h3, hb, rd_t, decide_eq_true h4, Bool.true_or, Bool.and_self, if_true]
          · rw [if_neg h4]
            by_cases h5 : σ (4 + 12 * j + 4) = σ (4 + 12 * b + 4)
            · rw [if_pos h5]
              by_cases h6 : σ (4 + 12 * j + 3) ≤ σ (4 + 12 * b + 3)
              · refine Or.inl ⟨_, by rw [if_pos h6], ?_⟩
                simp only [sp_best, h3, hb, rd_t, decide_eq_false h4, decide_eq_true h5, decide_eq_false (i32_nlt.mpr h6), Bool.and_false, Bool.or_false]; rfl
              · refine Or.inl ⟨_, by rw [if_neg h6], ?_⟩
                simp only [sp_best, h3, hb, rd_t, decide_eq_true h5, decide_eq_true (i32_nle.mp h6), Bool.and_self, Bool.or_true, if_true]
            · refine Or.inl ⟨_, by rw [if_neg h5], ?_⟩
              simp only [sp_best, h3, hb, rd_t, decide_eq_false h4, decide_eq_false h5, Bool.false_and, Bool.or_false, Bool.and_false]; rfl
    · refine Or.inl ⟨_, by rw [if_pos h1], ?_⟩
      have h3 : rd_c σ j = false := by simp only [rd_c, lvN, decide_eq_false h1, Bool.false_and]
      simp only [sp_best, h3, Bool.false_and]; rfl
  · subst hI
    simp only [gX2_firstReady_16, if_pos (show nI 8 ≤ nI 8 from nI_le (Nat.le_refl _) (by decide))]
    rfl
theorem c_weakest (h : FR μ o σ ν) (sd : Int32) : fX2_weakest o sd μ = some (ob o (sp_weak σ sd)) := by
  unfold fX2_weakest fX2_weakest_17
  rw [h.p1, Option.bind_some, h.p0, Option.bind_some, nm_b, h.ln]
  refine zl2_for (N := 8) (I := fun j a => a = ob o (sp_best (sd_c σ sd) (fun f b => decide (σ (4 + 12 * f + 2) < σ (4 + 12 * b + 2))) j)) (Qr := fun r => r = some (ob o (sp_weak σ sd))) (by decide) rfl (fun j a self hj hI => ?_) (fun a self hI => ?_)
  · subst hI
    simp only [gX2_weakest_17, if_neg (n8 hj), gd_t (h.inb hj), cl8 hj, h.pf hj, Option.bind_some, nm_b, nI_1, h.lif hj, h.sid hj, h.p1, le0]
    by_cases h1 : 0 < σ (4 + 12 * j + 2)
    · rw [if_neg (fun h => h h1)]
      by_cases h2 : σ (4 + 12 * j) = sd
      · have h3 : sd_c σ sd j = true := by simp only [sd_c, lvN, decide_eq_true h1, decide_eq_true h2, Bool.and_self]
        rw [if_pos h2]
        cases hb : sp_best (sd_c σ sd) (fun f b => decide (σ (4 + 12 * f + 2) < σ (4 + 12 * b + 2))) j with
        | none =>
          refine Or.inl ⟨_, by rw [if_pos (show ob o none = o + 2 from rfl)], ?_⟩
          simp only [sp_best, h3, hb, Bool.and_self, if_true]; rfl
        | some b =>
          have hb8 : b < 8 := by have := (best_lt hb).1; omega
          simp only [ob, if_neg ob_ne, h.lif hb8]
          by_cases h4 : σ (4 + 12 * b + 2) ≤ σ (4 + 12 * j + 2)
          · refine Or.inl ⟨_, by rw [if_pos h4], ?_⟩
            simp only [sp_best, h3, hb, decide_eq_false (i32_nlt.mpr h4), Bool.and_false]; rfl
          · refine Or.inl ⟨_, by rw [if_neg h4], ?_⟩
            simp only [sp_best, h3, hb, decide_eq_true (i32_nle.mp h4), Bool.and_self, if_true]
      · refine Or.inl ⟨_, by rw [if_neg h2], ?_⟩
        have h3 : sd_c σ sd j = false := by simp only [sd_c, decide_eq_false h2, Bool.and_false]
        simp only [sp_best, h3, Bool.false_and]; rfl
    · refine Or.inl ⟨_, by rw [if_pos h1], ?_⟩
      have h3 : sd_c σ sd j = false := by simp only [sd_c, lvN, decide_eq_false h1, Bool.false_and]
      simp only [sp_best, h3, Bool.false_and]; rfl
  · subst hI
    simp only [gX2_weakest_17, if_pos (show nI 8 ≤ nI 8 from nI_le (Nat.le_refl _) (by decide))]
    rfl
theorem c_fullest (h : FR μ o σ ν) (sd : Int32) : fX2_fullest o sd μ = some (ob o (sp_full σ sd)) := by
  unfold fX2_fullest fX2_fullest_17
  rw [h.p1, Option.bind_some, h.p0, Option.bind_some, nm_b, h.ln]
  refine zl2_for (N := 8) (I := fun j a => a = ob o (sp_best (sd_c σ sd) (fun f b => decide (σ (4 + 12 * b + 4) < σ (4 + 12 * f + 4))) j)) (Qr := fun r => r = some (ob o (sp_full σ sd))) (by decide) rfl (fun j a self hj hI => ?_) (fun a self hI => ?_)
  · subst hI
    simp only [gX2_fullest_17, if_neg (n8 hj), gd_t (h.inb hj), cl8 hj, h.pf hj, Option.bind_some, nm_b, nI_1, h.lif hj, h.gau hj, h.sid hj, h.p1, le0]
    by_cases h1 : 0 < σ (4 + 12 * j + 2)
    · rw [if_neg (fun h => h h1)]
      by_cases h2 : σ (4 + 12 * j) = sd
      · have h3 : sd_c σ sd j = true := by simp only [sd_c, lvN, decide_eq_true h1, decide_eq_true h2, Bool.and_self]
        rw [if_pos h2]
        cases hb : sp_best (sd_c σ sd) (fun f b => decide (σ (4 + 12 * b + 4) < σ (4 + 12 * f + 4))) j with
        | none =>
          refine Or.inl ⟨_, by rw [if_pos (show ob o none = o + 2 from rfl)], ?_⟩
          simp only [sp_best, h3, hb, Bool.and_self, if_true]; rfl
        | some b =>
          have hb8 : b < 8 := by have := (best_lt hb).1; omega
          simp only [ob, if_neg ob_ne, h.gau hb8]
          by_cases h4 : σ (4 + 12 * j + 4) ≤ σ (4 + 12 * b + 4)
          · refine Or.inl ⟨_, by rw [if_pos h4], ?_⟩
            simp only [sp_best, h3, hb, decide_eq_false (i32_nlt.mpr h4), Bool.and_false]; rfl
          · refine Or.inl ⟨_, by rw [if_neg h4], ?_⟩
            simp only [sp_best, h3, hb, decide_eq_true (i32_nle.mp h4), Bool.and_self, if_true]
      · refine Or.inl ⟨_, by rw [if_neg h2], ?_⟩
        have h3 : sd_c σ sd j = false := by simp only [sd_c, decide_eq_false h2, Bool.and_false]
        simp only [sp_best, h3, Bool.false_and]; rfl
    · refine Or.inl ⟨_, by rw [if_pos h1], ?_⟩
      have h3 : sd_c σ sd j = false := by simp only [sd_c, lvN, decide_eq_false h1, Bool.false_and]
      simp only [sp_best, h3, Bool.false_and]; rfl
  · subst hI
    simp only [gX2_fullest_17, if_pos (show nI 8 ≤ nI 8 from nI_le (Nat.le_refl _) (by decide))]
    rfl
end CFQ
