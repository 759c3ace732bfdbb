/-! the class's Fight: its other questions; copies -/
section CFK
variable {μ μ' : Mem} {o : Nat} {σ σ' : Sg} {ν : Nat → Int64}
def sp_at (p : Int32) : Option Nat := if 0 ≤ p ∧ p < 8 then some p.toNatClampNeg else none
theorem sp_at_lt {p : Int32} {f : Nat} (h : sp_at p = some f) : f < 8 ∧ p = nI f := by
  unfold sp_at at h
  by_cases e : 0 ≤ p ∧ p < 8
  · rw [if_pos e] at h
    obtain ⟨j, hj, rfl⟩ := nI_of (i32_nlt.mpr e.1)
    have : j < 8 := (nI_ltI hj (by decide)).mp e.2
    rw [nI_clamp hj] at h
    cases h
    exact ⟨this, rfl⟩
  · rw [if_neg e] at h; cases h
theorem sp_at_nI {f : Nat} (hf : f < 8) : sp_at (nI f) = some f := by
  unfold sp_at
  rw [if_pos ⟨nI_pos' (by omega), nI_lt hf (by decide)⟩, nI_clamp (by omega)]
theorem c_at (h : FR μ o σ ν) (p : Int32) : fX2_at o p μ = some (ob o (sp_at p)) := by
  unfold fX2_at
  rw [h.p1, h.p0]
  simp only [Option.bind_some]
  rw [h.ln]
  by_cases h1 : p < 0
  · rw [if_pos h1, show sp_at p = none from if_neg (fun h2 => i32_nlt.mpr h2.1 h1)]; rfl
  · rw [if_neg h1]
    by_cases h2 : nI 8 ≤ p
    · rw [if_pos h2, show sp_at p = none from if_neg (fun h3 => i32_nle.mpr h3.2 h2)]; rfl
    · rw [if_neg h2]
      have h3 : sp_at p = some p.toNatClampNeg := if_pos ⟨i32_nlt.mp h1, i32_nle.mp h2⟩
      obtain ⟨h4, h5⟩ := sp_at_lt h3
      rw [h3]
      generalize p.toNatClampNeg = f at *
      subst h5
      rw [gd_t (h.inb h4), h.pf h4]; rfl
def sp_no (σ : Sg) (ν : Nat → Int64) (v : Int64) : Option Nat := sp_first (fun f => decide (nI f < σ 0) && decide (lg_cmp (ν f) v = 0)) 8
def noI : Option Nat → Int32
  | none => -1
  | some f => nI f
theorem c_numberOf (h : FR μ o σ ν) (v : Int64) : fX2_numberOf o v μ = some (noI (sp_no σ ν v)) := by
  unfold fX2_numberOf fX2_numberOf_12
  rw [h.p0, Option.bind_some, nm_b, h.ln]
  refine zl1_for (N := 8) (I := fun j => sp_first (fun f => decide (nI f < σ 0) && decide (lg_cmp (ν f) v = 0)) j = none) (Qr := fun r => r = some (noI (sp_no σ ν v))) (by decide) rfl (fun j self hj hI => ?_) (fun self hI => ?_)
  · simp only [gX2_numberOf_12, if_neg (n8 hj), gd_t (h.inb hj), cl8 hj, h.pf hj, Option.bind_some, nm_b, nI_1, h.cnt, h.num hj, h.nam hj]
    by_cases h1 : nI j < σ 0
    · rw [if_neg (i32_nle.mpr h1)]
      by_cases h2 : lg_cmp (ν j) v = 0
      · refine Or.inr ?_
        have h3 : sp_first (fun f => decide (nI f < σ 0) && decide (lg_cmp (ν f) v = 0)) (j + 1) = some j := by
          simp only [sp_first, hI, decide_eq_true h1, decide_eq_true h2, Bool.and_self, if_true]
        rw [if_pos h2, show sp_no σ ν v = some j from first_stay h3 (by omega)]
        rfl
      · refine Or.inl ⟨by rw [if_neg h2], ?_⟩
        simp only [sp_first, hI, decide_eq_false h2, Bool.and_false]; rfl
    · refine Or.inl ⟨by rw [if_pos (i32_nlt.mp h1)], ?_⟩
      simp only [sp_first, hI, decide_eq_false h1, Bool.false_and]; rfl
  · simp only [gX2_numberOf_12, if_pos (show nI 8 ≤ nI 8 from nI_le (Nat.le_refl _) (by decide)), sp_no, hI]
    rfl
/-- a is ahead of b in the row -/
def sp_ah (σ : Sg) (a b : Nat) : Bool := if sp_tk σ a = sp_tk σ b then (if σ (4 + 12 * a + 3) = σ (4 + 12 * b + 3) then decide (a < b) else decide (σ (4 + 12 * b + 3) < σ (4 + 12 * a + 3))) else decide (sp_tk σ a < sp_tk σ b)
def sp_aw (σ : Sg) (f : Nat) : Nat → Nat
  | 0 => 0
  | j + 1 => if lvN σ j ∧ sp_ah σ j f = true then sp_aw σ f j + 1 else sp_aw σ f j
def sp_row (σ : Sg) (v : Int32) : Option Nat := sp_first (fun f => decide (lvN σ f) && decide (nI (sp_aw σ f 8) = v)) 8
theorem c_isAhead (h : FR μ o σ ν) {a b : Nat} (ha : a < 8) (hb : b < 8) (h1 : 1 ≤ σ (4 + 12 * a + 1)) (h2 : 1 ≤ σ (4 + 12 * b + 1)) : fX2_isAhead o (o + 5 + 3 * a) (o + 5 + 3 * b) μ = some (if sp_ah σ a b = true then 1 else 0) := by
  unfold fX2_isAhead
  rw [h.whl, c_ticksLeft h ha h1, Option.bind_some, c_ticksLeft h hb h2, Option.bind_some, h.luk ha, h.luk hb, h.num ha, h.num hb]
  unfold sp_ah
  by_cases e1 : sp_tk σ a = sp_tk σ b
  · rw [if_pos e1, if_pos e1]
    by_cases e2 : σ (4 + 12 * a + 3) = σ (4 + 12 * b + 3)
    · rw [if_pos e2, if_pos e2]
      by_cases e3 : a < b
      · rw [if_neg (nI_ge e3 (by omega)), decide_eq_true e3]; rfl
      · rw [if_pos (nI_le (by omega) (by omega)), decide_eq_false e3]; rfl
    · rw [if_neg e2, if_neg e2]
      by_cases e3 : σ (4 + 12 * b + 3) < σ (4 + 12 * a + 3)
      · rw [if_neg (i32_nle.mpr e3), decide_eq_true e3]; rfl
      · rw [if_pos (i32_nlt.mp e3), decide_eq_false e3]; rfl
  · rw [if_neg e1, if_neg e1]
    by_cases e3 : sp_tk σ a < sp_tk σ b
    · rw [if_neg (i32_nle.mpr e3), decide_eq_true e3]; rfl
    · rw [if_pos (i32_nlt.mp e3), decide_eq_false e3]; rfl
theorem c_aheadOf (h : FR μ o σ ν) (hsp : ∀ f, f < 8 → lvN σ f → 1 ≤ σ (4 + 12 * f + 1)) {f : Nat} (hf : f < 8) (hl : lvN σ f) : fX2_aheadOf o (o + 5 + 3 * f) μ = some (nI (sp_aw σ f 8)) := by
  unfold fX2_aheadOf fX2_aheadOf_14
  rw [h.p0, Option.bind_some, nm_b, h.ln]
  refine zl2_for (N := 8) (I := fun j a => a = nI (sp_aw σ f j)) (Qr := fun r => r = some (nI (sp_aw σ f 8))) (by decide) rfl (fun j a self hj hI => ?_) (fun a self hI => ?_)
  · subst hI
    simp only [gX2_aheadOf_14, if_neg (n8 hj), gd_t (h.inb hj), cl8 hj, h.pf hj, Option.bind_some, nm_b, nI_1, h.lif hj, le0]
    by_cases h1 : 0 < σ (4 + 12 * j + 2)
    · rw [if_neg (fun h => h h1), c_isAhead h hj hf (hsp j hj h1) (hsp f hf hl), Option.bind_some]
      by_cases h2 : sp_ah σ j f = true
      · rw [if_pos h2, if_neg (by decide)]
        exact Or.inl ⟨_, rfl, by simp only [sp_aw]; rw [if_pos ⟨h1, h2⟩]⟩
      · rw [if_neg h2, if_pos rfl]
        exact Or.inl ⟨_, rfl, by simp only [sp_aw]; rw [if_neg (fun h => h2 h.2)]⟩
    · exact Or.inl ⟨_, by rw [if_pos h1], by simp only [sp_aw]; rw [if_neg (fun h => h1 h.1)]⟩
  · subst hI
    simp only [gX2_aheadOf_14, if_pos (show nI 8 ≤ nI 8 from nI_le (Nat.le_refl _) (by decide))]
theorem c_inRow (h : FR μ o σ ν) (hsp : ∀ f, f < 8 → lvN σ f → 1 ≤ σ (4 + 12 * f + 1)) (v : Int32) : fX2_inRow o v μ = some (ob o (sp_row σ v)) := by
  unfold fX2_inRow fX2_inRow_11
  rw [h.p0, Option.bind_some, nm_b, h.ln]
  refine zl1_for (N := 8) (I := fun j => sp_first (fun f => decide (lvN σ f) && decide (nI (sp_aw σ f 8) = v)) j = none) (Qr := fun r => r = some (ob o (sp_row σ v))) (by decide) rfl (fun j self hj hI => ?_) (fun self hI => ?_)
  · simp only [gX2_inRow_11, if_neg (n8 hj), gd_t (h.inb hj), cl8 hj, h.pf hj, Option.bind_some, nm_b, nI_1, h.lif hj, le0]
    by_cases h1 : 0 < σ (4 + 12 * j + 2)
    · rw [if_neg (fun h => h h1), c_aheadOf h hsp hj h1, Option.bind_some]
      by_cases h2 : nI (sp_aw σ j 8) = v
      · refine Or.inr ?_
        have h3 : sp_first (fun f => decide (lvN σ f) && decide (nI (sp_aw σ f 8) = v)) (j + 1) = some j := by
          simp only [sp_first, hI, lvN, decide_eq_true h1, decide_eq_true h2, Bool.and_self, if_true]
        rw [if_pos h2, show sp_row σ v = some j from first_stay h3 (by omega)]
        rfl
      · refine Or.inl ⟨by rw [if_neg h2], ?_⟩
        simp only [sp_first, hI, decide_eq_false h2, Bool.and_false]; rfl
    · refine Or.inl ⟨by rw [if_pos h1], ?_⟩
      simp only [sp_first, hI, lvN, decide_eq_false h1, Bool.false_and]; rfl
  · simp only [gX2_inRow_11, if_pos (show nI 8 ≤ nI 8 from nI_le (Nat.le_refl _) (by decide)), h.p1, Option.bind_some, sp_row, hI]
    rfl
theorem c_putAct (h : FR μ o σ ν) {f : Nat} (hf : f < 8) (p k n : Int32) : ∃ μ', fX3_putAct (o + 5 + 3 * f) p k n μ = some μ' ∧ CH μ o (if sp_has σ f p then upd (upd σ (100 + 6 * f + p.toNatClampNeg) k) (148 + 6 * f + p.toNatClampNeg) n else σ) ν μ' := by
  unfold fX3_putAct
  rw [c_hasAct h hf, Option.bind_some]
  by_cases h1 : sp_has σ f p
  · obtain ⟨h2, h3⟩ := has_inb h1
    have h4 := (CH.rf h).setK (v := k) hf h3
    rw [if_pos h1, if_neg (by decide), if_pos h1, h.pk hf, Option.bind_some, h.lnk hf, gd_t h2, nm_b, h4.1.pa hf, Option.bind_some, h.lna hf, gd_t h2, nm_b]
    exact ⟨_, rfl, h4.setA hf h3⟩
  · rw [if_neg h1, if_pos rfl, if_neg h1]
    exact ⟨_, rfl, CH.rf h⟩
theorem c_putActN (h : FR μ o σ ν) (p k n : Int32) : fX3_putAct (o + 2) p k n μ = some μ := by
  unfold fX3_putAct
  rw [c_hasActN h, Option.bind_some, if_pos rfl]
theorem c_addAct (h : FR μ o σ ν) {f a : Nat} (hf : f < 8) (k n : Int32) (ha : σ (4 + 12 * f + 8) = nI a) (ha6 : a < 6) : ∃ μ', fX3_addAct (o + 5 + 3 * f) k n μ = some μ' ∧ CH μ o (upd (upd (upd σ (4 + 12 * f + 8) (nI (a + 1))) (100 + 6 * f + a) k) (148 + 6 * f + a) n) ν μ' := by
  unfold fX3_addAct
  rw [h.act hf, ha, if_neg (show ¬ (6 : Int32) ≤ nI a from nI_ge ha6 (by decide)), nm_b, nI_1]
  have h1 := (CH.rf h).set (w := 8) (v := nI (a + 1)) hf (by decide)
  have e8 : fw 8 = 3 := rfl
  have q := h1.1.act hf
  rw [upd_s] at q
  rw [e8] at h1 q
  obtain ⟨m, h2, h3⟩ := c_putAct h1.1 hf (nI a) k n
  rw [q, nI_pred, h2, Option.bind_some]
  rw [if_pos (show sp_has (upd σ (4 + 12 * f + 8) (nI (a + 1))) f (nI a) from by
    unfold sp_has; rw [upd_s]; exact ⟨nI_pos' (by omega), nI_lt (by omega) (by omega), nI_lt ha6 (by decide)⟩), nI_clamp (by omega)] at h3
  exact ⟨m, rfl, h1.tr h3⟩
end CFK
