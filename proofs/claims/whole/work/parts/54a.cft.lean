/-! the class's Fight: an act, a turn -/
section CFT
variable {μ μ' : Mem} {o : Nat} {σ σ' : Sg} {ν : Nat → Int64}
theorem CH.cg (h : CH μ o σ ν μ') (hs : ∀ j, j < 196 → σ' j = σ j) : CH μ o σ' ν μ' := ⟨h.1.cg hs (fun _ _ => rfl), h.2⟩
theorem c_act (h : FR μ o σ ν) {w : Nat} (hw : w < 8) (hh : sp_has σ w (σ (4 + 12 * w + 7))) {n : Int32} (hn : 0 ≤ n) : ∃ μ', fX2_act o (o + 5 + 3 * w) n μ = some μ' ∧ CH μ o (sp_act σ w (sp_kind σ w) n) ν μ' := by
  unfold fX2_act
  rw [h.plc hw, c_kindAt h hw, Option.bind_some, if_pos hh]
  have hk : σ (100 + 6 * w + (σ (4 + 12 * w + 7)).toNatClampNeg) = sp_kind σ w := rfl
  rw [hk]
  generalize sp_kind σ w = k
  unfold sp_act
  by_cases k0 : k = 0
  · rw [if_pos k0, if_pos k0, h.sid hw, c_weakest h, Option.bind_some]
    cases hx : sp_weak σ (1 - σ (4 + 12 * w)) with
    | some f =>
      have hf : f < 8 := (best_lt hx).1
      obtain ⟨m, h1, h2⟩ := c_loseLife h hf n
      simp only [ob, h1, Option.bind_some, nm_b, h.hrm hw]
      refine ⟨_, rfl, ?_⟩
      rw [sp_hit_eq]
      exact h2.set (w := 11) hw (by decide)
    | none =>
      obtain ⟨m, h1, h2⟩ := c_loseLifeN h n
      simp only [ob, h1, Option.bind_some, nm_b, h.hrm hw]
      refine ⟨_, rfl, (h2.set (w := 11) (v := σ (4 + 12 * w + 11) + 0) hw (by decide)).cg (fun j _ => ?_)⟩
      by_cases e : j = 4 + 12 * w + 11
      · subst e; rw [upd_s, Int32.add_zero]
      · rw [upd_n e]
  rw [if_neg k0, if_neg k0]
  by_cases k1 : k = 1
  · rw [if_pos k1, if_pos k1, h.sid hw, c_fullest h, Option.bind_some]
    cases hx : sp_full σ (1 - σ (4 + 12 * w)) with
    | some f =>
      have hf : f < 8 := (best_lt hx).1
      obtain ⟨m, h1, h2⟩ := c_loseGauge h hf n
      simp only [ob, h1, Option.bind_some]
      exact ⟨_, rfl, h2⟩
    | none =>
      unfold fX3_loseGauge
      simp only [ob, nm_b, Option.bind_some, show ldI μ (o + 2) 9 = 0 from h.nob (w := 4) (by decide)]
      refine ⟨_, rfl, (CH.rf h).nobz (w := 4) (by decide) ?_⟩
      unfold jmax
      by_cases e : 0 - n < 0
      · rw [if_pos e]
      · rw [if_neg e]
        obtain ⟨a, ha, rfl⟩ := nI_of (i32_nlt.mpr hn)
        by_cases ha0 : a = 0
        · subst ha0; rfl
        · refine absurd ?_ e
          rw [i32_lt, Int32.zero_sub, Int32.toInt_neg, nI_toInt ha]
          rw [Int.bmod_eq_of_le (by omega) (by omega)]
          show (-(a : Int)) < 0
          omega
  rw [if_neg k1, if_neg k1]
  by_cases k2 : k = 2
  · rw [if_pos k2, if_pos k2]
    rw [c_emptiestFriend h hw, Option.bind_some]
    cases hx : sp_lift σ w with
    | some f =>
      obtain ⟨hf, hl⟩ := lift_liv hx
      obtain ⟨m, h1, h2⟩ := c_gainGauge h hf hl n
      simp only [ob, h1, Option.bind_some]
      exact ⟨_, rfl, h2⟩
    | none =>
      simp only [ob, c_gainGaugeN h n, Option.bind_some]
      exact ⟨_, rfl, CH.rf h⟩
  rw [if_neg k2, if_neg k2]
  by_cases k3 : k = 3
  · rw [if_pos k3, if_pos k3, nm_b]
    exact ⟨_, rfl, (CH.rf h).set (w := 5) hw (by decide)⟩
  rw [if_neg k3, if_neg k3]
  by_cases k4 : k = 4
  · rw [if_pos k4, if_pos k4]
    obtain ⟨m, h1, h2⟩ := c_gainExtras h hw n
    rw [h1, Option.bind_some]
    exact ⟨_, rfl, h2⟩
  rw [if_neg k4, if_neg k4]
  by_cases k5 : k = 5
  · rw [if_pos k5, if_pos k5, nm_b]
    exact ⟨_, rfl, (CH.rf h).set (w := 1) hw (by decide)⟩
  rw [if_neg k5, if_neg k5]
  by_cases k6 : k = 6
  · rw [if_pos k6, if_pos k6]
    obtain ⟨m, h1, h2⟩ := c_gainLife h hw n
    rw [h1, Option.bind_some]
    exact ⟨_, rfl, h2⟩
  rw [if_neg k6, if_neg k6]
  exact ⟨_, rfl, CH.rf h⟩
/-- the cells that an act may change -/
def acC (i : Nat) : Prop := ∃ f c, f < 8 ∧ (c = 1 ∨ c = 2 ∨ c = 4 ∨ c = 5 ∨ c = 6 ∨ c = 11) ∧ i = 4 + 12 * f + c
theorem act_keep {w : Nat} (hw : w < 8) {k n : Int32} {i : Nat} (hi : ¬ acC i) : sp_act σ w k n i = σ i := by
  have hc : ∀ f c, f < 8 → (c = 1 ∨ c = 2 ∨ c = 4 ∨ c = 5 ∨ c = 6 ∨ c = 11) → i ≠ 4 + 12 * f + c := fun f c hf hc e => hi ⟨f, c, hf, hc, e⟩
  unfold sp_act
  by_cases k0 : k = 0
  · rw [if_pos k0]
    cases hx : sp_weak σ (1 - σ (4 + 12 * w)) with
    | some f =>
      have hf : f < 8 := (best_lt hx).1
      dsimp only
      rw [sp_hit_eq, upd_n (hc w 11 hw (by decide))]
      unfold sp_cut
      by_cases e : σ (4 + 12 * f + 2) - sp_loss σ f n = 0
      · rw [if_pos e, upd_n (hc f 6 hf (by decide)), upd_n (hc f 5 hf (by decide)), upd_n (hc f 4 hf (by decide)), upd_n (hc f 2 hf (by decide))]
      · rw [if_neg e, upd_n (hc f 2 hf (by decide))]
    | none => rfl
  rw [if_neg k0]
  by_cases k1 : k = 1
  · rw [if_pos k1]
    cases hx : sp_full σ (1 - σ (4 + 12 * w)) with
    | some f =>
      have hf : f < 8 := (best_lt hx).1
      exact upd_n (hc f 4 hf (by decide))
    | none => rfl
  rw [if_neg k1]
  by_cases k2 : k = 2
  · rw [if_pos k2]
    cases hx : sp_lift σ w with
    | some f =>
      have hf : f < 8 := (best_lt hx).1
      exact upd_n (hc f 4 hf (by decide))
    | none => rfl
  rw [if_neg k2]
  by_cases k3 : k = 3
  · rw [if_pos k3]; exact upd_n (hc w 5 hw (by decide))
  rw [if_neg k3]
  by_cases k4 : k = 4
  · rw [if_pos k4]; exact upd_n (hc w 6 hw (by decide))
  rw [if_neg k4]
  by_cases k5 : k = 5
  · rw [if_pos k5]; exact upd_n (hc w 1 hw (by decide))
  rw [if_neg k5]
  by_cases k6 : k = 6
  · rw [if_pos k6]; exact upd_n (hc w 2 hw (by decide))
  rw [if_neg k6]
theorem pre_keep {w i : Nat} (h3 : i ≠ 3) (h4 : i ≠ 4 + 12 * w + 4) (h5 : i ≠ 4 + 12 * w + 5) (h6 : i ≠ 4 + 12 * w + 6) (h9 : i ≠ 4 + 12 * w + 9) (h10 : i ≠ 4 + 12 * w + 10) : sp_pre σ w i = σ i := by
  unfold sp_pre
  rw [upd_n h5]
  by_cases e : 0 < σ (4 + 12 * w + 6)
  · rw [if_pos e, upd_n h10, upd_n h6, upd_n h9, upd_n h3]
  · rw [if_neg e, upd_n h4, upd_n h9, upd_n h3]
theorem pre_kind {w : Nat} (hw : w < 8) : sp_kind (sp_pre σ w) w = sp_kind σ w := by
  unfold sp_kind
  rw [pre_keep (i := 4 + 12 * w + 7) (by omega) (by omega) (by omega) (by omega) (by omega) (by omega)]
  exact pre_keep (by omega) (by omega) (by omega) (by omega) (by omega) (by omega)
theorem pre_num {w : Nat} (hw : w < 8) : sp_num (sp_pre σ w) w = sp_num σ w := by
  unfold sp_num
  rw [pre_keep (i := 4 + 12 * w + 7) (by omega) (by omega) (by omega) (by omega) (by omega) (by omega)]
  exact pre_keep (by omega) (by omega) (by omega) (by omega) (by omega) (by omega)
theorem act_plc {w f : Nat} (hw : w < 8) {k n : Int32} : sp_act σ w k n (4 + 12 * f + 7) = σ (4 + 12 * f + 7) := act_keep hw (fun ⟨g, c, h1, h2, h3⟩ => by omega)
theorem act_cnt {w f : Nat} (hw : w < 8) {k n : Int32} : sp_act σ w k n (4 + 12 * f + 8) = σ (4 + 12 * f + 8) := act_keep hw (fun ⟨g, c, h1, h2, h3⟩ => by omega)
theorem c_takeTurn63 (h : FR μ o σ ν) {w : Nat} (hw : w < 8) (hh : sp_has σ w (σ (4 + 12 * w + 7))) (hn : 0 ≤ sp_num σ w) : ∃ μ', fX2_takeTurn_63 o (o + 5 + 3 * w) μ = some μ' ∧ CH μ o (upd (sp_act (upd σ (4 + 12 * w + 5) 0) w (sp_kind σ w) (sp_num σ w)) (4 + 12 * w + 7) (if σ (4 + 12 * w + 7) + 1 < σ (4 + 12 * w + 8) then σ (4 + 12 * w + 7) + 1 else 0)) ν μ' := by
  unfold fX2_takeTurn_63
  rw [nm_b]
  have h1 := (CH.rf h).set (w := 5) (v := 0) hw (by decide)
  have e7 : upd σ (4 + 12 * w + 5) 0 (4 + 12 * w + 7) = σ (4 + 12 * w + 7) := upd_n (by omega)
  have e8 : upd σ (4 + 12 * w + 5) 0 (4 + 12 * w + 8) = σ (4 + 12 * w + 8) := upd_n (by omega)
  have hh1 : sp_has (upd σ (4 + 12 * w + 5) 0) w (σ (4 + 12 * w + 7)) := by
    unfold sp_has; rw [e8]; exact hh
  have ek : sp_kind (upd σ (4 + 12 * w + 5) 0) w = sp_kind σ w := by
    unfold sp_kind; rw [e7]; exact upd_n (by omega)
  have en : sp_num (upd σ (4 + 12 * w + 5) 0) w = sp_num σ w := by
    unfold sp_num; rw [e7]; exact upd_n (by omega)
  have hp := h1.1.plc hw
  rw [e7] at hp
  have ha := c_amountAt h1.1 hw (σ (4 + 12 * w + 7))
  rw [if_pos hh1, show upd σ (4 + 12 * w + 5) 0 (148 + 6 * w + (σ (4 + 12 * w + 7)).toNatClampNeg) = sp_num σ w from upd_n (by omega)] at ha
  have e5 : fw 5 = 10 := rfl
  rw [e5] at h1 hp ha
  rw [hp, ha, Option.bind_some]
  obtain ⟨m, h2, h3⟩ := c_act h1.1 hw (by rw [e7]; exact hh1) hn
  rw [ek] at h3
  rw [h2, Option.bind_some, h3.1.act hw, h3.1.plc hw, act_plc hw, act_cnt hw, e7, e8]
  by_cases e : σ (4 + 12 * w + 7) + 1 < σ (4 + 12 * w + 8)
  · rw [if_neg (i32_nle.mpr e), if_pos e, nm_b]
    exact ⟨_, rfl, h1.tr (h3.set (w := 7) hw (by decide))⟩
  · rw [if_pos (i32_nlt.mp e), if_neg e, nm_b]
    exact ⟨_, rfl, h1.tr (h3.set (w := 7) hw (by decide))⟩
def sp_p3 (σ : Sg) (w : Nat) : Sg := if 0 < σ (4 + 12 * w + 6) then upd (upd (upd (upd σ 3 (σ 3 + 1)) (4 + 12 * w + 9) (σ (4 + 12 * w + 9) + 1)) (4 + 12 * w + 6) (σ (4 + 12 * w + 6) - 1)) (4 + 12 * w + 10) (σ (4 + 12 * w + 10) + 1) else upd (upd (upd σ 3 (σ 3 + 1)) (4 + 12 * w + 9) (σ (4 + 12 * w + 9) + 1)) (4 + 12 * w + 4) (σ (4 + 12 * w + 4) - σ 1)
theorem pre_p3 {w : Nat} : sp_pre σ w = upd (sp_p3 σ w) (4 + 12 * w + 5) 0 := rfl
theorem p3_keep {w i : Nat} (h3 : i ≠ 3) (h4 : i ≠ 4 + 12 * w + 4) (h6 : i ≠ 4 + 12 * w + 6) (h9 : i ≠ 4 + 12 * w + 9) (h10 : i ≠ 4 + 12 * w + 10) : sp_p3 σ w i = σ i := by
  unfold sp_p3
  by_cases e : 0 < σ (4 + 12 * w + 6)
  · rw [if_pos e, upd_n h10, upd_n h6, upd_n h9, upd_n h3]
  · rw [if_neg e, upd_n h4, upd_n h9, upd_n h3]
theorem take_eq {w : Nat} : sp_take σ w = upd (sp_act (sp_pre σ w) w (sp_kind σ w) (sp_num σ w)) (4 + 12 * w + 7) (if σ (4 + 12 * w + 7) + 1 < σ (4 + 12 * w + 8) then σ (4 + 12 * w + 7) + 1 else 0) := rfl
theorem c_takeTurn (h : FR μ o σ ν) {w : Nat} (hw : w < 8) (hh : sp_has σ w (σ (4 + 12 * w + 7))) (hn : 0 ≤ sp_num σ w) : ∃ μ', fX2_takeTurn o (o + 5 + 3 * w) μ = some μ' ∧ CH μ o (sp_take σ w) ν μ' := by
  have e7 : sp_p3 σ w (4 + 12 * w + 7) = σ (4 + 12 * w + 7) := p3_keep (by omega) (by omega) (by omega) (by omega) (by omega)
  have e8 : sp_p3 σ w (4 + 12 * w + 8) = σ (4 + 12 * w + 8) := p3_keep (by omega) (by omega) (by omega) (by omega) (by omega)
  have ek : sp_kind (sp_p3 σ w) w = sp_kind σ w := by
    unfold sp_kind; rw [e7]; exact p3_keep (by omega) (by omega) (by omega) (by omega) (by omega)
  have en : sp_num (sp_p3 σ w) w = sp_num σ w := by
    unfold sp_num; rw [e7]; exact p3_keep (by omega) (by omega) (by omega) (by omega) (by omega)
  have key : ∀ m, CH μ o (sp_p3 σ w) ν m → ∃ μ', fX2_takeTurn_63 o (o + 5 + 3 * w) m = some μ' ∧ CH μ o (sp_take σ w) ν μ' := by
    intro m hm
    have h1 : sp_has (sp_p3 σ w) w (sp_p3 σ w (4 + 12 * w + 7)) := by
      rw [e7]; unfold sp_has; rw [e8]; exact hh
    obtain ⟨m2, h2, h3⟩ := c_takeTurn63 hm.1 hw h1 (by rw [en]; exact hn)
    rw [ek, en, e7, e8, ← pre_p3, ← take_eq] at h3
    exact ⟨m2, h2, hm.tr h3⟩
  unfold fX2_takeTurn
  simp only [nm_b]
  rw [h.trn]
  have h1 := (CH.rf h).hd (j := 3) (v := σ 3 + 1) (by decide)
  have h2 := h1.set (w := 9) (v := σ (4 + 12 * w + 9) + 1) hw (by decide)
  have q1 := h1.1.mad hw
  rw [upd_n (by omega)] at q1
  have e3 : 3 + 2 = 5 := rfl
  rw [e3] at h1 h2 q1
  rw [q1]
  have e9 : fw 9 = 13 := rfl
  rw [e9] at h2
  have q2 := h2.1.ext hw
  rw [upd_n (by omega), upd_n (by omega)] at q2
  rw [q2, h2.1.gau hw, h2.1.whl]
  have q3 : upd (upd σ 3 (σ 3 + 1)) (4 + 12 * w + 9) (σ (4 + 12 * w + 9) + 1) (4 + 12 * w + 4) = σ (4 + 12 * w + 4) := by rw [upd_n (by omega), upd_n (by omega)]
  have q4 : upd (upd σ 3 (σ 3 + 1)) (4 + 12 * w + 9) (σ (4 + 12 * w + 9) + 1) 1 = σ 1 := by rw [upd_n (by omega), upd_n (by omega)]
  rw [q3, q4]
  by_cases e : 0 < σ (4 + 12 * w + 6)
  · rw [if_neg (i32_nle.mpr e)]
    have h3 := h2.set (w := 6) (v := σ (4 + 12 * w + 6) - 1) hw (by decide)
    have q5 := h3.1.xtr hw
    rw [upd_n (by omega), upd_n (by omega), upd_n (by omega)] at q5
    have e6 : fw 6 = 11 := rfl
    rw [e6] at h3 q5
    rw [q5]
    have h4 := h3.set (w := 10) (v := σ (4 + 12 * w + 10) + 1) hw (by decide)
    refine key _ ?_
    unfold sp_p3
    rw [if_pos e]
    exact h4
  · rw [if_pos (i32_nlt.mp e)]
    refine key _ ?_
    unfold sp_p3
    rw [if_neg e]
    exact h2.set (w := 4) hw (by decide)
end CFT
