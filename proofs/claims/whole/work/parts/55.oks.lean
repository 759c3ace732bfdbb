/-! what a fight's numbers keep to is kept -/
section OKS
variable {σ σ' : Sg} {n f w : Nat}
theorem jmin_nI {a b : Nat} (ha : a < 2 ^ 31) (hb : b < 2 ^ 31) : jmin (nI a) (nI b) = nI (min a b) := by
  unfold jmin
  by_cases h : b < a
  · rw [if_pos (nI_lt h ha), Nat.min_eq_right (by omega)]
  · rw [if_neg (nI_nlt (by omega) hb), Nat.min_eq_left (by omega)]
theorem jmax_sub {a b : Nat} (ha : a < 2 ^ 30) (hb : b < 2 ^ 30) : jmax (nI a - nI b) 0 = nI (a - b) := by
  unfold jmax
  by_cases h : a < b
  · rw [if_pos (pk_sneg hb h), show a - b = 0 by omega]; rfl
  · rw [pk_sub (by omega), if_neg (nI_pos (by omega))]
theorem okN.cell (h : okN n σ) (hf : f < n) {w : Nat} (hw : w < 7) : bd (if w = 1 then 1 else 0) ([1, 99, 999, 9, 9999, 99, 3].getD w 0) (σ (4 + 12 * f + w)) := (h.2.2.2.1 f hf).1 w (by omega) hw
theorem okN.sid (h : okN n σ) (hf : f < n) : bd 0 1 (σ (4 + 12 * f)) := h.cell hf (w := 0) (by decide)
theorem okN.spd (h : okN n σ) (hf : f < n) : bd 1 99 (σ (4 + 12 * f + 1)) := h.cell hf (w := 1) (by decide)
theorem okN.lif (h : okN n σ) (hf : f < n) : bd 0 999 (σ (4 + 12 * f + 2)) := h.cell hf (w := 2) (by decide)
theorem okN.luk (h : okN n σ) (hf : f < n) : bd 0 9 (σ (4 + 12 * f + 3)) := h.cell hf (w := 3) (by decide)
theorem okN.gau (h : okN n σ) (hf : f < n) : bd 0 9999 (σ (4 + 12 * f + 4)) := h.cell hf (w := 4) (by decide)
theorem okN.grd (h : okN n σ) (hf : f < n) : bd 0 99 (σ (4 + 12 * f + 5)) := h.cell hf (w := 5) (by decide)
theorem okN.ext (h : okN n σ) (hf : f < n) : bd 0 3 (σ (4 + 12 * f + 6)) := h.cell hf (w := 6) (by decide)
theorem okN.whl (h : okN n σ) : bd 100 999 (σ 1) := h.2.2.1
theorem okN.acts (h : okN n σ) (hf : f < n) : okP σ f := (h.2.2.2.1 f hf).2
theorem okN.le (h : okN n σ) : n ≤ 8 := h.1
theorem okN.liv (h : okN n σ) (hf : f < 8) (hl : lvN σ f) : f < n := by
  rcases Nat.lt_or_ge f n with h1 | h1
  · exact h1
  · rw [show lvN σ f = (0 < σ (4 + 12 * f + 2)) from rfl, h.2.2.2.2 f h1 hf 2 (by decide)] at hl
    exact absurd hl (by decide)
theorem okN.sp1 (h : okN n σ) (hf : f < 8) (hl : lvN σ f) : 1 ≤ σ (4 + 12 * f + 1) := by
  obtain ⟨a, h1, h2, h3⟩ := h.spd (h.liv hf hl)
  rw [h3]; exact nI_le h1 (by omega)
theorem okP.cg (h : okP σ f) (h7 : σ' (4 + 12 * f + 7) = σ (4 + 12 * f + 7)) (h8 : σ' (4 + 12 * f + 8) = σ (4 + 12 * f + 8)) (hk : ∀ i, 100 ≤ i → σ' i = σ i) : okP σ' f := by
  obtain ⟨p, a, h1, h2, h3, h4, h5⟩ := h
  exact ⟨p, a, h7.trans h1, h8.trans h2, h3, h4, fun k hk2 => by rw [hk _ (by omega), hk _ (by omega)]; exact h5 k hk2⟩
theorem okN.set (h : okN n σ) (hf : f < n) (hw : w < 12) (h7 : w ≠ 7) (h8 : w ≠ 8) {v : Int32} (hv : okC w v) : okN n (upd σ (4 + 12 * f + w) v) := by
  obtain ⟨h1, h2, h3, h4, h5⟩ := h
  refine ⟨h1, ?_, ?_, fun g hg => ⟨fun c hc => ?_, ?_⟩, fun g hg hg8 c hc => ?_⟩
  · rw [upd_n (by omega)]; exact h2
  · rw [upd_n (by omega)]; exact h3
  · by_cases e : g = f ∧ c = w
    · obtain ⟨rfl, rfl⟩ := e; rw [upd_s]; exact hv
    · rw [upd_n (by omega)]; exact (h4 g hg).1 c hc
  · exact (h4 g hg).2.cg (upd_n (by omega)) (upd_n (by omega)) (fun i hi => upd_n (by omega))
  · rw [upd_n (by omega)]; exact h5 g hg hg8 c hc
theorem okN.hd (h : okN n σ) {j : Nat} (h2 : j = 2 ∨ j = 3) {v : Int32} : okN n (upd σ j v) := by
  obtain ⟨h1, h3, h4, h5, h6⟩ := h
  refine ⟨h1, ?_, ?_, fun g hg => ⟨fun c hc => ?_, ?_⟩, fun g hg hg8 c hc => ?_⟩
  · rw [upd_n (by omega)]; exact h3
  · rw [upd_n (by omega)]; exact h4
  · rw [upd_n (by omega)]; exact (h5 g hg).1 c hc
  · exact (h5 g hg).2.cg (upd_n (by omega)) (upd_n (by omega)) (fun i hi => upd_n (by omega))
  · rw [upd_n (by omega)]; exact h6 g hg hg8 c hc
theorem okN.plc (h : okN n σ) (hf : f < n) {p a : Nat} (ha : σ (4 + 12 * f + 8) = nI a) (ha6 : a ≤ 6) (hp : p < a) : okN n (upd σ (4 + 12 * f + 7) (nI p)) := by
  obtain ⟨h1, h2, h3, h4, h5⟩ := h
  refine ⟨h1, ?_, ?_, fun g hg => ⟨fun c hc => ?_, ?_⟩, fun g hg hg8 c hc => ?_⟩
  · rw [upd_n (by omega)]; exact h2
  · rw [upd_n (by omega)]; exact h3
  · by_cases e : g = f ∧ c = 7
    · obtain ⟨rfl, rfl⟩ := e; rw [upd_s]; intro h; exact absurd h (by decide)
    · rw [upd_n (by omega)]; exact (h4 g hg).1 c hc
  · by_cases e : g = f
    · subst e
      obtain ⟨p', a', q1, q2, q3, q4, q5⟩ := (h4 g hg).2
      have e2 : a' = a := (nI_eq (by omega) (by omega)).mp (q2.symm.trans ha)
      subst e2
      exact ⟨p, a', upd_s, (upd_n (by omega)).trans ha, hp, ha6, fun k hk => by rw [upd_n (by omega), upd_n (by omega)]; exact q5 k hk⟩
    · exact (h4 g hg).2.cg (upd_n (by omega)) (upd_n (by omega)) (fun i hi => upd_n (by omega))
  · rw [upd_n (by omega)]; exact h5 g hg hg8 c hc

theorem okC_free {w : Nat} (h : 7 ≤ w) {v : Int32} : okC w v := fun h2 => absurd h2 (by omega)
theorem okN.hit (h : okN n σ) (hw : w < n) (hf : f < n) {m : Nat} (hm : m ≤ 999) : okN n (sp_hit σ w f (nI m)) := by
  obtain ⟨g, g1, g2, g3⟩ := h.grd hf
  obtain ⟨l, l1, l2, l3⟩ := h.lif hf
  have hl : sp_loss σ f (nI m) = nI (min (m - g) l) := by
    unfold sp_loss
    rw [g3, l3, jmax_sub (by omega) (by omega), jmin_nI (by omega) (by omega)]
  rw [sp_hit_eq]
  refine okN.set ?_ hw (by decide) (by decide) (by decide) (okC_free (by decide))
  unfold sp_cut
  rw [hl, l3, pk_sub (by omega)]
  have h1 : okN n (upd σ (4 + 12 * f + 2) (nI (l - min (m - g) l))) := h.set hf (by decide) (by decide) (by decide) (fun _ => ⟨_, Nat.zero_le _, by show _ ≤ 999; omega, rfl⟩)
  by_cases e : nI (l - min (m - g) l) = 0
  · rw [if_pos e]
    exact ((h1.set (w := 4) hf (by decide) (by decide) (by decide) (fun _ => ⟨0, Nat.zero_le _, Nat.zero_le _, rfl⟩)).set (w := 5) hf (by decide) (by decide) (by decide) (fun _ => ⟨0, Nat.zero_le _, Nat.zero_le _, rfl⟩)).set (w := 6) hf (by decide) (by decide) (by decide) (fun _ => ⟨0, Nat.zero_le _, Nat.zero_le _, rfl⟩)
  · rw [if_neg e]; exact h1
theorem okN.lower (h : okN n σ) (hf : f < n) {m : Nat} (hm : m ≤ 999) : okN n (sp_lower σ f (nI m)) := by
  obtain ⟨g, g1, g2, g3⟩ := h.gau hf
  unfold sp_lower
  rw [g3, jmax_sub (by omega) (by omega)]
  exact h.set hf (by decide) (by decide) (by decide) (fun _ => ⟨_, Nat.zero_le _, by show _ ≤ 9999; omega, rfl⟩)
theorem okN.raise (h : okN n σ) (hf : f < n) {m : Nat} (hm : m ≤ 999) : okN n (sp_raise σ f (nI m)) := by
  obtain ⟨g, g1, g2, g3⟩ := h.gau hf
  unfold sp_raise
  rw [g3, nI_add, show (9999 : Int32) = nI 9999 from rfl, jmin_nI (by omega) (by omega)]
  exact h.set hf (by decide) (by decide) (by decide) (fun _ => ⟨_, Nat.zero_le _, by show _ ≤ 9999; omega, rfl⟩)
theorem okN.heal (h : okN n σ) (hf : f < n) {m : Nat} (hm : m ≤ 999) : okN n (sp_heal σ f (nI m)) := by
  obtain ⟨g, g1, g2, g3⟩ := h.lif hf
  unfold sp_heal
  rw [g3, nI_add, show (999 : Int32) = nI 999 from rfl, jmin_nI (by omega) (by omega)]
  exact h.set hf (by decide) (by decide) (by decide) (fun _ => ⟨_, Nat.zero_le _, by show _ ≤ 999; omega, rfl⟩)
theorem okN.xtr (h : okN n σ) (hf : f < n) {m : Nat} (hm : m ≤ 999) : okN n (sp_xtr σ f (nI m)) := by
  obtain ⟨g, g1, g2, g3⟩ := h.ext hf
  unfold sp_xtr
  rw [g3, nI_add, show (3 : Int32) = nI 3 from rfl, jmin_nI (by omega) (by omega)]
  exact h.set hf (by decide) (by decide) (by decide) (fun _ => ⟨_, Nat.zero_le _, by show _ ≤ 3; omega, rfl⟩)
theorem sd_liv {sd : Int32} (h : sd_c σ sd f = true) : lvN σ f := by
  unfold sd_c at h; rw [Bool.and_eq_true] at h; exact of_decide_eq_true h.1
theorem okN.sa (h : okN n σ) (hw : w < n) {q m : Nat} (hq : q ≤ 6) (hm : 1 ≤ m) (hm9 : m ≤ 999) (hqm : q = 3 ∨ q = 5 → m ≤ 99) : okN n (sp_act σ w (nI q) (nI m)) := by
  have hk : ∀ c : Nat, c ≤ 6 → (nI q = nI c ↔ q = c) := fun c hc => nI_eq (by omega) (by omega)
  unfold sp_act
  by_cases k0 : q = 0
  · rw [if_pos ((show nI q = (0 : Int32) ↔ q = 0 from hk 0 (by decide)).mpr k0)]
    cases hx : sp_weak σ (1 - σ (4 + 12 * w)) with
    | some f => exact h.hit hw (h.liv (best_lt hx).1 (sd_liv (best_lt hx).2)) hm9
    | none => exact h
  rw [if_neg (fun e => k0 ((show nI q = (0 : Int32) ↔ q = 0 from hk 0 (by decide)).mp e))]
  by_cases k1 : q = 1
  · rw [if_pos ((show nI q = (1 : Int32) ↔ q = 1 from hk 1 (by decide)).mpr k1)]
    cases hx : sp_full σ (1 - σ (4 + 12 * w)) with
    | some f => exact h.lower (h.liv (best_lt hx).1 (sd_liv (best_lt hx).2)) hm9
    | none => exact h
  rw [if_neg (fun e => k1 ((show nI q = (1 : Int32) ↔ q = 1 from hk 1 (by decide)).mp e))]
  by_cases k2 : q = 2
  · rw [if_pos ((show nI q = (2 : Int32) ↔ q = 2 from hk 2 (by decide)).mpr k2)]
    cases hx : sp_lift σ w with
    | some f =>
      have := (best_lt hx).2
      rw [Bool.and_eq_true] at this
      exact h.raise (h.liv (best_lt hx).1 (sd_liv this.2)) hm9
    | none => exact h
  rw [if_neg (fun e => k2 ((show nI q = (2 : Int32) ↔ q = 2 from hk 2 (by decide)).mp e))]
  by_cases k3 : q = 3
  · rw [if_pos ((show nI q = (3 : Int32) ↔ q = 3 from hk 3 (by decide)).mpr k3)]
    exact h.set hw (by decide) (by decide) (by decide) (fun _ => ⟨m, Nat.zero_le _, hqm (Or.inl k3), rfl⟩)
  rw [if_neg (fun e => k3 ((show nI q = (3 : Int32) ↔ q = 3 from hk 3 (by decide)).mp e))]
  by_cases k4 : q = 4
  · rw [if_pos ((show nI q = (4 : Int32) ↔ q = 4 from hk 4 (by decide)).mpr k4)]
    exact h.xtr hw hm9
  rw [if_neg (fun e => k4 ((show nI q = (4 : Int32) ↔ q = 4 from hk 4 (by decide)).mp e))]
  by_cases k5 : q = 5
  · rw [if_pos ((show nI q = (5 : Int32) ↔ q = 5 from hk 5 (by decide)).mpr k5)]
    exact h.set hw (by decide) (by decide) (by decide) (fun _ => ⟨m, hm, hqm (Or.inr k5), rfl⟩)
  rw [if_neg (fun e => k5 ((show nI q = (5 : Int32) ↔ q = 5 from hk 5 (by decide)).mp e))]
  have k6 : q = 6 := by omega
  rw [if_pos ((show nI q = (6 : Int32) ↔ q = 6 from hk 6 (by decide)).mpr k6)]
  exact h.heal hw hm9
/-- it may take its turn -/
def rdy (σ : Sg) (w : Nat) : Prop := 0 < σ (4 + 12 * w + 6) ∨ σ 1 ≤ σ (4 + 12 * w + 4)
theorem okN.pre (h : okN n σ) (hw : w < n) (hr : rdy σ w) : okN n (sp_pre σ w) := by
  unfold sp_pre
  have h2 : okN n (upd (upd σ 3 (σ 3 + 1)) (4 + 12 * w + 9) (σ (4 + 12 * w + 9) + 1)) := (h.hd (Or.inr rfl)).set hw (by decide) (by decide) (by decide) (okC_free (by decide))
  refine okN.set ?_ hw (by decide) (by decide) (by decide) (fun _ => ⟨0, Nat.zero_le _, Nat.zero_le _, rfl⟩)
  obtain ⟨x, x1, x2, x3⟩ := h.ext hw
  obtain ⟨g, g1, g2, g3⟩ := h.gau hw
  obtain ⟨v, v1, v2, v3⟩ := h.whl
  by_cases e : 0 < σ (4 + 12 * w + 6)
  · rw [if_pos e]
    refine okN.set ?_ hw (by decide) (by decide) (by decide) (okC_free (by decide))
    refine okN.set h2 hw (by decide) (by decide) (by decide) (fun _ => ?_)
    rw [x3] at e ⊢
    have : 0 < x := (nI_ltI (a := 0) (by decide) (by omega)).mp e
    rw [show (1 : Int32) = nI 1 from rfl, pk_sub (by omega)]
    exact ⟨_, Nat.zero_le _, by show _ ≤ 3; omega, rfl⟩
  · rw [if_neg e]
    refine okN.set h2 hw (by decide) (by decide) (by decide) (fun _ => ?_)
    rcases hr with hr | hr
    · exact absurd hr e
    · rw [g3, v3] at hr ⊢
      have := (nI_leI (by omega) (by omega)).mp hr
      rw [pk_sub (by omega)]
      exact ⟨_, Nat.zero_le _, by show _ ≤ 9999; omega, rfl⟩
theorem okN.knum (h : okN n σ) (hw : w < n) : ∃ q m : Nat, sp_kind σ w = nI q ∧ sp_num σ w = nI m ∧ q ≤ 6 ∧ 1 ≤ m ∧ m ≤ 999 ∧ (q = 3 ∨ q = 5 → m ≤ 99) := by
  obtain ⟨p, a, q1, q2, q3, q4, q5⟩ := h.acts hw
  unfold sp_kind sp_num
  rw [q1, nI_clamp (by omega)]
  exact q5 p q3
theorem okN.has (h : okN n σ) (hw : w < n) : sp_has σ w (σ (4 + 12 * w + 7)) := by
  obtain ⟨p, a, q1, q2, q3, q4, q5⟩ := h.acts hw
  unfold sp_has
  rw [q1, q2]
  exact ⟨nI_pos' (by omega), nI_lt q3 (by omega), nI_lt (b := 6) (by omega) (by decide)⟩
theorem okN.take (h : okN n σ) (hw : w < n) (hr : rdy σ w) : okN n (sp_take σ w) := by
  have hw8 : w < 8 := by have := h.le; omega
  rw [take_eq]
  obtain ⟨q, m, k1, k2, k3, k4, k5, k6⟩ := h.knum hw
  have h1 : okN n (sp_act (sp_pre σ w) w (sp_kind σ w) (sp_num σ w)) := by
    rw [k1, k2]; exact (h.pre hw hr).sa hw k3 k4 k5 k6
  obtain ⟨p, a, q1, q2, q3, q4, q5⟩ := h.acts hw
  have e8 : sp_act (sp_pre σ w) w (sp_kind σ w) (sp_num σ w) (4 + 12 * w + 8) = nI a := by
    rw [act_cnt hw8, pre_keep (by omega) (by omega) (by omega) (by omega) (by omega) (by omega), q2]
  rw [q1, q2, nI_1]
  by_cases e : p + 1 < a
  · rw [if_pos (nI_lt e (by omega))]
    exact h1.plc hw e8 q4 e
  · rw [if_neg (nI_nlt (by omega) (by omega))]
    exact h1.plc (p := 0) hw e8 q4 (by omega)
-- ticks
theorem okN.tk (h : okN n σ) (hf : f < n) : ∃ T : Nat, T ≤ 999 ∧ sp_tk σ f = nI T ∧ ∀ g v s : Nat, σ (4 + 12 * f + 4) = nI g → σ 1 = nI v → σ (4 + 12 * f + 1) = nI s → g ≤ 9999 → v ≤ 999 → s ≤ 99 → g + T * s ≤ max g (v + s - 1) ∧ v ≤ g + T * s := by
  obtain ⟨g, g1, g2, g3⟩ := h.gau hf
  obtain ⟨v, v1, v2, v3⟩ := h.whl
  obtain ⟨s, s1, s2, s3⟩ := h.spd hf
  have hu : ∀ T : Nat, (g + T * s ≤ max g (v + s - 1) ∧ v ≤ g + T * s) → ∀ g' v' s' : Nat, σ (4 + 12 * f + 4) = nI g' → σ 1 = nI v' → σ (4 + 12 * f + 1) = nI s' → g' ≤ 9999 → v' ≤ 999 → s' ≤ 99 → g' + T * s' ≤ max g' (v' + s' - 1) ∧ v' ≤ g' + T * s' := by
    intro T hT g' v' s' e1 e2 e3 e4 e5 e6
    rw [g3] at e1; rw [v3] at e2; rw [s3] at e3
    have f1 := (nI_eq (by omega) (by omega)).mp e1
    have f2 := (nI_eq (by omega) (by omega)).mp e2
    have f3 := (nI_eq (by omega) (by omega)).mp e3
    subst f1; subst f2; subst f3; exact hT
  unfold sp_tk
  rw [g3, v3, s3]
  rw [g3, v3, s3] at hu
  by_cases e : v ≤ g
  · rw [if_pos (nI_le e (by omega))]
    exact ⟨0, by decide, rfl, hu 0 ⟨by omega, by omega⟩⟩
  · rw [if_neg (fun e2 => e ((nI_leI (by omega) (by omega)).mp e2)), pk_sub (by omega), nI_add, show (1 : Int32) = nI 1 from rfl, pk_sub (by omega), pk_div (by omega) s1 (by omega)]
    have d1 : (v - g + s - 1) / s * s ≤ v - g + s - 1 := Nat.div_mul_le_self _ _
    have d2 : v - g + s - 1 < ((v - g + s - 1) / s + 1) * s := by
      have := Nat.lt_mul_div_succ (v - g + s - 1) s1
      rw [Nat.mul_comm] at this; exact this
    rw [Nat.add_mul, Nat.one_mul] at d2
    refine ⟨(v - g + s - 1) / s, ?_, rfl, hu _ ⟨by omega, by omega⟩⟩
    have : (v - g + s - 1) / s ≤ v - g := by
      apply Nat.le_of_lt_succ
      rw [Nat.div_lt_iff_lt_mul s1]
      have : v - g ≤ (v - g) * s := Nat.le_mul_of_pos_right _ s1
      rw [Nat.succ_mul]; omega
    omega
theorem okN.lt (h : okN n σ) : ∀ j, j ≤ 8 → ∃ T : Nat, T ≤ 999 ∧ sp_lt σ j = nI T ∧ (∀ f, f < j → lvN σ f → ∃ U : Nat, U ≤ 999 ∧ T ≤ U ∧ sp_tk σ f = nI U) ∧ (T = 999 ∨ ∃ f, f < j ∧ lvN σ f ∧ sp_tk σ f = nI T) := by
  intro j
  induction j with
  | zero => intro _; exact ⟨999, Nat.le_refl _, rfl, fun f hf => absurd hf (Nat.not_lt_zero _), Or.inl rfl⟩
  | succ j ih =>
    intro hj
    obtain ⟨T, t1, t2, t3, t4⟩ := ih (by omega)
    by_cases hl : lvN σ j
    · obtain ⟨U, u1, u2, -⟩ := h.tk (h.liv (by omega) hl)
      refine ⟨min T U, by omega, ?_, fun f hf hlf => ?_, ?_⟩
      · simp only [sp_lt, if_pos hl]; rw [t2, u2, jmin_nI (by omega) (by omega)]
      · by_cases e : f = j
        · subst e; exact ⟨U, u1, by omega, u2⟩
        · obtain ⟨U2, w1, w2, w3⟩ := t3 f (by omega) hlf
          exact ⟨U2, w1, by omega, w3⟩
      · by_cases e : U ≤ T
        · exact Or.inr ⟨j, by omega, hl, by rw [u2, Nat.min_eq_right e]⟩
        · rcases t4 with t4 | ⟨f, f1, f2, f3⟩
          · omega
          · exact Or.inr ⟨f, by omega, f2, by rw [f3, Nat.min_eq_left (by omega)]⟩
    · refine ⟨T, t1, by simp only [sp_lt, if_neg hl]; exact t2, fun f hf hlf => ?_, ?_⟩
      · by_cases e : f = j
        · subst e; exact absurd hlf hl
        · exact t3 f (by omega) hlf
      · rcases t4 with t4 | ⟨f, f1, f2, f3⟩
        · exact Or.inl t4
        · exact Or.inr ⟨f, by omega, f2, f3⟩
theorem pass_keep {t : Int32} {i : Nat} : ∀ j, (∀ f, f < j → i ≠ 4 + 12 * f + 4) → i ≠ 2 → sp_pass σ t j i = σ i := by
  intro j
  induction j with
  | zero => intro _ h2; exact upd_n h2
  | succ j ih =>
    intro h h2
    have ih := ih (fun f hf => h f (by omega)) h2
    simp only [sp_pass]
    by_cases e : lvN (sp_pass σ t j) j
    · rw [if_pos e, upd_n (h j (by omega))]; exact ih
    · rw [if_neg e]; exact ih
theorem pass_gau {t : Int32} {f : Nat} (h : lvN σ f) : ∀ j, f < j → sp_pass σ t j (4 + 12 * f + 4) = σ (4 + 12 * f + 4) + t * σ (4 + 12 * f + 1) := by
  intro j
  induction j with
  | zero => intro h; exact absurd h (Nat.not_lt_zero _)
  | succ j ih =>
    intro hj
    simp only [sp_pass]
    by_cases e : f = j
    · subst e
      have h1 : lvN (sp_pass σ t f) f := by
        show 0 < sp_pass σ t f (4 + 12 * f + 2)
        rw [pass_keep f (fun g hg => by omega) (by omega)]; exact h
      rw [if_pos h1, upd_s, pass_keep f (fun g hg => by omega) (by omega), pass_keep f (fun g hg => by omega) (by omega)]
    · have ih := ih (by omega)
      by_cases e2 : lvN (sp_pass σ t j) j
      · rw [if_pos e2, upd_n (by omega)]; exact ih
      · rw [if_neg e2]; exact ih
end OKS
