/-! the model's fight: a turn; so many turns -/
section MFU
variable {μ : Mem} {n : Nat}
theorem best_cg {c c' : Nat → Bool} {t t' : Nat → Nat → Bool} : ∀ m, (∀ f, f < m → c f = c' f) → (∀ a b, a < m → b < m → t a b = t' a b) → sp_best c t m = sp_best c' t' m := by
  intro m
  induction m with
  | zero => intro _ _; rfl
  | succ m ih =>
    intro h1 h2
    have ih := ih (fun f hf => h1 f (by omega)) (fun a b ha hb => h2 a b (by omega) (by omega))
    rw [sp_best, sp_best, ih, h1 m (by omega)]
    cases hb : sp_best c' t' m with
    | none => rfl
    | some b =>
      have := (best_lt hb).1
      simp only [h2 m b (by omega) (by omega)]
/-- a cell that an act neither reads nor changes -/
def frC (i : Nat) : Prop := ∀ f c, f < 8 → (c = 0 ∨ c = 1 ∨ c = 2 ∨ c = 4 ∨ c = 5 ∨ c = 6 ∨ c = 11) → i ≠ 4 + 12 * f + c
theorem act_comm {σ : Sg} {w i : Nat} (hw : w < 8) (hi : frC i) {x k m : Int32} : sp_act (upd σ i x) w k m = upd (sp_act σ w k m) i x := by
  have g : ∀ f c, f < 8 → (c = 0 ∨ c = 1 ∨ c = 2 ∨ c = 4 ∨ c = 5 ∨ c = 6 ∨ c = 11) → upd σ i x (4 + 12 * f + c) = σ (4 + 12 * f + c) := fun f c hf hc => upd_n (Ne.symm (hi f c hf hc))
  have g0 : ∀ f, f < 8 → upd σ i x (4 + 12 * f) = σ (4 + 12 * f) := fun f hf => g f 0 hf (by decide)
  have gs : ∀ sd f, f < 8 → sd_c (upd σ i x) sd f = sd_c σ sd f := fun sd f hf => by
    unfold sd_c lvN; rw [g f 2 hf (by decide), g0 f hf]
  have gw : ∀ sd, sp_weak (upd σ i x) sd = sp_weak σ sd := fun sd => best_cg 8 (gs sd) (fun a b ha hb => by rw [g a 2 ha (by decide), g b 2 hb (by decide)])
  have gf : ∀ sd, sp_full (upd σ i x) sd = sp_full σ sd := fun sd => best_cg 8 (gs sd) (fun a b ha hb => by rw [g a 4 ha (by decide), g b 4 hb (by decide)])
  have gl : sp_lift (upd σ i x) w = sp_lift σ w := best_cg 8 (fun f hf => by rw [g0 w hw, gs _ f hf]) (fun a b ha hb => by rw [g a 4 ha (by decide), g b 4 hb (by decide)])
  unfold sp_act
  rw [g0 w hw, gw, gf, gl]
  by_cases k0 : k = 0
  · rw [if_pos k0, if_pos k0]
    cases hx : sp_weak σ (1 - σ (4 + 12 * w)) with
    | none => rfl
    | some f =>
      have hf : f < 8 := (best_lt hx).1
      dsimp only
      have hl : sp_loss (upd σ i x) f m = sp_loss σ f m := by
        unfold sp_loss; rw [g f 5 hf (by decide), g f 2 hf (by decide)]
      have hcut : sp_cut (upd σ i x) f m = upd (sp_cut σ f m) i x := by
        unfold sp_cut
        rw [hl, g f 2 hf (by decide)]
        by_cases e : σ (4 + 12 * f + 2) - sp_loss σ f m = 0
        · rw [if_pos e, if_pos e, upd_comm (hi f 2 hf (by decide)), upd_comm (hi f 4 hf (by decide)), upd_comm (hi f 5 hf (by decide)), upd_comm (hi f 6 hf (by decide))]
        · rw [if_neg e, if_neg e, upd_comm (hi f 2 hf (by decide))]
      rw [sp_hit_eq, sp_hit_eq, hl, g w 11 hw (by decide), hcut, upd_comm (hi w 11 hw (by decide))]
  rw [if_neg k0, if_neg k0]
  by_cases k1 : k = 1
  · rw [if_pos k1, if_pos k1]
    cases hx : sp_full σ (1 - σ (4 + 12 * w)) with
    | none => rfl
    | some f =>
      have hf : f < 8 := (best_lt hx).1
      dsimp only
      unfold sp_lower
      rw [g f 4 hf (by decide), upd_comm (hi f 4 hf (by decide))]
  rw [if_neg k1, if_neg k1]
  by_cases k2 : k = 2
  · rw [if_pos k2, if_pos k2]
    cases hx : sp_lift σ w with
    | none => rfl
    | some f =>
      have hf : f < 8 := (best_lt hx).1
      dsimp only
      unfold sp_raise
      rw [g f 4 hf (by decide), upd_comm (hi f 4 hf (by decide))]
  rw [if_neg k2, if_neg k2]
  by_cases k3 : k = 3
  · rw [if_pos k3, if_pos k3, upd_comm (hi w 5 hw (by decide))]
  rw [if_neg k3, if_neg k3]
  by_cases k4 : k = 4
  · rw [if_pos k4, if_pos k4]; unfold sp_xtr; rw [g w 6 hw (by decide), upd_comm (hi w 6 hw (by decide))]
  rw [if_neg k4, if_neg k4]
  by_cases k5 : k = 5
  · rw [if_pos k5, if_pos k5, upd_comm (hi w 1 hw (by decide))]
  rw [if_neg k5, if_neg k5]
  by_cases k6 : k = 6
  · rw [if_pos k6, if_pos k6]; unfold sp_heal; rw [g w 2 hw (by decide), upd_comm (hi w 2 hw (by decide))]
  rw [if_neg k6, if_neg k6]
theorem m_truth {v : Int32} (hv : v = 0 ∨ v = 1) : fX12_truth v μ = some v := by rcases hv with rfl | rfl <;> rfl
theorem m_sets' (hp : ldP μ 362 13 = some 364) {f : Nat} (hf : f < 8) {w : Nat} {W v : Int32} (hw : w < 12) (hW : W = nI w) : ∃ m', fX12_sets 362 (nI f) W v μ = some m' ∧ ldP m' 362 13 = some 364 ∧ MR μ m' ∧ ldI m' 364 = upd (ldI μ 364) (4 + 12 * f + w) v ∧ ldI m' 362 = ldI μ 362 := ⟨_, m_sets hp hf hw hW, hp, MR.s, ldI_stI_self, ldI_stI_ne (by decide)⟩
theorem ixK {w p : Nat} (c : Nat) {C : Int32} (hC : C = nI c) : C + 6 * nI w + nI p = nI (c + 6 * w + p) := by
  subst hC; rw [show (6 : Int32) = nI 6 from rfl, pk_mul, nI_add, nI_add]
theorem m_turns81 (hp : ldP μ 362 13 = some 364) {w : Nat} (hw8 : w < 8) (h24 : ldI μ 362 24 = nI w) {v : Int32} (hv : v = 0 ∨ v = 1) {p a q m : Nat} (hp7 : ldI μ 364 (4 + 12 * w + 7) = nI p) (ha8 : ldI μ 364 (4 + 12 * w + 8) = nI a) (hpa : p < a) (ha6 : a ≤ 6) (hk : ldI μ 364 (100 + 6 * w + p) = nI q) (hm : ldI μ 364 (148 + 6 * w + p) = nI m) (hq6 : q ≤ 6) (hm9 : m ≤ 999) {Y : Sg} (hY : Y = upd (upd (upd (upd (ldI μ 364) (4 + 12 * w + 10) (ldI μ 364 (4 + 12 * w + 10) + v)) (4 + 12 * w + 9) (ldI μ 364 (4 + 12 * w + 9) + 1)) (4 + 12 * w + 5) 0) 3 (ldI μ 364 3 + 1)) (hok : okN n Y) (hw : w < n) (hl : ∃ f, f < 8 ∧ lvN (ldI μ 364) f ∧ ldI μ 364 (4 + 12 * f) = 1 - ldI μ 364 (4 + 12 * w)) : ∃ μ', fX12_turns_81 362 v μ = some μ' ∧ MX μ μ' ∧ ldI μ' 364 = upd (sp_act Y w (nI q) (nI m)) (4 + 12 * w + 7) (nI ((p + 1) % a)) ∧ ldI μ' 362 24 = nI w ∧ ldI μ' 362 25 = nI q := by
  unfold fX12_turns_81
  rw [h24, m_of10 hp hw8, Option.bind_some, m_truth hv, Option.bind_some]
  obtain ⟨m1, a1, p1, c1, r1, j1⟩ := m_sets' hp hw8 (w := 10) (W := 10) (v := ldI μ 364 (4 + 12 * w + 10) + v) (by decide) rfl
  rw [a1, Option.bind_some, j1, h24, m_of9 p1 hw8, Option.bind_some]
  obtain ⟨m2, a2, p2, c2, r2, j2⟩ := m_sets' p1 hw8 (w := 9) (W := 9) (v := ldI m1 364 (4 + 12 * w + 9) + 1) (by decide) rfl
  rw [a2, Option.bind_some, j2, j1, h24]
  obtain ⟨m3, a3, p3, c3, r3, j3⟩ := m_sets' p2 hw8 (w := 5) (W := 5) (v := 0) (by decide) rfl
  rw [a3, Option.bind_some, j3, j2, j1, h24, m_of7 p3 hw8, Option.bind_some, p3, Option.bind_some]
  have rr : ∀ i, i ≠ 4 + 12 * w + 10 → i ≠ 4 + 12 * w + 9 → i ≠ 4 + 12 * w + 5 → ldI m3 364 i = ldI μ 364 i := fun i h1 h2 h3 => by rw [r3, upd_n h3, r2, upd_n h2, r1, upd_n h1]
  rw [rr _ (by omega) (by omega) (by omega), hp7, ixK 100 (C := 100) rfl, ln364, gd_t (inB_nI (by omega) (by decide)), nm_b, nI_clamp (by omega), rr _ (by omega) (by omega) (by omega), hk]
  obtain ⟨m4, hm4⟩ : ∃ m4, m4 = stI m3 362 25 (nI q) := ⟨_, rfl⟩
  rw [← hm4]
  have p4 : ldP m4 362 13 = some 364 := by rw [hm4]; exact p3
  have c4 : MX m3 m4 := by rw [hm4]; exact MX.j (Or.inr rfl)
  have r4 : ldI m4 364 = ldI m3 364 := by rw [hm4]; exact ldI_stI_ne (by decide)
  have w4 : ldI m4 362 24 = nI w := by rw [hm4, ldI_stI, if_neg (by omega), j3, j2, j1, h24]
  have k4 : ldI m4 362 25 = nI q := by rw [hm4, ldI_stI_s]
  rw [w4, m_of8 p4 hw8, Option.bind_some, r4, rr _ (by omega) (by omega) (by omega), ha8, gd_t (by
    simp only [nz, Bool.not_eq_true', decide_eq_false_iff_not]; exact nI_ne0 (by omega) (by omega)), nI_1, pk_rem (by omega) (by omega) (by omega)]
  obtain ⟨m5, a5, p5, c5, r5, j5⟩ := m_sets' p4 hw8 (w := 7) (W := 7) (v := nI ((p + 1) % a)) (by decide) rfl
  rw [a5, Option.bind_some, p5, Option.bind_some, ln364, gd_t ib3, gd_t ib3, z3, nm_b]
  obtain ⟨m6, hm6⟩ : ∃ m6, m6 = stI m5 364 3 (ldI m5 364 3 + 1) := ⟨_, rfl⟩
  rw [← hm6]
  have p6 : ldP m6 362 13 = some 364 := by rw [hm6]; exact p5
  have c6 : MR m5 m6 := by rw [hm6]; exact MR.s
  have r6 : ldI m6 364 = upd (ldI m5 364) 3 (ldI m5 364 3 + 1) := by rw [hm6]; exact ldI_stI_self
  have j6 : ldI m6 362 = ldI m5 362 := by rw [hm6]; exact ldI_stI_ne (by decide)
  have hX : ldI m6 364 = upd Y (4 + 12 * w + 7) (nI ((p + 1) % a)) := by
    rw [r6, r5, upd_n (by omega), r4, rr 3 (by omega) (by omega) (by omega), r3, r2, r1, upd_n (by omega), hY, upd_comm (show 4 + 12 * w + 7 ≠ 3 by omega)]
  have hYc : ∀ i, i ≠ 4 + 12 * w + 10 → i ≠ 4 + 12 * w + 9 → i ≠ 4 + 12 * w + 5 → i ≠ 3 → Y i = ldI μ 364 i := fun i h1 h2 h3 h4 => by rw [hY, upd_n h4, upd_n h3, upd_n h2, upd_n h1]
  have hXc : ∀ i, i ≠ 4 + 12 * w + 10 → i ≠ 4 + 12 * w + 9 → i ≠ 4 + 12 * w + 5 → i ≠ 3 → i ≠ 4 + 12 * w + 7 → ldI m6 364 i = ldI μ 364 i := fun i h1 h2 h3 h4 h5 => by rw [hX, upd_n h5, hYc i h1 h2 h3 h4]
  rw [j6, j5, w4, k4, p6, Option.bind_some, ixK 148 (C := 148) rfl, ln364, gd_t (inB_nI (by omega) (by decide)), nI_clamp (by omega), hXc _ (by omega) (by omega) (by omega) (by omega) (by omega), hm]
  have hok6 : okN n (ldI m6 364) := by
    rw [hX]
    refine hok.plc hw ?_ ha6 (Nat.mod_lt _ (by omega))
    rw [hYc _ (by omega) (by omega) (by omega) (by omega)]; exact ha8
  obtain ⟨f0, f1, f2, f3⟩ := hl
  obtain ⟨m7, a7, c7, r7⟩ := m_acts p6 hok6 hw hq6 hm9 ⟨f0, f1, by
    unfold lvN; rw [hXc _ (by omega) (by omega) (by omega) (by omega) (by omega)]; exact f2, by
    rw [hXc _ (by omega) (by omega) (by omega) (by omega) (by omega), hXc _ (by omega) (by omega) (by omega) (by omega) (by omega)]; exact f3⟩
  have j7 := c7.j
  rw [a7, Option.bind_some]
  refine ⟨m7, rfl, (((((c1.mc.tr c2.mc).tr c3.mc).tr c4).tr c5.mc).tr c6.mc).tr c7.mc, ?_, ?_, ?_⟩
  · rw [r7, hX]; exact act_comm hw8 (fun f c hf hc => by omega)
  · rw [j7, j6, j5]; exact w4
  · rw [j7, j6, j5]; exact k4
theorem turns_r (hp : ldP μ 362 13 = some 364) {σ1 : Sg} (hr : ldI μ 364 = σ1) (h : okN n σ1) {w : Nat} (hw : w < n) (hy : rdy σ1 w) (hl : ∃ f, f < 8 ∧ lvN σ1 f ∧ σ1 (4 + 12 * f) = 1 - σ1 (4 + 12 * w)) (h24 : ldI μ 362 24 = nI w) {v : Int32} (hv : v = if 0 < σ1 (4 + 12 * w + 6) then 1 else 0) : ∃ μ', fX12_turns_26 362 v μ = some μ' ∧ MX μ μ' ∧ ldI μ' 364 = sp_take σ1 w ∧ ldI μ' 362 24 = nI w ∧ ldI μ' 362 25 = sp_kind σ1 w := by
  have hn := h.le
  have hw8 : w < 8 := by omega
  obtain ⟨p, a, q1, q2, q3, q4, q5⟩ := h.acts hw
  obtain ⟨q, m, k1, k2, k3, k4, k5, k6⟩ := q5 p q3
  have ek : sp_kind σ1 w = nI q := by unfold sp_kind; rw [q1, nI_clamp (by omega)]; exact k1
  have en : sp_num σ1 w = nI m := by unfold sp_num; rw [q1, nI_clamp (by omega)]; exact k2
  have et : sp_take σ1 w = upd (sp_act (sp_pre σ1 w) w (nI q) (nI m)) (4 + 12 * w + 7) (nI ((p + 1) % a)) := by
    rw [take_eq, ek, en, q1, q2, nI_1]
    by_cases e : p + 1 < a
    · rw [if_pos (nI_lt e (by omega)), Nat.mod_eq_of_lt e]
    · rw [if_neg (nI_nlt (by omega) (by omega)), show p + 1 = a by omega, Nat.mod_self]; rfl
  have hok := h.pre hw hy
  obtain ⟨f0, f1, f2, f3⟩ := hl
  unfold fX12_turns_26
  by_cases e : 0 < σ1 (4 + 12 * w + 6)
  · rw [if_pos e] at hv
    subst hv
    rw [if_neg one0, h24, m_of6 hp hw8, Option.bind_some]
    obtain ⟨m1, a1, p1, c1, r1, j1⟩ := m_sets' hp hw8 (w := 6) (W := 6) (v := ldI μ 364 (4 + 12 * w + 6) - 1) (by decide) rfl
    rw [a1, Option.bind_some]
    rw [hr] at r1
    have rr : ∀ i, i ≠ 4 + 12 * w + 6 → ldI m1 364 i = σ1 i := fun i h1 => by rw [r1, upd_n h1]
    have hY : sp_pre σ1 w = upd (upd (upd (upd (ldI m1 364) (4 + 12 * w + 10) (ldI m1 364 (4 + 12 * w + 10) + 1)) (4 + 12 * w + 9) (ldI m1 364 (4 + 12 * w + 9) + 1)) (4 + 12 * w + 5) 0) 3 (ldI m1 364 3 + 1) := by
      rw [rr _ (by omega), rr _ (by omega), rr _ (by omega), r1, pre_p3]
      unfold sp_p3
      rw [if_pos e]
      rw [upd_comm (show 4 + 12 * w + 5 ≠ 3 by omega), upd_comm (show 4 + 12 * w + 9 ≠ 3 by omega), upd_comm (show 4 + 12 * w + 10 ≠ 3 by omega), upd_comm (show 4 + 12 * w + 6 ≠ 3 by omega), upd_comm (show 4 + 12 * w + 10 ≠ 4 + 12 * w + 9 by omega), upd_comm (show 4 + 12 * w + 6 ≠ 4 + 12 * w + 9 by omega)]
    obtain ⟨m2, a2, c2, r2, w2, k2⟩ := m_turns81 p1 hw8 (by rw [j1]; exact h24) (Or.inr rfl) ((rr _ (by omega)).trans q1) ((rr _ (by omega)).trans q2) q3 q4 ((rr _ (by omega)).trans k1) ((rr _ (by omega)).trans k2) k3 k5 hY hok hw ⟨f0, f1, by unfold lvN; rw [rr _ (by omega)]; exact f2, by rw [rr _ (by omega), rr _ (by omega)]; exact f3⟩
    exact ⟨m2, a2, c1.mc.tr c2, by rw [r2, et], w2, by rw [k2, ek]⟩
  · rw [if_neg e] at hv
    subst hv
    rw [if_pos rfl, h24, m_of4 hp hw8, Option.bind_some, hp, Option.bind_some, ln364, gd_t ib1, z1]
    obtain ⟨m1, a1, p1, c1, r1, j1⟩ := m_sets' hp hw8 (w := 4) (W := 4) (v := ldI μ 364 (4 + 12 * w + 4) - ldI μ 364 1) (by decide) rfl
    rw [a1, Option.bind_some]
    rw [hr] at r1
    have rr : ∀ i, i ≠ 4 + 12 * w + 4 → ldI m1 364 i = σ1 i := fun i h1 => by rw [r1, upd_n h1]
    have hY : sp_pre σ1 w = upd (upd (upd (upd (ldI m1 364) (4 + 12 * w + 10) (ldI m1 364 (4 + 12 * w + 10) + 0)) (4 + 12 * w + 9) (ldI m1 364 (4 + 12 * w + 9) + 1)) (4 + 12 * w + 5) 0) 3 (ldI m1 364 3 + 1) := by
      rw [upd_self (show ldI m1 364 (4 + 12 * w + 10) + 0 = ldI m1 364 (4 + 12 * w + 10) from Int32.add_zero _)]
      rw [rr _ (by omega), rr _ (by omega), r1, pre_p3]
      unfold sp_p3
      rw [if_neg e]
      rw [upd_comm (show 4 + 12 * w + 5 ≠ 3 by omega), upd_comm (show 4 + 12 * w + 9 ≠ 3 by omega), upd_comm (show 4 + 12 * w + 4 ≠ 3 by omega), upd_comm (show 4 + 12 * w + 4 ≠ 4 + 12 * w + 9 by omega)]
    obtain ⟨m2, a2, c2, r2, w2, k2⟩ := m_turns81 p1 hw8 (by rw [j1]; exact h24) (Or.inl rfl) ((rr _ (by omega)).trans q1) ((rr _ (by omega)).trans q2) q3 q4 ((rr _ (by omega)).trans k1) ((rr _ (by omega)).trans k2) k3 k5 hY hok hw ⟨f0, f1, by unfold lvN; rw [rr _ (by omega)]; exact f2, by rw [rr _ (by omega), rr _ (by omega)]; exact f3⟩
    exact ⟨m2, a2, c1.mc.tr c2, by rw [r2, et], w2, by rw [k2, ek]⟩
theorem next_keep {σ : Sg} {i : Nat} (h2 : i ≠ 2) (hi : ∀ f, f < 8 → i ≠ 4 + 12 * f + 4) : (sp_next σ).2 i = σ i := by
  by_cases ho : sp_over σ = true
  · rw [next_over ho]
  · cases hx : sp_fx σ with
    | some f => rw [next_fx ho hx]
    | none =>
      rw [next_rd ho hx]
      dsimp only
      exact pass_keep 8 hi h2
theorem next_other {σ : Sg} (h : okN n σ) (ho : ¬ sp_over σ = true) {w : Nat} (hw : w < n) : ∃ f, f < 8 ∧ lvN (sp_next σ).2 f ∧ (sp_next σ).2 (4 + 12 * f) = 1 - (sp_next σ).2 (4 + 12 * w) := by
  have hn := h.le
  obtain ⟨s, s1, s2, s3⟩ := h.sid hw
  have hs : (1 : Int32) - nI s = 0 ∨ (1 : Int32) - nI s = 1 := by
    rcases (show s = 0 ∨ s = 1 by omega) with rfl | rfl
    · exact Or.inr rfl
    · exact Or.inl rfl
  obtain ⟨f, f1, f2, f3⟩ := over_liv ho _ hs
  refine ⟨f, f1, ?_, ?_⟩
  · unfold lvN; rw [next_keep (by omega) (fun g hg => by omega)]; exact f2
  · rw [next_keep (by omega) (fun g hg => by omega), next_keep (by omega) (fun g hg => by omega), f3, s3]
/-- a turn -/
theorem m_turns (hp : ldP μ 362 13 = some 364) (h : okN n (ldI μ 364)) (ho : ¬ sp_over (ldI μ 364) = true) : ∃ w μ', (sp_next (ldI μ 364)).1 = some w ∧ w < n ∧ rdy (sp_next (ldI μ 364)).2 w ∧ fX12_turns 362 μ = some μ' ∧ MX μ μ' ∧ ldI μ' 364 = sp_take (sp_next (ldI μ 364)).2 w ∧ ldI μ' 362 24 = nI w ∧ ldI μ' 362 25 = sp_kind (sp_next (ldI μ 364)).2 w := by
  have hn := h.le
  obtain ⟨h1, h2⟩ := h.next
  cases hx : (sp_next (ldI μ 364)).1 with
  | none => exact absurd hx (h.next_some ho)
  | some w =>
    obtain ⟨hw, hlv, hy⟩ := h2 w hx
    have hw8 : w < 8 := by omega
    obtain ⟨m1, a1, c1, r1⟩ := m_next hp h ho
    unfold fX12_turns
    rw [a1, Option.bind_some, hx, show noI (some w) = nI w from rfl, nm_b]
    obtain ⟨m2, hm2⟩ : ∃ m2, m2 = stI m1 362 24 (nI w) := ⟨_, rfl⟩
    dsimp only
    rw [← hm2]
    have p2 : ldP m2 362 13 = some 364 := by rw [hm2]; exact c1.p hp
    have c2 : MX m1 m2 := by rw [hm2]; exact MX.j (Or.inl rfl)
    have r2 : ldI m2 364 = (sp_next (ldI μ 364)).2 := by rw [hm2, ldI_stI_ne (by decide), r1]
    have w2 : ldI m2 362 24 = nI w := by rw [hm2, ldI_stI_s]
    have ho1 := next_other h ho hw
    rw [w2, m_of6 p2 hw8, Option.bind_some, r2]
    by_cases e : 0 < (sp_next (ldI μ 364)).2 (4 + 12 * w + 6)
    · rw [if_neg (i32_nle.mpr e)]
      obtain ⟨m3, a3, c3, r3, w3, k3⟩ := turns_r p2 r2 h1 hw hy ho1 w2 (v := 1) (by rw [if_pos e])
      exact ⟨w, m3, rfl, hw, hy, a3, (c1.mc.tr c2).tr c3, r3, w3, k3⟩
    · rw [if_pos (i32_nlt.mp e)]
      obtain ⟨m3, a3, c3, r3, w3, k3⟩ := turns_r p2 r2 h1 hw hy ho1 w2 (v := 0) (by rw [if_neg e])
      exact ⟨w, m3, rfl, hw, hy, a3, (c1.mc.tr c2).tr c3, r3, w3, k3⟩
end MFU
