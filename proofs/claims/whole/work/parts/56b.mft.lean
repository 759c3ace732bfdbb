/-! the model's fight: its changes -/
/-- the model's fight has changed, nothing else -/
def MR (μ μ' : Mem) : Prop := ldP μ' = ldP μ ∧ ldJ μ' = ldJ μ ∧ ∀ a, a ≠ 364 → ldI μ' a = ldI μ a
theorem MR.rf {μ : Mem} : MR μ μ := ⟨rfl, rfl, fun _ _ => rfl⟩
theorem MR.tr {μ μ1 μ2 : Mem} (h1 : MR μ μ1) (h2 : MR μ1 μ2) : MR μ μ2 := ⟨h2.1.trans h1.1, h2.2.1.trans h1.2.1, fun a h3 => (h2.2.2 a h3).trans (h1.2.2 a h3)⟩
theorem MR.s {μ : Mem} {k : Nat} {v : Int32} : MR μ (stI μ 364 k v) := ⟨rfl, rfl, fun _ h => ldI_stI_ne h⟩
theorem MR.p {μ μ' : Mem} (h : MR μ μ') (hp : ldP μ 362 13 = some 364) : ldP μ' 362 13 = some 364 := by rw [h.1]; exact hp
theorem MR.j {μ μ' : Mem} (h : MR μ μ') : ldI μ' 362 = ldI μ 362 := h.2.2 362 (by decide)
/-- and what is jotted beside it -/
def MX (μ μ' : Mem) : Prop := ldP μ' = ldP μ ∧ ldJ μ' = ldJ μ ∧ (∀ a, a ≠ 364 → a ≠ 362 → ldI μ' a = ldI μ a) ∧ ∀ k, k ≠ 24 → k ≠ 25 → ldI μ' 362 k = ldI μ 362 k
theorem MX.rf {μ : Mem} : MX μ μ := ⟨rfl, rfl, fun _ _ _ => rfl, fun _ _ _ => rfl⟩
theorem MX.tr {μ μ1 μ2 : Mem} (h1 : MX μ μ1) (h2 : MX μ1 μ2) : MX μ μ2 := ⟨h2.1.trans h1.1, h2.2.1.trans h1.2.1, fun a h3 h4 => (h2.2.2.1 a h3 h4).trans (h1.2.2.1 a h3 h4), fun k h3 h4 => (h2.2.2.2 k h3 h4).trans (h1.2.2.2 k h3 h4)⟩
theorem MR.mc {μ μ' : Mem} (h : MR μ μ') : MX μ μ' := ⟨h.1, h.2.1, fun a h1 _ => h.2.2 a h1, fun k _ _ => by rw [h.j]⟩
theorem MX.j {μ : Mem} {k : Nat} {v : Int32} (hk : k = 24 ∨ k = 25) : MX μ (stI μ 362 k v) := ⟨rfl, rfl, fun _ _ h => ldI_stI_ne h, fun j h1 h2 => by rw [ldI_stI, if_neg (by omega)]⟩
theorem MX.p {μ μ' : Mem} (h : MX μ μ') (hp : ldP μ 362 13 = some 364) : ldP μ' 362 13 = some 364 := by rw [h.1]; exact hp
theorem upd_comm {f : Nat → Int32} {a b : Nat} {x y : Int32} (h : a ≠ b) : upd (upd f a x) b y = upd (upd f b y) a x := by
  funext i
  by_cases e1 : i = a
  · subst e1; rw [upd_n h, upd_s, upd_s]
  · by_cases e2 : i = b
    · subst e2; rw [upd_s, upd_n e1, upd_s]
    · rw [upd_n e2, upd_n e1, upd_n e1, upd_n e2]
theorem upd_self {f : Nat → Int32} {a : Nat} {x : Int32} (h : x = f a) : upd f a x = f := by
  funext i
  by_cases e1 : i = a
  · subst e1; rw [upd_s, h]
  · rw [upd_n e1]
theorem pass_ext {σ : Sg} {t : Int32} {n : Nat} : ∀ m, n ≤ m → (∀ f, n ≤ f → f < m → ¬ lvN σ f) → sp_pass σ t m = sp_pass σ t n := by
  intro m
  induction m with
  | zero => intro h _; rw [show n = 0 by omega]
  | succ m ih =>
    intro h h2
    by_cases e : n = m + 1
    · rw [e]
    · rw [← ih (by omega) (fun f h3 h4 => h2 f h3 (by omega))]
      have : ¬ lvN (sp_pass σ t m) m := by
        unfold lvN; rw [pass_keep m (fun g hg => by omega) (by omega)]; exact h2 m (by omega) (by omega)
      rw [sp_pass, if_neg this]
section MFT
variable {μ : Mem} {n f : Nat}
theorem m_passes (hp : ldP μ 362 13 = some 364) (h : okN n (ldI μ 364)) (t : Int32) : ∃ μ', fX12_passes 362 t μ = some μ' ∧ MR μ μ' ∧ ldI μ' 364 = sp_pass (ldI μ 364) t 8 := by
  have hn := h.le
  rw [pass_ext 8 hn h.dead]
  unfold fX12_passes fX12_passes_12
  rw [hp, Option.bind_some, ln364, gd_t ib2, gd_t ib2, z2, nm_b]
  refine zl2_fob (N := n) (I := fun j m => MR μ m ∧ ldI m 364 = sp_pass (ldI μ 364) t j) (Qr := fun r => ∃ μ', r = some μ' ∧ MR μ μ' ∧ ldI μ' 364 = sp_pass (ldI μ 364) t n) (by omega) ⟨MR.s, ldI_stI_self⟩ (fun j m self hj hI => ?_) (fun m self hI => ?_)
  · obtain ⟨h1, h2⟩ := hI
    have hj8 : j < 8 := by omega
    have hpm := h1.p hp
    have h0 : ldI m 364 0 = nI n := by rw [h2, pass_keep j (fun g hg => by omega) (by omega)]; exact h.2.1
    simp only [gX12_passes_12, hpm, Option.bind_some, ln364, gd_t ib0, z0, h0, if_neg (jn hj hn), m_lives hpm hj8, m_of4 hpm hj8, m_of1 hpm hj8, m_sets (w := 4) (W := 4) hpm hj8 (by decide) rfl, nm_b, nI_1]
    by_cases e : lvN (ldI m 364) j
    · rw [if_pos e, if_neg one0]
      refine Or.inl ⟨_, rfl, h1.tr MR.s, ?_⟩
      rw [ldI_stI_self, sp_pass, h2]
      rw [h2] at e
      rw [if_pos e]
    · rw [if_neg e, if_pos rfl]
      refine Or.inl ⟨_, rfl, h1, ?_⟩
      rw [h2] at e ⊢
      rw [sp_pass, if_neg e]
  · obtain ⟨h1, h2⟩ := hI
    have hpm := h1.p hp
    have h0 : ldI m 364 0 = nI n := by rw [h2, pass_keep n (fun g hg => by omega) (by omega)]; exact h.2.1
    simp only [gX12_passes_12, hpm, Option.bind_some, ln364, gd_t ib0, z0, h0, if_pos (show nI n ≤ nI n from nI_le (Nat.le_refl _) (by omega))]
    exact ⟨_, rfl, h1, h2⟩
theorem over_liv {σ : Sg} (ho : ¬ sp_over σ = true) : ∀ sd : Int32, sd = 0 ∨ sd = 1 → ∃ f, f < 8 ∧ lvN σ f ∧ σ (4 + 12 * f) = sd := by
  intro sd hs
  refine any_liv ?_
  unfold sp_over at ho
  cases h0 : sp_any σ 0 8 with
  | false => rw [h0] at ho; exact absurd rfl ho
  | true =>
    cases h1 : sp_any σ 1 8 with
    | false => rw [h0, h1] at ho; exact absurd rfl ho
    | true => rcases hs with rfl | rfl <;> assumption
theorem m_next (hp : ldP μ 362 13 = some 364) (h : okN n (ldI μ 364)) (ho : ¬ sp_over (ldI μ 364) = true) : ∃ μ', fX12_next 362 μ = some (noI (sp_next (ldI μ 364)).1, μ') ∧ MR μ μ' ∧ ldI μ' 364 = (sp_next (ldI μ 364)).2 := by
  unfold fX12_next
  rw [m_withExtra hp h, Option.bind_some]
  cases hx : sp_fx (ldI μ 364) with
  | some f =>
    have hf := (first_lt hx).1
    rw [next_fx ho hx, if_neg (show ¬ noI (some f) = -1 from nI_m1 (by omega))]
    exact ⟨_, rfl, MR.rf, rfl⟩
  | none =>
    obtain ⟨f, f1, f2, -⟩ := over_liv ho 0 (Or.inl rfl)
    rw [next_rd ho hx, if_pos (show noI none = -1 from rfl), m_leastTicks hp h ⟨f, f1, f2⟩, Option.bind_some]
    obtain ⟨m, h1, h2, h3⟩ := m_passes hp h (sp_lt (ldI μ 364) 8)
    obtain ⟨T, t1, t2, -⟩ := h.lt 8 (Nat.le_refl _)
    have h4 := h.pass t2 8 (Nat.le_refl _)
    rw [← t2, ← h3] at h4
    rw [h1, Option.bind_some, m_ready (h2.p hp) h4, Option.bind_some, h3]
    dsimp only
    exact ⟨m, rfl, h2, h3⟩
theorem m_greater {x : Int32} : fX12_greater 0 x μ = some (jmax x 0) := by
  unfold fX12_greater jmax
  by_cases e : x < 0
  · rw [if_pos e, if_neg (i32_nle.mpr e)]
  · rw [if_neg e, if_pos (i32_nlt.mp e)]
theorem m_lesser {x y : Int32} : fX12_lesser x y μ = some (jmin y x) := by
  unfold fX12_lesser jmin
  by_cases e : x < y
  · rw [if_pos e, if_neg (i32_nle.mpr e)]
  · rw [if_neg e, if_pos (i32_nlt.mp e)]
theorem m_lowers (hp : ldP μ 362 13 = some 364) (hf : f < 8) (v : Int32) : ∃ x μ', fX12_lowers 362 (nI f) v μ = some (x, μ') ∧ MR μ μ' ∧ ldI μ' 364 = sp_lower (ldI μ 364) f v ∧ x = sp_lower (ldI μ 364) f v (4 + 12 * f + 4) := by
  unfold fX12_lowers
  rw [m_of4 hp hf, Option.bind_some, m_greater, Option.bind_some, m_sets (w := 4) (W := 4) hp hf (by decide) rfl, Option.bind_some, m_of4 (by exact hp) hf, Option.bind_some]
  exact ⟨_, _, rfl, MR.s, ldI_stI_self, by rw [ldI_stI_self]; rfl⟩
theorem m_raises (hp : ldP μ 362 13 = some 364) (hf : f < 8) (v : Int32) : ∃ x μ', fX12_raises 362 (nI f) v μ = some (x, μ') ∧ MR μ μ' ∧ ldI μ' 364 = sp_raise (ldI μ 364) f v ∧ x = sp_raise (ldI μ 364) f v (4 + 12 * f + 4) := by
  unfold fX12_raises
  rw [m_of4 hp hf, Option.bind_some, m_lesser, Option.bind_some, m_sets (w := 4) (W := 4) hp hf (by decide) rfl, Option.bind_some, m_of4 (by exact hp) hf, Option.bind_some]
  exact ⟨_, _, rfl, MR.s, ldI_stI_self, by rw [ldI_stI_self]; rfl⟩
theorem m_heals (hp : ldP μ 362 13 = some 364) (hf : f < 8) (v : Int32) : ∃ x μ', fX12_heals 362 (nI f) v μ = some (x, μ') ∧ MR μ μ' ∧ ldI μ' 364 = sp_heal (ldI μ 364) f v ∧ x = sp_heal (ldI μ 364) f v (4 + 12 * f + 2) := by
  unfold fX12_heals
  rw [m_of2 hp hf, Option.bind_some, m_lesser, Option.bind_some, m_sets (w := 2) (W := 2) hp hf (by decide) rfl, Option.bind_some, m_of2 (by exact hp) hf, Option.bind_some]
  exact ⟨_, _, rfl, MR.s, ldI_stI_self, by rw [ldI_stI_self]; rfl⟩
theorem m_hits (hp : ldP μ 362 13 = some 364) (h : okN n (ldI μ 364)) {w : Nat} (hw : w < n) {m : Nat} (hm : m ≤ 999) (hx : sp_weak (ldI μ 364) (1 - ldI μ 364 (4 + 12 * w)) = some f) : ∃ μ', fX12_hits 362 (nI w) (nI m) μ = some μ' ∧ MR μ μ' ∧ ldI μ' 364 = sp_hit (ldI μ 364) w f (nI m) := by
  have hn := h.le
  have hw8 : w < 8 := by omega
  have hf8 : f < 8 := (best_lt hx).1
  have hf := h.liv hf8 (sd_liv (best_lt hx).2)
  unfold fX12_hits
  rw [m_of0 hp hw8, Option.bind_some, m_weakest hp h, Option.bind_some, hx, show noI (some f) = nI f from rfl, m_of2 hp hf8, Option.bind_some, m_of5 hp hf8, Option.bind_some, m_greater, Option.bind_some, m_lesser, Option.bind_some, Option.bind_some, show jmin (jmax (nI m - ldI μ 364 (4 + 12 * f + 5)) 0) (ldI μ 364 (4 + 12 * f + 2)) = sp_loss (ldI μ 364) f (nI m) from rfl, m_sets (w := 2) (W := 2) hp hf8 (by decide) rfl, Option.bind_some, m_of11 (by exact hp) hw8, Option.bind_some, m_sets (w := 11) (W := 11) (by exact hp) hw8 (by decide) rfl, Option.bind_some, m_lives (by exact hp) hf8, Option.bind_some, ldI_stI_self, ldI_stI_self, upd_n (by omega : 4 + 12 * w + 11 ≠ 4 + 12 * f + 2)]
  rw [sp_hit_eq]
  obtain ⟨g, g1, g2, g3⟩ := h.grd hf
  obtain ⟨l, l1, l2, l3⟩ := h.lif hf
  have hl : sp_loss (ldI μ 364) f (nI m) = nI (min (m - g) l) := by
    unfold sp_loss
    rw [g3, l3, jmax_sub (by omega) (by omega), jmin_nI (by omega) (by omega)]
  have hv : lvN (upd (upd (ldI μ 364) (4 + 12 * f + 2) (ldI μ 364 (4 + 12 * f + 2) - sp_loss (ldI μ 364) f (nI m))) (4 + 12 * w + 11) (ldI μ 364 (4 + 12 * w + 11) + sp_loss (ldI μ 364) f (nI m))) f ↔ ¬ ldI μ 364 (4 + 12 * f + 2) - sp_loss (ldI μ 364) f (nI m) = 0 := by
    unfold lvN
    rw [upd_n (by omega), upd_s, hl, l3, pk_sub (by omega)]
    rw [show (nI (l - min (m - g) l) = 0) = (nI (l - min (m - g) l) = nI 0) from rfl, nI_eq (by omega) (by omega)]
    exact Iff.trans (nI_ltI (a := 0) (by omega) (by omega)) (by omega)
  unfold sp_cut
  by_cases e : ldI μ 364 (4 + 12 * f + 2) - sp_loss (ldI μ 364) f (nI m) = 0
  · rw [if_neg (fun h => hv.mp h e), if_pos rfl, if_pos e]
    rw [m_sets (w := 4) (W := 4) (by exact hp) hf8 (by decide) rfl, Option.bind_some, m_sets (w := 5) (W := 5) (by exact hp) hf8 (by decide) rfl, Option.bind_some, m_sets (w := 6) (W := 6) (by exact hp) hf8 (by decide) rfl, Option.bind_some]
    refine ⟨_, rfl, (((MR.s.tr MR.s).tr MR.s).tr MR.s).tr MR.s, ?_⟩
    rw [ldI_stI_self, ldI_stI_self, ldI_stI_self, ldI_stI_self, ldI_stI_self]
    rw [upd_comm (show 4 + 12 * w + 11 ≠ 4 + 12 * f + 4 by omega), upd_comm (show 4 + 12 * w + 11 ≠ 4 + 12 * f + 5 by omega), upd_comm (show 4 + 12 * w + 11 ≠ 4 + 12 * f + 6 by omega)]
  · rw [if_pos (hv.mpr e), if_neg one0, if_neg e]
    refine ⟨_, rfl, MR.s.tr MR.s, ?_⟩
    rw [ldI_stI_self, ldI_stI_self]
theorem best_some {c : Nat → Bool} {t : Nat → Nat → Bool} {n f : Nat} (hf : f < n) (h : c f = true) : ∃ b, sp_best c t n = some b := by
  cases hb : sp_best c t n with
  | some b => exact ⟨b, rfl⟩
  | none => have := best_none hb f hf; rw [h] at this; cases this
theorem m_acts (hp : ldP μ 362 13 = some 364) (h : okN n (ldI μ 364)) {w : Nat} (hw : w < n) {q m : Nat} (hq : q ≤ 6) (hm : m ≤ 999) (hl : ∃ f, f < 8 ∧ lvN (ldI μ 364) f ∧ ldI μ 364 (4 + 12 * f) = 1 - ldI μ 364 (4 + 12 * w)) : ∃ μ', fX12_acts 362 (nI w) (nI q) (nI m) μ = some μ' ∧ MR μ μ' ∧ ldI μ' 364 = sp_act (ldI μ 364) w (nI q) (nI m) := by
  have hn := h.le
  have hw8 : w < 8 := by omega
  have hk : ∀ c : Nat, c ≤ 6 → (nI q = nI c ↔ q = c) := fun c hc => nI_eq (by omega) (by omega)
  obtain ⟨f0, f1, f2, f3⟩ := hl
  have hc : sd_c (ldI μ 364) (1 - ldI μ 364 (4 + 12 * w)) f0 = true := by unfold sd_c; rw [decide_eq_true f2, decide_eq_true f3]; rfl
  unfold fX12_acts sp_act
  by_cases k0 : q = 0
  · have e := (show nI q = (0 : Int32) ↔ q = 0 from hk 0 (by decide)).mpr k0
    rw [if_pos e, if_pos e]
    obtain ⟨f, hx⟩ : ∃ f, sp_weak (ldI μ 364) (1 - ldI μ 364 (4 + 12 * w)) = some f := best_some f1 hc
    obtain ⟨m1, h1, h2, h3⟩ := m_hits hp h hw hm hx
    rw [h1, Option.bind_some, hx]
    exact ⟨_, rfl, h2, h3⟩
  have e := fun e => k0 ((show nI q = (0 : Int32) ↔ q = 0 from hk 0 (by decide)).mp e)
  rw [if_neg e, if_neg e]
  clear e
  by_cases k1 : q = 1
  · have e := (show nI q = (1 : Int32) ↔ q = 1 from hk 1 (by decide)).mpr k1
    rw [if_pos e, if_pos e]
    obtain ⟨f, hx⟩ : ∃ f, sp_full (ldI μ 364) (1 - ldI μ 364 (4 + 12 * w)) = some f := best_some f1 hc
    rw [m_of0 hp hw8, Option.bind_some, m_fullest hp h, Option.bind_some, hx]
    obtain ⟨x, m1, h1, h2, h3, -⟩ := m_lowers hp (best_lt hx).1 (nI m)
    rw [show noI (some f) = nI f from rfl, h1, Option.bind_some]
    exact ⟨_, rfl, h2, h3⟩
  have e := fun e => k1 ((show nI q = (1 : Int32) ↔ q = 1 from hk 1 (by decide)).mp e)
  rw [if_neg e, if_neg e]
  clear e
  by_cases k2 : q = 2
  · have e := (show nI q = (2 : Int32) ↔ q = 2 from hk 2 (by decide)).mpr k2
    rw [if_pos e, if_pos e, m_emptiest hp h hw, Option.bind_some]
    cases hx : sp_lift (ldI μ 364) w with
    | none =>
      rw [if_pos (show noI none = -1 from rfl)]
      exact ⟨_, rfl, MR.rf, rfl⟩
    | some f =>
      have hf8 : f < 8 := (best_lt hx).1
      rw [show noI (some f) = nI f from rfl, if_neg (nI_m1 (by omega))]
      obtain ⟨x, m1, h1, h2, h3, -⟩ := m_raises hp hf8 (nI m)
      rw [h1, Option.bind_some]
      exact ⟨_, rfl, h2, h3⟩
  have e := fun e => k2 ((show nI q = (2 : Int32) ↔ q = 2 from hk 2 (by decide)).mp e)
  rw [if_neg e, if_neg e]
  clear e
  by_cases k3 : q = 3
  · have e := (show nI q = (3 : Int32) ↔ q = 3 from hk 3 (by decide)).mpr k3
    rw [if_pos e, if_pos e, m_sets (w := 5) (W := 5) hp hw8 (by decide) rfl, Option.bind_some]
    exact ⟨_, rfl, MR.s, ldI_stI_self⟩
  have e := fun e => k3 ((show nI q = (3 : Int32) ↔ q = 3 from hk 3 (by decide)).mp e)
  rw [if_neg e, if_neg e]
  clear e
  by_cases k4 : q = 4
  · have e := (show nI q = (4 : Int32) ↔ q = 4 from hk 4 (by decide)).mpr k4
    rw [if_pos e, if_pos e, m_of6 hp hw8, Option.bind_some, m_lesser, Option.bind_some, m_sets (w := 6) (W := 6) hp hw8 (by decide) rfl, Option.bind_some]
    exact ⟨_, rfl, MR.s, ldI_stI_self⟩
  have e := fun e => k4 ((show nI q = (4 : Int32) ↔ q = 4 from hk 4 (by decide)).mp e)
  rw [if_neg e, if_neg e]
  clear e
  by_cases k5 : q = 5
  · have e := (show nI q = (5 : Int32) ↔ q = 5 from hk 5 (by decide)).mpr k5
    rw [if_pos e, if_pos e, m_sets (w := 1) (W := 1) hp hw8 (by decide) rfl, Option.bind_some]
    exact ⟨_, rfl, MR.s, ldI_stI_self⟩
  have e := fun e => k5 ((show nI q = (5 : Int32) ↔ q = 5 from hk 5 (by decide)).mp e)
  rw [if_neg e, if_neg e]
  clear e
  have e := (show nI q = (6 : Int32) ↔ q = 6 from hk 6 (by decide)).mpr (by omega)
  rw [if_pos e]
  obtain ⟨x, m1, h1, h2, h3, -⟩ := m_heals hp hw8 (nI m)
  rw [h1, Option.bind_some]
  exact ⟨_, rfl, h2, h3⟩
end MFT
