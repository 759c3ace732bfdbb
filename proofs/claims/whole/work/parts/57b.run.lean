/-! forecasts: the longest run of turns -/
theorem zl5_m {T1 T2 T3 T4 T5 β : Type} {g : (T1 → T2 → T3 → T4 → T5 → Option β) → T1 → T2 → T3 → T4 → T5 → Option β} {P : Nat → T1 → T2 → T3 → T4 → T5 → Prop} {Qr : Option β → Prop} (hs : ∀ k x y z w v self, P k x y z w v → (∃ k' x' y' z' w' v', k' < k ∧ P k' x' y' z' w' v' ∧ g self x y z w v = self x' y' z' w' v') ∨ Qr (g self x y z w v)) : ∀ fuel k x y z w v, k < fuel → P k x y z w v → Qr (zl5 g fuel x y z w v) := by
  intro fuel
  induction fuel with
  | zero => intro k x y z w v h; exact absurd h (Nat.not_lt_zero _)
  | succ n ih =>
    intro k x y z w v h hP
    rcases hs k x y z w v (zl5 g n) hP with ⟨k', x', y', z', w', v', h1, h2, h3⟩ | h1
    · rw [zl5_s, h3]; exact ih k' x' y' z' w' v' (by omega) h2
    · rw [zl5_s]; exact h1
def sp_run : Nat → Sg → Option Nat → Nat → Nat → Nat
  | 0, _, _, _, m => m
  | k + 1, σ, p, c, m => match (sp_next σ).1 with
    | none => m
    | some w => sp_run k (sp_take (sp_next σ).2 w) (some w) (if p = some w then c + 1 else 1) (max m (if p = some w then c + 1 else 1))
theorem run_none {k : Nat} {σ : Sg} {p : Option Nat} {c m : Nat} (h : (sp_next σ).1 = none) : sp_run (k + 1) σ p c m = m := by
  unfold sp_run; rw [h]
theorem run_some {k w : Nat} {σ : Sg} {p : Option Nat} {c m : Nat} (h : (sp_next σ).1 = some w) : sp_run (k + 1) σ p c m = sp_run k (sp_take (sp_next σ).2 w) (some w) (if p = some w then c + 1 else 1) (max m (if p = some w then c + 1 else 1)) := by
  generalize hx : sp_run k (sp_take (sp_next σ).2 w) (some w) (if p = some w then c + 1 else 1) (max m (if p = some w then c + 1 else 1)) = x
  unfold sp_run
  rw [h]
  dsimp only
  exact hx
theorem jmax_nI {a b : Nat} (ha : a < 2 ^ 31) (hb : b < 2 ^ 31) : jmax (nI a) (nI b) = nI (max a b) := by
  unfold jmax
  by_cases h : a < b
  · rw [if_pos (nI_lt h hb), Nat.max_eq_right (by omega)]
  · rw [if_neg (nI_nlt (by omega) ha), Nat.max_eq_left (by omega)]
theorem ob_some {o w : Nat} {p : Option Nat} : ob o (some w) = ob o p ↔ p = some w := by
  cases p with
  | none => exact ⟨fun h => absurd h ob_ne, fun h => by cases h⟩
  | some v =>
    refine ⟨fun h => ?_, fun h => by cases h; rfl⟩
    have h : o + 5 + 3 * w = o + 5 + 3 * v := h
    exact congrArg some (by omega)
section RUN
variable {μ : Mem} {n : Nat} {σ : Sg} {ν : Nat → Int64}
theorem c_mostInARow (h : FR μ 66 σ ν) (hl : FA μ 154) (hp : ldP μ 153 0 = some 154) (hok : okN n σ) {k : Nat} (hk : k < 1000000) : ∃ μ', fX4_mostInARow 153 66 (nI k) μ = some (nI (sp_run k σ none 0 0), μ') ∧ FA μ' 154 ∧ SE (RG 154) μ μ' := by
  obtain ⟨σ0, ν0, hl⟩ := hl
  have hn : ¬ RG 154 153 := fun h => by unfold RG at h; omega
  unfold fX4_mostInARow fX4_mostInARow_25
  obtain ⟨m1, a1, b1⟩ := c_copyS hl h (Or.inr (by decide))
  rw [hp, Option.bind_some, a1, Option.bind_some, (b1.2 153 hn).2.2, hp, Option.bind_some, b1.1.p1, Option.bind_some]
  refine zl5_m (P := fun q o3 v4 v5 v6 m => ∃ j τ p c b, j ≤ k ∧ q = k - j ∧ o3 = ob 154 p ∧ v4 = nI c ∧ v5 = nI b ∧ v6 = nI j ∧ okN n τ ∧ FR m 154 τ ν ∧ SE (RG 154) μ m ∧ sp_run (k - j) τ p c b = sp_run k σ none 0 0 ∧ c ≤ j ∧ b ≤ j) (Qr := fun r => ∃ μ', r = some (nI (sp_run k σ none 0 0), μ') ∧ FA μ' 154 ∧ SE (RG 154) μ μ') (fun q o3 v4 v5 v6 m self hP => ?_) FU k (154 + 2) 0 0 0 m1 (FU_gt (by omega)) ⟨0, σ, none, 0, 0, Nat.zero_le _, rfl, rfl, rfl, rfl, rfl, hok, b1.1, b1.2, rfl, Nat.le_refl _, Nat.le_refl _⟩
  obtain ⟨j, τ, p, c, b, e1, e2, e3, e4, e5, e6, g1, g2, g3, g4, g5, g6⟩ := hP
  subst e2; subst e3; subst e4; subst e5; subst e6
  have hpm : ldP m 153 0 = some 154 := by rw [(g3 153 hn).2.2]; exact hp
  by_cases hj : j < k
  · obtain ⟨m2, a2, b2⟩ := c_bringNext g2 g1.nsp
    obtain ⟨h7, h8⟩ := g1.next
    have t2 := g3.tr b2.2
    simp only [gX4_mostInARow_25, if_neg (nI_ge hj (by omega)), hpm, Option.bind_some, a2, (t2 153 hn).2.2, hp, b2.1.p1, nm_b, nI_1]
    rw [show k - j = (k - (j + 1)) + 1 by omega] at g4
    cases hx : (sp_next τ).1 with
    | none =>
      rw [if_pos (show ob 154 none = 154 + 2 from rfl)]
      rw [run_none hx] at g4
      exact Or.inr ⟨m2, by rw [g4], ⟨_, _, b2.1⟩, t2⟩
    | some w =>
      rw [run_some hx] at g4
      obtain ⟨q1, q2, q3⟩ := h8 w hx
      have hw8 : w < 8 := by have := g1.le; omega
      rw [if_neg (show ¬ ob 154 (some w) = 154 + 2 from ob_ne)]
      obtain ⟨qq, mm, k1, k2, k3, k4, k5, k6⟩ := h7.knum q1
      obtain ⟨m3, a3, b3⟩ := c_takeTurn b2.1 hw8 (h7.has q1) (by rw [k2]; exact nI_pos' (by omega))
      rw [show fX2_takeTurn 154 (ob 154 (some w)) m2 = some m3 from a3, Option.bind_some]
      by_cases e : p = some w
      · rw [if_pos e] at g4
        rw [if_pos (ob_some.mpr e), jmax_nI (by omega) (by omega)]
        exact Or.inl ⟨_, _, _, _, _, _, by omega, ⟨j + 1, _, some w, c + 1, max b (c + 1), by omega, rfl, rfl, rfl, rfl, rfl, h7.take q1 q3, b3.1, t2.tr b3.2, g4, by omega, by omega⟩, rfl⟩
      · rw [if_neg e] at g4
        rw [if_neg (fun h => e (ob_some.mp h)), show (1 : Int32) = nI 1 from rfl, jmax_nI (by omega) (by omega)]
        exact Or.inl ⟨_, _, _, _, _, _, by omega, ⟨j + 1, _, some w, 1, max b 1, by omega, rfl, rfl, rfl, rfl, rfl, h7.take q1 q3, b3.1, t2.tr b3.2, g4, by omega, by omega⟩, rfl⟩
  · have : j = k := by omega
    subst this
    rw [Nat.sub_self] at g4
    refine Or.inr ?_
    simp only [gX4_mostInARow_25, if_pos (show nI j ≤ nI j from nI_le (Nat.le_refl _) (by omega))]
    exact ⟨m, by rw [← g4]; rfl, ⟨_, _, g2⟩, g3⟩
/-- the reference's -/
theorem m_longestRun27 (hp : ldP μ 362 13 = some 364) (hq : ldP μ 362 16 = some 367) (h : okN n (ldI μ 364)) {m1 : Mem} (h1 : LV μ m1) {k : Nat} (hk : k < 1000000) : ∃ m3, fX12_longestRun_27 362 (nI k) 0 0 (-1) 0 m1 = some (nI (sp_run k (ldI μ 364) none 0 0), m3) ∧ QE μ m3 := by
  unfold fX12_longestRun_27
  refine zl5_m (P := fun q v2 v3 v4 v5 m => ∃ j τ p c b, j ≤ k ∧ q = k - j ∧ v2 = nI b ∧ v3 = nI c ∧ v4 = noI p ∧ v5 = nI j ∧ okN n τ ∧ ldI m 364 = τ ∧ MX m1 m ∧ sp_run (k - j) τ p c b = sp_run k (ldI μ 364) none 0 0 ∧ c ≤ j ∧ b ≤ j ∧ (∀ w, p = some w → w < 8)) (Qr := fun r => ∃ m3, r = some (nI (sp_run k (ldI μ 364) none 0 0), m3) ∧ QE μ m3) (fun q v2 v3 v4 v5 m self hP => ?_) FU k 0 0 (-1) 0 m1 (FU_gt (by omega)) ⟨0, ldI μ 364, none, 0, 0, Nat.zero_le _, rfl, rfl, rfl, rfl, rfl, h, h1.s, MX.rf, rfl, Nat.le_refl _, Nat.le_refl _, fun w hw => by cases hw⟩
  obtain ⟨j, τ, p, c, b, e1, e2, e3, e4, e5, e6, g1, g2, g3, g4, g5, g6, g7⟩ := hP
  subst e2; subst e3; subst e4; subst e5; subst e6
  have hpm := g3.q (h1.p hp)
  have hqm := g3.q (h1.p hq)
  have hok : okN n (ldI m 364) := by rw [g2]; exact g1
  by_cases hj : j < k
  · rw [show k - j = (k - (j + 1)) + 1 by omega] at g4
    simp only [gX12_longestRun_27, if_neg (nI_ge hj (by omega)), m_isOver hpm hok, Option.bind_some]
    by_cases ho : sp_over (ldI m 364) = true
    · rw [if_pos ho, if_neg one0]
      rw [g2] at ho
      rw [run_none (by rw [next_over ho])] at g4
      obtain ⟨m3, a3, b3⟩ := m_comesBack (v := nI b) hpm hqm h1 g3
      rw [a3, Option.bind_some]
      exact Or.inr ⟨m3, by rw [g4], b3⟩
    · rw [if_neg ho, if_pos rfl]
      obtain ⟨w, m2, a1, a2, a3, a4, a5, a6, a7, a8⟩ := m_turns hpm hok ho
      rw [g2] at a1 a3 a6 a8
      rw [run_some a1] at g4
      rw [a4, Option.bind_some, a7]
      have hn := g1.le
      by_cases e : p = some w
      · rw [if_pos e] at g4
        rw [if_pos (by rw [e]; rfl)]
        unfold fX12_longestRun_60
        rw [nm_b, a7, show fX12_greater (nI b) (nI c + 1) m2 = some (nI (max b (c + 1))) from by
          unfold fX12_greater
          rw [nI_1]
          by_cases e8 : b ≤ c + 1
          · rw [if_pos (nI_le e8 (by omega)), Nat.max_eq_right e8]
          · rw [if_neg (nI_ge (by omega) (by omega)), Nat.max_eq_left (by omega)], Option.bind_some, nm_b, nI_1, nI_1]
        exact Or.inl ⟨_, _, _, _, _, _, by omega, ⟨j + 1, _, some w, c + 1, max b (c + 1), by omega, rfl, rfl, rfl, rfl, rfl, g1.next.1.take a2 a3, a6, g3.tr a5, g4, by omega, by omega, fun v hv => by cases hv; omega⟩, rfl⟩
      · rw [if_neg e] at g4
        rw [if_neg (by
          intro e8
          cases p with
          | none => exact nI_m1 (show w < 2 ^ 31 by omega) e8
          | some v =>
            have hv := g7 v rfl
            exact e (congrArg some ((nI_eq (by omega) (by omega)).mp e8).symm))]
        unfold fX12_longestRun_60
        rw [nm_b, a7, show fX12_greater (nI b) 1 m2 = some (nI (max b 1)) from by
          unfold fX12_greater
          rw [show (1 : Int32) = nI 1 from rfl]
          by_cases e8 : b ≤ 1
          · rw [if_pos (nI_le e8 (by omega)), Nat.max_eq_right e8]
          · rw [if_neg (nI_ge (by omega) (by omega)), Nat.max_eq_left (by omega)], Option.bind_some, nm_b, nI_1]
        exact Or.inl ⟨_, _, _, _, _, _, by omega, ⟨j + 1, _, some w, 1, max b 1, by omega, rfl, rfl, rfl, rfl, rfl, g1.next.1.take a2 a3, a6, g3.tr a5, g4, by omega, by omega, fun v hv => by cases hv; omega⟩, rfl⟩
  · have : j = k := by omega
    subst this
    rw [Nat.sub_self] at g4
    refine Or.inr ?_
    simp only [gX12_longestRun_27, if_pos (show nI j ≤ nI j from nI_le (Nat.le_refl _) (by omega))]
    obtain ⟨m3, a3, b3⟩ := m_comesBack (v := nI b) hpm hqm h1 g3
    rw [a3, Option.bind_some]
    exact ⟨m3, by rw [← g4]; rfl, b3⟩
end RUN
