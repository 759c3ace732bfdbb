/-! the class's forecasts: its later fight -/
theorem play_le : ∀ (k : Nat) (σ : Sg), (sp_play k σ).1 ≤ k := by
  intro k
  induction k with
  | zero => intro σ; exact Nat.le_refl _
  | succ k ih =>
    intro σ
    cases hx : (sp_next σ).1 with
    | none => rw [play_none hx]; exact Nat.zero_le _
    | some w => rw [play_some hx]; have := ih (sp_take (sp_next σ).2 w); dsimp only; omega
/-- either as many turns were taken, or the fight was over ahead of that -/
theorem play_end {n : Nat} : ∀ (k : Nat) {σ : Sg}, okN n σ → (sp_play k σ).1 = k ∨ sp_over (sp_play k σ).2 = true := by
  intro k
  induction k with
  | zero => intro σ _; exact Or.inl rfl
  | succ k ih =>
    intro σ h
    cases hx : (sp_next σ).1 with
    | none =>
      rw [play_none hx]
      by_cases ho : sp_over σ = true
      · refine Or.inr ?_; rw [next_over ho]; exact ho
      · exact absurd hx (h.next_some ho)
    | some w =>
      rw [play_some hx]
      obtain ⟨h1, h2⟩ := h.next
      obtain ⟨h3, -, h5⟩ := h2 w hx
      rcases ih (h1.take h3 h5) with h6 | h6
      · exact Or.inl (by dsimp only; rw [h6])
      · exact Or.inr h6
theorem play_full {k : Nat} {σ : Sg} (h : (sp_play k σ).1 = k) : sp_play k σ = (k, (sp_play k σ).2) := Prod.ext h rfl
theorem play_next {n k : Nat} {σ : Sg} (h : okN n σ) : (∃ w, (sp_play k σ).1 = k ∧ ¬ sp_over (sp_play k σ).2 = true ∧ (sp_next (sp_play k σ).2).1 = some w ∧ w < n ∧ sp_play (k + 1) σ = (k + 1, sp_take (sp_next (sp_play k σ).2).2 w)) ∨ (sp_over (sp_play k σ).2 = true ∧ sp_next (sp_play k σ).2 = (none, (sp_play k σ).2) ∧ sp_play (k + 1) σ = sp_play k σ) := by
  have h1 := h.play k
  by_cases ho : sp_over (sp_play k σ).2 = true
  · refine Or.inr ⟨ho, next_over ho, ?_⟩
    have : ∀ (j : Nat) {τ : Sg}, okN n τ → sp_over (sp_play j τ).2 = true → sp_play (j + 1) τ = sp_play j τ := by
      intro j
      induction j with
      | zero => intro τ _ h3; exact play_over h3 1
      | succ j ih =>
        intro τ h2 h3
        cases hx : (sp_next τ).1 with
        | none => rw [play_none hx, play_none hx]
        | some w =>
          obtain ⟨h4, h5⟩ := h2.next
          obtain ⟨h6, -, h8⟩ := h5 w hx
          rw [play_some hx] at h3
          rw [play_some hx, play_some hx, ih (h4.take h6 h8) h3]
    exact this k h ho
  · rcases play_end k h with h2 | h2
    · cases hx : (sp_next (sp_play k σ).2).1 with
      | none => exact absurd hx (h1.next_some ho)
      | some w => exact Or.inl ⟨w, h2, ho, rfl, (h1.next.2 w hx).1, by rw [play_add k (play_full h2) 1, play_1 hx]⟩
    · exact absurd h2 ho
/-- the object shows some fight -/
def FA (μ : Mem) (o : Nat) : Prop := ∃ σ ν, FR μ o σ ν
section CFO
variable {μ : Mem} {n : Nat} {σ : Sg} {ν : Nat → Int64}
theorem r66 : ∀ a, RG 66 a → ¬ RG 154 a := fun a ⟨h1, h2⟩ ⟨h3, h4⟩ => by omega
theorem c_afterTurns (h : FR μ 66 σ ν) (hl : FA μ 154) (hp : ldP μ 153 0 = some 154) (hok : okN n σ) {k : Nat} (hk : k < 1000000) : ∃ μ', fX4_afterTurns 153 66 (nI k) μ = some (154, μ') ∧ FR μ' 154 (sp_play k σ).2 ν ∧ SE (RG 154) μ μ' := by
  obtain ⟨σ0, ν0, hl⟩ := hl
  have hn : ¬ RG 154 153 := fun h => by unfold RG at h; omega
  unfold fX4_afterTurns
  obtain ⟨m1, a1, b1⟩ := c_copyS hl h (Or.inr (by decide))
  obtain ⟨m2, a2, b2⟩ := c_playOn b1.1 hok hk
  have t2 := b1.2.tr b2.2
  rw [hp, Option.bind_some, a1, Option.bind_some, (b1.2 153 hn).2.2, hp, Option.bind_some, a2, Option.bind_some, (t2 153 hn).2.2, hp, Option.bind_some]
  exact ⟨m2, rfl, b2.1, t2⟩
theorem c_actorOf (h : FR μ 66 σ ν) (hl : FA μ 154) (hp : ldP μ 153 0 = some 154) (hok : okN n σ) {k : Nat} (hk : k < 1000000) : ∃ μ', fX4_actorOf 153 66 (nI k) μ = some (ob 154 (sp_next (sp_play k σ).2).1, μ') ∧ FR μ' 154 (sp_next (sp_play k σ).2).2 ν ∧ SE (RG 154) μ μ' := by
  unfold fX4_actorOf
  obtain ⟨m1, a1, b1, c1⟩ := c_afterTurns h hl hp hok hk
  obtain ⟨m2, a2, b2⟩ := c_bringNext b1 (hok.play k).nsp
  rw [a1, Option.bind_some, a2, Option.bind_some]
  exact ⟨m2, rfl, b2.1, c1.tr b2.2⟩
theorem c_timeOf (h : FR μ 66 σ ν) (hl : FA μ 154) (hp : ldP μ 153 0 = some 154) (hok : okN n σ) {k : Nat} (hk : k < 1000000) : ∃ μ', fX4_timeOf 153 66 (nI k) μ = some ((match (sp_next (sp_play k σ).2).1 with
    | none => -1
    | some _ => (sp_next (sp_play k σ).2).2 2), μ') ∧ FA μ' 154 ∧ SE (RG 154) μ μ' := by
  have hn : ¬ RG 154 153 := fun h => by unfold RG at h; omega
  unfold fX4_timeOf
  obtain ⟨m0, a0, b0, c0⟩ := c_afterTurns h hl hp hok hk
  obtain ⟨m1, a1, b2⟩ := c_bringNext b0 (hok.play k).nsp
  have b1 := b2.1
  have c1 := c0.tr b2.2
  rw [a0, Option.bind_some, a1, Option.bind_some, (c1 153 hn).2.2, hp, Option.bind_some, b1.p1, Option.bind_some]
  cases hx : (sp_next (sp_play k σ).2).1 with
  | none =>
    rw [if_pos (show ob 154 none = 154 + 2 from rfl)]
    exact ⟨m1, rfl, ⟨_, _, b1⟩, c1⟩
  | some w =>
    rw [if_neg (show ¬ ob 154 (some w) = 154 + 2 from ob_ne), Option.bind_some, b1.tim]
    exact ⟨m1, rfl, ⟨_, _, b1⟩, c1⟩
theorem c_kindOf (h : FR μ 66 σ ν) (hl : FA μ 154) (hp : ldP μ 153 0 = some 154) (hok : okN n σ) {k : Nat} (hk : k < 1000000) : ∃ μ', fX4_kindOf 153 66 (nI k) μ = some ((match (sp_next (sp_play k σ).2).1 with
    | none => -1
    | some w => sp_kind (sp_next (sp_play k σ).2).2 w), μ') ∧ FA μ' 154 ∧ SE (RG 154) μ μ' := by
  unfold fX4_kindOf
  obtain ⟨m0, a0, b0, c0⟩ := c_afterTurns h hl hp hok hk
  obtain ⟨m1, a1, b2⟩ := c_bringNext b0 (hok.play k).nsp
  have b1 := b2.1
  have c1 := c0.tr b2.2
  obtain ⟨h1, h2⟩ := (hok.play k).next
  rw [a0, Option.bind_some, a1, Option.bind_some]
  cases hx : (sp_next (sp_play k σ).2).1 with
  | none =>
    rw [show ob 154 none = 154 + 2 from rfl, c_kindAtN b1, Option.bind_some]
    exact ⟨m1, rfl, ⟨_, _, b1⟩, c1⟩
  | some w =>
    obtain ⟨h3, -, -⟩ := h2 w hx
    have hw8 : w < 8 := by have := h1.le; omega
    rw [show ob 154 (some w) = 154 + 5 + 3 * w from rfl, b1.plc hw8, c_kindAt b1 hw8, Option.bind_some, if_pos (h1.has h3)]
    exact ⟨m1, rfl, ⟨_, _, b1⟩, c1⟩
theorem c_turnsToEnd (h : FR μ 66 σ ν) (hl : FA μ 154) (hp : ldP μ 153 0 = some 154) (hok : okN n σ) : ∃ μ', fX4_turnsToEnd 153 66 μ = some ((if sp_over (sp_play 200 σ).2 = true then nI (sp_play 200 σ).1 else -1), μ') ∧ FA μ' 154 ∧ SE (RG 154) μ μ' := by
  obtain ⟨σ0, ν0, hl⟩ := hl
  have hn : ¬ RG 154 153 := fun h => by unfold RG at h; omega
  unfold fX4_turnsToEnd
  obtain ⟨m1, a1, b1⟩ := c_copyS hl h (Or.inr (by decide))
  obtain ⟨m2, a2, b2⟩ := c_playOn b1.1 hok (k := 200) (by decide)
  have t2 := b1.2.tr b2.2
  have e200 : (200 : Int32) = nI 200 := rfl
  rw [hp, Option.bind_some, a1, Option.bind_some, (b1.2 153 hn).2.2, hp, Option.bind_some, e200, a2, Option.bind_some, (t2 153 hn).2.2, hp, Option.bind_some, c_over b2.1, Option.bind_some]
  by_cases e : sp_over (sp_play 200 σ).2 = true
  · rw [if_pos e, if_pos e, if_neg one0]
    exact ⟨m2, rfl, ⟨_, _, b2.1⟩, t2⟩
  · rw [if_neg e, if_neg e, if_pos rfl]
    exact ⟨m2, rfl, ⟨_, _, b2.1⟩, t2⟩
end CFO
