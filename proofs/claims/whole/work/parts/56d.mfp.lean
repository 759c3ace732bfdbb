/-! the model's fight: so many turns; rows are copied -/
section MFP
variable {μ : Mem} {n : Nat}
theorem play_add : ∀ (j : Nat) {σ τ : Sg}, sp_play j σ = (j, τ) → ∀ i, sp_play (j + i) σ = (j + (sp_play i τ).1, (sp_play i τ).2) := by
  intro j
  induction j with
  | zero =>
    intro σ τ h i
    have : σ = τ := congrArg Prod.snd h
    subst this
    rw [Nat.zero_add, Nat.zero_add]
  | succ j ih =>
    intro σ τ h i
    cases hx : (sp_next σ).1 with
    | none =>
      rw [play_none hx] at h
      have : (0 : Nat) = j + 1 := congrArg Prod.fst h
      omega
    | some w =>
      rw [play_some hx] at h
      have h1 : (sp_play j (sp_take (sp_next σ).2 w)).1 + 1 = j + 1 := congrArg Prod.fst h
      have h2 : (sp_play j (sp_take (sp_next σ).2 w)).2 = τ := congrArg Prod.snd h
      have h3 : sp_play j (sp_take (sp_next σ).2 w) = (j, τ) := Prod.ext (by omega) h2
      have h4 := ih h3 i
      rw [show j + 1 + i = (j + i) + 1 by omega, play_some hx, h4]
      exact Prod.ext (by dsimp only; omega) rfl
theorem play_1 {τ : Sg} {w : Nat} (h : (sp_next τ).1 = some w) : sp_play 1 τ = (1, sp_take (sp_next τ).2 w) := by
  rw [show (1 : Nat) = 0 + 1 from rfl, play_some h]
  exact Prod.ext rfl rfl
theorem play_over {τ : Sg} (h : sp_over τ = true) : ∀ i, sp_play i τ = (0, τ) := by
  intro i
  cases i with
  | zero => rfl
  | succ i => rw [play_none (by rw [next_over h]), next_over h]
/-- the last of c turns -/
def lastT (n : Nat) (σ : Sg) (c : Nat) (μ' : Mem) : Prop := 0 < c → ∃ τ w, okN n τ ∧ sp_play (c - 1) σ = (c - 1, τ) ∧ ¬ sp_over τ = true ∧ (sp_next τ).1 = some w ∧ w < n ∧ ldI μ' 362 24 = nI w ∧ ldI μ' 362 25 = sp_kind (sp_next τ).2 w ∧ ldI μ' 364 = sp_take (sp_next τ).2 w
theorem m_plays (hp : ldP μ 362 13 = some 364) (h : okN n (ldI μ 364)) {k : Nat} (hk : k < 1000000) : ∃ μ', fX12_plays 362 (nI k) μ = some (nI (sp_play k (ldI μ 364)).1, μ') ∧ MX μ μ' ∧ ldI μ' 364 = (sp_play k (ldI μ 364)).2 ∧ lastT n (ldI μ 364) (sp_play k (ldI μ 364)).1 μ' := by
  unfold fX12_plays fX12_plays_2
  refine zl2_fob (N := k) (I := fun j m => ∃ τ, okN n τ ∧ sp_play j (ldI μ 364) = (j, τ) ∧ MX μ m ∧ ldI m 364 = τ ∧ lastT n (ldI μ 364) j m) (Qr := fun r => ∃ μ', r = some (nI (sp_play k (ldI μ 364)).1, μ') ∧ MX μ μ' ∧ ldI μ' 364 = (sp_play k (ldI μ 364)).2 ∧ lastT n (ldI μ 364) (sp_play k (ldI μ 364)).1 μ') (by omega) ⟨ldI μ 364, h, rfl, MX.rf, rfl, fun h0 => absurd h0 (Nat.lt_irrefl _)⟩ (fun j m self hj hI => ?_) (fun m self hI => ?_)
  · obtain ⟨τ, h1, h2, h3, h4, h5⟩ := hI
    have hpm := h3.p hp
    have hok : okN n (ldI m 364) := by rw [h4]; exact h1
    simp only [gX12_plays_2, if_neg (nI_ge hj (by omega)), m_isOver hpm hok, Option.bind_some, nm_b, nI_1]
    by_cases ho : sp_over (ldI m 364) = true
    · rw [if_pos ho, if_neg one0]
      rw [h4] at ho
      have h6 := play_add j h2 (k - j)
      rw [show j + (k - j) = k by omega, play_over ho, Nat.add_zero] at h6
      rw [h6]
      exact Or.inr ⟨m, rfl, h3, h4, h5⟩
    · rw [if_neg ho, if_pos rfl]
      obtain ⟨w, m1, a1, a2, a3, a4, a5, a6, a7, a8⟩ := m_turns hpm hok ho
      rw [a4, Option.bind_some]
      rw [h4] at a1 a3 a6 a8 ho
      refine Or.inl ⟨m1, rfl, sp_take (sp_next τ).2 w, h1.next.1.take a2 a3, ?_, h3.tr a5, a6, fun _ => ⟨τ, w, h1, ?_, ho, a1, a2, a7, a8, a6⟩⟩
      · rw [play_add j h2 1, play_1 a1]
      · rw [Nat.add_sub_cancel]; exact h2
  · obtain ⟨τ, h1, h2, h3, h4, h5⟩ := hI
    simp only [gX12_plays_2, if_pos (show nI k ≤ nI k from nI_le (Nat.le_refl _) (by omega))]
    rw [h2]
    exact ⟨m, rfl, h3, h4, h5⟩
/-- a row is copied -/
theorem m_copies {a b x y : Nat} (ha : x + 196 ≤ Ln a) (hb : y + 196 ≤ Ln b) (hab : a ≠ b) (hx : x < 100000) (hy : y < 100000) (la : Ln a < 100000) (lb : Ln b < 100000) : ∃ μ', fX12_copiesRow a (nI x) b (nI y) μ = some μ' ∧ (∀ i, i < 196 → ldI μ' b (y + i) = ldI μ a (x + i)) ∧ (∀ i, i < y ∨ y + 196 ≤ i → ldI μ' b i = ldI μ b i) ∧ ldP μ' = ldP μ ∧ ldJ μ' = ldJ μ ∧ ∀ o, o ≠ b → ldI μ' o = ldI μ o := by
  unfold fX12_copiesRow fX12_copiesRow_3
  have e196 : (196 : Int32) = nI 196 := rfl
  refine zl2_fob (N := 196) (I := fun j m => (∀ i, i < j → ldI m b (y + i) = ldI μ a (x + i)) ∧ (∀ i, i < y ∨ y + j ≤ i → ldI m b i = ldI μ b i) ∧ ldP m = ldP μ ∧ ldJ m = ldJ μ ∧ ∀ o, o ≠ b → ldI m o = ldI μ o) (Qr := fun r => ∃ μ', r = some μ' ∧ (∀ i, i < 196 → ldI μ' b (y + i) = ldI μ a (x + i)) ∧ (∀ i, i < y ∨ y + 196 ≤ i → ldI μ' b i = ldI μ b i) ∧ ldP μ' = ldP μ ∧ ldJ μ' = ldJ μ ∧ ∀ o, o ≠ b → ldI μ' o = ldI μ o) (by decide) ⟨fun i hi => absurd hi (Nat.not_lt_zero _), fun _ _ => rfl, rfl, rfl, fun _ _ => rfl⟩ (fun j m self hj hI => ?_) (fun m self hI => ?_)
  · obtain ⟨h1, h2, h3, h4, h5⟩ := hI
    simp only [gX12_copiesRow_3, e196, if_neg (nI_ge hj (by decide)), nI_add, gd_t (inB_nI (show x + j < Ln a by omega) (by omega)), gd_t (inB_nI (show y + j < Ln b by omega) (by omega)), nI_clamp (show x + j < 2 ^ 31 by omega), nI_clamp (show y + j < 2 ^ 31 by omega), nm_b, nI_1]
    refine Or.inl ⟨_, rfl, fun i hi => ?_, fun i hi => ?_, h3, h4, fun o ho => ?_⟩
    · rw [ldI_stI]
      by_cases e : i = j
      · subst e; rw [if_pos ⟨rfl, rfl⟩, h5 a hab]
      · rw [if_neg (by omega)]; exact h1 i (by omega)
    · rw [ldI_stI, if_neg (by omega)]; exact h2 i (by omega)
    · rw [ldI_stI_ne ho]; exact h5 o ho
  · simp only [gX12_copiesRow_3, e196, if_pos (show nI 196 ≤ nI 196 from nI_le (Nat.le_refl _) (by decide))]
    exact ⟨_, rfl, hI⟩
end MFP
