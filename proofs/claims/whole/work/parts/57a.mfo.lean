/-! the reference's forecasts: its fight leaves and comes back -/
/-- what a forecast leaves as it was -/
def QE (μ μ' : Mem) : Prop := ldP μ' = ldP μ ∧ ldJ μ' = ldJ μ ∧ (∀ a, a ≠ 362 → a ≠ 364 → a ≠ 367 → ldI μ' a = ldI μ a) ∧ (∀ k, k ≠ 24 → k ≠ 25 → ldI μ' 362 k = ldI μ 362 k) ∧ ∀ i, i < 196 → ldI μ' 364 i = ldI μ 364 i
theorem QE.rf {μ : Mem} : QE μ μ := ⟨rfl, rfl, fun _ _ _ _ => rfl, fun _ _ _ => rfl, fun _ _ => rfl⟩
theorem QE.tr {μ μ1 μ2 : Mem} (h1 : QE μ μ1) (h2 : QE μ1 μ2) : QE μ μ2 := ⟨h2.1.trans h1.1, h2.2.1.trans h1.2.1, fun a p q r => (h2.2.2.1 a p q r).trans (h1.2.2.1 a p q r), fun k p q => (h2.2.2.2.1 k p q).trans (h1.2.2.2.1 k p q), fun i p => (h2.2.2.2.2 i p).trans (h1.2.2.2.2 i p)⟩
theorem ln367 : Ln 367 = 196 := by decide
section MFO
variable {μ m1 m2 : Mem} {n : Nat}
/-- μ's fight has left: it lies in the row aside; m1 is then -/
def LV (μ m1 : Mem) : Prop := ldP m1 = ldP μ ∧ ldJ m1 = ldJ μ ∧ (∀ a, a ≠ 367 → ldI m1 a = ldI μ a) ∧ ∀ i, i < 196 → ldI m1 367 i = ldI μ 364 i
theorem m_leaves (hp : ldP μ 362 13 = some 364) (hq : ldP μ 362 16 = some 367) : ∃ m1, fX12_leaves 362 μ = some m1 ∧ LV μ m1 := by
  unfold fX12_leaves
  rw [hp, Option.bind_some, hq, Option.bind_some]
  obtain ⟨m, a1, a2, a3, a4, a5, a6⟩ := m_copies (μ := μ) (a := 364) (b := 367) (x := 0) (y := 0) (by rw [ln364]; decide) (by rw [ln367]; decide) (by decide) (by decide) (by decide) (by rw [ln364]; decide) (by rw [ln367]; decide)
  rw [show fX12_copiesRow 364 0 367 0 μ = some m from a1, Option.bind_some]
  exact ⟨m, rfl, a4, a5, a6, fun i hi => by have := a2 i hi; rw [Nat.zero_add] at this; exact this⟩
theorem m_comesBack {v : Int32} (hp : ldP m2 362 13 = some 364) (hq : ldP m2 362 16 = some 367) (h1 : LV μ m1) (h2 : MX m1 m2) : ∃ m3, fX12_comesBack 362 v m2 = some (v, m3) ∧ QE μ m3 := by
  unfold fX12_comesBack
  rw [hp, hq, Option.bind_some, Option.bind_some]
  obtain ⟨m, a1, a2, a3, a4, a5, a6⟩ := m_copies (μ := m2) (a := 367) (b := 364) (x := 0) (y := 0) (by rw [ln367]; decide) (by rw [ln364]; decide) (by decide) (by decide) (by decide) (by rw [ln367]; decide) (by rw [ln364]; decide)
  rw [show fX12_copiesRow 367 0 364 0 m2 = some m from a1, Option.bind_some]
  obtain ⟨b1, b2, b3, b4⟩ := h1
  obtain ⟨c1, c2, c3, c4⟩ := h2
  refine ⟨m, rfl, a4.trans (c1.trans b1), a5.trans (c2.trans b2), fun a p q r => ?_, fun k p q => ?_, fun i hi => ?_⟩
  · rw [a6 a q, c3 a q p, b3 a r]
  · rw [a6 362 (by decide), c4 k p q, b3 362 (by decide)]
  · have := a2 i hi
    rw [Nat.zero_add] at this
    rw [this, c3 367 (by decide) (by decide), b4 i hi]
theorem LV.p (h : LV μ m1) {k x : Nat} (hp : ldP μ 362 k = some x) : ldP m1 362 k = some x := by rw [h.1]; exact hp
theorem LV.s (h : LV μ m1) : ldI m1 364 = ldI μ 364 := h.2.2.1 364 (by decide)
theorem MX.q (h : MX m1 m2) {k x : Nat} (hp : ldP m1 362 k = some x) : ldP m2 362 k = some x := by rw [h.1]; exact hp
/-- the fight leaves, so many turns are played -/
theorem m_away (hp : ldP μ 362 13 = some 364) (hq : ldP μ 362 16 = some 367) (h : okN n (ldI μ 364)) {k : Nat} (hk : k < 1000000) : ∃ m1 m2, fX12_leaves 362 μ = some m1 ∧ LV μ m1 ∧ fX12_plays 362 (nI k) m1 = some (nI (sp_play k (ldI μ 364)).1, m2) ∧ MX m1 m2 ∧ ldI m2 364 = (sp_play k (ldI μ 364)).2 ∧ lastT n (ldI μ 364) (sp_play k (ldI μ 364)).1 m2 ∧ ldP m2 362 13 = some 364 ∧ ldP m2 362 16 = some 367 := by
  obtain ⟨m1, a1, b1⟩ := m_leaves hp hq
  have e := b1.s
  obtain ⟨m2, a2, c2, d2, e2⟩ := m_plays (b1.p hp) (by rw [e]; exact h) hk
  rw [e] at a2 d2 e2
  exact ⟨m1, m2, a1, b1, a2, c2, d2, e2, c2.q (b1.p hp), c2.q (b1.p hq)⟩
theorem m_endsWithin (hp : ldP μ 362 13 = some 364) (hq : ldP μ 362 16 = some 367) (h : okN n (ldI μ 364)) : ∃ m3, fX12_endsWithin 362 μ = some ((if sp_over (sp_play 200 (ldI μ 364)).2 = true then nI (sp_play 200 (ldI μ 364)).1 else -1), m3) ∧ QE μ m3 := by
  obtain ⟨m1, m2, a1, b1, a2, c2, d2, e2, p2, q2⟩ := m_away hp hq h (k := 200) (by decide)
  unfold fX12_endsWithin
  have hok : okN n (ldI m2 364) := by rw [d2]; exact h.play 200
  rw [a1, Option.bind_some, show (200 : Int32) = nI 200 from rfl, a2, Option.bind_some, m_isOver p2 hok, Option.bind_some, d2]
  by_cases e : sp_over (sp_play 200 (ldI μ 364)).2 = true
  · rw [if_pos e, if_pos e, if_neg one0]
    obtain ⟨m3, a3, b3⟩ := m_comesBack (v := nI (sp_play 200 (ldI μ 364)).1) p2 q2 b1 c2
    rw [a3, Option.bind_some]
    exact ⟨m3, rfl, b3⟩
  · rw [if_neg e, if_neg e, if_pos rfl]
    obtain ⟨m3, a3, b3⟩ := m_comesBack (v := -1) p2 q2 b1 c2
    rw [a3, Option.bind_some]
    exact ⟨m3, rfl, b3⟩
theorem m_winnerThen (hp : ldP μ 362 13 = some 364) (hq : ldP μ 362 16 = some 367) (h : okN n (ldI μ 364)) : ∃ m3, fX12_winnerThen 362 μ = some (sp_won (sp_play 200 (ldI μ 364)).2, m3) ∧ QE μ m3 := by
  obtain ⟨m1, m2, a1, b1, a2, c2, d2, e2, p2, q2⟩ := m_away hp hq h (k := 200) (by decide)
  unfold fX12_winnerThen
  have hok : okN n (ldI m2 364) := by rw [d2]; exact h.play 200
  rw [a1, Option.bind_some, show (200 : Int32) = nI 200 from rfl, a2, Option.bind_some, m_won p2 hok, Option.bind_some, d2]
  obtain ⟨m3, a3, b3⟩ := m_comesBack (v := sp_won (sp_play 200 (ldI μ 364)).2) p2 q2 b1 c2
  rw [a3, Option.bind_some]
  exact ⟨m3, rfl, b3⟩
theorem m_cellIn (hp : ldP μ 362 13 = some 364) (hq : ldP μ 362 16 = some 367) (h : okN n (ldI μ 364)) {f w k : Nat} {W : Int32} (hf : f < 8) (hw : w < 12) (hW : W = nI w) (hk : k < 1000000) : ∃ m3, fX12_cellIn 362 (nI f) W (nI k) μ = some ((sp_play k (ldI μ 364)).2 (4 + 12 * f + w), m3) ∧ QE μ m3 := by
  obtain ⟨m1, m2, a1, b1, a2, c2, d2, e2, p2, q2⟩ := m_away hp hq h hk
  unfold fX12_cellIn
  rw [a1, Option.bind_some, a2, Option.bind_some, m_of p2 hf hw hW, Option.bind_some, d2]
  obtain ⟨m3, a3, b3⟩ := m_comesBack (v := (sp_play k (ldI μ 364)).2 (4 + 12 * f + w)) p2 q2 b1 c2
  rw [a3, Option.bind_some]
  exact ⟨m3, rfl, b3⟩
/-- the next k turns are there, and what stands then -/
theorem m_comes (hp : ldP μ 362 13 = some 364) (hq : ldP μ 362 16 = some 367) (h : okN n (ldI μ 364)) {k : Nat} (hk : k < 100000) : ∃ m1 m2, LV μ m1 ∧ MX m1 m2 ∧ ldP m2 362 13 = some 364 ∧ ldP m2 362 16 = some 367 ∧ ((∃ w, (sp_next (sp_play k (ldI μ 364)).2).1 = some w ∧ fX12_comes 362 (nI k) μ = some (1, m2) ∧ ldI m2 362 24 = nI w ∧ ldI m2 362 25 = sp_kind (sp_next (sp_play k (ldI μ 364)).2).2 w ∧ ldI m2 364 = sp_take (sp_next (sp_play k (ldI μ 364)).2).2 w) ∨ ((sp_next (sp_play k (ldI μ 364)).2).1 = none ∧ fX12_comes 362 (nI k) μ = some (0, m2))) := by
  obtain ⟨m1, m2, a1, b1, a2, c2, d2, e2, p2, q2⟩ := m_away hp hq h (k := k + 1) (by omega)
  refine ⟨m1, m2, b1, c2, p2, q2, ?_⟩
  unfold fX12_comes
  rw [a1, Option.bind_some, nI_1, a2, Option.bind_some]
  rcases play_next (k := k) h with ⟨w, h1, h2, h3, h4, h5⟩ | ⟨h1, h2, h3⟩
  · refine Or.inl ⟨w, h3, ?_, ?_⟩
    · rw [h5, if_pos rfl]
    · rw [h5] at e2
      obtain ⟨τ, w', f1, f2, f3, f4, f5, f6, f7, f8⟩ := e2 (by dsimp only; omega)
      dsimp only at f2
      rw [Nat.add_sub_cancel] at f2
      have f2 := congrArg Prod.snd f2
      dsimp only at f2
      rw [f2] at h3 ⊢
      rw [f4] at h3
      cases h3
      exact ⟨f6, f7, f8⟩
  · refine Or.inr ⟨by rw [h2], ?_⟩
    rw [h3, if_neg]
    intro e
    have l := play_le k (ldI μ 364)
    have := (nI_eq (by omega) (by omega)).mp e
    omega
end MFO
