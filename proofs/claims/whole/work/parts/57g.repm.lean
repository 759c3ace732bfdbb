/-! repeats: the reference's -/
def cw : Nat → Nat := fun k => [2, 1, 4, 5, 6, 7].getD k 0
theorem cw_lt : ∀ k, k < 6 → cw k < 12 := by decide
section REPM
variable {μ : Mem} {n : Nat}
theorem ln372 : Ln 372 = 9648 := by decide
theorem m_seenCell (hp : ldP μ 362 13 = some 364) {f : Nat} (hf : f < 8) {k : Nat} (hk : k < 6) : fX12_seenCell 362 (nI f) (nI k) μ = some (ldI μ 364 (4 + 12 * f + cw k)) := by
  unfold fX12_seenCell
  rcases (show k = 0 ∨ k = 1 ∨ k = 2 ∨ k = 3 ∨ k = 4 ∨ k = 5 by omega) with rfl | rfl | rfl | rfl | rfl | rfl
  · rw [if_pos (by decide), m_of2 hp hf]; rfl
  · rw [if_neg (by decide), if_pos (by decide), m_of1 hp hf]; rfl
  · rw [if_neg (by decide), if_neg (by decide), if_pos (by decide), m_of4 hp hf]; rfl
  · rw [if_neg (by decide), if_neg (by decide), if_neg (by decide), if_pos (by decide), m_of5 hp hf]; rfl
  · rw [if_neg (by decide), if_neg (by decide), if_neg (by decide), if_neg (by decide), if_pos (by decide), m_of6 hp hf]; rfl
  · rw [if_neg (by decide), if_neg (by decide), if_neg (by decide), if_neg (by decide), if_neg (by decide), m_of7 hp hf]; rfl
/-- only the row of what was seen has changed -/
def S7 (μ μ' : Mem) : Prop := ldP μ' = ldP μ ∧ ldJ μ' = ldJ μ ∧ ∀ a, a ≠ 372 → ldI μ' a = ldI μ a
theorem S7.tr {a b c : Mem} (h1 : S7 a b) (h2 : S7 b c) : S7 a c := ⟨h2.1.trans h1.1, h2.2.1.trans h1.2.1, fun x hx => (h2.2.2 x hx).trans (h1.2.2 x hx)⟩
theorem S7.s {k : Nat} {v : Int32} : S7 μ (stI μ 372 k v) := ⟨rfl, rfl, fun _ h => ldI_stI_ne h⟩
theorem m_sees14 (kb : Int32 → Mem → Option Mem) (hp : ldP μ 362 13 = some 364) (hq : ldP μ 362 26 = some 372) {t f : Nat} (ht : t ≤ 200) (hf : f < 8) : ∃ μ', fX12_sees_14 kb 362 (nI t) (nI f) 0 μ = kb (nI (f + 1)) μ' ∧ S7 μ μ' ∧ (∀ k, k < 6 → ldI μ' 372 (48 * t + 6 * f + k) = ldI μ 364 (4 + 12 * f + cw k)) ∧ ∀ i, i < 48 * t + 6 * f ∨ 48 * t + 6 * f + 6 ≤ i → ldI μ' 372 i = ldI μ 372 i := by
  unfold fX12_sees_14
  refine zl2_fob (N := 6) (I := fun j m => S7 μ m ∧ (∀ k, k < j → ldI m 372 (48 * t + 6 * f + k) = ldI μ 364 (4 + 12 * f + cw k)) ∧ ∀ i, i < 48 * t + 6 * f ∨ 48 * t + 6 * f + 6 ≤ i → ldI m 372 i = ldI μ 372 i) (Qr := fun r => ∃ μ', r = kb (nI (f + 1)) μ' ∧ S7 μ μ' ∧ (∀ k, k < 6 → ldI μ' 372 (48 * t + 6 * f + k) = ldI μ 364 (4 + 12 * f + cw k)) ∧ ∀ i, i < 48 * t + 6 * f ∨ 48 * t + 6 * f + 6 ≤ i → ldI μ' 372 i = ldI μ 372 i) (by decide) ⟨⟨rfl, rfl, fun _ _ => rfl⟩, fun k hk => absurd hk (Nat.not_lt_zero _), fun _ _ => rfl⟩ (fun j m self hj hI => ?_) (fun m self hI => ?_)
  · obtain ⟨i1, i2, i3⟩ := hI
    have hpm : ldP m 362 13 = some 364 := by rw [i1.1]; exact hp
    have hqm : ldP m 362 26 = some 372 := by rw [i1.1]; exact hq
    have e1 : 48 * nI t + 6 * nI f + nI j = nI (48 * t + 6 * f + j) := by rw [show (48 : Int32) = nI 48 from rfl, show (6 : Int32) = nI 6 from rfl, pk_mul, pk_mul, nI_add, nI_add]
    have e3 : inB (nI (48 * t + 6 * f + j)) (Ln 372) = true := by rw [ln372]; exact inB_nI (by omega) (by decide)
    simp only [gX12_sees_14, if_neg (show ¬ (6 : Int32) ≤ nI j from nI_ge hj (by decide)), hqm, Option.bind_some, m_seenCell hpm hf hj, e1, gd_t e3, nI_clamp (show 48 * t + 6 * f + j < 2 ^ 31 by omega), nm_b, nI_1]
    refine Or.inl ⟨_, rfl, i1.tr S7.s, fun k hk => ?_, fun i hi => ?_⟩
    · rw [ldI_stI]
      by_cases e : k = j
      · subst e; rw [if_pos ⟨rfl, rfl⟩, i1.2.2 364 (by decide)]
      · rw [if_neg (by omega)]; exact i2 k (by omega)
    · rw [ldI_stI, if_neg (by omega)]; exact i3 i hi
  · simp only [gX12_sees_14, if_pos (show (6 : Int32) ≤ nI 6 by decide), nm_b, nI_1]
    exact ⟨m, rfl, hI⟩
theorem m_sees (hp : ldP μ 362 13 = some 364) (hq : ldP μ 362 26 = some 372) (h : okN n (ldI μ 364)) {t : Nat} (ht : t ≤ 200) : ∃ μ', fX12_sees 362 (nI t) μ = some μ' ∧ S7 μ μ' ∧ (∀ f, f < n → ∀ k, k < 6 → ldI μ' 372 (48 * t + 6 * f + k) = ldI μ 364 (4 + 12 * f + cw k)) ∧ ∀ i, i < 48 * t → ldI μ' 372 i = ldI μ 372 i := by
  have hn := h.le
  unfold fX12_sees fX12_sees_2
  refine zl2_fob (N := n) (I := fun j m => S7 μ m ∧ (∀ f, f < j → ∀ k, k < 6 → ldI m 372 (48 * t + 6 * f + k) = ldI μ 364 (4 + 12 * f + cw k)) ∧ ∀ i, i < 48 * t → ldI m 372 i = ldI μ 372 i) (Qr := fun r => ∃ μ', r = some μ' ∧ S7 μ μ' ∧ (∀ f, f < n → ∀ k, k < 6 → ldI μ' 372 (48 * t + 6 * f + k) = ldI μ 364 (4 + 12 * f + cw k)) ∧ ∀ i, i < 48 * t → ldI μ' 372 i = ldI μ 372 i) (by omega) ⟨⟨rfl, rfl, fun _ _ => rfl⟩, fun k hk => absurd hk (Nat.not_lt_zero _), fun _ _ => rfl⟩ (fun j m self hj hI => ?_) (fun m self hI => ?_)
  · obtain ⟨i1, i2, i3⟩ := hI
    have hpm : ldP m 362 13 = some 364 := by rw [i1.1]; exact hp
    have hqm : ldP m 362 26 = some 372 := by rw [i1.1]; exact hq
    have e0 : ldI m 364 0 = nI n := by rw [i1.2.2 364 (by decide)]; exact h.2.1
    obtain ⟨m2, a2, b2, c2, d2⟩ := m_sees14 self hpm hqm ht (f := j) (by omega)
    simp only [gX12_sees_2, hpm, Option.bind_some, ln364, gd_t ib0, z0, e0, if_neg (jn hj hn), a2]
    refine Or.inl ⟨m2, rfl, i1.tr b2, fun f hf k hk => ?_, fun i hi => ?_⟩
    · by_cases e : f = j
      · subst e; rw [c2 k hk, i1.2.2 364 (by decide)]
      · rw [d2 _ (by omega)]; exact i2 f (by omega) k hk
    · rw [d2 _ (by omega)]; exact i3 i hi
  · obtain ⟨i1, i2, i3⟩ := hI
    have hpm : ldP m 362 13 = some 364 := by rw [i1.1]; exact hp
    have e0 : ldI m 364 0 = nI n := by rw [i1.2.2 364 (by decide)]; exact h.2.1
    simp only [gX12_sees_2, hpm, Option.bind_some, ln364, gd_t ib0, z0, e0, if_pos (show nI n ≤ nI n from nI_le (Nat.le_refl _) (by omega))]
    exact ⟨m, rfl, i1, i2, i3⟩
theorem m_areLike (hp : ldP μ 362 13 = some 364) (hq : ldP μ 362 26 = some 372) (h0 : ldI μ 364 0 = nI n) (hn : n ≤ 8) {a b : Nat} (ha : a ≤ 200) (hb : b ≤ 200) : fX12_areLike 362 (nI a) (nI b) μ = some (bI (∀ k, k < 6 * n → ldI μ 372 (48 * a + k) = ldI μ 372 (48 * b + k))) := by
  have e6 : (6 : Int32) * nI n = nI (6 * n) := by rw [show (6 : Int32) = nI 6 from rfl, pk_mul]
  unfold fX12_areLike fX12_areLike_5
  refine zl2_m (P := fun q v x => ∃ j, j ≤ 6 * n ∧ q = 6 * n - j ∧ x = nI j ∧ ((v = 1 ∧ ∀ k, k < j → ldI μ 372 (48 * a + k) = ldI μ 372 (48 * b + k)) ∨ (v = 0 ∧ ¬ ∀ k, k < 6 * n → ldI μ 372 (48 * a + k) = ldI μ 372 (48 * b + k)))) (Qr := fun r => r = some (bI (∀ k, k < 6 * n → ldI μ 372 (48 * a + k) = ldI μ 372 (48 * b + k)))) (fun q v x self hP => ?_) FU (6 * n) 1 0 (FU_gt (by omega)) ⟨0, Nat.zero_le _, rfl, rfl, Or.inl ⟨rfl, fun k hk => absurd hk (Nat.not_lt_zero _)⟩⟩
  obtain ⟨j, g1, g2, g3, g4⟩ := hP
  subst g2; subst g3
  by_cases hj : j < 6 * n
  · have x1 : 48 * nI a + nI j = nI (48 * a + j) := by rw [show (48 : Int32) = nI 48 from rfl, pk_mul, nI_add]
    have x2 : 48 * nI b + nI j = nI (48 * b + j) := by rw [show (48 : Int32) = nI 48 from rfl, pk_mul, nI_add]
    have x3 : inB (nI (48 * a + j)) (Ln 372) = true := by rw [ln372]; exact inB_nI (by omega) (by decide)
    have x4 : inB (nI (48 * b + j)) (Ln 372) = true := by rw [ln372]; exact inB_nI (by omega) (by decide)
    simp only [gX12_areLike_5, hp, hq, Option.bind_some, ln364, gd_t ib0, z0, h0, e6, if_neg (nI_ge hj (show 6 * n < 2 ^ 31 by omega)), x1, x2, gd_t x3, gd_t x4, nI_clamp (show 48 * a + j < 2 ^ 31 by omega), nI_clamp (show 48 * b + j < 2 ^ 31 by omega), nm_b, nI_1]
    rcases g4 with ⟨rfl, g4⟩ | ⟨rfl, g4⟩
    · rw [if_neg one0]
      by_cases e : ldI μ 372 (48 * a + j) = ldI μ 372 (48 * b + j)
      · rw [if_pos e]
        refine Or.inl ⟨_, _, _, by omega, ⟨j + 1, by omega, rfl, rfl, Or.inl ⟨rfl, fun k hk => ?_⟩⟩, rfl⟩
        by_cases e2 : k = j
        · subst e2; exact e
        · exact g4 k (by omega)
      · rw [if_neg e]
        exact Or.inl ⟨_, _, _, by omega, ⟨j + 1, by omega, rfl, rfl, Or.inr ⟨rfl, fun h => e (h j hj)⟩⟩, rfl⟩
    · rw [if_pos rfl, bI_f g4]
      exact Or.inr rfl
  · have : j = 6 * n := by omega
    subst this
    refine Or.inr ?_
    simp only [gX12_areLike_5, hp, Option.bind_some, ln364, gd_t ib0, z0, h0, e6, if_pos (show nI (6 * n) ≤ nI (6 * n) from nI_le (Nat.le_refl _) (by omega))]
    rcases g4 with ⟨rfl, g4⟩ | ⟨rfl, g4⟩
    · rw [bI_t g4]
    · rw [bI_f g4]
/-- what the reference has seen -/
def SN (S : Nat → Sg) (n j : Nat) (μ : Mem) : Prop := ∀ b, b ≤ j → ∀ f, f < n → ∀ k, k < 6 → ldI μ 372 (48 * b + 6 * f + k) = S b (4 + 12 * f + cw k)
theorem SN_like {S : Nat → Sg} {j : Nat} (hS : ∀ b, okN n (S b)) (h : SN S n j μ) {a b : Nat} (ha : a ≤ j) (hb : b ≤ j) : (∀ k, k < 6 * n → ldI μ 372 (48 * a + k) = ldI μ 372 (48 * b + k)) ↔ eqvB (S a) (S b) = true := by
  rw [eqvB_iff]
  constructor
  · intro e f hf
    by_cases hn : f < n
    · have g : ∀ k, k < 6 → S a (4 + 12 * f + cw k) = S b (4 + 12 * f + cw k) := fun k hk => by
        have := e (6 * f + k) (by omega)
        rw [show 48 * a + (6 * f + k) = 48 * a + 6 * f + k by omega, show 48 * b + (6 * f + k) = 48 * b + 6 * f + k by omega, h a ha f hn k hk, h b hb f hn k hk] at this
        exact this
      exact ⟨g 0 (by decide), g 1 (by decide), g 2 (by decide), g 3 (by decide), g 4 (by decide), g 5 (by decide)⟩
    · have z := (hS a).2.2.2.2 f (by omega) hf
      have z' := (hS b).2.2.2.2 f (by omega) hf
      exact ⟨(z 2 (by decide)).trans (z' 2 (by decide)).symm, (z 1 (by decide)).trans (z' 1 (by decide)).symm, (z 4 (by decide)).trans (z' 4 (by decide)).symm, (z 5 (by decide)).trans (z' 5 (by decide)).symm, (z 6 (by decide)).trans (z' 6 (by decide)).symm, (z 7 (by decide)).trans (z' 7 (by decide)).symm⟩
  · intro e k hk
    have hn := (hS a).le
    have hf : k / 6 < n := by omega
    obtain ⟨g0, g1, g2, g3, g4, g5⟩ := e (k / 6) (by omega)
    have e2 : 48 * a + k = 48 * a + 6 * (k / 6) + k % 6 := by omega
    have e3 : 48 * b + k = 48 * b + 6 * (k / 6) + k % 6 := by omega
    rw [e2, e3, h a ha _ hf _ (by omega), h b hb _ hf _ (by omega)]
    rcases (show k % 6 = 0 ∨ k % 6 = 1 ∨ k % 6 = 2 ∨ k % 6 = 3 ∨ k % 6 = 4 ∨ k % 6 = 5 by omega) with q | q | q | q | q | q <;> rw [q]
    · exact g0
    · exact g1
    · exact g2
    · exact g3
    · exact g4
    · exact g5
end REPM
