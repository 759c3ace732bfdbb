/-! scripts: how many steps there are -/
def wt (u : Nat → Int32) (j i : Nat) : Nat := 20 ^ ((stk u i).length - j)
def Xs (u : Nat → Int32) (j : Nat) : Nat → Nat
  | 0 => 0
  | k + 1 => Xs u j k + wt u j k
section STP
variable {u : Nat → Int32} {N k : Nat}
theorem wt_pos {j i : Nat} : 1 ≤ wt u j i := Nat.one_le_pow _ _ (by decide)
theorem Xs_mono {j a b : Nat} (h : a ≤ b) : Xs u j a ≤ Xs u j b := by
  induction b with
  | zero => rw [show a = 0 by omega]; exact Nat.le_refl _
  | succ b ih =>
    by_cases e : a = b + 1
    · rw [e]; exact Nat.le_refl _
    · have := ih (by omega); rw [Xs]; omega
theorem Xs_le {j : Nat} (h : ∀ i, i ≤ N → (stk u i).length ≤ 2) : ∀ k, k ≤ N → Xs u j k ≤ 400 * k := by
  intro k
  induction k with
  | zero => intro _; exact Nat.le_refl _
  | succ k ih =>
    intro hk
    have h1 := ih (by omega)
    have h2 := h k (by omega)
    have h3 : wt u j k ≤ 20 ^ 2 := Nat.pow_le_pow_right (by decide) (by omega)
    rw [Xs]; omega
/-- between a and b the depth is above j: a lap weighs a twentieth -/
theorem Xs_scale {j a : Nat} : ∀ {b : Nat}, a ≤ b → (∀ i, a ≤ i → i < b → j + 1 ≤ (stk u i).length) → Xs u j b - Xs u j a = 20 * (Xs u (j + 1) b - Xs u (j + 1) a) := by
  intro b
  induction b with
  | zero => intro h _; rw [show a = 0 by omega, Nat.sub_self, Nat.sub_self]
  | succ b ih =>
    intro h hd
    by_cases e : a = b + 1
    · rw [e, Nat.sub_self, Nat.sub_self]
    · have h1 := ih (by omega) (fun i h1 h2 => hd i h1 (by omega))
      have h2 : wt u j b = 20 * wt u (j + 1) b := by
        have := hd b (by omega) (by omega)
        unfold wt
        rw [show (stk u b).length - j = ((stk u b).length - (j + 1)) + 1 by omega, Nat.pow_succ, Nat.mul_comm]
      have h3 := @Xs_mono u j a b (by omega)
      have h4 := @Xs_mono u (j + 1) a b (by omega)
      rw [Xs, Xs]; omega
/-- each open repeat: where it stands, and what was open behind it -/
theorem stk_pre : ∀ (k i : Nat), i < (stk u k).length → ∃ s, (stk u k)[i]? = some s ∧ s < k ∧ u s = 8 ∧ (stk u k).take (i + 1) = stk u (s + 1) := by
  intro k
  induction k with
  | zero => intro i h; exact absurd h (Nat.not_lt_zero _)
  | succ k ih =>
    intro i h
    rw [stk] at h ⊢
    by_cases e8 : u k = 8
    · rw [if_pos e8] at h ⊢
      by_cases ei : i < (stk u k).length
      · obtain ⟨s, h1, h2, h3, h4⟩ := ih i ei
        exact ⟨s, by rw [List.getElem?_append_left ei]; exact h1, by omega, h3, by rw [List.take_append_of_le_length (by omega)]; exact h4⟩
      · rw [List.length_append] at h
        simp only [List.length_singleton] at h
        have : i = (stk u k).length := by omega
        subst this
        refine ⟨k, by rw [List.getElem?_append_right (Nat.le_refl _), Nat.sub_self]; rfl, by omega, e8, ?_⟩
        rw [stk, if_pos e8, List.take_of_length_le (by rw [List.length_append]; simp only [List.length_singleton]; omega)]
    · rw [if_neg e8] at h ⊢
      by_cases e9 : u k = 9
      · rw [if_pos e9] at h ⊢
        rw [List.length_dropLast] at h
        obtain ⟨s, h1, h2, h3, h4⟩ := ih i (by omega)
        refine ⟨s, by rw [List.getElem?_dropLast, if_pos (by omega)]; exact h1, by omega, h3, ?_⟩
        rw [← h4, List.dropLast_eq_take, List.take_take, Nat.min_eq_left (by omega)]
      · rw [if_neg e9] at h ⊢
        obtain ⟨s, h1, h2, h3, h4⟩ := ih i h
        exact ⟨s, h1, by omega, h3, h4⟩
theorem stk_last {s : Nat} (h : (stk u k).getLast? = some s) : s < k ∧ u s = 8 ∧ stk u k = stk u (s + 1) ∧ stk u k = stk u s ++ [s] := by
  rw [List.getLast?_eq_getElem?] at h
  have hl : 0 < (stk u k).length := by
    cases hs : stk u k with
    | nil => rw [hs] at h; cases h
    | cons a l => exact Nat.succ_pos _
  obtain ⟨s', h1, h2, h3, h4⟩ := stk_pre (u := u) k ((stk u k).length - 1) (by omega)
  rw [h] at h1; cases h1
  rw [List.take_of_length_le (by omega)] at h4
  exact ⟨h2, h3, h4, by rw [h4, stk, if_pos h3]⟩
/-- a repeat is closed somewhere -/
theorem stk_end {s : Nat} (hN : stk u N = []) (hs : s < N) (h8 : u s = 8) : ∃ e, s < e ∧ e < N ∧ u e = 9 ∧ (stk u (e + 1)).length < (stk u (s + 1)).length ∧ ∀ i, s < i → i ≤ e → (stk u (s + 1)).length ≤ (stk u i).length := by
  have hlen : (stk u (s + 1)).length = (stk u s).length + 1 := by rw [stk, if_pos h8, List.length_append]; rfl
  have hex : ∃ e, s < e ∧ (stk u (e + 1)).length < (stk u (s + 1)).length := by
    refine ⟨N - 1, ?_, ?_⟩
    · by_cases q : s = N - 1
      · exfalso
        have : stk u (s + 1) = [] := by rw [q, show N - 1 + 1 = N by omega]; exact hN
        rw [this] at hlen
        have : ([] : List Nat).length = 0 := rfl
        omega
      · omega
    · rw [show N - 1 + 1 = N by omega, hN, hlen]; exact Nat.succ_pos _
  obtain ⟨e, ⟨h1, h2⟩, h3⟩ := pk_least (fun e => s < e ∧ (stk u (e + 1)).length < (stk u (s + 1)).length) hex
  have hin : ∀ i, s < i → i ≤ e → (stk u (s + 1)).length ≤ (stk u i).length := by
    intro i i1 i2
    by_cases q : i = s + 1
    · rw [q]; exact Nat.le_refl _
    · have := h3 (i - 1) (by omega)
      rw [show i - 1 + 1 = i by omega] at this
      by_cases q2 : (stk u (s + 1)).length ≤ (stk u i).length
      · exact q2
      · exact absurd ⟨by omega, by omega⟩ this
  have heN : e < N := by
    by_cases q : e < N
    · exact q
    · exfalso
      have := hin N (by omega) (by omega)
      rw [hN, hlen] at this
      have : ([] : List Nat).length = 0 := rfl
      omega
  refine ⟨e, h1, heN, ?_, h2, hin⟩
  have h4 := hin e h1 (Nat.le_refl _)
  rw [stk] at h2
  by_cases q8 : u e = 8
  · rw [if_pos q8, List.length_append] at h2; omega
  · rw [if_neg q8] at h2
    by_cases q9 : u e = 9
    · exact q9
    · rw [if_neg q9] at h2; omega
end STP
