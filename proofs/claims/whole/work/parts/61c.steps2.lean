/-! scripts: every step leaves fewer -/
def lpR (u : Nat → Int32) (N d s e : Nat) : Prop := s < e ∧ e < N ∧ u s = 8 ∧ u e = 9 ∧ (stk u (e + 1)).length < d ∧ ∀ i, s < i → i ≤ e → d ≤ (stk u i).length
/-- how many steps are left, at most: rr tells the laps of the open repeats -/
def ME (u : Nat → Int32) (N : Nat) (rr : Nat → Nat) (k φ : Nat) : Prop :=
  (stk u k = [] ∧ k ≤ N ∧ φ = Xs u 0 N - Xs u 0 k) ∨
  (∃ s0 e0, stk u k = [s0] ∧ lpR u N 1 s0 e0 ∧ s0 < k ∧ k ≤ e0 ∧ 1 ≤ rr 0 ∧ φ = (Xs u 1 (e0 + 1) - Xs u 1 k) + (rr 0 - 1) * (Xs u 1 (e0 + 1) - Xs u 1 (s0 + 1)) + (Xs u 0 N - Xs u 0 (e0 + 1))) ∨
  (∃ s0 e0 s1 e1, stk u k = [s0, s1] ∧ lpR u N 1 s0 e0 ∧ lpR u N 2 s1 e1 ∧ s0 < s1 ∧ s1 < k ∧ k ≤ e1 ∧ e1 < e0 ∧ 1 ≤ rr 0 ∧ 1 ≤ rr 1 ∧ φ = (Xs u 2 (e1 + 1) - Xs u 2 k) + (rr 1 - 1) * (Xs u 2 (e1 + 1) - Xs u 2 (s1 + 1)) + (Xs u 1 (e0 + 1) - Xs u 1 (e1 + 1)) + (rr 0 - 1) * (Xs u 1 (e0 + 1) - Xs u 1 (s0 + 1)) + (Xs u 0 N - Xs u 0 (e0 + 1)))
def upN (rr : Nat → Nat) (d r : Nat) : Nat → Nat := fun i => if i = d then r else rr i
section STP2
variable {u : Nat → Int32} {N k φ : Nat} {rr : Nat → Nat}
theorem Xs_s {j k : Nat} : Xs u j k + 1 ≤ Xs u j (k + 1) := by
  have := @wt_pos u j k
  rw [Xs]; omega
theorem me_plain (hk : k < N) (h8 : ¬ u k = 8) (h9 : ¬ u k = 9) (h : ME u N rr k φ) : ∃ φ', φ' < φ ∧ ME u N rr (k + 1) φ' := by
  have hs : stk u (k + 1) = stk u k := by rw [stk, if_neg h8, if_neg h9]
  rcases h with ⟨h1, h2, h3⟩ | ⟨s0, e0, h1, h2, h3, h4, h5, h6⟩ | ⟨s0, e0, s1, e1, h1, h2, h3, h4, h5, h6, h7, h10, h11, h12⟩
  · have a1 := @Xs_s u 0 k
    have a2 := @Xs_mono u 0 (k + 1) N (by omega)
    exact ⟨_, by omega, Or.inl ⟨by rw [hs]; exact h1, by omega, rfl⟩⟩
  · have ne : k ≠ e0 := fun e => h9 (by rw [e]; exact h2.2.2.2.1)
    have a1 := @Xs_s u 1 k
    have a2 := @Xs_mono u 1 (k + 1) (e0 + 1) (by omega)
    exact ⟨_, by omega, Or.inr (Or.inl ⟨s0, e0, by rw [hs]; exact h1, h2, by omega, by omega, h5, rfl⟩)⟩
  · have ne : k ≠ e1 := fun e => h9 (by rw [e]; exact h3.2.2.2.1)
    have a1 := @Xs_s u 2 k
    have a2 := @Xs_mono u 2 (k + 1) (e1 + 1) (by omega)
    exact ⟨_, by omega, Or.inr (Or.inr ⟨s0, e0, s1, e1, by rw [hs]; exact h1, h2, h3, h4, by omega, by omega, h7, h10, h11, rfl⟩)⟩
theorem me_rep (hN : stk u N = []) (hd : ∀ i, i ≤ N → (stk u i).length ≤ 2) (hk : k < N) (h8 : u k = 8) {r : Nat} (r1 : 1 ≤ r) (r20 : r ≤ 20) (h : ME u N rr k φ) : ∃ φ', φ' < φ ∧ ME u N (upN rr (stk u k).length r) (k + 1) φ' := by
  have hs : stk u (k + 1) = stk u k ++ [k] := by rw [stk, if_pos h8]
  obtain ⟨e, e1', e2, e3, e4, e5⟩ := stk_end hN hk h8
  obtain ⟨r', rfl⟩ : ∃ r', r = r' + 1 := ⟨r - 1, by omega⟩
  rcases h with ⟨h1, h2, h3⟩ | ⟨s0, e0, h1, h2, h3, h4, h5, h6⟩ | ⟨s0, e0, s1, e1, h1, h2, h3, h4, h5, h6, h7, h10, h11, h12⟩
  · have hl : (stk u (k + 1)).length = 1 := by rw [hs, h1]; rfl
    rw [hl] at e4 e5
    have a1 := @Xs_s u 0 k
    have a2 := @Xs_mono u 0 (k + 1) (e + 1) (by omega)
    have a3 := @Xs_mono u 0 (e + 1) N (by omega)
    have a4 := @Xs_scale u 0 (k + 1) (e + 1) (by omega) (fun i i1 i2 => e5 i (by omega) (by omega))
    have a5 : r' * (Xs u 1 (e + 1) - Xs u 1 (k + 1)) ≤ 19 * (Xs u 1 (e + 1) - Xs u 1 (k + 1)) := Nat.mul_le_mul_right _ (by omega)
    refine ⟨(Xs u 1 (e + 1) - Xs u 1 (k + 1)) + r' * (Xs u 1 (e + 1) - Xs u 1 (k + 1)) + (Xs u 0 N - Xs u 0 (e + 1)), ?_, Or.inr (Or.inl ⟨k, e, by rw [hs, h1]; rfl, ⟨e1', e2, h8, e3, e4, e5⟩, by omega, by omega, ?_, ?_⟩)⟩
    · rw [show (0 : Nat) + 1 = 1 from rfl] at a4
      omega
    · rw [h1]; exact r1
    · rw [h1]; rfl
  · have hl : (stk u (k + 1)).length = 2 := by rw [hs, h1]; rfl
    rw [hl] at e4 e5
    have ne : k ≠ e0 := fun q => by have := h2.2.2.2.1; rw [← q, h8] at this; exact absurd this (by decide)
    have hlt : e < e0 := by
      by_cases q : e < e0
      · exact q
      · exfalso
        have b1 := e5 e0 (by omega) (by omega)
        have b2 := h2.2.2.2.2.1
        rw [stk, if_neg (by rw [h2.2.2.2.1]; decide), if_pos h2.2.2.2.1, List.length_dropLast] at b2
        omega
    have a1 := @Xs_s u 1 k
    have a2 := @Xs_mono u 1 (k + 1) (e + 1) (by omega)
    have a3 := @Xs_mono u 1 (e + 1) (e0 + 1) (by omega)
    have a4 := @Xs_scale u 1 (k + 1) (e + 1) (by omega) (fun i i1 i2 => e5 i (by omega) (by omega))
    have a5 : r' * (Xs u 2 (e + 1) - Xs u 2 (k + 1)) ≤ 19 * (Xs u 2 (e + 1) - Xs u 2 (k + 1)) := Nat.mul_le_mul_right _ (by omega)
    refine ⟨(Xs u 2 (e + 1) - Xs u 2 (k + 1)) + r' * (Xs u 2 (e + 1) - Xs u 2 (k + 1)) + (Xs u 1 (e0 + 1) - Xs u 1 (e + 1)) + (rr 0 - 1) * (Xs u 1 (e0 + 1) - Xs u 1 (s0 + 1)) + (Xs u 0 N - Xs u 0 (e0 + 1)), ?_, Or.inr (Or.inr ⟨s0, e0, k, e, by rw [hs, h1]; rfl, h2, ⟨e1', e2, h8, e3, e4, e5⟩, h3, by omega, by omega, hlt, ?_, ?_, ?_⟩)⟩
    · rw [show (1 : Nat) + 1 = 2 from rfl] at a4
      omega
    · rw [h1]; exact h5
    · rw [h1]; exact r1
    · rw [h1]; rfl
  · exfalso
    have := hd (k + 1) (by omega)
    rw [hs, h1] at this
    have e9 : ([s0, s1] ++ [k]).length = 3 := rfl
    omega
theorem me_more (h9 : u k = 9) {s : Nat} (hs : (stk u k).getLast? = some s) (hr : 2 ≤ rr ((stk u k).length - 1)) (h : ME u N rr k φ) : ∃ φ', φ' < φ ∧ ME u N (upN rr ((stk u k).length - 1) (rr ((stk u k).length - 1) - 1)) (s + 1) φ' := by
  have hn8 : ¬ u k = 8 := by rw [h9]; decide
  have hst : stk u (k + 1) = (stk u k).dropLast := by rw [stk, if_neg hn8, if_pos h9]
  obtain ⟨l1, l2, l3, l4⟩ := stk_last hs
  rcases h with ⟨h1, h2, h3⟩ | ⟨s0, e0, h1, h2, h3, h4, h5, h6⟩ | ⟨s0, e0, s1, e1, h1, h2, h3, h4, h5, h6, h7, h10, h11, h12⟩
  · rw [h1] at hs; cases hs
  · rw [h1] at hs hr ⊢
    have es : s0 = s := Option.some.inj (show some s0 = some s from hs)
    subst es
    have ek : k = e0 := by
      by_cases q : k = e0
      · exact q
      · exfalso
        have := h2.2.2.2.2.2 (k + 1) (by omega) (by omega)
        rw [hst, h1] at this
        have e9 : ([s0] : List Nat).dropLast.length = 0 := rfl
        omega
    obtain ⟨r', hr'⟩ : ∃ r', rr 0 = r' + 2 := ⟨rr 0 - 2, by have : 2 ≤ rr 0 := hr; omega⟩
    have a1 := @Xs_s u 1 e0
    have a5 : (r' + 1) * (Xs u 1 (e0 + 1) - Xs u 1 (s0 + 1)) = r' * (Xs u 1 (e0 + 1) - Xs u 1 (s0 + 1)) + (Xs u 1 (e0 + 1) - Xs u 1 (s0 + 1)) := Nat.succ_mul _ _
    have a6 := h2.1
    refine ⟨(Xs u 1 (e0 + 1) - Xs u 1 (s0 + 1)) + r' * (Xs u 1 (e0 + 1) - Xs u 1 (s0 + 1)) + (Xs u 0 N - Xs u 0 (e0 + 1)), ?_, Or.inr (Or.inl ⟨s0, e0, by rw [← l3]; exact h1, h2, by omega, by omega, ?_, ?_⟩)⟩
    · rw [h6, hr', show r' + 2 - 1 = r' + 1 from rfl, a5, ek]; omega
    · show 1 ≤ rr 0 - 1
      omega
    · show _ = (Xs u 1 (e0 + 1) - Xs u 1 (s0 + 1)) + (rr 0 - 1 - 1) * _ + _
      rw [hr', show r' + 2 - 1 - 1 = r' from rfl]
  · rw [h1] at hs hr ⊢
    have es : s1 = s := Option.some.inj (show some s1 = some s from hs)
    subst es
    have ek : k = e1 := by
      by_cases q : k = e1
      · exact q
      · exfalso
        have := h3.2.2.2.2.2 (k + 1) (by omega) (by omega)
        rw [hst, h1] at this
        have e9 : ([s0, s1] : List Nat).dropLast.length = 1 := rfl
        omega
    obtain ⟨r', hr'⟩ : ∃ r', rr 1 = r' + 2 := ⟨rr 1 - 2, by have : 2 ≤ rr 1 := hr; omega⟩
    have a1 := @Xs_s u 2 e1
    have a5 : (r' + 1) * (Xs u 2 (e1 + 1) - Xs u 2 (s1 + 1)) = r' * (Xs u 2 (e1 + 1) - Xs u 2 (s1 + 1)) + (Xs u 2 (e1 + 1) - Xs u 2 (s1 + 1)) := Nat.succ_mul _ _
    have a6 := h3.1
    refine ⟨(Xs u 2 (e1 + 1) - Xs u 2 (s1 + 1)) + r' * (Xs u 2 (e1 + 1) - Xs u 2 (s1 + 1)) + (Xs u 1 (e0 + 1) - Xs u 1 (e1 + 1)) + (rr 0 - 1) * (Xs u 1 (e0 + 1) - Xs u 1 (s0 + 1)) + (Xs u 0 N - Xs u 0 (e0 + 1)), ?_, Or.inr (Or.inr ⟨s0, e0, s1, e1, by rw [← l3]; exact h1, h2, h3, h4, by omega, by omega, h7, h10, ?_, ?_⟩)⟩
    · rw [h12, hr', show r' + 2 - 1 = r' + 1 from rfl, a5, ek]; omega
    · show 1 ≤ rr 1 - 1
      omega
    · show _ = (Xs u 2 (e1 + 1) - Xs u 2 (s1 + 1)) + (rr 1 - 1 - 1) * _ + _ + (rr 0 - 1) * _ + _
      rw [hr', show r' + 2 - 1 - 1 = r' from rfl]
theorem me_exit (h9 : u k = 9) (hr : rr ((stk u k).length - 1) = 1) (hne : stk u k ≠ []) (h : ME u N rr k φ) : ∃ φ', φ' < φ ∧ ME u N rr (k + 1) φ' := by
  have hn8 : ¬ u k = 8 := by rw [h9]; decide
  have hst : stk u (k + 1) = (stk u k).dropLast := by rw [stk, if_neg hn8, if_pos h9]
  rcases h with ⟨h1, h2, h3⟩ | ⟨s0, e0, h1, h2, h3, h4, h5, h6⟩ | ⟨s0, e0, s1, e1, h1, h2, h3, h4, h5, h6, h7, h10, h11, h12⟩
  · exact absurd h1 hne
  · rw [h1] at hr
    have ek : k = e0 := by
      by_cases q : k = e0
      · exact q
      · exfalso
        have := h2.2.2.2.2.2 (k + 1) (by omega) (by omega)
        rw [hst, h1] at this
        have e9 : ([s0] : List Nat).dropLast.length = 0 := rfl
        omega
    have a1 := @Xs_s u 1 e0
    have a2 := h2.2.1
    have hr0 : rr 0 = 1 := hr
    refine ⟨Xs u 0 N - Xs u 0 (k + 1), ?_, Or.inl ⟨by rw [hst, h1]; rfl, by omega, rfl⟩⟩
    rw [h6, hr0, Nat.sub_self, Nat.zero_mul, ek]; omega
  · rw [h1] at hr
    have ek : k = e1 := by
      by_cases q : k = e1
      · exact q
      · exfalso
        have := h3.2.2.2.2.2 (k + 1) (by omega) (by omega)
        rw [hst, h1] at this
        have e9 : ([s0, s1] : List Nat).dropLast.length = 1 := rfl
        omega
    have a1 := @Xs_s u 2 e1
    have hr1 : rr 1 = 1 := hr
    refine ⟨(Xs u 1 (e0 + 1) - Xs u 1 (k + 1)) + (rr 0 - 1) * (Xs u 1 (e0 + 1) - Xs u 1 (s0 + 1)) + (Xs u 0 N - Xs u 0 (e0 + 1)), ?_, Or.inr (Or.inl ⟨s0, e0, by rw [hst, h1]; rfl, h2, by omega, by omega, h10, rfl⟩)⟩
    rw [h12, hr1, Nat.sub_self, Nat.zero_mul, ek]; omega
end STP2
