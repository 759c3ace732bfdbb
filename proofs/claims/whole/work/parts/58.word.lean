/-! words: of 8 bits a letter, of 5 bits a letter -/
theorem lN_inj {a b : Nat} (ha : a < 2 ^ 64) (hb : b < 2 ^ 64) : lN a = lN b ↔ a = b := ⟨fun h => by have := congrArg (fun x : Int64 => x.toBitVec.toNat) h; rwa [wb_tn ha, wb_tn hb] at this, fun h => by rw [h]⟩
theorem lk_put' {x k b : Nat} {K : Int32} (hK : K = nI k) (hk : k < 64) (hb : b < 2 ^ k) (h : x * 2 ^ k + b < 2 ^ 64) (h31 : b < 2 ^ 31) : (lN x <<< (K.toInt64 &&& 63)) ||| (nI b).toInt64 = lN (x * 2 ^ k + b) := by
  subst hK
  rw [wb_shl x hk, nI_l h31, wb_or (by omega) (by omega)]
  have h1 : x * 2 ^ k ||| b = x * 2 ^ k + b := by rw [← Nat.shiftLeft_eq, Nat.shiftLeft_add_eq_or_of_lt hb]
  rw [h1]
def p8 (f : Nat → Nat) : Nat → Nat
  | 0 => 0
  | i + 1 => p8 f i * 2 ^ 8 + f i
def p5 (f : Nat → Nat) : Nat → Nat
  | 0 => 0
  | i + 1 => p5 f i * 2 ^ 5 + (f i - 96)
/-- a word: its letters, and how many -/
def vw (f : Nat → Nat) (l : Nat) : Prop := 1 ≤ l ∧ l ≤ 8 ∧ (∀ i, i < l → 97 ≤ f i ∧ f i ≤ 122) ∧ ∀ i, l ≤ i → f i = 0
theorem p8_lt {f : Nat → Nat} (h : ∀ i, f i < 2 ^ 8) : ∀ i, p8 f i < 2 ^ (8 * i) := by
  intro i
  induction i with
  | zero => show 0 < 2 ^ (8 * 0); decide
  | succ i ih =>
    have := h i
    rw [p8, show 8 * (i + 1) = 8 * i + 8 by omega, Nat.pow_add]
    have : p8 f i + 1 ≤ 2 ^ (8 * i) := ih
    have := Nat.mul_le_mul_right (2 ^ 8) this
    omega
theorem p5_lt {f : Nat → Nat} : ∀ i, (∀ j, j < i → f j ≤ 122) → p5 f i < 2 ^ (5 * i) := by
  intro i
  induction i with
  | zero => intro _; show 0 < 2 ^ (5 * 0); decide
  | succ i ih =>
    intro h
    have := h i (by omega)
    have ih := ih (fun j hj => h j (by omega))
    rw [p5, show 5 * (i + 1) = 5 * i + 5 by omega, Nat.pow_add]
    have : p5 f i + 1 ≤ 2 ^ (5 * i) := ih
    have := Nat.mul_le_mul_right (2 ^ 5) this
    omega
theorem p8_inj {f g : Nat → Nat} (hf : ∀ i, f i < 2 ^ 8) (hg : ∀ i, g i < 2 ^ 8) : ∀ {k : Nat}, p8 f k = p8 g k → ∀ i, i < k → f i = g i := by
  intro k
  induction k with
  | zero => intro _ i hi; exact absurd hi (Nat.not_lt_zero _)
  | succ k ih =>
    intro h i hi
    rw [p8, p8] at h
    have h1 := hf k
    have h2 := hg k
    by_cases e : i = k
    · subst e; omega
    · exact ih (by omega) i (by omega)
theorem p5_inj {f g : Nat → Nat} : ∀ {k l : Nat}, (∀ i, i < k → 97 ≤ f i ∧ f i ≤ 122) → (∀ i, i < l → 97 ≤ g i ∧ g i ≤ 122) → p5 f k = p5 g l → k = l ∧ ∀ i, i < k → f i = g i := by
  intro k
  induction k with
  | zero =>
    intro l _ hg h
    cases l with
    | zero => exact ⟨rfl, fun i hi => absurd hi (Nat.not_lt_zero _)⟩
    | succ l => have := hg l (by omega); rw [p5, p5] at h; omega
  | succ k ih =>
    intro l hf hg h
    cases l with
    | zero => have := hf k (by omega); rw [p5, p5] at h; omega
    | succ l =>
      have h1 := hf k (by omega)
      have h2 := hg l (by omega)
      rw [p5, p5] at h
      obtain ⟨h3, h4⟩ := ih (fun i hi => hf i (by omega)) (fun i hi => hg i (by omega)) (show p5 f k = p5 g l by omega)
      subst h3
      refine ⟨rfl, fun i hi => ?_⟩
      by_cases e : i = k
      · subst e; omega
      · exact h4 i (by omega)
theorem vw.lt {f : Nat → Nat} {l : Nat} (h : vw f l) (i : Nat) : f i < 2 ^ 8 := by
  by_cases e : i < l
  · have := h.2.2.1 i e; omega
  · rw [h.2.2.2 i (by omega)]; decide
theorem vw.w8 {f : Nat → Nat} {l : Nat} (h : vw f l) : p8 f 8 < 2 ^ 64 := p8_lt h.lt 8
theorem vw.w5 {f : Nat → Nat} {l : Nat} (h : vw f l) : p5 f l < 2 ^ 40 := by
  have := p5_lt l (fun j hj => (h.2.2.1 j hj).2)
  have h2 : 2 ^ (5 * l) ≤ 2 ^ 40 := Nat.pow_le_pow_right (by decide) (by have := h.2.1; omega)
  omega
/-- the same word in both -/
theorem vw_same {f g : Nat → Nat} {l k : Nat} (h : vw f l) (h' : vw g k) : lN (p8 f 8) = lN (p8 g 8) ↔ lN (p5 f l) = lN (p5 g k) := by
  have w1 := h.w5
  have w2 := h'.w5
  rw [lN_inj h.w8 h'.w8, lN_inj (by omega) (by omega)]
  constructor
  · intro e
    have e2 := p8_inj h.lt h'.lt e
    have hlk : l = k := by
      rcases Nat.lt_trichotomy l k with q | q | q
      · have a1 := e2 l (by have := h'.2.1; omega)
        have a2 := h.2.2.2 l (Nat.le_refl _)
        have a3 := h'.2.2.1 l q
        omega
      · exact q
      · have a1 := e2 k (by have := h.2.1; omega)
        have a2 := h'.2.2.2 k (Nat.le_refl _)
        have a3 := h.2.2.1 k q
        omega
    subst hlk
    have : ∀ j, j ≤ l → p5 f j = p5 g j := by
      intro j
      induction j with
      | zero => intro _; rfl
      | succ j ih => intro hj; rw [p5, p5, ih (by omega), e2 j (by have := h.2.1; omega)]
    exact this l (Nat.le_refl _)
  · intro e
    obtain ⟨e1, e2⟩ := p5_inj h.2.2.1 h'.2.2.1 e
    subst e1
    have e3 : ∀ i, f i = g i := fun i => by
      by_cases q : i < l
      · exact e2 i q
      · rw [h.2.2.2 i (by omega), h'.2.2.2 i (by omega)]
    rw [show f = g from funext e3]
def muZ : Mem := (fun _ _ => 0, fun _ _ => 0, fun _ _ => none)
def wlt (xs : List Nat) (i : Nat) : Nat := xs.getD i 0
theorem wlt_vw {xs : List Nat} (h1 : 1 ≤ xs.length) (h2 : xs.length ≤ 8) (h3 : ∀ x ∈ xs, 97 ≤ x ∧ x ≤ 122) : vw (wlt xs) xs.length := by
  refine ⟨h1, h2, fun i hi => ?_, fun i hi => ?_⟩
  · unfold wlt
    rw [List.getD_eq_getElem?_getD, List.getElem?_eq_getElem hi]
    exact h3 _ (List.getElem_mem hi)
  · unfold wlt
    rw [List.getD_eq_getElem?_getD, List.getElem?_eq_none hi]
    rfl
/-- the words of the grammar: of the class, of the reference, the letters -/
def wTab : List (Nat × Nat × List Nat) := [(2, 24384684, [119, 104, 101, 101, 108]), (4, 6752063666, [102, 105, 103, 104, 116, 101, 114]), (5, 398548, [108, 101, 102, 116]), (6, 19176724, [114, 105, 103, 104, 116]), (7, 20452516, [115, 112, 101, 101, 100]), (8, 402629, [108, 105, 102, 101]), (9, 414827, [108, 117, 99, 107]), (10, 536622, [112, 108, 97, 110]), (11, 8500, [104, 105, 116]), (12, 546408, [112, 117, 115, 104]), (13, 402644, [108, 105, 102, 116]), (14, 8029764, [103, 117, 97, 114, 100]), (15, 1279278, [97, 103, 97, 105, 110]), (16, 20452516, [115, 112, 101, 101, 100]), (17, 595572, [114, 101, 115, 116]), (19, 677454, [116, 117, 114, 110]), (20, 546408, [112, 117, 115, 104]), (21, 402644, [108, 105, 102, 116]), (22, 6050369, [101, 120, 116, 114, 97]), (23, 20452516, [115, 112, 101, 101, 100]), (24, 267308, [104, 101, 97, 108]), (25, 24384684, [119, 104, 101, 101, 108]), (26, 1140, [97, 99, 116]), (27, 609752116, [114, 101, 112, 101, 97, 116])]
theorem wTab_p : ∀ x ∈ wTab, fX10_packed x.1 muZ = some (lN (p8 (wlt x.2.2) 8)) := by decide +kernel
theorem wTab_5 : ∀ x ∈ wTab, x.2.1 = p5 (wlt x.2.2) x.2.2.length := by decide +kernel
theorem wTab_v : ∀ x ∈ wTab, 1 ≤ x.2.2.length ∧ x.2.2.length ≤ 8 ∧ ∀ y ∈ x.2.2, 97 ≤ y ∧ y ≤ 122 := by decide +kernel
theorem packed_mu {k : Nat} {μ μ' : Mem} : fX10_packed k μ = fX10_packed k μ' := by
  unfold fX10_packed fX10_packed_4
  rw [show gX10_packed_4 k μ = gX10_packed_4 k μ' from rfl]
theorem wTab_at {k w : Nat} {ls : List Nat} (h : (k, w, ls) ∈ wTab) {μ : Mem} : fX10_packed k μ = some (lN (p8 (wlt ls) 8)) ∧ w = p5 (wlt ls) ls.length ∧ vw (wlt ls) ls.length := by
  refine ⟨by rw [packed_mu (μ' := muZ)]; exact wTab_p _ h, wTab_5 _ h, ?_⟩
  obtain ⟨h1, h2, h3⟩ := wTab_v _ h
  exact wlt_vw h1 h2 h3
