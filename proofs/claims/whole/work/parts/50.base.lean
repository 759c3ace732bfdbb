/-! numbers, loops, memory: what the functions are reckoned with -/
theorem FU_gt {k : Nat} (h : k < 4000000) : k < FU := h
theorem zl1_m {T1 β : Type} {g : (T1 → Option β) → T1 → Option β} {P : Nat → T1 → Prop} {Qr : Option β → Prop} (hs : ∀ k x self, P k x → (∃ k' x', k' < k ∧ P k' x' ∧ g self x = self x') ∨ Qr (g self x)) : ∀ fuel k x, k < fuel → P k x → Qr (zl1 g fuel x) := by
  intro fuel
  induction fuel with
  | zero => intro k x h; exact absurd h (Nat.not_lt_zero _)
  | succ n ih =>
    intro k x h hP
    rcases hs k x (zl1 g n) hP with ⟨k', x', h1, h2, h3⟩ | h1
    · rw [zl1_s, h3]; exact ih k' x' (by omega) h2
    · rw [zl1_s]; exact h1
theorem zl2_m {T1 T2 β : Type} {g : (T1 → T2 → Option β) → T1 → T2 → Option β} {P : Nat → T1 → T2 → Prop} {Qr : Option β → Prop} (hs : ∀ k x y self, P k x y → (∃ k' x' y', k' < k ∧ P k' x' y' ∧ g self x y = self x' y') ∨ Qr (g self x y)) : ∀ fuel k x y, k < fuel → P k x y → Qr (zl2 g fuel x y) := by
  intro fuel
  induction fuel with
  | zero => intro k x y h; exact absurd h (Nat.not_lt_zero _)
  | succ n ih =>
    intro k x y h hP
    rcases hs k x y (zl2 g n) hP with ⟨k', x', y', h1, h2, h3⟩ | h1
    · rw [zl2_s, h3]; exact ih k' x' y' (by omega) h2
    · rw [zl2_s]; exact h1
theorem zl3_m {T1 T2 T3 β : Type} {g : (T1 → T2 → T3 → Option β) → T1 → T2 → T3 → Option β} {P : Nat → T1 → T2 → T3 → Prop} {Qr : Option β → Prop} (hs : ∀ k x y z self, P k x y z → (∃ k' x' y' z', k' < k ∧ P k' x' y' z' ∧ g self x y z = self x' y' z') ∨ Qr (g self x y z)) : ∀ fuel k x y z, k < fuel → P k x y z → Qr (zl3 g fuel x y z) := by
  intro fuel
  induction fuel with
  | zero => intro k x y z h; exact absurd h (Nat.not_lt_zero _)
  | succ n ih =>
    intro k x y z h hP
    rcases hs k x y z (zl3 g n) hP with ⟨k', x', y', z', h1, h2, h3⟩ | h1
    · rw [zl3_s, h3]; exact ih k' x' y' z' (by omega) h2
    · rw [zl3_s]; exact h1
theorem zl4_m {T1 T2 T3 T4 β : Type} {g : (T1 → T2 → T3 → T4 → Option β) → T1 → T2 → T3 → T4 → Option β} {P : Nat → T1 → T2 → T3 → T4 → Prop} {Qr : Option β → Prop} (hs : ∀ k x y z w self, P k x y z w → (∃ k' x' y' z' w', k' < k ∧ P k' x' y' z' w' ∧ g self x y z w = self x' y' z' w') ∨ Qr (g self x y z w)) : ∀ fuel k x y z w, k < fuel → P k x y z w → Qr (zl4 g fuel x y z w) := by
  intro fuel
  induction fuel with
  | zero => intro k x y z w h; exact absurd h (Nat.not_lt_zero _)
  | succ n ih =>
    intro k x y z w h hP
    rcases hs k x y z w (zl4 g n) hP with ⟨k', x', y', z', w', h1, h2, h3⟩ | h1
    · rw [zl4_s, h3]; exact ih k' x' y' z' w' (by omega) h2
    · rw [zl4_s]; exact h1
/-- a loop that counts from 0 to N: with an invariant, alone -/
theorem zl1_for {β : Type} {g : (Int32 → Option β) → Int32 → Option β} {N : Nat} {I : Nat → Prop} {Qr : Option β → Prop} (hN : N < 4000000) (h0 : I 0) (hs : ∀ j self, j < N → I j → (g self (nI j) = self (nI (j + 1)) ∧ I (j + 1)) ∨ Qr (g self (nI j))) (he : ∀ self, I N → Qr (g self (nI N))) : Qr (zl1 g FU 0) := by
  refine zl1_m (P := fun k x => ∃ j, j ≤ N ∧ k = N - j ∧ x = nI j ∧ I j) (fun k x self ⟨j, h1, h2, h3, h4⟩ => ?_) FU N 0 (FU_gt hN) ⟨0, Nat.zero_le _, rfl, rfl, h0⟩
  subst h3
  by_cases hj : j < N
  · rcases hs j self hj h4 with ⟨h5, h6⟩ | h5
    · exact Or.inl ⟨N - (j + 1), _, by omega, ⟨j + 1, by omega, rfl, rfl, h6⟩, h5⟩
    · exact Or.inr h5
  · have : j = N := by omega
    subst this
    exact Or.inr (he self h4)
/-- .. with a value ahead of the counter -/
theorem zl2_for {T1 β : Type} {g : (T1 → Int32 → Option β) → T1 → Int32 → Option β} {N : Nat} {a0 : T1} {I : Nat → T1 → Prop} {Qr : Option β → Prop} (hN : N < 4000000) (h0 : I 0 a0) (hs : ∀ j a self, j < N → I j a → (∃ a', g self a (nI j) = self a' (nI (j + 1)) ∧ I (j + 1) a') ∨ Qr (g self a (nI j))) (he : ∀ a self, I N a → Qr (g self a (nI N))) : Qr (zl2 g FU a0 0) := by
  refine zl2_m (P := fun k a x => ∃ j, j ≤ N ∧ k = N - j ∧ x = nI j ∧ I j a) (fun k a x self ⟨j, h1, h2, h3, h4⟩ => ?_) FU N a0 0 (FU_gt hN) ⟨0, Nat.zero_le _, rfl, rfl, h0⟩
  subst h3
  by_cases hj : j < N
  · rcases hs j a self hj h4 with ⟨a', h5, h6⟩ | h5
    · exact Or.inl ⟨N - (j + 1), _, _, by omega, ⟨j + 1, by omega, rfl, rfl, h6⟩, h5⟩
    · exact Or.inr h5
  · have : j = N := by omega
    subst this
    exact Or.inr (he a self h4)
/-- .. behind it -/
theorem zl2_fob {T1 β : Type} {g : (Int32 → T1 → Option β) → Int32 → T1 → Option β} {N : Nat} {a0 : T1} {I : Nat → T1 → Prop} {Qr : Option β → Prop} (hN : N < 4000000) (h0 : I 0 a0) (hs : ∀ j a self, j < N → I j a → (∃ a', g self (nI j) a = self (nI (j + 1)) a' ∧ I (j + 1) a') ∨ Qr (g self (nI j) a)) (he : ∀ a self, I N a → Qr (g self (nI N) a)) : Qr (zl2 g FU 0 a0) := by
  refine zl2_m (P := fun k x a => ∃ j, j ≤ N ∧ k = N - j ∧ x = nI j ∧ I j a) (fun k x a self ⟨j, h1, h2, h3, h4⟩ => ?_) FU N 0 a0 (FU_gt hN) ⟨0, Nat.zero_le _, rfl, rfl, h0⟩
  subst h3
  by_cases hj : j < N
  · rcases hs j a self hj h4 with ⟨a', h5, h6⟩ | h5
    · exact Or.inl ⟨N - (j + 1), _, _, by omega, ⟨j + 1, by omega, rfl, rfl, h6⟩, h5⟩
    · exact Or.inr h5
  · have : j = N := by omega
    subst this
    exact Or.inr (he a self h4)
/-- two values and the counter, in the three orders -/
theorem zl3_for {T1 T2 β : Type} {g : (T1 → T2 → Int32 → Option β) → T1 → T2 → Int32 → Option β} {N : Nat} {a0 : T1} {b0 : T2} {I : Nat → T1 → T2 → Prop} {Qr : Option β → Prop} (hN : N < 4000000) (h0 : I 0 a0 b0) (hs : ∀ j a b self, j < N → I j a b → (∃ a' b', g self a b (nI j) = self a' b' (nI (j + 1)) ∧ I (j + 1) a' b') ∨ Qr (g self a b (nI j))) (he : ∀ a b self, I N a b → Qr (g self a b (nI N))) : Qr (zl3 g FU a0 b0 0) := by
  refine zl3_m (P := fun k a b x => ∃ j, j ≤ N ∧ k = N - j ∧ x = nI j ∧ I j a b) (fun k a b x self ⟨j, h1, h2, h3, h4⟩ => ?_) FU N a0 b0 0 (FU_gt hN) ⟨0, Nat.zero_le _, rfl, rfl, h0⟩
  subst h3
  by_cases hj : j < N
  · rcases hs j a b self hj h4 with ⟨a', b', h5, h6⟩ | h5
    · exact Or.inl ⟨N - (j + 1), _, _, _, by omega, ⟨j + 1, by omega, rfl, rfl, h6⟩, h5⟩
    · exact Or.inr h5
  · have : j = N := by omega
    subst this
    exact Or.inr (he a b self h4)
theorem zl3_fom {T1 T2 β : Type} {g : (T1 → Int32 → T2 → Option β) → T1 → Int32 → T2 → Option β} {N : Nat} {a0 : T1} {b0 : T2} {I : Nat → T1 → T2 → Prop} {Qr : Option β → Prop} (hN : N < 4000000) (h0 : I 0 a0 b0) (hs : ∀ j a b self, j < N → I j a b → (∃ a' b', g self a (nI j) b = self a' (nI (j + 1)) b' ∧ I (j + 1) a' b') ∨ Qr (g self a (nI j) b)) (he : ∀ a b self, I N a b → Qr (g self a (nI N) b)) : Qr (zl3 g FU a0 0 b0) := by
  refine zl3_m (P := fun k a x b => ∃ j, j ≤ N ∧ k = N - j ∧ x = nI j ∧ I j a b) (fun k a x b self ⟨j, h1, h2, h3, h4⟩ => ?_) FU N a0 0 b0 (FU_gt hN) ⟨0, Nat.zero_le _, rfl, rfl, h0⟩
  subst h3
  by_cases hj : j < N
  · rcases hs j a b self hj h4 with ⟨a', b', h5, h6⟩ | h5
    · exact Or.inl ⟨N - (j + 1), _, _, _, by omega, ⟨j + 1, by omega, rfl, rfl, h6⟩, h5⟩
    · exact Or.inr h5
  · have : j = N := by omega
    subst this
    exact Or.inr (he a b self h4)
-- memory
theorem ldI_stI {μ : Mem} {o k a b : Nat} {v : Int32} : ldI (stI μ o k v) a b = if a = o ∧ b = k then v else ldI μ a b := rfl
theorem ldJ_stJ {μ : Mem} {o k a b : Nat} {v : Int64} : ldJ (stJ μ o k v) a b = if a = o ∧ b = k then v else ldJ μ a b := rfl
theorem ldP_stP {μ : Mem} {o k a b : Nat} {v : Option Nat} : ldP (stP μ o k v) a b = if a = o ∧ b = k then v else ldP μ a b := rfl
theorem ldJ_stI {μ : Mem} {o k : Nat} {v : Int32} : ldJ (stI μ o k v) = ldJ μ := rfl
theorem ldP_stI {μ : Mem} {o k : Nat} {v : Int32} : ldP (stI μ o k v) = ldP μ := rfl
theorem ldI_stJ {μ : Mem} {o k : Nat} {v : Int64} : ldI (stJ μ o k v) = ldI μ := rfl
theorem ldP_stJ {μ : Mem} {o k : Nat} {v : Int64} : ldP (stJ μ o k v) = ldP μ := rfl
theorem ldI_stP {μ : Mem} {o k : Nat} {v : Option Nat} : ldI (stP μ o k v) = ldI μ := rfl
theorem ldJ_stP {μ : Mem} {o k : Nat} {v : Option Nat} : ldJ (stP μ o k v) = ldJ μ := rfl
/-- nothing outside S has changed -/
def SE (S : Nat → Prop) (μ μ' : Mem) : Prop := ∀ a, ¬ S a → ldI μ' a = ldI μ a ∧ ldJ μ' a = ldJ μ a ∧ ldP μ' a = ldP μ a
theorem SE.rf {S : Nat → Prop} {μ : Mem} : SE S μ μ := fun _ _ => ⟨rfl, rfl, rfl⟩
theorem SE.tr {S : Nat → Prop} {μ μ1 μ2 : Mem} (h1 : SE S μ μ1) (h2 : SE S μ1 μ2) : SE S μ μ2 := fun a ha => ⟨(h2 a ha).1.trans (h1 a ha).1, (h2 a ha).2.1.trans (h1 a ha).2.1, (h2 a ha).2.2.trans (h1 a ha).2.2⟩
theorem SE.mono {S S' : Nat → Prop} {μ μ' : Mem} (h : SE S μ μ') (hS : ∀ a, S a → S' a) : SE S' μ μ' := fun a ha => h a (fun hs => ha (hS a hs))
theorem SE.sI {S : Nat → Prop} {μ : Mem} {o k : Nat} {v : Int32} (h : S o) : SE S μ (stI μ o k v) := fun a ha => ⟨ldI_stI_ne (fun e => ha (e ▸ h)), rfl, rfl⟩
theorem SE.sJ {S : Nat → Prop} {μ : Mem} {o k : Nat} {v : Int64} (h : S o) : SE S μ (stJ μ o k v) := fun a ha => ⟨rfl, ldJ_stJ_ne (fun e => ha (e ▸ h)), rfl⟩
theorem SE.sP {S : Nat → Prop} {μ : Mem} {o k : Nat} {v : Option Nat} (h : S o) : SE S μ (stP μ o k v) := fun a ha => ⟨rfl, rfl, ldP_stP_ne (fun e => ha (e ▸ h))⟩
theorem inB_nI {i n : Nat} (h : i < n) (hn : n < 2 ^ 31) : inB (nI i) n = true := by
  simp only [inB, Bool.and_eq_true, Bool.not_eq_true', decide_eq_false_iff_not, decide_eq_true_eq]
  exact ⟨nI_pos (by omega), by rw [nI_clamp (by omega)]; exact h⟩
theorem gd_t {α : Type} {b : Bool} {x : Option α} (h : b = true) : gd b x = x := by rw [h]; rfl
theorem nm_b {α β : Type} {x : α} {f : α → β} : nm x f = f x := rfl
theorem i32_lt {x y : Int32} : x < y ↔ x.toInt < y.toInt := Int32.lt_iff_toInt_lt
theorem i32_le {x y : Int32} : x ≤ y ↔ x.toInt ≤ y.toInt := Int32.le_iff_toInt_le
theorem i32_nlt {x y : Int32} : ¬ x < y ↔ y ≤ x := by rw [i32_lt, i32_le]; omega
theorem i32_nle {x y : Int32} : ¬ x ≤ y ↔ y < x := by rw [i32_lt, i32_le]; omega
theorem upd_s {f : Nat → Int32} {k : Nat} {x : Int32} : upd f k x k = x := by simp [upd]
theorem upd_n {f : Nat → Int32} {k j : Nat} {x : Int32} (h : j ≠ k) : upd f k x j = f j := by simp [upd, h]
