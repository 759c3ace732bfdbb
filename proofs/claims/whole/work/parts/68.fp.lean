/-! floating point: what is no number does not come -/
def fin0 : FP.Core.Datum → Bool
  | .fin _ _ _ => true
  | _ => false
def fin1 : FP.Core.Datum → Bool
  | .fin _ c _ => decide (¬ c = 0)
  | _ => false
theorem tl64 : FP.Core.Fmt.tails FP.Core.b64 = 4503599627370496 := by decide +kernel
theorem ex64 : FP.Core.Fmt.exps FP.Core.b64 = 2048 := by decide +kernel
theorem qm64 : FP.Core.Fmt.qmin FP.Core.b64 = -1074 := by decide +kernel
theorem qx64 : FP.Core.Fmt.qmax FP.Core.b64 = 971 := by decide +kernel
theorem pp64 : 2 ^ FP.Core.Fmt.p FP.Core.b64 = 9007199254740992 := by decide +kernel
def mg64 (n : Nat) : Prop := n % 9223372036854775808 ≤ 9218868437227405312
theorem mg64_fin {s : Bool} {c : Nat} {q : Int} (hc : c < 9007199254740992) (hq : q ≤ 971) : mg64 (FP.Core.encode FP.Core.b64 (.fin s c q)) := by
  unfold mg64 FP.Core.encode FP.Core.assemble
  dsimp only
  rw [tl64, ex64, qm64]
  by_cases h : c < 4503599627370496
  · rw [if_pos h]
    cases s
    · rw [Bool.toNat_false]; omega
    · rw [Bool.toNat_true]; omega
  · rw [if_neg h]
    cases s
    · rw [Bool.toNat_false]; omega
    · rw [Bool.toNat_true]; omega
theorem mg64_inf {s : Bool} : mg64 (FP.Core.encode FP.Core.b64 (.inf s)) := by
  unfold mg64 FP.Core.encode FP.Core.assemble
  dsimp only
  rw [tl64, ex64]
  cases s
  · rw [Bool.toNat_false]; omega
  · rw [Bool.toNat_true]; omega
theorem mg64_bd {s : Bool} {c : Nat} {q : Int} (hc : c < 9007199254740992) : mg64 (FP.Core.encode FP.Core.b64 (FP.Core.bound FP.Core.b64 s c q)) := by
  unfold FP.Core.bound
  rw [qx64]
  by_cases h : q ≤ 971
  · rw [if_pos h]; exact mg64_fin hc h
  · rw [if_neg h]; exact mg64_inf
theorem mg64_rr {s : Bool} {a b : Nat} {e : Int} : mg64 (FP.Core.encode FP.Core.b64 (FP.Core.roundRatio FP.Core.b64 s a b e)) := by
  unfold FP.Core.roundRatio
  by_cases h : a = 0
  · rw [if_pos h]
    exact mg64_fin (by decide) (by rw [qm64]; decide)
  · rw [if_neg h]
    unfold FP.Core.roundAt FP.Core.settle
    rw [pp64]
    by_cases h2 : FP.Core.nearest (FP.Core.unitsNum a e (FP.Core.quantum FP.Core.b64 a b e)) (FP.Core.unitsDen b e (FP.Core.quantum FP.Core.b64 a b e)) < 9007199254740992
    · rw [if_pos h2]; exact mg64_bd h2
    · rw [if_neg h2]; exact mg64_bd (by rw [tl64]; decide)
/-- a number, and one that is not zero -/
theorem nn64_of {n : Nat} (h : mg64 n) : nn64 (UInt64.ofNat n) = true := by
  unfold mg64 at h
  unfold nn64
  apply decide_eq_true
  rw [UInt64.le_iff_toNat_le, UInt64.toNat_and]
  show (n % 2 ^ 64) &&& (2 ^ 63 - 1) ≤ 9218868437227405312
  rw [Nat.and_two_pow_sub_one_eq_mod, Nat.mod_mod_of_dvd n (show 2 ^ 63 ∣ 2 ^ 64 by decide)]
  exact h
theorem nn64_mg {r : UInt64} (h : nn64 r = true) : mg64 r.toNat := by
  unfold nn64 at h
  have h2 := of_decide_eq_true h
  rw [UInt64.le_iff_toNat_le, UInt64.toNat_and] at h2
  unfold mg64
  have h3 : r.toNat &&& (2 ^ 63 - 1) ≤ 9218868437227405312 := h2
  rw [Nat.and_two_pow_sub_one_eq_mod] at h3
  exact h3
theorem nn64_div {x y : UInt64} (hx : fin0 (FP.Core.decode FP.Core.b64 x.toNat) = true) (hy : fin1 (FP.Core.decode FP.Core.b64 y.toNat) = true) : nn64 (FP.Core.ddiv x y) = true := by
  refine nn64_of ?_
  unfold FP.Core.div
  cases e1 : FP.Core.decode FP.Core.b64 x.toNat with
  | nan => rw [e1] at hx; exact absurd hx (by decide)
  | inf s => rw [e1] at hx; exact absurd hx (by cases s <;> decide)
  | fin s c q =>
    cases e2 : FP.Core.decode FP.Core.b64 y.toNat with
    | nan => rw [e2] at hy; exact absurd hy (by decide)
    | inf t => rw [e2] at hy; exact absurd hy (by cases t <;> decide)
    | fin t d r =>
      rw [e2] at hy
      have hd : ¬ d = 0 := of_decide_eq_true hy
      unfold FP.Core.quotient
      dsimp only
      rw [if_neg hd]
      exact mg64_rr
theorem tl32 : FP.Core.Fmt.tails FP.Core.b32 = 8388608 := by decide +kernel
theorem ex32 : FP.Core.Fmt.exps FP.Core.b32 = 256 := by decide +kernel
theorem qm32 : FP.Core.Fmt.qmin FP.Core.b32 = -149 := by decide +kernel
theorem qx32 : FP.Core.Fmt.qmax FP.Core.b32 = 104 := by decide +kernel
theorem pp32 : 2 ^ FP.Core.Fmt.p FP.Core.b32 = 16777216 := by decide +kernel
def mg32 (n : Nat) : Prop := n % 2147483648 ≤ 2139095040
theorem mg32_fin {s : Bool} {c : Nat} {q : Int} (hc : c < 16777216) (hq : q ≤ 104) : mg32 (FP.Core.encode FP.Core.b32 (.fin s c q)) := by
  unfold mg32 FP.Core.encode FP.Core.assemble
  dsimp only
  rw [tl32, ex32, qm32]
  by_cases h : c < 8388608
  · rw [if_pos h]
    cases s
    · rw [Bool.toNat_false]; omega
    · rw [Bool.toNat_true]; omega
  · rw [if_neg h]
    cases s
    · rw [Bool.toNat_false]; omega
    · rw [Bool.toNat_true]; omega
theorem mg32_inf {s : Bool} : mg32 (FP.Core.encode FP.Core.b32 (.inf s)) := by
  unfold mg32 FP.Core.encode FP.Core.assemble
  dsimp only
  rw [tl32, ex32]
  cases s
  · rw [Bool.toNat_false]; omega
  · rw [Bool.toNat_true]; omega
theorem mg32_bd {s : Bool} {c : Nat} {q : Int} (hc : c < 16777216) : mg32 (FP.Core.encode FP.Core.b32 (FP.Core.bound FP.Core.b32 s c q)) := by
  unfold FP.Core.bound
  rw [qx32]
  by_cases h : q ≤ 104
  · rw [if_pos h]; exact mg32_fin hc h
  · rw [if_neg h]; exact mg32_inf
theorem mg32_rr {s : Bool} {a b : Nat} {e : Int} : mg32 (FP.Core.encode FP.Core.b32 (FP.Core.roundRatio FP.Core.b32 s a b e)) := by
  unfold FP.Core.roundRatio
  by_cases h : a = 0
  · rw [if_pos h]
    exact mg32_fin (by decide) (by rw [qm32]; decide)
  · rw [if_neg h]
    unfold FP.Core.roundAt FP.Core.settle
    rw [pp32]
    by_cases h2 : FP.Core.nearest (FP.Core.unitsNum a e (FP.Core.quantum FP.Core.b32 a b e)) (FP.Core.unitsDen b e (FP.Core.quantum FP.Core.b32 a b e)) < 16777216
    · rw [if_pos h2]; exact mg32_bd h2
    · rw [if_neg h2]; exact mg32_bd (by rw [tl32]; decide)
/-- a number, and one that is not zero -/
theorem nn32_of {n : Nat} (h : mg32 n) : nn32 (UInt32.ofNat n) = true := by
  unfold mg32 at h
  unfold nn32
  apply decide_eq_true
  rw [UInt32.le_iff_toNat_le, UInt32.toNat_and]
  show (n % 2 ^ 32) &&& (2 ^ 31 - 1) ≤ 2139095040
  rw [Nat.and_two_pow_sub_one_eq_mod, Nat.mod_mod_of_dvd n (show 2 ^ 31 ∣ 2 ^ 32 by decide)]
  exact h
theorem nn32_mg {r : UInt32} (h : nn32 r = true) : mg32 r.toNat := by
  unfold nn32 at h
  have h2 := of_decide_eq_true h
  rw [UInt32.le_iff_toNat_le, UInt32.toNat_and] at h2
  unfold mg32
  have h3 : r.toNat &&& (2 ^ 31 - 1) ≤ 2139095040 := h2
  rw [Nat.and_two_pow_sub_one_eq_mod] at h3
  exact h3
theorem nn32_div {x y : UInt32} (hx : fin0 (FP.Core.decode FP.Core.b32 x.toNat) = true) (hy : fin1 (FP.Core.decode FP.Core.b32 y.toNat) = true) : nn32 (FP.Core.fdiv x y) = true := by
  refine nn32_of ?_
  unfold FP.Core.div
  cases e1 : FP.Core.decode FP.Core.b32 x.toNat with
  | nan => rw [e1] at hx; exact absurd hx (by decide)
  | inf s => rw [e1] at hx; exact absurd hx (by cases s <;> decide)
  | fin s c q =>
    cases e2 : FP.Core.decode FP.Core.b32 y.toNat with
    | nan => rw [e2] at hy; exact absurd hy (by decide)
    | inf t => rw [e2] at hy; exact absurd hy (by cases t <;> decide)
    | fin t d r =>
      rw [e2] at hy
      have hd : ¬ d = 0 := of_decide_eq_true hy
      unfold FP.Core.quotient
      dsimp only
      rw [if_neg hd]
      exact mg32_rr
theorem nn64_f2d {r : UInt32} (h : nn32 r = true) : nn64 (FP.f2d r) = true := by
  have hm := nn32_mg h
  have hd : ∀ d, FP.Core.decode FP.Core.b32 r.toNat = d → d ≠ .nan := by
    intro d hd e
    rw [e] at hd
    unfold FP.Core.decode FP.Core.fieldE FP.Core.fieldT at hd
    rw [tl32, ex32] at hd
    unfold mg32 at hm
    by_cases h1 : r.toNat / 8388608 % 256 = 256 - 1
    · rw [if_pos h1] at hd
      by_cases h2 : r.toNat % 8388608 = 0
      · rw [if_pos h2] at hd; cases hd
      · omega
    · rw [if_neg h1] at hd
      by_cases h2 : r.toNat / 8388608 % 256 = 0
      · rw [if_pos h2] at hd; cases hd
      · rw [if_neg h2] at hd; cases hd
  unfold FP.f2d
  have hn : FP.Core.fIsNaN r = false := by
    unfold FP.Core.fIsNaN FP.Core.isNaN
    exact decide_eq_false (hd _ rfl)
  rw [hn, if_neg (by decide)]
  refine nn64_of ?_
  unfold FP.Core.convert
  cases e1 : FP.Core.decode FP.Core.b32 r.toNat with
  | nan => exact absurd rfl (hd _ e1)
  | inf s => exact mg64_inf
  | fin s c q => exact mg64_rr
theorem d_num : ∀ a, a < 793 → fin0 (FP.Core.decode FP.Core.b64 (FP.i2d (nI a)).toNat) = true := by decide +kernel
theorem d_den : ∀ a, a < 9 → a = 0 ∨ fin1 (FP.Core.decode FP.Core.b64 (FP.i2d (nI a)).toNat) = true := by decide +kernel
theorem f_num0 : ∀ i, i < 125 → ∀ j, j < 64 → fin0 (FP.Core.decode FP.Core.b32 (FP.i2f (nI (64 * i + j))).toNat) = true := by decide +kernel
theorem f_den0 : ∀ i, i < 250 → ∀ j, j < 64 → 64 * i + j = 0 ∨ fin1 (FP.Core.decode FP.Core.b32 (FP.i2f (nI (64 * i + j))).toNat) = true := by decide +kernel
theorem f_num {a : Nat} (h : a < 8000) : fin0 (FP.Core.decode FP.Core.b32 (FP.i2f (nI a)).toNat) = true := by
  have := f_num0 (a / 64) (by omega) (a % 64) (by omega)
  rwa [show 64 * (a / 64) + a % 64 = a by omega] at this
theorem f_den {a : Nat} (h : a < 16000) (h0 : ¬ a = 0) : fin1 (FP.Core.decode FP.Core.b32 (FP.i2f (nI a)).toNat) = true := by
  have := f_den0 (a / 64) (by omega) (a % 64) (by omega)
  rw [show 64 * (a / 64) + a % 64 = a by omega] at this
  exact this.resolve_left h0
