/-! repeats: a fighter's digest -/
theorem wb_tb (n : Nat) : (lN n).toBitVec = BitVec.ofNat 64 n := rfl
theorem wb_inj {a b : Int64} (h : a.toBitVec = b.toBitVec) : a = b := Int64.toBitVec_inj.mp h
theorem wb_tn {n : Nat} (h : n < 2 ^ 64) : (lN n).toBitVec.toNat = n := by rw [wb_tb, BitVec.toNat_ofNat, Nat.mod_eq_of_lt h]
theorem wb_c : ∀ k, k < 64 → ((nI k).toInt64 &&& 63) = lN k := by decide +kernel
theorem wb_cu : ∀ k, k < 64 → ((nI k).toInt64.toUInt64 &&& Int64.toUInt64 63) = UInt64.ofNat k := by decide +kernel
theorem wb_sm : ∀ k, k < 64 → (BitVec.ofNat 64 k).smod 64 = BitVec.ofNat 64 k := by decide +kernel
theorem wb_lt2 {a b : Nat} (h : a < b) : 2 ^ a < 2 ^ b := Nat.pow_lt_pow_right (by decide) h
theorem wb_mod (n : Nat) : lN n = lN (n % 2 ^ 64) := wb_inj (by rw [wb_tb, wb_tb]; apply BitVec.eq_of_toNat_eq; rw [BitVec.toNat_ofNat, BitVec.toNat_ofNat, Nat.mod_mod])
theorem wb_shr {n k : Nat} (hn : n < 2 ^ 64) (hk : k < 64) : ((lN n).toUInt64 >>> ((nI k).toInt64.toUInt64 &&& Int64.toUInt64 63)).toInt64 = lN (n / 2 ^ k) := by
  rw [wb_cu k hk]
  apply wb_inj
  apply BitVec.eq_of_toNat_eq
  show ((lN n).toUInt64 >>> UInt64.ofNat k).toNat = (BitVec.ofNat 64 _).toNat
  have h1 : (UInt64.ofNat k).toNat = k := by
    show (BitVec.ofNat 64 k).toNat = k
    rw [BitVec.toNat_ofNat, Nat.mod_eq_of_lt (by omega)]
  have h2 : (lN n).toUInt64.toNat = n := wb_tn hn
  rw [UInt64.toNat_shiftRight, h1, h2, Nat.mod_eq_of_lt hk, Nat.shiftRight_eq_div_pow, BitVec.toNat_ofNat, Nat.mod_eq_of_lt (Nat.lt_of_le_of_lt (Nat.div_le_self _ _) hn)]
theorem wb_shl (n : Nat) {k : Nat} (hk : k < 64) : lN n <<< ((nI k).toInt64 &&& 63) = lN (n * 2 ^ k) := by
  rw [wb_c k hk]
  apply wb_inj
  rw [Int64.toBitVec_shiftLeft, wb_tb, wb_tb, wb_tb, wb_sm k hk]
  apply BitVec.eq_of_toNat_eq
  rw [BitVec.shiftLeft_eq', BitVec.toNat_shiftLeft, BitVec.toNat_ofNat, BitVec.toNat_ofNat, BitVec.toNat_ofNat, Nat.mod_eq_of_lt (show k < 2 ^ 64 by omega), Nat.shiftLeft_eq, Nat.mul_mod, Nat.mod_mod, ← Nat.mul_mod]
theorem wb_and {a b : Nat} (ha : a < 2 ^ 64) (hb : b < 2 ^ 64) : lN a &&& lN b = lN (a &&& b) := by
  apply wb_inj
  rw [Int64.toBitVec_and, wb_tb, wb_tb, wb_tb]
  apply BitVec.eq_of_toNat_eq
  rw [BitVec.toNat_and, BitVec.toNat_ofNat, BitVec.toNat_ofNat, BitVec.toNat_ofNat, Nat.mod_eq_of_lt ha, Nat.mod_eq_of_lt hb, Nat.mod_eq_of_lt (Nat.and_lt_two_pow _ hb)]
theorem wb_or {a b : Nat} (ha : a < 2 ^ 64) (hb : b < 2 ^ 64) : lN a ||| lN b = lN (a ||| b) := by
  apply wb_inj
  rw [Int64.toBitVec_or, wb_tb, wb_tb, wb_tb]
  apply BitVec.eq_of_toNat_eq
  rw [BitVec.toNat_or, BitVec.toNat_ofNat, BitVec.toNat_ofNat, BitVec.toNat_ofNat, Nat.mod_eq_of_lt ha, Nat.mod_eq_of_lt hb, Nat.mod_eq_of_lt (Nat.or_lt_two_pow ha hb)]
theorem wb_mask {n k : Nat} (hn : n < 2 ^ 64) (hk : k < 64) : lN n &&& lN (2 ^ k - 1) = lN (n % 2 ^ k) := by
  rw [wb_and hn (by have := wb_lt2 hk; omega), Nat.and_two_pow_sub_one_eq_mod]
/-- a number behind another -/
theorem lk_put {x k b : Nat} {K : Int32} (hK : K = nI k) (hk : k < 64) (hb : b < 2 ^ k) (h : x * 2 ^ k + b < 2 ^ 63) (h31 : b < 2 ^ 31) : (lN x <<< (K.toInt64 &&& 63)) ||| (nI b).toInt64 = lN (x * 2 ^ k + b) := by
  subst hK
  rw [wb_shl x hk, nI_l h31, wb_or (by omega) (by omega)]
  have h1 : x * 2 ^ k ||| b = x * 2 ^ k + b := by rw [← Nat.shiftLeft_eq, Nat.shiftLeft_add_eq_or_of_lt hb]
  rw [h1]
/-- a fighter's digest -/
def lk (σ : Sg) (f : Nat) : Int64 :=
  (((((((((((σ (4 + 12 * f + 2)).toInt64 <<< ((7 : Int32).toInt64 &&& 63)) ||| ((σ (4 + 12 * f + 1)).toInt64)) <<< ((14 : Int32).toInt64 &&& 63)) ||| ((σ (4 + 12 * f + 4)).toInt64)) <<< ((7 : Int32).toInt64 &&& 63)) ||| ((σ (4 + 12 * f + 5)).toInt64)) <<< ((2 : Int32).toInt64 &&& 63)) ||| ((σ (4 + 12 * f + 6)).toInt64)) <<< ((3 : Int32).toInt64 &&& 63)) ||| ((σ (4 + 12 * f + 7)).toInt64))
def lkN (a s g d x p : Nat) : Nat := ((((a * 2 ^ 7 + s) * 2 ^ 14 + g) * 2 ^ 7 + d) * 2 ^ 2 + x) * 2 ^ 3 + p
theorem lk_eq {σ : Sg} {f a s g d x p : Nat} (h2 : σ (4 + 12 * f + 2) = nI a) (h1 : σ (4 + 12 * f + 1) = nI s) (h4 : σ (4 + 12 * f + 4) = nI g) (h5 : σ (4 + 12 * f + 5) = nI d) (h6 : σ (4 + 12 * f + 6) = nI x) (h7 : σ (4 + 12 * f + 7) = nI p) (b2 : a ≤ 999) (b1 : s ≤ 99) (b4 : g ≤ 9999) (b5 : d ≤ 99) (b6 : x ≤ 3) (b7 : p ≤ 6) : lk σ f = lN (lkN a s g d x p) := by
  unfold lk lkN
  rw [h2, h1, h4, h5, h6, h7, nI_l (n := a) (by omega), lk_put (K := 7) (k := 7) rfl (by decide) (by omega) (by omega) (by omega), lk_put (K := 14) (k := 14) rfl (by decide) (by omega) (by omega) (by omega), lk_put (K := 7) (k := 7) rfl (by decide) (by omega) (by omega) (by omega), lk_put (K := 2) (k := 2) rfl (by decide) (by omega) (by omega) (by omega), lk_put (K := 3) (k := 3) rfl (by decide) (by omega) (by omega) (by omega)]
abbrev eqF (σ τ : Sg) (f : Nat) : Prop := σ (4 + 12 * f + 2) = τ (4 + 12 * f + 2) ∧ σ (4 + 12 * f + 1) = τ (4 + 12 * f + 1) ∧ σ (4 + 12 * f + 4) = τ (4 + 12 * f + 4) ∧ σ (4 + 12 * f + 5) = τ (4 + 12 * f + 5) ∧ σ (4 + 12 * f + 6) = τ (4 + 12 * f + 6) ∧ σ (4 + 12 * f + 7) = τ (4 + 12 * f + 7)
theorem okN.lks {σ : Sg} {n f : Nat} (h : okN n σ) (hf : f < 8) : ∃ a s g d x p : Nat, σ (4 + 12 * f + 2) = nI a ∧ σ (4 + 12 * f + 1) = nI s ∧ σ (4 + 12 * f + 4) = nI g ∧ σ (4 + 12 * f + 5) = nI d ∧ σ (4 + 12 * f + 6) = nI x ∧ σ (4 + 12 * f + 7) = nI p ∧ a ≤ 999 ∧ s ≤ 99 ∧ g ≤ 9999 ∧ d ≤ 99 ∧ x ≤ 3 ∧ p ≤ 6 := by
  by_cases hn : f < n
  · obtain ⟨a, -, a2, a3⟩ := h.lif hn
    obtain ⟨s, -, s2, s3⟩ := h.spd hn
    obtain ⟨g, -, g2, g3⟩ := h.gau hn
    obtain ⟨d, -, d2, d3⟩ := h.grd hn
    obtain ⟨x, -, x2, x3⟩ := h.ext hn
    obtain ⟨p, c, p1, p2, p3, p4, -⟩ := h.acts hn
    exact ⟨a, s, g, d, x, p, a3, s3, g3, d3, x3, p1, a2, s2, g2, d2, x2, by omega⟩
  · have z := h.2.2.2.2 f (by omega) hf
    exact ⟨0, 0, 0, 0, 0, 0, z 2 (by decide), z 1 (by decide), z 4 (by decide), z 5 (by decide), z 6 (by decide), z 7 (by decide), by decide, by decide, by decide, by decide, by decide, by decide⟩
theorem lk_iff {σ τ : Sg} {n m f : Nat} (h : okN n σ) (h' : okN m τ) (hf : f < 8) : lk σ f = lk τ f ↔ eqF σ τ f := by
  obtain ⟨a, s, g, d, x, p, q1, q2, q3, q4, q5, q6, b1, b2, b3, b4, b5, b6⟩ := h.lks hf
  obtain ⟨a', s', g', d', x', p', q1', q2', q3', q4', q5', q6', b1', b2', b3', b4', b5', b6'⟩ := h'.lks hf
  constructor
  · intro e
    rw [lk_eq q1 q2 q3 q4 q5 q6 b1 b2 b3 b4 b5 b6, lk_eq q1' q2' q3' q4' q5' q6' b1' b2' b3' b4' b5' b6'] at e
    have e2 := (pk_lEQ (by unfold lkN; omega) (by unfold lkN; omega)).mp e
    unfold lkN at e2
    have r1 : a = a' := by omega
    have r2 : s = s' := by omega
    have r3 : g = g' := by omega
    have r4 : d = d' := by omega
    have r5 : x = x' := by omega
    have r6 : p = p' := by omega
    subst r1; subst r2; subst r3; subst r4; subst r5; subst r6
    exact ⟨q1.trans q1'.symm, q2.trans q2'.symm, q3.trans q3'.symm, q4.trans q4'.symm, q5.trans q5'.symm, q6.trans q6'.symm⟩
  · intro ⟨e1, e2, e3, e4, e5, e6⟩
    unfold lk
    rw [e1, e2, e3, e4, e5, e6]
def eqvB (σ τ : Sg) : Bool := (List.range 8).all fun f => decide (eqF σ τ f)
theorem eqvB_iff {σ τ : Sg} : eqvB σ τ = true ↔ ∀ f, f < 8 → eqF σ τ f := by
  unfold eqvB
  rw [List.all_eq_true]
  exact ⟨fun h f hf => of_decide_eq_true (h f (List.mem_range.mpr hf)), fun h f hf => decide_eq_true (h f (List.mem_range.mp hf))⟩
/-- the latest place below b that is like t -/
def sp_bef (S : Nat → Sg) (t : Nat) : Nat → Option Nat
  | 0 => none
  | b + 1 => if eqvB (S b) (S t) = true then some b else sp_bef S t b
def sp_rp (S : Nat → Sg) : Nat → Nat → Option (Nat × Nat)
  | 0, _ => none
  | k + 1, t => if sp_over (S (t - 1)) = true then none else match sp_bef S t t with
    | some b => some (t, b)
    | none => sp_rp S k (t + 1)
theorem bef_s {S : Nat → Sg} {t b : Nat} : sp_bef S t (b + 1) = if eqvB (S b) (S t) = true then some b else sp_bef S t b := rfl
theorem bef_lt {S : Nat → Sg} {t : Nat} : ∀ {b r : Nat}, sp_bef S t b = some r → r < b := by
  intro b
  induction b with
  | zero => intro r h; cases h
  | succ b ih =>
    intro r h
    unfold sp_bef at h
    by_cases e : eqvB (S b) (S t) = true
    · rw [if_pos e] at h; cases h; omega
    · rw [if_neg e] at h; have := ih h; omega
theorem rp_over {S : Nat → Sg} {k t : Nat} (h : sp_over (S (t - 1)) = true) : sp_rp S (k + 1) t = none := by
  unfold sp_rp; rw [if_pos h]
theorem rp_some {S : Nat → Sg} {k t b : Nat} (h : ¬ sp_over (S (t - 1)) = true) (hb : sp_bef S t t = some b) : sp_rp S (k + 1) t = some (t, b) := by
  unfold sp_rp; rw [if_neg h, hb]
theorem rp_none {S : Nat → Sg} {k t : Nat} (h : ¬ sp_over (S (t - 1)) = true) (hb : sp_bef S t t = none) : sp_rp S (k + 1) t = sp_rp S k (t + 1) := by
  generalize hx : sp_rp S k (t + 1) = x
  unfold sp_rp; rw [if_neg h, hb]; exact hx
/-- behind so many turns -/
def SS (σ : Sg) (t : Nat) : Sg := (sp_play t σ).2
theorem SS_ok {σ : Sg} {n : Nat} (h : okN n σ) (t : Nat) : okN n (SS σ t) := h.play t
theorem SS_next {σ : Sg} {n : Nat} (h : okN n σ) {t : Nat} (ho : ¬ sp_over (SS σ t) = true) : sp_play 1 (SS σ t) = (1, SS σ (t + 1)) ∧ ∃ w, (sp_next (SS σ t)).1 = some w ∧ SS σ (t + 1) = sp_take (sp_next (SS σ t)).2 w := by
  rcases play_next (k := t) h with ⟨w, h1, h2, h3, h4, h5⟩ | ⟨h1, h2, h3⟩
  · have e : SS σ (t + 1) = sp_take (sp_next (SS σ t)).2 w := by unfold SS; rw [h5]
    exact ⟨by rw [e]; exact play_1 h3, w, h3, e⟩
  · exact absurd h1 ho
