/-! the law: the report's bytes, put here and told there -/
/-- two loops side by side -/
theorem zl2_two {α β A B : Type} {g : (Int32 → A → Option α) → Int32 → A → Option α} {h : (Int32 → B → Option β) → Int32 → B → Option β} {N : Nat} {I : Nat → A → B → Prop} {Q : Option α → Option β → Prop} (hN : N < 1000)
    (hs : ∀ j c m s t, j < N → I j c m → ∃ c' m', g s (nI j) c = s (nI (j + 1)) c' ∧ h t (nI j) m = t (nI (j + 1)) m' ∧ I (j + 1) c' m')
    (he : ∀ c m k1 k2, 10 < k1 → 10 < k2 → I N c m → Q (zl2 g k1 (nI N) c) (zl2 h k2 (nI N) m)) {c : A} {m : B} (h0 : I 0 c m) : Q (zl2 g FU 0 c) (zl2 h FU 0 m) := by
  have key : ∀ d, d ≤ N → ∀ k1 k2 c m, d + 10 < k1 → d + 10 < k2 → I (N - d) c m → Q (zl2 g k1 (nI (N - d)) c) (zl2 h k2 (nI (N - d)) m) := by
    intro d
    induction d with
    | zero => intro _ k1 k2 c m h1 h2 hI; exact he c m k1 k2 (by omega) (by omega) hI
    | succ d ih =>
      intro hd k1 k2 c m h1 h2 hI
      obtain ⟨k1, rfl⟩ : ∃ k, k1 = k + 1 := ⟨k1 - 1, by omega⟩
      obtain ⟨k2, rfl⟩ : ∃ k, k2 = k + 1 := ⟨k2 - 1, by omega⟩
      obtain ⟨c', m', e1, e2, e3⟩ := hs (N - (d + 1)) c m (zl2 g k1) (zl2 h k2) (by omega) hI
      rw [show N - (d + 1) + 1 = N - d by omega] at e1 e2 e3
      show Q (g (zl2 g k1) _ c) (h (zl2 h k2) _ m)
      rw [e1, e2]
      exact ih (by omega) k1 k2 c' m' (by omega) (by omega) e3
  have := key N (Nat.le_refl _) FU FU c m (FU_gt (by omega)) (FU_gt (by omega)) (by rw [Nat.sub_self]; exact h0)
  rwa [Nat.sub_self] at this
section TLL
variable {c0 m0 c m : Mem}
theorem put_b : ∀ b, b < 256 → vp_nar .byte ((nI b).toInt8.toInt32) &&& 255 = nI b := by
  intro b hb
  rw [vp_nar_byte]
  revert b
  decide +kernel
/-- l bytes of the report stand in both -/
def PT (c0 m0 : Mem) (l : Nat) (c m : Mem) : Prop := SE (fun a => a = 360 ∨ a = 361) c0 c ∧ ldP c = ldP c0 ∧ SE (fun a => a = 362 ∨ a = 380) m0 m ∧ ldP m = ldP m0 ∧ ldJ m = ldJ m0 ∧ (∀ k, k ≠ 40 → ldI m 362 k = ldI m0 362 k) ∧ ldI c 360 1 = nI l ∧ ldI m 362 40 = nI l ∧ ∀ i, i < l → ∃ b, b < 256 ∧ ldI c 361 i &&& 255 = nI b ∧ ldI m 380 i = nI b
def PP (c0 m0 : Mem) : Prop := ldP c0 360 0 = some 361 ∧ ldP m0 362 39 = some 380
/-- both go through, k bytes on -/
def PB (c0 m0 : Mem) (l : Nat) (x y : Option Mem) : Prop := ∃ c' m', x = some c' ∧ y = some m' ∧ PT c0 m0 l c' m'
theorem bind_some' {α : Type} {x : Option α} : (x.bind fun r => some r) = x := by cases x <;> rfl
theorem put_bis (hp : PP c0 m0) {l b : Nat} (h : PT c0 m0 l c m) (hl : l < 176) (hb : b < 256) : PB c0 m0 (l + 1) (fX7_put 360 (nI b) c) (fX12_tell 362 (nI b) m) := by
  obtain ⟨h1, h2, h3, h4, hJ, h5, h6, h7, h8⟩ := h
  have hn : nI l + 1 = nI (l + 1) := nI_1 l
  refine ⟨stI (stI c 361 l (vp_nar .byte ((nI b).toInt8.toInt32))) 360 1 (nI (l + 1)), stI (stI m 380 l (nI b)) 362 40 (nI (l + 1)), ?_, ?_, ?_⟩
  · unfold fX7_put
    rw [h6, if_neg (nI_pos (by omega)), h2, hp.1, Option.bind_some, if_neg (show ¬ Int32.ofNat (Ln 361) ≤ nI l from nI_ge (Nat.lt_of_lt_of_le hl ln361.1) ln361.2.2.1), Option.bind_some, gd_t (inB_nI (Nat.lt_of_lt_of_le hl ln361.1) ln361.2.2.1), nI_clamp (by omega), nm_b, nm_b, ldI_stI_ne (by decide), h6, hn]
  · unfold fX12_tell
    rw [h4, hp.2, Option.bind_some, h7, gd_t (inB_nI (Nat.lt_of_lt_of_le hl ln361.2.1) ln361.2.2.2), nI_clamp (by omega), nm_b, nm_b, ldI_stI_ne (by decide), h7, hn]
  · refine ⟨SE.tr h1 (SE.tr (SE.sI (Or.inr rfl)) (SE.sI (Or.inl rfl))), h2, SE.tr h3 (SE.tr (SE.sI (Or.inr rfl)) (SE.sI (Or.inl rfl))), h4, hJ, fun k hk => ?_, ldI_stI_s, ldI_stI_s, fun i hi => ?_⟩
    · rw [ldI_stI, if_neg (fun q => hk q.2), ldI_stI_ne (by decide)]; exact h5 k hk
    · rw [ldI_stI_ne (o := 360) (by decide), ldI_stI_ne (o := 362) (by decide)]
      by_cases e : i = l
      · subst e
        exact ⟨b, hb, by rw [ldI_stI_s]; exact put_b b hb, ldI_stI_s⟩
      · rw [ldI_stI, if_neg (fun q => e q.2), ldI_stI, if_neg (fun q => e q.2)]
        exact h8 i (by omega)
theorem PB.bd {l l' : Nat} {x y : Option Mem} {f g : Mem → Option Mem} (h : PB c0 m0 l x y) (k : ∀ c m, PT c0 m0 l c m → PB c0 m0 l' (f c) (g m)) : PB c0 m0 l' (x.bind f) (y.bind g) := by
  obtain ⟨c', m', h1, h2, h3⟩ := h
  rw [h1, h2, Option.bind_some, Option.bind_some]
  exact k c' m' h3
/-- the digits behind one another, from the j-th -/
def putD (a : Nat) : Nat → Mem → Option Mem
  | 0, c => fX7_put 360 (nI (48 + a % 10)) c
  | j + 1, c => (fX7_put 360 (nI (48 + a / 10 ^ (j + 1) % 10)) c).bind (putD a j)
theorem dig_e {a d : Nat} (ha : a < 2 ^ 31) (h0 : 0 < d) (hd : d < 2 ^ 31) : 48 + ((nI a / nI d) - (nI a / nI d) / 10 * 10) = nI (48 + a / d % 10) := by
  rw [pk_div ha h0 hd, show (nI (a / d) - nI (a / d) / 10 * 10) = nI (a / d % 10) from pk_rem (d := 10) (Nat.lt_of_le_of_lt (Nat.div_le_self _ _) ha) (by decide) (by decide)]
  exact nI_add 48 _
theorem dig_0 {a : Nat} (ha : a < 2 ^ 31) : 48 + (nI a - nI a / 10 * 10) = nI (48 + a % 10) := by
  rw [show (nI a - nI a / 10 * 10) = nI (a % 10) from pk_rem (d := 10) ha (by decide) (by decide)]
  exact nI_add 48 _
theorem ten_lt {j : Nat} (hj : j ≤ 3) : 0 < 10 ^ j ∧ 10 ^ j < 2 ^ 31 := by
  rcases (show j = 0 ∨ j = 1 ∨ j = 2 ∨ j = 3 by omega) with rfl | rfl | rfl | rfl <;> decide
theorem nz_nI {d : Nat} (h0 : 0 < d) (hd : d < 2 ^ 31) : nz (nI d) = true := by
  unfold nz
  rw [decide_eq_false (nI_ne0 h0 hd)]
  rfl
theorem digs_bis (hp : PP c0 m0) {a : Nat} (ha : a < 2 ^ 31) : ∀ j, j ≤ 3 → ∀ k l c m, j + 1 < k → PT c0 m0 l c m → l + j + 1 ≤ 176 → PB c0 m0 (l + j + 1) (putD a j c) (zl2 (gX12_tellNumber_20 362 (nI a)) k (nI (10 ^ j)) m) := by
  intro j
  induction j with
  | zero =>
    intro _ k l c m hk h hl
    obtain ⟨k, rfl⟩ : ∃ q, k = q + 2 := ⟨k - 2, by omega⟩
    have hput := put_bis hp h (b := 48 + a % 10) (by omega) (by omega)
    obtain ⟨c', m', e1, e2, e3⟩ := hput
    refine ⟨c', m', e1, ?_, e3⟩
    show gX12_tellNumber_20 362 (nI a) (zl2 (gX12_tellNumber_20 362 (nI a)) (k + 1)) (nI 1) m = _
    unfold gX12_tellNumber_20
    rw [if_neg (nI_nle (by decide) (by decide)), gd_t (nz_nI (by decide) (by decide)), dig_e ha (by decide) (by decide), Nat.div_one, e2, Option.bind_some, nm_b]
    show gX12_tellNumber_20 362 (nI a) (zl2 (gX12_tellNumber_20 362 (nI a)) k) (nI 1 / 10) m' = _
    unfold gX12_tellNumber_20
    rw [if_pos (show nI 1 / 10 ≤ 0 by decide)]
  | succ j ih =>
    intro hj k l c m hk h hl
    obtain ⟨k, rfl⟩ : ∃ q, k = q + 1 := ⟨k - 1, by omega⟩
    obtain ⟨t1, t2⟩ := ten_lt hj
    have e2 : zl2 (gX12_tellNumber_20 362 (nI a)) (k + 1) (nI (10 ^ (j + 1))) m = (fX12_tell 362 (nI (48 + a / 10 ^ (j + 1) % 10)) m).bind (zl2 (gX12_tellNumber_20 362 (nI a)) k (nI (10 ^ j))) := by
      show gX12_tellNumber_20 362 (nI a) (zl2 (gX12_tellNumber_20 362 (nI a)) k) _ m = _
      unfold gX12_tellNumber_20
      rw [if_neg (nI_nle t1 t2), gd_t (nz_nI t1 t2), dig_e ha t1 t2, show nI (10 ^ (j + 1)) / 10 = nI (10 ^ (j + 1) / 10) from pk_div (d := 10) t2 (by decide) (by decide), show 10 ^ (j + 1) / 10 = 10 ^ j by rw [Nat.pow_succ, Nat.mul_div_cancel _ (by decide)]]
      rfl
    rw [e2, putD]
    refine (put_bis hp h (by omega) (by omega)).bd (fun c' m' h' => ?_)
    have := ih (by omega) k (l + 1) c' m' (by omega) h' (by omega)
    rwa [show l + 1 + j + 1 = l + (j + 1) + 1 by omega] at this
def dgs (a : Nat) : Nat := if a < 10 then 0 else if a < 100 then 1 else if a < 1000 then 2 else 3
theorem dgs_le {a : Nat} : dgs a ≤ 3 ∧ (a ≤ 999 → dgs a ≤ 2) := by
  unfold dgs
  refine ⟨?_, fun h => ?_⟩ <;> repeat' split
  all_goals omega
theorem dgs_s {a : Nat} (ha : a ≤ 9999) : a / 10 ^ dgs a ≤ 9 ∧ ∀ i, i < dgs a → 9 < a / 10 ^ i := by
  unfold dgs
  by_cases h1 : a < 10
  · rw [if_pos h1]; exact ⟨by rw [Nat.pow_zero, Nat.div_one]; omega, fun i hi => absurd hi (by omega)⟩
  · by_cases h2 : a < 100
    · rw [if_neg h1, if_pos h2]
      refine ⟨by show a / 10 ≤ 9; omega, fun i hi => ?_⟩
      obtain rfl : i = 0 := by omega
      show 9 < a / 1; omega
    · by_cases h3 : a < 1000
      · rw [if_neg h1, if_neg h2, if_pos h3]
        refine ⟨by show a / 100 ≤ 9; omega, fun i hi => ?_⟩
        rcases (show i = 0 ∨ i = 1 by omega) with rfl | rfl
        · show 9 < a / 1; omega
        · show 9 < a / 10; omega
      · rw [if_neg h1, if_neg h2, if_neg h3]
        refine ⟨by show a / 1000 ≤ 9; omega, fun i hi => ?_⟩
        rcases (show i = 0 ∨ i = 1 ∨ i = 2 by omega) with rfl | rfl | rfl
        · show 9 < a / 1; omega
        · show 9 < a / 10; omega
        · show 9 < a / 100; omega
theorem c_putNumber {a : Nat} (ha : a ≤ 9999) : fX7_putNumber 360 (nI a) c = putD a (dgs a) c := by
  have a31 : a < 2 ^ 31 := by omega
  have e42 : ∀ c, a < 10 → fX7_putNumber_42 360 (nI a) c = putD a 0 c := fun c h => by
    unfold fX7_putNumber_42
    rw [if_pos (show nI a < 10 from nI_lt (b := 10) h (by decide)), bind_some', dig_0 a31]
    rfl
  have e42' : ∀ c, 10 ≤ a → fX7_putNumber_42 360 (nI a) c = putD a 1 c := fun c h => by
    unfold fX7_putNumber_42
    rw [if_neg (show ¬ nI a < 10 from nI_nlt (b := 10) h a31)]
    rw [show (48 + ((nI a / 10) - (nI a / 10) / 10 * 10)) = nI (48 + a / 10 % 10) from dig_e (d := 10) a31 (by decide) (by decide), dig_0 a31]
    exact congrArg _ (funext fun r => bind_some')
  have e22 : ∀ c, 100 ≤ a → fX7_putNumber_22 360 (nI a) c = putD a 2 c := fun c h => by
    unfold fX7_putNumber_22
    rw [if_neg (show ¬ nI a < 100 from nI_nlt (b := 100) h a31), show (48 + ((nI a / 100) - (nI a / 100) / 10 * 10)) = nI (48 + a / 100 % 10) from dig_e (d := 100) a31 (by decide) (by decide)]
    exact congrArg _ (funext fun r => e42' r (by omega))
  unfold dgs fX7_putNumber
  by_cases h3 : a < 1000
  · rw [if_pos (show nI a < 1000 from nI_lt (b := 1000) h3 (by decide))]
    by_cases h2 : a < 100
    · unfold fX7_putNumber_22
      rw [if_pos (show nI a < 100 from nI_lt (b := 100) h2 (by decide))]
      by_cases h1 : a < 10
      · rw [if_pos h1, e42 c h1]
      · rw [if_neg h1, if_pos h2, e42' c (by omega)]
    · rw [if_neg (show ¬ a < 10 by omega), if_neg h2, if_pos h3, e22 c (by omega)]
  · rw [if_neg (show ¬ nI a < 1000 from nI_nlt (b := 1000) (by omega) a31), if_neg (show ¬ a < 10 by omega), if_neg (show ¬ a < 100 by omega), if_neg h3, show (48 + ((nI a / 1000) - (nI a / 1000) / 10 * 10)) = nI (48 + a / 1000 % 10) from dig_e (d := 1000) a31 (by decide) (by decide)]
    exact congrArg _ (funext fun r => e22 r (by omega))
theorem m_tellNumber {a : Nat} (ha : a ≤ 9999) : fX12_tellNumber 362 (nI a) m = fX12_tellNumber_20 362 (nI a) (nI (10 ^ dgs a)) m := by
  have a31 : a < 2 ^ 31 := by omega
  obtain ⟨s1, s2⟩ := dgs_s ha
  have hd := (dgs_le (a := a)).1
  have key : ∀ i, i ≤ dgs a → ∀ k, i < k → zl2 (gX12_tellNumber_2 362 (nI a)) k (nI (10 ^ (dgs a - i))) m = fX12_tellNumber_20 362 (nI a) (nI (10 ^ dgs a)) m := by
    intro i
    induction i with
    | zero =>
      intro _ k hk
      obtain ⟨k, rfl⟩ : ∃ q, k = q + 1 := ⟨k - 1, by omega⟩
      obtain ⟨t1, t2⟩ := ten_lt hd
      show gX12_tellNumber_2 362 (nI a) (zl2 (gX12_tellNumber_2 362 (nI a)) k) (nI (10 ^ dgs a)) m = _
      unfold gX12_tellNumber_2
      rw [gd_t (nz_nI t1 t2), pk_div a31 t1 t2, if_pos (show nI (a / 10 ^ dgs a) ≤ 9 from nI_le (b := 9) s1 (by decide))]
    | succ i ih =>
      intro hi k hk
      obtain ⟨k, rfl⟩ : ∃ q, k = q + 1 := ⟨k - 1, by omega⟩
      obtain ⟨t1, t2⟩ := ten_lt (show dgs a - (i + 1) ≤ 3 by omega)
      show gX12_tellNumber_2 362 (nI a) (zl2 (gX12_tellNumber_2 362 (nI a)) k) (nI (10 ^ (dgs a - (i + 1)))) m = _
      unfold gX12_tellNumber_2
      rw [gd_t (nz_nI t1 t2), pk_div a31 t1 t2, if_neg (show ¬ nI (a / 10 ^ (dgs a - (i + 1))) ≤ 9 from nI_ge (a := 9) (s2 _ (by omega)) (Nat.lt_of_le_of_lt (Nat.div_le_self _ _) a31)), nm_b, show nI (10 ^ (dgs a - (i + 1))) * 10 = nI (10 ^ (dgs a - (i + 1)) * 10) from pk_mul _ 10, ← Nat.pow_succ, show (dgs a - (i + 1)).succ = dgs a - i by omega]
      exact ih (by omega) k (by omega)
  unfold fX12_tellNumber fX12_tellNumber_2
  have := key (dgs a) (Nat.le_refl _) FU (FU_gt (by omega))
  rw [Nat.sub_self] at this
  exact this
theorem num_bis (hp : PP c0 m0) {a l : Nat} (ha : a ≤ 9999) (h : PT c0 m0 l c m) (hl : l + dgs a + 1 ≤ 176) : PB c0 m0 (l + dgs a + 1) (fX7_putNumber 360 (nI a) c) (fX12_tellNumber 362 (nI a) m) := by
  rw [c_putNumber ha, m_tellNumber ha]
  exact digs_bis hp (by omega) (dgs a) (dgs_le).1 FU l c m (FU_gt (by have := (dgs_le (a := a)).1; omega)) h hl
end TLL
