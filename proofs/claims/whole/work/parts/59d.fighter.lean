/-! texts: a fighter -/
section FGT
variable {T : Nat → Nat} {L n : Nat}
theorem okF.cg {σ σ' : Sg} {f : Nat} (h : okF σ f) (h1 : ∀ w, w < 12 → σ' (4 + 12 * f + w) = σ (4 + 12 * f + w)) (h2 : ∀ k, k < 6 → σ' (100 + 6 * f + k) = σ (100 + 6 * f + k) ∧ σ' (148 + 6 * f + k) = σ (148 + 6 * f + k)) : okF σ' f := by
  obtain ⟨g1, p, a, g2, g3, g4, g5, g6⟩ := h
  refine ⟨fun w hw => by rw [h1 w hw]; exact g1 w hw, p, a, by rw [h1 7 (by decide)]; exact g2, by rw [h1 8 (by decide)]; exact g3, g4, g5, fun k hk => ?_⟩
  obtain ⟨q, v, r1, r2, r3⟩ := g6 k hk
  exact ⟨q, v, by rw [(h2 k (by omega)).1]; exact r1, by rw [(h2 k (by omega)).2]; exact r2, r3⟩
def newR (σ : Sg) (n s v l k : Nat) : Sg := upd (upd (upd (upd σ (4 + 12 * n) (nI s)) (4 + 12 * n + 1) (nI v)) (4 + 12 * n + 2) (nI l)) (4 + 12 * n + 3) (nI k)
theorem okN_new {σ ρ : Sg} {s v l k a : Nat} (h : okN n σ) (hn : n < 8) (hs : s ≤ 1) (hv1 : 1 ≤ v) (hv : v ≤ 99) (hl : l ≤ 999) (hk : k ≤ 9) (ha : 1 ≤ a) (ha6 : a ≤ 6) (hP : PLR n (newR σ n s v l k) ρ a) : okN (n + 1) (upd ρ 0 (nI (n + 1))) := by
  obtain ⟨g1, g2, g3⟩ := hP
  have hz := h.2.2.2.2 n (Nat.le_refl _) hn
  have out : ∀ i, i ≠ 0 → (i < 4 + 12 * n ∨ 16 + 12 * n ≤ i) → (i < 100 + 6 * n ∨ 106 + 6 * n ≤ i) → (i < 148 + 6 * n ∨ 154 + 6 * n ≤ i) → upd ρ 0 (nI (n + 1)) i = σ i := fun i i0 i1 i2 i3 => by
    rw [upd_n i0, g1 i (by omega) i2 i3]
    unfold newR
    rw [upd_n (by omega), upd_n (by omega), upd_n (by omega), upd_n (by omega)]
  have cell : ∀ w, w < 12 → w ≠ 8 → upd ρ 0 (nI (n + 1)) (4 + 12 * n + w) = newR σ n s v l k (4 + 12 * n + w) := fun w hw h8 => by
    rw [upd_n (by omega), g1 _ (by omega) (by omega) (by omega)]
  refine ⟨by omega, upd_s, ?_, fun f hf => ?_, fun f hf hf8 w hw => ?_⟩
  · rw [out 1 (by omega) (by omega) (by omega) (by omega)]; exact h.2.2.1
  · by_cases e : f = n
    · subst e
      have n0 : newR σ f s v l k (4 + 12 * f + 0) = nI s := by unfold newR; rw [upd_n (by omega), upd_n (by omega), upd_n (by omega)]; exact upd_s
      have n1 : newR σ f s v l k (4 + 12 * f + 1) = nI v := by unfold newR; rw [upd_n (by omega), upd_n (by omega), upd_s]
      have n2 : newR σ f s v l k (4 + 12 * f + 2) = nI l := by unfold newR; rw [upd_n (by omega), upd_s]
      have n3 : newR σ f s v l k (4 + 12 * f + 3) = nI k := by unfold newR; rw [upd_s]
      have nz : ∀ w, 4 ≤ w → w < 12 → newR σ f s v l k (4 + 12 * f + w) = 0 := fun w w1 w2 => by
        unfold newR; rw [upd_n (by omega), upd_n (by omega), upd_n (by omega), upd_n (by omega)]; exact hz w w2
      refine ⟨fun w hw w7 => ?_, 0, a, ?_, ?_, by omega, ha6, fun j hj => ?_⟩
      · rw [cell w hw (by omega)]
        rcases (show w = 0 ∨ w = 1 ∨ w = 2 ∨ w = 3 ∨ w = 4 ∨ w = 5 ∨ w = 6 by omega) with rfl | rfl | rfl | rfl | rfl | rfl | rfl
        · rw [n0]; exact ⟨s, Nat.zero_le _, hs, rfl⟩
        · rw [n1]; exact ⟨v, hv1, hv, rfl⟩
        · rw [n2]; exact ⟨l, Nat.zero_le _, hl, rfl⟩
        · rw [n3]; exact ⟨k, Nat.zero_le _, hk, rfl⟩
        · rw [nz 4 (by decide) (by decide)]; exact ⟨0, Nat.zero_le _, Nat.zero_le _, rfl⟩
        · rw [nz 5 (by decide) (by decide)]; exact ⟨0, Nat.zero_le _, Nat.zero_le _, rfl⟩
        · rw [nz 6 (by decide) (by decide)]; exact ⟨0, Nat.zero_le _, Nat.zero_le _, rfl⟩
      · rw [cell 7 (by decide) (by decide), nz 7 (by decide) (by decide)]; rfl
      · rw [upd_n (by omega)]; exact g2
      · obtain ⟨q, x, r1, r2, r3, r4, r5⟩ := g3 j hj
        have := mo_bd (q := q)
        refine ⟨q, x, by rw [upd_n (by omega)]; exact r4, by rw [upd_n (by omega)]; exact r5, by omega, r2, by omega, fun hq => ?_⟩
        rcases hq with rfl | rfl
        · have : mo 3 = 99 := rfl
          omega
        · have : mo 5 = 99 := rfl
          omega
    · exact (h.2.2.2.1 f (by omega)).cg (fun w hw => out _ (by omega) (by omega) (by omega) (by omega)) (fun k hk => ⟨out _ (by omega) (by omega) (by omega) (by omega), out _ (by omega) (by omega) (by omega) (by omega)⟩)
  · rw [out _ (by omega) (by omega) (by omega) (by omega)]; exact h.2.2.2.2 f (by omega) hf8 w hw
/-! the reference's fighter, piece by piece -/
def mF (n : Nat) (m : Mem) : Option Mem := (fX12_isWord 362 414827 m).bind fun r_31 => if r_31 = 0 then fX12_readsFighter_134 362 (nI n) r_31 m else (fX12_goOn 362 m).bind fun r_35 => fX12_readsFighter_134 362 (nI n) r_31 r_35
def mE (n : Nat) (r : Int32 × Mem) : Option Mem := (fX12_sets 362 (nI n) 2 r.1 r.2).bind fun r_28 => mF n r_28
def mD (n : Nat) (m : Mem) : Option Mem := (fX12_after 362 402629 1 999 m).bind fun r => mE n r
def mC (n : Nat) (r : Int32 × Mem) : Option Mem := (fX12_sets 362 (nI n) 1 r.1 r.2).bind fun r_22 => mD n r_22
def mB (n : Nat) (m : Mem) : Option Mem := (fX12_after 362 20452516 1 99 m).bind fun r => mC n r
def mA (n : Nat) (r : Int32 × Mem) : Option Mem := (fX12_sets 362 (nI n) 0 r.1 r.2).bind fun r_16 => mB n r_16
theorem m53 {m : Mem} (h : ldI m 362 8 = 0) (hq : ldP m 362 18 = some 369) (hn : n < 8) : fX12_readsFighter_53 362 (nI n) m = (fX12_goOn 362 (stJ m 369 n (ldJ m 362 12))).bind fun r_10 => (fX12_side 362 r_10).bind fun r_13 => mA n r_13 := by
  unfold fX12_readsFighter_53
  rw [m_good h, Option.bind_some, if_neg one0, hq, Option.bind_some, show Ln 369 = 8 by decide, gd_t (inB_nI hn (by decide)), nI_clamp (by omega), nm_b]
  rfl
section BF
variable {m : Mem}
theorem b_152 (hn : n < 8) (hp : ldP m 362 13 = some 364) (h : ¬ ldI m 362 8 = 0) (v : Int32) : ∃ m', fX12_readsFighter_152 362 (nI n) 362 (nI n) 3 v m = some m' ∧ BM m m' := by
  unfold fX12_readsFighter_152 fX12_readsFighter_167
  have hb : BM m (stI m 364 (4 + 12 * n + 3) v) := BM.s
  rw [m_sets hp hn (w := 3) (W := 3) (by decide) rfl, Option.bind_some, b_mustWord (hb.bad h), Option.bind_some, b_readsAct (hb.p hp) (hb.bad h) hn, Option.bind_some, show FU = (FU - 1) + 1 from rfl, b_167 (hb.bad h)]
  exact ⟨_, rfl, hb⟩
theorem b_134 (hn : n < 8) (hp : ldP m 362 13 = some 364) (h : ¬ ldI m 362 8 = 0) (v : Int32) : ∃ m', fX12_readsFighter_134 362 (nI n) v m = some m' ∧ BM m m' := by
  unfold fX12_readsFighter_134
  by_cases e : v = 0
  · rw [if_pos e]; exact b_152 hn hp h 0
  · rw [if_neg e, m_badNum h, Option.bind_some]; exact b_152 hn hp h _
theorem b_F (hn : n < 8) (hp : ldP m 362 13 = some 364) (h : ¬ ldI m 362 8 = 0) : ∃ m', mF n m = some m' ∧ BM m m' := by
  unfold mF
  rw [b_isWord h, Option.bind_some, if_pos rfl]; exact b_134 hn hp h 0
theorem b_E (hn : n < 8) (hp : ldP m 362 13 = some 364) (h : ¬ ldI m 362 8 = 0) (v : Int32) : ∃ m', mE n (v, m) = some m' ∧ BM m m' := by
  unfold mE
  have hb : BM m (stI m 364 (4 + 12 * n + 2) v) := BM.s
  rw [show fX12_sets 362 (nI n) 2 (v, m).1 (v, m).2 = _ from m_sets hp hn (w := 2) (W := 2) (by decide) rfl, Option.bind_some]
  obtain ⟨m', a, b⟩ := b_F hn (hb.p hp) (hb.bad h)
  exact ⟨m', a, hb.tr b⟩
theorem b_D (hn : n < 8) (hp : ldP m 362 13 = some 364) (h : ¬ ldI m 362 8 = 0) : ∃ m', mD n m = some m' ∧ BM m m' := by
  unfold mD
  rw [b_after h, Option.bind_some]; exact b_E hn hp h _
theorem b_C (hn : n < 8) (hp : ldP m 362 13 = some 364) (h : ¬ ldI m 362 8 = 0) (v : Int32) : ∃ m', mC n (v, m) = some m' ∧ BM m m' := by
  unfold mC
  have hb : BM m (stI m 364 (4 + 12 * n + 1) v) := BM.s
  rw [show fX12_sets 362 (nI n) 1 (v, m).1 (v, m).2 = _ from m_sets hp hn (w := 1) (W := 1) (by decide) rfl, Option.bind_some]
  obtain ⟨m', a, b⟩ := b_D hn (hb.p hp) (hb.bad h)
  exact ⟨m', a, hb.tr b⟩
theorem b_B (hn : n < 8) (hp : ldP m 362 13 = some 364) (h : ¬ ldI m 362 8 = 0) : ∃ m', mB n m = some m' ∧ BM m m' := by
  unfold mB
  rw [b_after h, Option.bind_some]; exact b_C hn hp h _
theorem b_A (hn : n < 8) (hp : ldP m 362 13 = some 364) (h : ¬ ldI m 362 8 = 0) (v : Int32) : ∃ m', mA n (v, m) = some m' ∧ BM m m' := by
  unfold mA
  have hb : BM m (stI m 364 (4 + 12 * n) v) := BM.s
  rw [show fX12_sets 362 (nI n) 0 (v, m).1 (v, m).2 = _ from m_sets hp hn (w := 0) (W := 0) (by decide) rfl, Option.bind_some]
  obtain ⟨m', a, b⟩ := b_B hn (hb.p hp) (hb.bad h)
  exact ⟨m', a, hb.tr b⟩
theorem b_53 (h : ¬ ldI m 362 8 = 0) {v : Int32} : fX12_readsFighter_53 362 v m = some m := by
  unfold fX12_readsFighter_53
  rw [m_bad h, Option.bind_some, if_pos rfl]
theorem b_29 (h : ¬ ldI m 362 8 = 0) {v : Int32} : fX12_readsFighter_29 362 v m = some m := by
  unfold fX12_readsFighter_29 fX12_mustBeWord
  rw [m_bad h, Option.bind_some, if_pos rfl, Option.bind_some, m_bad h, Option.bind_some, if_pos rfl, b_53 h]
theorem b_18 (h : ¬ ldI m 362 8 = 0) {v : Int32} : fX12_readsFighter_18 362 v m = some m := by
  unfold fX12_readsFighter_18
  rw [m_bad h, Option.bind_some, if_pos rfl, b_29 h]
end BF
theorem wB_ne {T : Nat → Nat} {L p : Nat} {a b : List Nat} (ha : wB T L p a = true) (h : ¬ lN (p8 (wlt a) 8) = lN (p8 (wlt b) 8)) : ¬ wB T L p b = true := by
  intro hb
  unfold wB at ha hb
  rw [Bool.and_eq_true, decide_eq_true_eq, decide_eq_true_eq] at ha hb
  exact h (ha.2.symm.trans hb.2)
theorem side_bis {c m : Mem} {p : Nat} (h : TR c m T L p) : ON c m T L (tkE T L p) 0 1 (fX8_readSide 1 c) (fX12_side 362 m) := by
  have mL : (5, 398548, [108, 101, 102, 116]) ∈ wTab := by decide
  have mR : (6, 19176724, [114, 105, 103, 104, 116]) ∈ wTab := by decide
  unfold fX8_readSide fX12_side
  rw [c_isWord h mL, Option.bind_some, m_isWord h mR (W := 19176724) rfl, Option.bind_some, m_good h.gd, Option.bind_some, if_neg one0]
  obtain ⟨c1, m1, a1, a2, a3, a4, a5⟩ := h.step
  by_cases eL : wB T L p [108, 101, 102, 116] = true
  · have eR : ¬ wB T L p [114, 105, 103, 104, 116] = true := wB_ne eL (by decide)
    rw [if_pos eL, if_neg one0, if_neg eR, if_pos rfl, m_isWord h mL (W := 398548) rfl, Option.bind_some, if_pos eL, if_neg one0, a1, Option.bind_some]
    unfold fX12_side_34
    rw [m_good h.gd, Option.bind_some, if_neg one0, a2, Option.bind_some]
    exact Or.inl ⟨0, c1, m1, by decide, by decide, rfl, rfl, a3, a4, a5⟩
  · rw [if_neg eL, if_pos rfl]
    by_cases eR : wB T L p [114, 105, 103, 104, 116] = true
    · rw [if_pos eR, if_neg one0]
      unfold fX12_side_34 fX9_takeWord
      rw [c_isWord h mR, Option.bind_some, if_pos eR, if_neg one0, a1, m_good h.gd, Option.bind_some, Option.bind_some, Option.bind_some, if_neg one0, a2, Option.bind_some]
      exact Or.inl ⟨1, c1, m1, by decide, by decide, rfl, rfl, a3, a4, a5⟩
    · obtain ⟨c2, m2, b1, b2, b3, b4, b5⟩ := h.fail (k := 1) (Or.inl rfl) (K := 1) rfl
      rw [if_neg eR, if_pos rfl, m_isWord h mL (W := 398548) rfl, Option.bind_some, if_neg eL, if_pos rfl, b2, Option.bind_some]
      unfold fX12_side_34 fX9_takeWord
      rw [c_isWord h mR, Option.bind_some, if_neg eR, if_pos rfl, b1, m_bad b3.bad, Option.bind_some, Option.bind_some, if_pos rfl]
      exact Or.inr ⟨0, c2, m2, rfl, rfl, b3, b4, b5⟩
end FGT
