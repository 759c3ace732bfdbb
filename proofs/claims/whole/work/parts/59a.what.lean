/-! texts: which word it is; names -/
theorem first_at {c : Nat → Bool} {j : Nat} (h : ∀ i, i < j → c i = false) (hj : c j = true) : ∀ {n : Nat}, j < n → sp_first c n = some j := by
  intro n hn
  have h0 : ∀ k, k ≤ j → sp_first c k = none := by
    intro k
    induction k with
    | zero => intro _; rfl
    | succ k ih => intro hk; rw [sp_first, ih (by omega)]; simp only [h k (by omega)]; rfl
  refine first_stay (j := j + 1) ?_ hn
  rw [sp_first, h0 j (Nat.le_refl _)]
  simp only [hj, if_true]
theorem first_no {c : Nat → Bool} : ∀ {n : Nat}, (∀ i, i < n → c i = false) → sp_first c n = none := by
  intro n
  induction n with
  | zero => intro _; rfl
  | succ n ih => intro h; rw [sp_first, ih (fun i hi => h i (by omega))]; simp only [h n (by omega)]; rfl
theorem bf {b : Bool} (h : ¬ b = true) : b = false := by cases b; rfl; exact absurd rfl h

def kl (q : Nat) : List Nat := [[104, 105, 116], [112, 117, 115, 104], [108, 105, 102, 116], [103, 117, 97, 114, 100], [97, 103, 97, 105, 110], [115, 112, 101, 101, 100], [114, 101, 115, 116]].getD q []
def kw (q : Nat) : Nat := [8500, 546408, 402644, 8029764, 1279278, 20452516, 595572].getD q 0
theorem kl_in : ∀ q, q < 7 → (11 + q, kw q, kl q) ∈ wTab := by decide
theorem kl_of {μ : Mem} {q : Nat} (hq : q < 7) : fX0_wordOf (nI q) μ = some (11 + q) := by
  rcases (show q = 0 ∨ q = 1 ∨ q = 2 ∨ q = 3 ∨ q = 4 ∨ q = 5 ∨ q = 6 by omega) with rfl | rfl | rfl | rfl | rfl | rfl | rfl <;> rfl
theorem c_kindHere {c m : Mem} {T : Nat → Nat} {L p : Nat} (h : TR c m T L p) : fX0_kindHere 1 c = some (noI (sp_first (fun q => wB T L p (kl q)) 7)) := by
  unfold fX0_kindHere fX0_kindHere_2
  refine zl1_for (N := 7) (I := fun j => sp_first (fun q => wB T L p (kl q)) j = none) (Qr := fun r => r = some (noI (sp_first (fun q => wB T L p (kl q)) 7))) (by decide) rfl (fun j self hj hI => ?_) (fun self hI => ?_)
  · simp only [gX0_kindHere_2, if_neg (show ¬ (7 : Int32) ≤ nI j from nI_ge (b := 7) hj (by decide)), kl_of hj, Option.bind_some, c_isWord h (kl_in j hj), nm_b, nI_1]
    by_cases e : wB T L p (kl j) = true
    · rw [if_pos e, if_neg one0]
      have h3 : sp_first (fun q => wB T L p (kl q)) (j + 1) = some j := by simp only [sp_first, hI, e, if_true]
      rw [first_stay h3 (show j + 1 ≤ 7 by omega)]
      exact Or.inr rfl
    · rw [if_neg e, if_pos rfl]
      exact Or.inl ⟨rfl, by simp only [sp_first, hI, bf e]; rfl⟩
  · simp only [gX0_kindHere_2, if_pos (show (7 : Int32) ≤ nI 7 by decide), hI]
    rfl
theorem m_kindHere {c m : Mem} {T : Nat → Nat} {L p : Nat} (h : TR c m T L p) : fX12_kindHere 362 m = some (noI (sp_first (fun q => wB T L p (kl q)) 7)) := by
  unfold fX12_kindHere
  rw [m_isWord h (k := 11) (w := 8500) (ls := kl 0) (W := 8500) (by decide) rfl, Option.bind_some]
  by_cases e0 : wB T L p (kl 0) = true
  · rw [if_pos e0, if_neg one0]
    have z0 : ∀ q, q < 0 → (fun q => wB T L p (kl q)) q = false := fun q hq => absurd hq (Nat.not_lt_zero _)
    rw [first_at (n := 7) z0 e0 (by decide)]; rfl
  rw [if_neg e0, if_pos rfl]
  rw [m_isWord h (k := 12) (w := 546408) (ls := kl 1) (W := 546408) (by decide) rfl, Option.bind_some]
  by_cases e1 : wB T L p (kl 1) = true
  · rw [if_pos e1, if_neg one0]
    have z1 : ∀ q, q < 1 → (fun q => wB T L p (kl q)) q = false := by
      intro q hq
      have : q = 0 := by omega
      subst this
      exact bf e0
    rw [first_at (n := 7) z1 e1 (by decide)]; rfl
  rw [if_neg e1, if_pos rfl]
  rw [m_isWord h (k := 13) (w := 402644) (ls := kl 2) (W := 402644) (by decide) rfl, Option.bind_some]
  by_cases e2 : wB T L p (kl 2) = true
  · rw [if_pos e2, if_neg one0]
    have z2 : ∀ q, q < 2 → (fun q => wB T L p (kl q)) q = false := by
      intro q hq
      rcases (show q = 0 ∨ q = 1 by omega) with rfl | rfl
      · exact bf e0
      · exact bf e1
    rw [first_at (n := 7) z2 e2 (by decide)]; rfl
  rw [if_neg e2, if_pos rfl]
  rw [m_isWord h (k := 14) (w := 8029764) (ls := kl 3) (W := 8029764) (by decide) rfl, Option.bind_some]
  by_cases e3 : wB T L p (kl 3) = true
  · rw [if_pos e3, if_neg one0]
    have z3 : ∀ q, q < 3 → (fun q => wB T L p (kl q)) q = false := by
      intro q hq
      rcases (show q = 0 ∨ q = 1 ∨ q = 2 by omega) with rfl | rfl | rfl
      · exact bf e0
      · exact bf e1
      · exact bf e2
    rw [first_at (n := 7) z3 e3 (by decide)]; rfl
  rw [if_neg e3, if_pos rfl]
  rw [m_isWord h (k := 15) (w := 1279278) (ls := kl 4) (W := 1279278) (by decide) rfl, Option.bind_some]
  by_cases e4 : wB T L p (kl 4) = true
  · rw [if_pos e4, if_neg one0]
    have z4 : ∀ q, q < 4 → (fun q => wB T L p (kl q)) q = false := by
      intro q hq
      rcases (show q = 0 ∨ q = 1 ∨ q = 2 ∨ q = 3 by omega) with rfl | rfl | rfl | rfl
      · exact bf e0
      · exact bf e1
      · exact bf e2
      · exact bf e3
    rw [first_at (n := 7) z4 e4 (by decide)]; rfl
  rw [if_neg e4, if_pos rfl]
  rw [m_isWord h (k := 16) (w := 20452516) (ls := kl 5) (W := 20452516) (by decide) rfl, Option.bind_some]
  by_cases e5 : wB T L p (kl 5) = true
  · rw [if_pos e5, if_neg one0]
    have z5 : ∀ q, q < 5 → (fun q => wB T L p (kl q)) q = false := by
      intro q hq
      rcases (show q = 0 ∨ q = 1 ∨ q = 2 ∨ q = 3 ∨ q = 4 by omega) with rfl | rfl | rfl | rfl | rfl
      · exact bf e0
      · exact bf e1
      · exact bf e2
      · exact bf e3
      · exact bf e4
    rw [first_at (n := 7) z5 e5 (by decide)]; rfl
  rw [if_neg e5, if_pos rfl]
  rw [m_isWord h (k := 17) (w := 595572) (ls := kl 6) (W := 595572) (by decide) rfl, Option.bind_some]
  by_cases e6 : wB T L p (kl 6) = true
  · rw [if_pos e6, if_neg one0]
    have z6 : ∀ q, q < 6 → (fun q => wB T L p (kl q)) q = false := by
      intro q hq
      rcases (show q = 0 ∨ q = 1 ∨ q = 2 ∨ q = 3 ∨ q = 4 ∨ q = 5 by omega) with rfl | rfl | rfl | rfl | rfl | rfl
      · exact bf e0
      · exact bf e1
      · exact bf e2
      · exact bf e3
      · exact bf e4
      · exact bf e5
    rw [first_at (n := 7) z6 e6 (by decide)]; rfl
  rw [if_neg e6, if_pos rfl]
  have z7 : ∀ q, q < 7 → (fun q => wB T L p (kl q)) q = false := by
    intro q hq
    rcases (show q = 0 ∨ q = 1 ∨ q = 2 ∨ q = 3 ∨ q = 4 ∨ q = 5 ∨ q = 6 by omega) with rfl | rfl | rfl | rfl | rfl | rfl | rfl
    · exact bf e0
    · exact bf e1
    · exact bf e2
    · exact bf e3
    · exact bf e4
    · exact bf e5
    · exact bf e6
  rw [first_no z7]; rfl
def cl (q : Nat) : List Nat := [[116, 117, 114, 110], [112, 117, 115, 104], [108, 105, 102, 116], [101, 120, 116, 114, 97], [115, 112, 101, 101, 100], [104, 101, 97, 108], [119, 104, 101, 101, 108], [97, 99, 116], [114, 101, 112, 101, 97, 116]].getD q []
def cwd (q : Nat) : Nat := [677454, 546408, 402644, 6050369, 20452516, 267308, 24384684, 1140, 609752116].getD q 0
theorem cl_in : ∀ q, q < 9 → (19 + q, cwd q, cl q) ∈ wTab := by decide
theorem cl_of {μ : Mem} {q : Nat} (hq : q < 9) : fX1_wordOf (nI q) μ = some (19 + q) := by
  rcases (show q = 0 ∨ q = 1 ∨ q = 2 ∨ q = 3 ∨ q = 4 ∨ q = 5 ∨ q = 6 ∨ q = 7 ∨ q = 8 by omega) with rfl | rfl | rfl | rfl | rfl | rfl | rfl | rfl | rfl <;> rfl
theorem c_whatHere {c m : Mem} {T : Nat → Nat} {L p : Nat} (h : TR c m T L p) : fX6_whatHere 1 c = some (noI (sp_first (fun q => wB T L p (cl q)) 9)) := by
  unfold fX6_whatHere fX6_whatHere_2
  refine zl1_for (N := 9) (I := fun j => sp_first (fun q => wB T L p (cl q)) j = none) (Qr := fun r => r = some (noI (sp_first (fun q => wB T L p (cl q)) 9))) (by decide) rfl (fun j self hj hI => ?_) (fun self hI => ?_)
  · simp only [gX6_whatHere_2, if_neg (show ¬ (9 : Int32) ≤ nI j from nI_ge (b := 9) hj (by decide)), cl_of hj, Option.bind_some, c_isWord h (cl_in j hj), nm_b, nI_1]
    by_cases e : wB T L p (cl j) = true
    · rw [if_pos e, if_neg one0]
      have h3 : sp_first (fun q => wB T L p (cl q)) (j + 1) = some j := by simp only [sp_first, hI, e, if_true]
      rw [first_stay h3 (show j + 1 ≤ 9 by omega)]
      exact Or.inr rfl
    · rw [if_neg e, if_pos rfl]
      exact Or.inl ⟨rfl, by simp only [sp_first, hI, bf e]; rfl⟩
  · simp only [gX6_whatHere_2, if_pos (show (9 : Int32) ≤ nI 9 by decide), hI]
    rfl
theorem m_whatHere {c m : Mem} {T : Nat → Nat} {L p : Nat} (h : TR c m T L p) : fX12_commandHere 362 m = some (noI (sp_first (fun q => wB T L p (cl q)) 9)) := by
  unfold fX12_commandHere
  rw [m_isWord h (k := 19) (w := 677454) (ls := cl 0) (W := 677454) (by decide) rfl, Option.bind_some]
  by_cases e0 : wB T L p (cl 0) = true
  · rw [if_pos e0, if_neg one0]
    have z0 : ∀ q, q < 0 → (fun q => wB T L p (cl q)) q = false := fun q hq => absurd hq (Nat.not_lt_zero _)
    rw [first_at (n := 9) z0 e0 (by decide)]; rfl
  rw [if_neg e0, if_pos rfl]
  rw [m_isWord h (k := 20) (w := 546408) (ls := cl 1) (W := 546408) (by decide) rfl, Option.bind_some]
  by_cases e1 : wB T L p (cl 1) = true
  · rw [if_pos e1, if_neg one0]
    have z1 : ∀ q, q < 1 → (fun q => wB T L p (cl q)) q = false := by
      intro q hq
      have : q = 0 := by omega
      subst this
      exact bf e0
    rw [first_at (n := 9) z1 e1 (by decide)]; rfl
  rw [if_neg e1, if_pos rfl]
  rw [m_isWord h (k := 21) (w := 402644) (ls := cl 2) (W := 402644) (by decide) rfl, Option.bind_some]
  by_cases e2 : wB T L p (cl 2) = true
  · rw [if_pos e2, if_neg one0]
    have z2 : ∀ q, q < 2 → (fun q => wB T L p (cl q)) q = false := by
      intro q hq
      rcases (show q = 0 ∨ q = 1 by omega) with rfl | rfl
      · exact bf e0
      · exact bf e1
    rw [first_at (n := 9) z2 e2 (by decide)]; rfl
  rw [if_neg e2, if_pos rfl]
  rw [m_isWord h (k := 22) (w := 6050369) (ls := cl 3) (W := 6050369) (by decide) rfl, Option.bind_some]
  by_cases e3 : wB T L p (cl 3) = true
  · rw [if_pos e3, if_neg one0]
    have z3 : ∀ q, q < 3 → (fun q => wB T L p (cl q)) q = false := by
      intro q hq
      rcases (show q = 0 ∨ q = 1 ∨ q = 2 by omega) with rfl | rfl | rfl
      · exact bf e0
      · exact bf e1
      · exact bf e2
    rw [first_at (n := 9) z3 e3 (by decide)]; rfl
  rw [if_neg e3, if_pos rfl]
  rw [m_isWord h (k := 23) (w := 20452516) (ls := cl 4) (W := 20452516) (by decide) rfl, Option.bind_some]
  by_cases e4 : wB T L p (cl 4) = true
  · rw [if_pos e4, if_neg one0]
    have z4 : ∀ q, q < 4 → (fun q => wB T L p (cl q)) q = false := by
      intro q hq
      rcases (show q = 0 ∨ q = 1 ∨ q = 2 ∨ q = 3 by omega) with rfl | rfl | rfl | rfl
      · exact bf e0
      · exact bf e1
      · exact bf e2
      · exact bf e3
    rw [first_at (n := 9) z4 e4 (by decide)]; rfl
  rw [if_neg e4, if_pos rfl]
  rw [m_isWord h (k := 24) (w := 267308) (ls := cl 5) (W := 267308) (by decide) rfl, Option.bind_some]
  by_cases e5 : wB T L p (cl 5) = true
  · rw [if_pos e5, if_neg one0]
    have z5 : ∀ q, q < 5 → (fun q => wB T L p (cl q)) q = false := by
      intro q hq
      rcases (show q = 0 ∨ q = 1 ∨ q = 2 ∨ q = 3 ∨ q = 4 by omega) with rfl | rfl | rfl | rfl | rfl
      · exact bf e0
      · exact bf e1
      · exact bf e2
      · exact bf e3
      · exact bf e4
    rw [first_at (n := 9) z5 e5 (by decide)]; rfl
  rw [if_neg e5, if_pos rfl]
  rw [m_isWord h (k := 25) (w := 24384684) (ls := cl 6) (W := 24384684) (by decide) rfl, Option.bind_some]
  by_cases e6 : wB T L p (cl 6) = true
  · rw [if_pos e6, if_neg one0]
    have z6 : ∀ q, q < 6 → (fun q => wB T L p (cl q)) q = false := by
      intro q hq
      rcases (show q = 0 ∨ q = 1 ∨ q = 2 ∨ q = 3 ∨ q = 4 ∨ q = 5 by omega) with rfl | rfl | rfl | rfl | rfl | rfl
      · exact bf e0
      · exact bf e1
      · exact bf e2
      · exact bf e3
      · exact bf e4
      · exact bf e5
    rw [first_at (n := 9) z6 e6 (by decide)]; rfl
  rw [if_neg e6, if_pos rfl]
  rw [m_isWord h (k := 26) (w := 1140) (ls := cl 7) (W := 1140) (by decide) rfl, Option.bind_some]
  by_cases e7 : wB T L p (cl 7) = true
  · rw [if_pos e7, if_neg one0]
    have z7 : ∀ q, q < 7 → (fun q => wB T L p (cl q)) q = false := by
      intro q hq
      rcases (show q = 0 ∨ q = 1 ∨ q = 2 ∨ q = 3 ∨ q = 4 ∨ q = 5 ∨ q = 6 by omega) with rfl | rfl | rfl | rfl | rfl | rfl | rfl
      · exact bf e0
      · exact bf e1
      · exact bf e2
      · exact bf e3
      · exact bf e4
      · exact bf e5
      · exact bf e6
    rw [first_at (n := 9) z7 e7 (by decide)]; rfl
  rw [if_neg e7, if_pos rfl]
  rw [m_isWord h (k := 27) (w := 609752116) (ls := cl 8) (W := 609752116) (by decide) rfl, Option.bind_some]
  by_cases e8 : wB T L p (cl 8) = true
  · rw [if_pos e8, if_neg one0]
    have z8 : ∀ q, q < 8 → (fun q => wB T L p (cl q)) q = false := by
      intro q hq
      rcases (show q = 0 ∨ q = 1 ∨ q = 2 ∨ q = 3 ∨ q = 4 ∨ q = 5 ∨ q = 6 ∨ q = 7 by omega) with rfl | rfl | rfl | rfl | rfl | rfl | rfl | rfl
      · exact bf e0
      · exact bf e1
      · exact bf e2
      · exact bf e3
      · exact bf e4
      · exact bf e5
      · exact bf e6
      · exact bf e7
    rw [first_at (n := 9) z8 e8 (by decide)]; rfl
  rw [if_neg e8, if_pos rfl]
  have z9 : ∀ q, q < 9 → (fun q => wB T L p (cl q)) q = false := by
    intro q hq
    rcases (show q = 0 ∨ q = 1 ∨ q = 2 ∨ q = 3 ∨ q = 4 ∨ q = 5 ∨ q = 6 ∨ q = 7 ∨ q = 8 by omega) with rfl | rfl | rfl | rfl | rfl | rfl | rfl | rfl | rfl
    · exact bf e0
    · exact bf e1
    · exact bf e2
    · exact bf e3
    · exact bf e4
    · exact bf e5
    · exact bf e6
    · exact bf e7
    · exact bf e8
  rw [first_no z9]; rfl
/-- names in both: of 8 bits a letter, of 5; all different -/
def NMS (n : Nat) (ν η : Nat → Int64) : Prop := (∀ f, f < n → ∃ w l, vw w l ∧ ν f = lN (p8 w 8) ∧ η f = lN (p5 w l)) ∧ ∀ f g, f < n → g < n → ν f = ν g → f = g
theorem no_eq {σ : Sg} {ν : Nat → Int64} {v : Int64} {n : Nat} (h0 : σ 0 = nI n) (hn : n ≤ 8) : sp_no σ ν v = sp_first (fun f => decide (ν f = v)) n := by
  unfold sp_no
  rw [first_ext (n := n) 8 hn (fun f h1 h2 => by rw [h0, decide_eq_false (nI_nlt h1 (by omega)), Bool.false_and])]
  have : ∀ m, m ≤ n → sp_first (fun f => decide (nI f < σ 0) && decide (lg_cmp (ν f) v = 0)) m = sp_first (fun f => decide (ν f = v)) m := by
    intro m
    induction m with
    | zero => intro _; rfl
    | succ m ih =>
      intro hm
      rw [sp_first, sp_first, ih (by omega)]
      have e : (decide (nI m < σ 0) && decide (lg_cmp (ν m) v = 0)) = decide (ν m = v) := by
        rw [h0, decide_eq_true (nI_lt (by omega) (by omega)), Bool.true_and]
        by_cases q : ν m = v
        · rw [decide_eq_true q, decide_eq_true ((lg_cmp_eq _ _).mpr q)]
        · rw [decide_eq_false q, decide_eq_false (fun h => q ((lg_cmp_eq _ _).mp h))]
      rw [e]
  exact this n (Nat.le_refl _)
theorem m_named {m : Mem} {n : Nat} {σ : Sg} {ν : Nat → Int64} (hp : ldP m 362 13 = some 364) (hq : ldP m 362 18 = some 369) (h0 : ldI m 364 0 = nI n) (hn : n ≤ 8) (hN : NMS n ν (ldJ m 369)) {w : Nat → Nat} {l : Nat} (hw : vw w l) (h12 : ldJ m 362 12 = lN (p5 w l)) (hσ : σ 0 = nI n) : fX12_named 362 m = some (noI (sp_no σ ν (lN (p8 w 8)))) := by
  rw [no_eq hσ hn]
  unfold fX12_named fX12_named_4
  refine zl2_for (N := n) (I := fun j a => a = noI (sp_first (fun f => decide (ν f = lN (p8 w 8))) j)) (Qr := fun r => r = some (noI (sp_first (fun f => decide (ν f = lN (p8 w 8))) n))) (by omega) rfl (fun j a self hj hI => ?_) (fun a self hI => ?_)
  · subst hI
    obtain ⟨w', l', h1, h2, h3⟩ := hN.1 j hj
    have hs := vw_same h1 hw
    rw [← h2, ← h3] at hs
    have ln369 : Ln 369 = 8 := by decide
    simp only [gX12_named_4, hp, hq, Option.bind_some, ln364, gd_t ib0, z0, h0, if_neg (jn hj hn), ln369, gd_t (inB_nI (show j < 8 by omega) (by decide)), nI_clamp (show j < 2 ^ 31 by omega), h12, nm_b, nI_1]
    rw [ifc (lg_cmp_eq _ _)]
    by_cases e : ν j = lN (p8 w 8)
    · rw [if_pos (hs.mp e)]
      have hnone : sp_first (fun f => decide (ν f = lN (p8 w 8))) j = none := first_no (fun i hi => decide_eq_false (fun e2 => by have := hN.2 i j (by omega) hj (e2.trans e.symm); omega))
      exact Or.inl ⟨_, rfl, by simp only [sp_first, hnone, decide_eq_true e, if_true]; rfl⟩
    · rw [if_neg (fun h => e (hs.mpr h))]
      refine Or.inl ⟨_, rfl, ?_⟩
      have : sp_first (fun f => decide (ν f = lN (p8 w 8))) (j + 1) = sp_first (fun f => decide (ν f = lN (p8 w 8))) j := by
        rw [sp_first]
        cases sp_first (fun f => decide (ν f = lN (p8 w 8))) j with
        | none => simp only [decide_eq_false e]; rfl
        | some f => rfl
      rw [this]
  · subst hI
    simp only [gX12_named_4, hp, Option.bind_some, ln364, gd_t ib0, z0, h0, if_pos (show nI n ≤ nI n from nI_le (Nat.le_refl _) (by omega))]
theorem no_lt {σ : Sg} {ν : Nat → Int64} {v : Int64} {n f : Nat} (h0 : σ 0 = nI n) (hn : n ≤ 8) (h : sp_no σ ν v = some f) : f < n ∧ ν f = v := by
  rw [no_eq h0 hn] at h
  have := first_lt h
  exact ⟨this.1, of_decide_eq_true this.2⟩
theorem no_none {σ : Sg} {ν : Nat → Int64} {v : Int64} {n : Nat} (h0 : σ 0 = nI n) (hn : n ≤ 8) (h : sp_no σ ν v = none) : ∀ f, f < n → ν f ≠ v := by
  rw [no_eq h0 hn] at h
  have hx : ∀ {c : Nat → Bool} {k : Nat}, sp_first c k = none → ∀ f, f < k → c f = false := by
    intro c k
    induction k with
    | zero => intro _ f hf; omega
    | succ k ih =>
      intro h f hf
      rw [sp_first] at h
      cases hs : sp_first c k with
      | some g => rw [hs] at h; cases h
      | none =>
        rw [hs] at h
        by_cases e : f = k
        · subst e
          cases hc : c f with
          | false => rfl
          | true => rw [hc] at h; cases h
        · exact ih hs f (by omega)
  exact fun f hf => of_decide_eq_false (hx h f hf)
