/-! tokens: the reference's -/
theorem ln363 : Ln 363 = 600 := by decide
/-- the reference's text -/
def TBm (m : Mem) (T : Nat → Nat) (L : Nat) : Prop := L ≤ 600 ∧ ldP m 362 1 = some 363 ∧ ldI m 362 3 = nI L ∧ ∀ i, i < L → T i < 256 ∧ ldI m 363 i = nI (T i)
/-- a step leaves all else -/
def KM (m m' : Mem) : Prop := ldP m' = ldP m ∧ (∀ a, a ≠ 362 → ldI m' a = ldI m a) ∧ (∀ a, a ≠ 362 → ldJ m' a = ldJ m a) ∧ ∀ k, k ≠ 4 → k ≠ 5 → k ≠ 6 → k ≠ 7 → ldI m' 362 k = ldI m 362 k
theorem KM.rf {m : Mem} : KM m m := ⟨rfl, fun _ _ => rfl, fun _ _ => rfl, fun _ _ _ _ _ => rfl⟩
theorem KM.tr {a b c : Mem} (h1 : KM a b) (h2 : KM b c) : KM a c := ⟨h2.1.trans h1.1, fun x hx => (h2.2.1 x hx).trans (h1.2.1 x hx), fun x hx => (h2.2.2.1 x hx).trans (h1.2.2.1 x hx), fun k p q r s => (h2.2.2.2 k p q r s).trans (h1.2.2.2 k p q r s)⟩
theorem KM.s {m m' : Mem} (h : KM m m') {k : Nat} {v : Int32} (hk : k = 4 ∨ k = 5 ∨ k = 6 ∨ k = 7) : KM m (stI m' 362 k v) := ⟨h.1, fun a ha => (ldI_stI_ne ha).trans (h.2.1 a ha), h.2.2.1, fun j p q r s => by rw [ldI_stI, if_neg (by omega)]; exact h.2.2.2 j p q r s⟩
theorem KM.j {m m' : Mem} (h : KM m m') {v : Int64} : KM m (stJ m' 362 12 v) := ⟨h.1, h.2.1, fun a ha => (ldJ_stJ_ne ha).trans (h.2.2.1 a ha), h.2.2.2⟩
theorem KM.tb {m m' : Mem} {T : Nat → Nat} {L : Nat} (h : KM m m') (g : TBm m T L) : TBm m' T L := ⟨g.1, by rw [h.1]; exact g.2.1, by rw [h.2.2.2 3 (by decide) (by decide) (by decide) (by decide)]; exact g.2.2.1, fun i hi => by rw [h.2.1 363 (by decide)]; exact g.2.2.2 i hi⟩
def TKm (m : Mem) (T : Nat → Nat) (L p : Nat) : Prop := ldI m 362 5 = nI (tkQ T L p) ∧ ldI m 362 4 = nI (tkE T L p) ∧ ldI m 362 6 = nI (tkK T L p) ∧ (tkK T L p = 1 → ldJ m 362 12 = lN (p5 (wf T (tkQ T L p) (tkE T L p)) (tkE T L p - tkQ T L p))) ∧ (tkK T L p = 2 → ldI m 362 7 = nI (numV T (tkQ T L p) (tkE T L p - tkQ T L p))) ∧ (tkK T L p = 3 → ldI m 362 7 = nI (T (tkQ T L p)))
section TOKM
variable {m m0 : Mem} {T : Nat → Nat} {L : Nat}
theorem TBm.lim (h : TBm m T L) : ldI m 362 3 = nI L := h.2.2.1
theorem TBm.lt (h : TBm m T L) {i : Nat} (hi : i < L) : T i < 256 := (h.2.2.2 i hi).1
theorem m_here (h : TBm m T L) {p : Nat} (h4 : ldI m 362 4 = nI p) {k : Nat} (hk : p + k < 2 ^ 30) : fX12_here 362 (nI k) m = some (if p + k < L then nI (T (p + k)) else -1) := by
  obtain ⟨h1, h2, h3, h5⟩ := h
  unfold fX12_here
  rw [h4, nI_add, h3]
  by_cases e : p + k < L
  · rw [if_neg (nI_ge e (by omega)), h2, Option.bind_some, ln363, gd_t (inB_nI (by omega) (by decide)), nI_clamp (by omega), (h5 _ e).2, if_pos e]
  · rw [if_pos (nI_le (by omega) (by omega)), if_neg e]
theorem m_isLetter {μ : Mem} {b : Nat} (hb : b < 256) : fX12_isLetter (nI b) μ = some (if isL b = true then 1 else 0) := c_isLetter (μ := μ) hb
theorem m_isDigit {μ : Mem} {b : Nat} (hb : b < 256) : fX12_isDigit (nI b) μ = some (if isD b = true then 1 else 0) := c_isDigit (μ := μ) hb
theorem m_isLetterN {μ : Mem} : fX12_isLetter (-1) μ = some 0 := rfl
theorem m_isDigitN {μ : Mem} : fX12_isDigit (-1) μ = some 0 := rfl
theorem m_word76 (h : TBm m0 T L) {q e : Nat} (he : e = scn (fun i => isL (T i)) (L - q) q) (hq : q ≤ L) (hm : KM m0 m) (h4 : ldI m 362 4 = nI q) (h5 : ldI m 362 5 = nI q) (h12 : ldJ m 362 12 = 0) : ∃ m', fX12_goOn_76 362 0 m = some m' ∧ KM m0 m' ∧ ldI m' 362 4 = nI e ∧ ldI m' 362 5 = nI q ∧ ldI m' 362 6 = (if e - q ≤ 8 then 1 else 4) ∧ (e - q ≤ 8 → ldJ m' 362 12 = lN (p5 (wf T q e) (e - q))) := by
  have hL := h.1
  have hg := @scn_ge (fun i => isL (T i)) (L - q) q
  rw [← he] at hg
  have hin : ∀ i, q ≤ i → i < e → isL (T i) = true := fun i h1 h2 => scn_in (c := fun i => isL (T i)) h1 (by rw [← he]; exact h2)
  have h122 : ∀ i, wf T q e i ≤ 122 := fun i => by
    unfold wf
    by_cases e1 : q + i < e
    · rw [if_pos e1]
      have := hin (q + i) (by omega) e1
      unfold isL at this
      rw [Bool.and_eq_true, decide_eq_true_eq, decide_eq_true_eq] at this
      exact this.2
    · rw [if_neg e1]; decide
  unfold fX12_goOn_76
  refine zl2_m (P := fun n v m => ∃ j, q + j ≤ e ∧ n = e - q - j ∧ v = nI j ∧ KM m0 m ∧ ldI m 362 4 = nI q ∧ ldI m 362 5 = nI q ∧ ldJ m 362 12 = lN (p5 (wf T q e) (min j 8))) (Qr := fun r => ∃ m', r = some m' ∧ KM m0 m' ∧ ldI m' 362 4 = nI e ∧ ldI m' 362 5 = nI q ∧ ldI m' 362 6 = (if e - q ≤ 8 then 1 else 4) ∧ (e - q ≤ 8 → ldJ m' 362 12 = lN (p5 (wf T q e) (e - q)))) (fun n v m self hP => ?_) FU (e - q) 0 m (FU_gt (by omega)) ⟨0, by omega, rfl, rfl, hm, h4, h5, h12⟩
  obtain ⟨j, j1, j2, j3, j4, j5, j6, j7⟩ := hP
  subst j3
  have ht := j4.tb h
  have fin : q + j = e → ∀ k : Int32, ldI (stI (stI m 362 6 k) 362 4 (ldI (stI m 362 6 k) 362 4 + nI j)) 362 4 = nI e ∧ ldI (stI (stI m 362 6 k) 362 4 (ldI (stI m 362 6 k) 362 4 + nI j)) 362 5 = nI q ∧ ldI (stI (stI m 362 6 k) 362 4 (ldI (stI m 362 6 k) 362 4 + nI j)) 362 6 = k := by
    intro e0 k
    refine ⟨?_, ?_, ?_⟩
    · rw [ldI_stI_s, ldI_stI, if_neg (by decide), j5, nI_add, e0]
    · rw [ldI_stI, if_neg (by decide), ldI_stI, if_neg (by decide)]; exact j6
    · rw [ldI_stI, if_neg (by decide), ldI_stI_s]
  have stop : q + j = e → ∃ m', (if nI j ≤ 8 then nm (stI m 362 6 1) fun m_8 => nm (stI m_8 362 4 ((ldI m_8 362 4) + nI j)) fun m_9 => some m_9 else nm (stI m 362 6 4) fun m_10 => nm (stI m_10 362 4 ((ldI m_10 362 4) + nI j)) fun m_11 => some m_11) = some m' ∧ KM m0 m' ∧ ldI m' 362 4 = nI e ∧ ldI m' 362 5 = nI q ∧ ldI m' 362 6 = (if e - q ≤ 8 then 1 else 4) ∧ (e - q ≤ 8 → ldJ m' 362 12 = lN (p5 (wf T q e) (e - q))) := by
    intro e0
    have ej : e - q = j := by omega
    rw [ej]
    by_cases e8 : j ≤ 8
    · rw [if_pos (show nI j ≤ 8 from nI_le (b := 8) e8 (by decide)), if_pos e8]
      obtain ⟨f1, f2, f3⟩ := fin e0 1
      refine ⟨_, rfl, (j4.s (by decide)).s (by decide), f1, f2, f3, fun _ => ?_⟩
      rw [Nat.min_eq_left e8] at j7
      exact j7
    · rw [if_neg (show ¬ nI j ≤ 8 from nI_ge (a := 8) (by omega) (by omega)), if_neg e8]
      obtain ⟨f1, f2, f3⟩ := fin e0 4
      exact ⟨_, rfl, (j4.s (by decide)).s (by decide), f1, f2, f3, fun h => absurd h e8⟩
  simp only [gX12_goOn_76, m_here ht j5 (show q + j < 2 ^ 30 by omega), Option.bind_some]
  by_cases e1 : q + j < L
  · rw [if_pos e1, m_isLetter (ht.lt e1), Option.bind_some]
    by_cases e2 : isL (T (q + j)) = true
    · have e3 : q + j < e := by
        by_cases q1 : q + j < e
        · exact q1
        · exfalso
          have q2 : q + j = e := by omega
          have := @scn_out (fun i => isL (T i)) (L - q) q (by omega)
          rw [← he, ← q2] at this
          exact this e2
      rw [if_pos e2, if_neg one0]
      by_cases e8 : j < 8
      · rw [if_neg (show ¬ (8 : Int32) ≤ nI j from nI_ge (b := 8) e8 (by decide)), nm_b, nm_b, nI_1]
        refine Or.inl ⟨e - q - (j + 1), _, _, by omega, ⟨j + 1, by omega, rfl, rfl, j4.j, j5, j6, ?_⟩, rfl⟩
        have hT := hin (q + j) (by omega) e3
        unfold isL at hT
        rw [Bool.and_eq_true, decide_eq_true_eq, decide_eq_true_eq] at hT
        have ew : wf T q e j = T (q + j) := by unfold wf; rw [if_pos e3]
        have hb := p5_lt (f := wf T q e) (j + 1) (fun i _ => h122 i)
        have h3 : 2 ^ (5 * (j + 1)) ≤ 2 ^ 40 := Nat.pow_le_pow_right (by decide) (by omega)
        have hb2 : p5 (wf T q e) (j + 1) = p5 (wf T q e) j * 2 ^ 5 + (wf T q e j - 96) := rfl
        rw [Nat.min_eq_left (by omega)] at j7
        rw [ldJ_stJ, if_pos ⟨rfl, rfl⟩, j7, Nat.min_eq_left (by omega), show nI (T (q + j)) - 97 + 1 = nI (T (q + j) - 96) by
          rw [show (97 : Int32) = nI 97 from rfl, pk_sub (by omega), nI_1, show T (q + j) - 97 + 1 = T (q + j) - 96 by omega], lk_put' (K := 5) (k := 5) rfl (by decide) (by omega) (by omega) (by omega), hb2, ew]
      · rw [if_pos (show (8 : Int32) ≤ nI j from nI_le (a := 8) (by omega) (by omega)), nm_b, nI_1]
        refine Or.inl ⟨e - q - (j + 1), _, _, by omega, ⟨j + 1, by omega, rfl, rfl, j4, j5, j6, ?_⟩, rfl⟩
        rw [Nat.min_eq_right (by omega)] at j7 ⊢
        exact j7
    · have e3 : q + j = e := by
        by_cases q1 : q + j < e
        · exact absurd (hin (q + j) (by omega) q1) e2
        · omega
      rw [if_neg e2, if_pos rfl]
      exact Or.inr (stop e3)
  · rw [if_neg e1, m_isLetterN, Option.bind_some, if_pos rfl]
    exact Or.inr (stop (by omega))
theorem m_num146 (h : TBm m0 T L) {q e : Nat} (he : e = scn (fun i => isD (T i)) (L - q) q) (hq : q ≤ L) (hm : KM m0 m) (h4 : ldI m 362 4 = nI q) (h5 : ldI m 362 5 = nI q) (h7 : ldI m 362 7 = 0) : ∃ m', fX12_goOn_146 362 0 m = some m' ∧ KM m0 m' ∧ ldI m' 362 4 = nI e ∧ ldI m' 362 5 = nI q ∧ ldI m' 362 6 = (if e - q ≤ 3 then 2 else 4) ∧ (e - q ≤ 3 → ldI m' 362 7 = nI (numV T q (e - q))) := by
  have hL := h.1
  have hg := @scn_ge (fun i => isD (T i)) (L - q) q
  rw [← he] at hg
  have hin : ∀ i, q ≤ i → i < e → isD (T i) = true := fun i h1 h2 => scn_in (c := fun i => isD (T i)) h1 (by rw [← he]; exact h2)
  unfold fX12_goOn_146
  refine zl2_m (P := fun n v m => ∃ j, q + j ≤ e ∧ n = e - q - j ∧ v = nI j ∧ KM m0 m ∧ ldI m 362 4 = nI q ∧ ldI m 362 5 = nI q ∧ ldI m 362 7 = nI (numV T q (min j 3))) (Qr := fun r => ∃ m', r = some m' ∧ KM m0 m' ∧ ldI m' 362 4 = nI e ∧ ldI m' 362 5 = nI q ∧ ldI m' 362 6 = (if e - q ≤ 3 then 2 else 4) ∧ (e - q ≤ 3 → ldI m' 362 7 = nI (numV T q (e - q)))) (fun n v m self hP => ?_) FU (e - q) 0 m (FU_gt (by omega)) ⟨0, by omega, rfl, rfl, hm, h4, h5, h7⟩
  obtain ⟨j, j1, j2, j3, j4, j5, j6, j7⟩ := hP
  subst j3
  have ht := j4.tb h
  have fin : q + j = e → ∀ k : Int32, ldI (stI (stI m 362 6 k) 362 4 (ldI (stI m 362 6 k) 362 4 + nI j)) 362 4 = nI e ∧ ldI (stI (stI m 362 6 k) 362 4 (ldI (stI m 362 6 k) 362 4 + nI j)) 362 5 = nI q ∧ ldI (stI (stI m 362 6 k) 362 4 (ldI (stI m 362 6 k) 362 4 + nI j)) 362 6 = k ∧ ldI (stI (stI m 362 6 k) 362 4 (ldI (stI m 362 6 k) 362 4 + nI j)) 362 7 = nI (numV T q (min j 3)) := by
    intro e0 k
    refine ⟨?_, ?_, ?_, ?_⟩
    · rw [ldI_stI_s, ldI_stI, if_neg (by decide), j5, nI_add, e0]
    · rw [ldI_stI, if_neg (by decide), ldI_stI, if_neg (by decide)]; exact j6
    · rw [ldI_stI, if_neg (by decide), ldI_stI_s]
    · rw [ldI_stI, if_neg (by decide), ldI_stI, if_neg (by decide)]; exact j7
  have stop : q + j = e → ∃ m', (if nI j ≤ 3 then nm (stI m 362 6 2) fun m_8 => nm (stI m_8 362 4 ((ldI m_8 362 4) + nI j)) fun m_9 => some m_9 else nm (stI m 362 6 4) fun m_10 => nm (stI m_10 362 4 ((ldI m_10 362 4) + nI j)) fun m_11 => some m_11) = some m' ∧ KM m0 m' ∧ ldI m' 362 4 = nI e ∧ ldI m' 362 5 = nI q ∧ ldI m' 362 6 = (if e - q ≤ 3 then 2 else 4) ∧ (e - q ≤ 3 → ldI m' 362 7 = nI (numV T q (e - q))) := by
    intro e0
    have ej : e - q = j := by omega
    rw [ej]
    by_cases e8 : j ≤ 3
    · rw [if_pos (show nI j ≤ 3 from nI_le (b := 3) e8 (by decide)), if_pos e8]
      obtain ⟨f1, f2, f3, f4⟩ := fin e0 2
      refine ⟨_, rfl, (j4.s (by decide)).s (by decide), f1, f2, f3, fun _ => ?_⟩
      rw [Nat.min_eq_left e8] at f4
      exact f4
    · rw [if_neg (show ¬ nI j ≤ 3 from nI_ge (a := 3) (by omega) (by omega)), if_neg e8]
      obtain ⟨f1, f2, f3, f4⟩ := fin e0 4
      exact ⟨_, rfl, (j4.s (by decide)).s (by decide), f1, f2, f3, fun h => absurd h e8⟩
  simp only [gX12_goOn_146, m_here ht j5 (show q + j < 2 ^ 30 by omega), Option.bind_some]
  by_cases e1 : q + j < L
  · rw [if_pos e1, m_isDigit (ht.lt e1), Option.bind_some]
    by_cases e2 : isD (T (q + j)) = true
    · have e3 : q + j < e := by
        by_cases q1 : q + j < e
        · exact q1
        · exfalso
          have q2 : q + j = e := by omega
          have := @scn_out (fun i => isD (T i)) (L - q) q (by omega)
          rw [← he, ← q2] at this
          exact this e2
      rw [if_pos e2, if_neg one0]
      by_cases e8 : j < 3
      · rw [if_neg (show ¬ (3 : Int32) ≤ nI j from nI_ge (b := 3) e8 (by decide)), nm_b, nm_b, nI_1]
        refine Or.inl ⟨e - q - (j + 1), _, _, by omega, ⟨j + 1, by omega, rfl, rfl, j4.s (by decide), by rw [ldI_stI, if_neg (by decide)]; exact j5, by rw [ldI_stI, if_neg (by decide)]; exact j6, ?_⟩, rfl⟩
        have hT := e2
        unfold isD at hT
        rw [Bool.and_eq_true, decide_eq_true_eq, decide_eq_true_eq] at hT
        rw [Nat.min_eq_left (by omega)] at j7
        rw [ldI_stI_s, j7, Nat.min_eq_left (by omega), show (10 : Int32) = nI 10 from rfl, show (48 : Int32) = nI 48 from rfl, pk_mul, nI_add, pk_sub (by omega), Nat.mul_comm]
        rfl
      · rw [if_pos (show (3 : Int32) ≤ nI j from nI_le (a := 3) (by omega) (by omega)), nm_b, nI_1]
        refine Or.inl ⟨e - q - (j + 1), _, _, by omega, ⟨j + 1, by omega, rfl, rfl, j4, j5, j6, ?_⟩, rfl⟩
        rw [Nat.min_eq_right (by omega)] at j7 ⊢
        exact j7
    · have e3 : q + j = e := by
        by_cases q1 : q + j < e
        · exact absurd (hin (q + j) (by omega) q1) e2
        · omega
      rw [if_neg e2, if_pos rfl]
      exact Or.inr (stop e3)
  · rw [if_neg e1, m_isDigitN, Option.bind_some, if_pos rfl]
    exact Or.inr (stop (by omega))
/-- what stands behind the spaces -/
theorem m_tok (h : TBm m0 T L) {p : Nat} (hp : p ≤ L) (hm : KM m0 m) (h4 : ldI m 362 4 = nI (tkQ T L p)) : ∃ m', (nm (stI m 362 5 (ldI m 362 4)) fun m_8 => nm (stJ m_8 362 12 0) fun m_9 => nm (stI m_9 362 7 0) fun m_10 => (fX12_here 362 0 m_10).bind fun r_11 => if 0 ≤ r_11 then (fX12_isLetter r_11 m_10).bind fun r_14 => if r_14 = 0 then (fX12_isDigit r_11 m_10).bind fun r_18 => if r_18 = 0 then if r_11 = 59 then fX12_goOn_224 362 r_11 362 m_10 else if r_11 = 40 then fX12_goOn_224 362 r_11 362 m_10 else if r_11 = 41 then fX12_goOn_224 362 r_11 362 m_10 else fX12_goOn_229 362 r_11 362 4 m_10 else fX12_goOn_146 362 0 m_10 else fX12_goOn_76 362 0 m_10 else nm (stI m_10 362 6 0) fun m_27 => some m_27) = some m' ∧ KM m0 m' ∧ TKm m' T L p := by
  have hL := h.1
  have hq := tkQ_ge (T := T) hp
  rw [nm_b, nm_b, nm_b, h4]
  obtain ⟨u, hu⟩ : ∃ u, u = stI (stJ (stI m 362 5 (nI (tkQ T L p))) 362 12 0) 362 7 0 := ⟨_, rfl⟩
  rw [← hu]
  have ku : KM m0 u := by rw [hu]; exact ((hm.s (by decide)).j).s (by decide)
  have u4 : ldI u 362 4 = nI (tkQ T L p) := by rw [hu, ldI_stI, if_neg (by decide), ldI_stJ, ldI_stI, if_neg (by decide)]; exact h4
  have u5 : ldI u 362 5 = nI (tkQ T L p) := by rw [hu, ldI_stI, if_neg (by decide), ldI_stJ, ldI_stI_s]
  have u7 : ldI u 362 7 = 0 := by rw [hu, ldI_stI_s]
  have u12 : ldJ u 362 12 = 0 := by rw [hu, ldJ_stI, ldJ_stJ, if_pos ⟨rfl, rfl⟩]
  rw [show (0 : Int32) = nI 0 from rfl, m_here (ku.tb h) u4 (by omega), Option.bind_some, Nat.add_zero, show nI 0 = 0 from rfl]
  unfold TKm
  by_cases e1 : tkQ T L p < L
  · have hb := h.lt e1
    have eE : tkE T L p = if isL (T (tkQ T L p)) = true then scn (fun i => isL (T i)) (L - tkQ T L p) (tkQ T L p) else if isD (T (tkQ T L p)) = true then scn (fun i => isD (T i)) (L - tkQ T L p) (tkQ T L p) else tkQ T L p + 1 := by unfold tkE; rw [if_neg (by omega)]
    have eK : tkK T L p = if isL (T (tkQ T L p)) = true then (if tkE T L p - tkQ T L p ≤ 8 then 1 else 4) else if isD (T (tkQ T L p)) = true then (if tkE T L p - tkQ T L p ≤ 3 then 2 else 4) else if isG (T (tkQ T L p)) = true then 3 else 4 := by unfold tkK; rw [if_neg (by omega)]
    rw [if_pos e1, if_pos (nI_pos' (by omega)), m_isLetter hb, Option.bind_some]
    by_cases e2 : isL (T (tkQ T L p)) = true
    · rw [if_pos e2, if_neg one0]
      rw [if_pos e2] at eE eK
      obtain ⟨m1, a1, b1, c1, d1, f1, g1⟩ := m_word76 h eE hq.2 ku u4 u5 u12
      refine ⟨m1, a1, b1, d1, c1, ?_, fun hk => ?_, fun hk => ?_, fun hk => ?_⟩
      · rw [f1, eK]; by_cases e3 : tkE T L p - tkQ T L p ≤ 8
        · rw [if_pos e3, if_pos e3]; rfl
        · rw [if_neg e3, if_neg e3]; rfl
      · refine g1 ?_
        rw [eK] at hk
        by_cases e4 : tkE T L p - tkQ T L p ≤ 8
        · exact e4
        · rw [if_neg e4] at hk; omega
      · exfalso; rw [eK] at hk; split at hk <;> omega
      · exfalso; rw [eK] at hk; split at hk <;> omega
    · rw [if_neg e2, if_pos rfl, m_isDigit hb, Option.bind_some]
      rw [if_neg e2] at eE eK
      by_cases e3 : isD (T (tkQ T L p)) = true
      · rw [if_pos e3, if_neg one0]
        rw [if_pos e3] at eE eK
        obtain ⟨m1, a1, b1, c1, d1, f1, g1⟩ := m_num146 h eE hq.2 ku u4 u5 u7
        refine ⟨m1, a1, b1, d1, c1, ?_, fun hk => ?_, fun hk => ?_, fun hk => ?_⟩
        · rw [f1, eK]; by_cases e4 : tkE T L p - tkQ T L p ≤ 3
          · rw [if_pos e4, if_pos e4]; rfl
          · rw [if_neg e4, if_neg e4]; rfl
        · exfalso; rw [eK] at hk; split at hk <;> omega
        · refine g1 ?_
          rw [eK] at hk
          by_cases e4 : tkE T L p - tkQ T L p ≤ 3
          · exact e4
          · rw [if_neg e4] at hk; omega
        · exfalso; rw [eK] at hk; split at hk <;> omega
      · rw [if_neg e3, if_pos rfl]
        rw [if_neg e3] at eE eK
        have sg : ∀ k : Nat, isG (T (tkQ T L p)) = decide (k = 3) → (k = 3 ∨ k = 4) → ∃ m', fX12_goOn_229 362 (nI (T (tkQ T L p))) 362 (nI k) u = some m' ∧ KM m0 m' ∧ ldI m' 362 5 = nI (tkQ T L p) ∧ ldI m' 362 4 = nI (tkE T L p) ∧ ldI m' 362 6 = nI (tkK T L p) ∧ (tkK T L p = 1 → ldJ m' 362 12 = lN (p5 (wf T (tkQ T L p) (tkE T L p)) (tkE T L p - tkQ T L p))) ∧ (tkK T L p = 2 → ldI m' 362 7 = nI (numV T (tkQ T L p) (tkE T L p - tkQ T L p))) ∧ (tkK T L p = 3 → ldI m' 362 7 = nI (T (tkQ T L p))) := by
          intro k hk hk2
          have ek : tkK T L p = k := by
            rw [eK, hk]
            rcases hk2 with rfl | rfl <;> rfl
          rw [ek]
          unfold fX12_goOn_229
          rw [nm_b, nm_b, nm_b]
          refine ⟨_, rfl, ((ku.s (by decide)).s (by decide)).s (by decide), ?_, ?_, ?_, fun h => by omega, fun h => by omega, fun _ => ?_⟩
          · rw [ldI_stI, if_neg (by decide), ldI_stI, if_neg (by decide), ldI_stI, if_neg (by decide)]; exact u5
          · rw [ldI_stI_s, ldI_stI, if_neg (by decide), ldI_stI, if_neg (by decide), u4, nI_1, eE]
          · rw [ldI_stI, if_neg (by decide), ldI_stI, if_neg (by decide), ldI_stI_s]
          · rw [ldI_stI, if_neg (by decide), ldI_stI_s]
        have n59 : nI (T (tkQ T L p)) = 59 ↔ T (tkQ T L p) = 59 := nI_eq (b := 59) (by omega) (by decide)
        have n40 : nI (T (tkQ T L p)) = 40 ↔ T (tkQ T L p) = 40 := nI_eq (b := 40) (by omega) (by decide)
        have n41 : nI (T (tkQ T L p)) = 41 ↔ T (tkQ T L p) = 41 := nI_eq (b := 41) (by omega) (by decide)
        rw [ifc n59, ifc n40, ifc n41]
        unfold fX12_goOn_224
        by_cases g1 : T (tkQ T L p) = 59
        · rw [if_pos g1]; exact sg 3 (by unfold isG; rw [decide_eq_true g1]; rfl) (Or.inl rfl)
        · rw [if_neg g1]
          by_cases g2 : T (tkQ T L p) = 40
          · rw [if_pos g2]; exact sg 3 (by unfold isG; rw [decide_eq_false g1, decide_eq_true g2]; rfl) (Or.inl rfl)
          · rw [if_neg g2]
            by_cases g3 : T (tkQ T L p) = 41
            · rw [if_pos g3]; exact sg 3 (by unfold isG; rw [decide_eq_false g1, decide_eq_false g2, decide_eq_true g3]; rfl) (Or.inl rfl)
            · rw [if_neg g3]; exact sg 4 (by unfold isG; rw [decide_eq_false g1, decide_eq_false g2, decide_eq_false g3]; rfl) (Or.inr rfl)
  · have eK : tkK T L p = 0 := by unfold tkK; rw [if_pos (by omega)]
    have eE : tkE T L p = L := by unfold tkE; rw [if_pos (by omega)]
    have eQ : tkQ T L p = L := by omega
    rw [if_neg e1, if_neg (show ¬ (0 : Int32) ≤ -1 by decide), nm_b, eK, eE]
    refine ⟨_, rfl, ku.s (by decide), ?_, ?_, ?_, fun h => by omega, fun h => by omega, fun h => by omega⟩
    · rw [ldI_stI, if_neg (by decide)]; exact u5
    · rw [ldI_stI, if_neg (by decide), u4, eQ]
    · rw [ldI_stI_s]; rfl
theorem m_goOn (h : TBm m0 T L) {p : Nat} (hp : p ≤ L) (hm : KM m0 m) (h4 : ldI m 362 4 = nI p) : ∃ m', fX12_goOn 362 m = some m' ∧ KM m0 m' ∧ TKm m' T L p := by
  have hL := h.1
  have hg := @scn_ge (fun i => isS (T i)) (L - p) p
  have hq := tkQ_ge (T := T) hp
  unfold fX12_goOn fX12_goOn_0
  refine zl1_m (P := fun k m => ∃ j, p ≤ j ∧ j ≤ tkQ T L p ∧ k = tkQ T L p - j ∧ KM m0 m ∧ ldI m 362 4 = nI j) (Qr := fun r => ∃ m', r = some m' ∧ KM m0 m' ∧ TKm m' T L p) (fun k m self hP => ?_) FU (tkQ T L p - p) m (FU_gt (by omega)) ⟨p, Nat.le_refl _, hq.1, rfl, hm, h4⟩
  obtain ⟨j, j1, j2, j3, j4, j5⟩ := hP
  have ht := j4.tb h
  have fin : j = tkQ T L p → _ := fun e => m_tok h hp j4 (by rw [j5, e])
  unfold gX12_goOn_0
  rw [show fX12_here 362 0 m = some (if j < L then nI (T j) else -1) from m_here ht j5 (k := 0) (by omega), Option.bind_some]
  by_cases e1 : j < L
  · have hb := h.lt e1
    rw [if_pos e1]
    have n32 : nI (T j) = 32 ↔ T j = 32 := nI_eq (b := 32) (by omega) (by decide)
    have n10 : nI (T j) = 10 ↔ T j = 10 := nI_eq (b := 10) (by omega) (by decide)
    rw [ifc n32]
    by_cases e2 : isS (T j) = true
    · have e3 : j < tkQ T L p := by
        by_cases q1 : j < tkQ T L p
        · exact q1
        · exfalso
          have q2 : j = tkQ T L p := by omega
          have := @scn_out (fun i => isS (T i)) (L - p) p (by unfold tkQ at q2; omega)
          rw [show scn (fun i => isS (T i)) (L - p) p = j from q2.symm] at this
          exact this e2
      have go : ∃ k' x', k' < k ∧ (∃ j, p ≤ j ∧ j ≤ tkQ T L p ∧ k' = tkQ T L p - j ∧ KM m0 x' ∧ ldI x' 362 4 = nI j) ∧ self (stI m 362 4 (ldI m 362 4 + 1)) = self x' := ⟨tkQ T L p - (j + 1), _, by omega, ⟨j + 1, by omega, by omega, rfl, j4.s (by decide), by rw [ldI_stI_s, j5, nI_1]⟩, rfl⟩
      by_cases g1 : T j = 32
      · rw [if_pos g1, nm_b]; exact Or.inl go
      · rw [if_neg g1, Option.bind_some, ifc n10]
        by_cases g2 : T j = 10
        · rw [if_pos g2, nm_b]; exact Or.inl go
        · unfold isS at e2; rw [decide_eq_false g1, decide_eq_false g2] at e2; exact absurd e2 (by decide)
    · have e3 : j = tkQ T L p := by
        by_cases q1 : j < tkQ T L p
        · exfalso; exact e2 (scn_in (c := fun i => isS (T i)) j1 q1)
        · omega
      have g1 : ¬ T j = 32 := fun e => e2 (by unfold isS; rw [decide_eq_true e]; rfl)
      have g2 : ¬ T j = 10 := fun e => e2 (by unfold isS; rw [decide_eq_true e, Bool.or_true])
      rw [if_neg g1, Option.bind_some, ifc n10, if_neg g2]
      exact Or.inr (fin e3)
  · rw [if_neg e1, if_neg (show ¬ (-1 : Int32) = 32 by decide), Option.bind_some, if_neg (show ¬ (-1 : Int32) = 10 by decide)]
    exact Or.inr (fin (by omega))
end TOKM
