/-! tokens: the class's step -/
/-- the token that follows p -/
def TKc (m : Mem) (T : Nat → Nat) (L p : Nat) : Prop := ldI m 1 5 = nI (tkQ T L p) ∧ ldI m 1 6 = nI (tkE T L p) ∧ ldI m 1 7 = nI (tkK T L p) ∧ (tkK T L p = 1 → ldJ m 1 8 = lN (p8 (wf T (tkQ T L p) (tkE T L p)) 8)) ∧ (tkK T L p = 2 → ldI m 1 9 = nI (numV T (tkQ T L p) (tkE T L p - tkQ T L p))) ∧ (tkK T L p = 3 → ldI m 1 10 = nI (T (tkQ T L p)))
theorem numV_lt {T : Nat → Nat} {q : Nat} : ∀ {j : Nat}, (∀ i, i < j → isD (T (q + i)) = true) → numV T q j < 10 ^ j := by
  intro j
  induction j with
  | zero => intro _; show 0 < 10 ^ 0; decide
  | succ j ih =>
    intro h
    have h1 := ih (fun i hi => h i (by omega))
    have h2 := h j (by omega)
    unfold isD at h2
    rw [Bool.and_eq_true, decide_eq_true_eq, decide_eq_true_eq] at h2
    rw [numV, Nat.pow_succ]
    omega
theorem ifc {α : Type} {p q : Prop} [Decidable p] [Decidable q] {a b : α} (h : p ↔ q) : (if p then a else b) = if q then a else b := by
  by_cases hp : p
  · rw [if_pos hp, if_pos (h.mp hp)]
  · rw [if_neg hp, if_neg (fun hq => hp (h.mpr hq))]
section TOKD
variable {m m0 : Mem} {T : Nat → Nat} {L : Nat}
theorem c_word79 (h : TBc m0 T L) {q e : Nat} (he : e ≤ L) (hm : KC m0 m) (h6 : ldI m 1 6 = nI e) (h5 : ldI m 1 5 = nI q) (hq : q ≤ 600) {k : Int32} (h7 : ldI m 1 7 = k) (h8 : ldJ m 1 8 = 0) : ∃ m', fX9_readWord_79 1 (nI q) m = some m' ∧ KC m0 m' ∧ ldI m' 1 6 = nI e ∧ ldI m' 1 5 = nI q ∧ ldI m' 1 7 = k ∧ ldJ m' 1 8 = lN (p8 (wf T q e) 8) := by
  have hL := h.1
  have hw : ∀ i, wf T q e i < 2 ^ 8 := fun i => by
    unfold wf
    by_cases q1 : q + i < e
    · rw [if_pos q1]; exact h.lt (by omega)
    · rw [if_neg q1]; decide
  unfold fX9_readWord_79
  refine zl2_m (P := fun n v m => ∃ j, j ≤ 8 ∧ n = 8 - j ∧ v = nI (q + j) ∧ KC m0 m ∧ ldI m 1 6 = nI e ∧ ldI m 1 5 = nI q ∧ ldI m 1 7 = k ∧ ldJ m 1 8 = lN (p8 (wf T q e) j)) (Qr := fun r => ∃ m', r = some m' ∧ KC m0 m' ∧ ldI m' 1 6 = nI e ∧ ldI m' 1 5 = nI q ∧ ldI m' 1 7 = k ∧ ldJ m' 1 8 = lN (p8 (wf T q e) 8)) (fun n v m self hP => ?_) FU 8 (nI q) m (FU_gt (by decide)) ⟨0, by decide, rfl, rfl, hm, h6, h5, h7, h8⟩
  obtain ⟨j, j1, j2, j3, j4, j5, j6, j7, j8⟩ := hP
  subst j3
  have ht := j4.tb h
  have e8 : ldI m 1 5 + 8 = nI (q + 8) := by rw [j6]; exact nI_add q 8
  simp only [gX9_readWord_79, e8, j5, j8, nm_b, nI_1]
  by_cases hj : j < 8
  · rw [if_neg (nI_ge (by omega) (by omega))]
    have hb := p8_lt hw (j + 1)
    have hb2 : p8 (wf T q e) j * 2 ^ 8 + wf T q e j < 2 ^ 64 := by
      have : p8 (wf T q e) (j + 1) = p8 (wf T q e) j * 2 ^ 8 + wf T q e j := rfl
      have h3 : 2 ^ (8 * (j + 1)) ≤ 2 ^ 64 := Nat.pow_le_pow_right (by decide) (by omega)
      omega
    have hwj := hw j
    by_cases e1 : q + j < e
    · rw [if_neg (nI_ge e1 (by omega)), c_byteAt ht (by omega), Option.bind_some, if_pos (show q + j < L by omega)]
      have ew : wf T q e j = T (q + j) := by unfold wf; rw [if_pos e1]
      refine Or.inl ⟨8 - (j + 1), _, _, by omega, ⟨j + 1, by omega, rfl, rfl, j4.j, j5, j6, j7, ?_⟩, rfl⟩
      rw [ldJ_stJ, if_pos ⟨rfl, rfl⟩, ← ew, lk_put' (K := 8) (k := 8) rfl (by decide) hwj hb2 (by omega)]
      rfl
    · rw [if_pos (nI_le (by omega) (by omega))]
      have ew : wf T q e j = 0 := by unfold wf; rw [if_neg e1]
      refine Or.inl ⟨8 - (j + 1), _, _, by omega, ⟨j + 1, by omega, rfl, rfl, j4.j, j5, j6, j7, ?_⟩, rfl⟩
      rw [ldJ_stJ, if_pos ⟨rfl, rfl⟩, show (0 : Int32) = nI (wf T q e j) by rw [ew]; rfl, lk_put' (K := 8) (k := 8) rfl (by decide) hwj hb2 (by omega)]
      rfl
  · have : j = 8 := by omega
    subst this
    rw [if_pos (nI_le (Nat.le_refl _) (by omega))]
    exact Or.inr ⟨m, rfl, j4, j5, j6, j7, j8⟩
theorem c_readWord (h : TBc m0 T L) {q : Nat} (hq : q ≤ L) (hm : KC m0 m) (h5 : ldI m 1 5 = nI q) : ∃ m', fX9_readWord 1 m = some m' ∧ KC m0 m' ∧ ldI m' 1 6 = nI (scn (fun i => isL (T i)) (L - q) q) ∧ ldI m' 1 5 = nI q ∧ ldI m' 1 7 = (if scn (fun i => isL (T i)) (L - q) q - q ≤ 8 then 1 else 4) ∧ ldJ m' 1 8 = lN (p8 (wf T q (scn (fun i => isL (T i)) (L - q) q)) 8) := by
  have hL := h.1
  unfold fX9_readWord
  rw [nm_b, h5]
  obtain ⟨m1, a1, b1, c1, d1⟩ := c_wordEnd (m := stI m 1 6 (nI q)) h hq (hm.s (by decide)) ldI_stI_s (by rw [ldI_stI, if_neg (by decide)]; exact h5)
  rw [a1]
  have hg := @scn_ge (fun i => isL (T i)) (L - q) q
  obtain ⟨e, he⟩ : ∃ e, e = scn (fun i => isL (T i)) (L - q) q := ⟨_, rfl⟩
  rw [← he] at c1 hg ⊢
  unfold fX9_readWord_46 fX9_readWord_66
  rw [c1, d1, pk_sub (by omega)]
  have fin : ∀ k : Int32, ∃ m', fX9_readWord_79 1 (ldI (stJ (stI m1 1 7 k) 1 8 0) 1 5) (stJ (stI m1 1 7 k) 1 8 0) = some m' ∧ KC m0 m' ∧ ldI m' 1 6 = nI e ∧ ldI m' 1 5 = nI q ∧ ldI m' 1 7 = k ∧ ldJ m' 1 8 = lN (p8 (wf T q e) 8) := by
    intro k
    have g5 : ldI (stJ (stI m1 1 7 k) 1 8 0) 1 5 = nI q := by rw [ldI_stJ, ldI_stI, if_neg (by decide)]; exact d1
    rw [g5]
    exact c_word79 h (by omega) (b1.s (by decide)).j (by rw [ldI_stJ, ldI_stI, if_neg (by decide)]; exact c1) g5 (by omega) (by rw [ldI_stJ, ldI_stI_s]) (by rw [ldJ_stJ, if_pos ⟨rfl, rfl⟩])
  by_cases e8 : e - q ≤ 8
  · rw [if_neg (show ¬ (8 : Int32) < nI (e - q) from nI_nlt (a := 8) (by omega) (by decide)), if_pos e8]
    exact fin 1
  · rw [if_pos (show (8 : Int32) < nI (e - q) from nI_lt (a := 8) (by omega) (by omega)), if_neg e8]
    exact fin 4
theorem c_num78 (h : TBc m0 T L) {q e : Nat} (he : e ≤ L) (hqe : q ≤ e) (hd : ∀ i, q ≤ i → i < e → isD (T i) = true) (hm : KC m0 m) (h6 : ldI m 1 6 = nI e) (h5 : ldI m 1 5 = nI q) {k : Int32} (h7 : ldI m 1 7 = k) (h9 : ldI m 1 9 = 0) : ∃ m', fX9_readNumber_78 1 (nI q) m = some m' ∧ KC m0 m' ∧ ldI m' 1 6 = nI e ∧ ldI m' 1 5 = nI q ∧ ldI m' 1 7 = k ∧ (e - q ≤ 3 → ldI m' 1 9 = nI (numV T q (e - q))) := by
  have hL := h.1
  unfold fX9_readNumber_78
  refine zl2_m (P := fun n v m => ∃ j, j ≤ 3 ∧ q + j ≤ e ∧ n = 3 - j ∧ v = nI (q + j) ∧ KC m0 m ∧ ldI m 1 6 = nI e ∧ ldI m 1 5 = nI q ∧ ldI m 1 7 = k ∧ ldI m 1 9 = nI (numV T q j)) (Qr := fun r => ∃ m', r = some m' ∧ KC m0 m' ∧ ldI m' 1 6 = nI e ∧ ldI m' 1 5 = nI q ∧ ldI m' 1 7 = k ∧ (e - q ≤ 3 → ldI m' 1 9 = nI (numV T q (e - q)))) (fun n v m self hP => ?_) FU 3 (nI q) m (FU_gt (by decide)) ⟨0, by decide, hqe, rfl, rfl, hm, h6, h5, h7, h9⟩
  obtain ⟨j, j1, j0, j2, j3, j4, j5, j6, j7, j8⟩ := hP
  subst j3
  have ht := j4.tb h
  have e8 : ldI m 1 5 + 3 = nI (q + 3) := by rw [j6]; exact nI_add q 3
  simp only [gX9_readNumber_78, e8, j5, j8, nm_b, nI_1]
  by_cases e1 : q + j < e
  · rw [if_neg (nI_ge e1 (by omega))]
    by_cases hj : j < 3
    · rw [if_neg (nI_ge (by omega) (by omega)), c_byteAt ht (by omega), Option.bind_some, if_pos (show q + j < L by omega)]
      have hdj := hd (q + j) (by omega) e1
      unfold isD at hdj
      rw [Bool.and_eq_true, decide_eq_true_eq, decide_eq_true_eq] at hdj
      refine Or.inl ⟨3 - (j + 1), _, _, by omega, ⟨j + 1, by omega, by omega, rfl, rfl, j4.s (by decide), by rw [ldI_stI, if_neg (by decide)]; exact j5, by rw [ldI_stI, if_neg (by decide)]; exact j6, by rw [ldI_stI, if_neg (by decide)]; exact j7, ?_⟩, rfl⟩
      rw [ldI_stI_s, show (10 : Int32) = nI 10 from rfl, show (48 : Int32) = nI 48 from rfl, pk_mul, nI_add, pk_sub (by omega)]
      rfl
    · rw [if_pos (nI_le (by omega) (by omega))]
      exact Or.inr ⟨m, rfl, j4, j5, j6, j7, fun h3 => by omega⟩
  · rw [if_pos (nI_le (by omega) (by omega))]
    have : e - q = j := by omega
    exact Or.inr ⟨m, rfl, j4, j5, j6, j7, fun _ => by rw [this]; exact j8⟩
theorem c_readNumber (h : TBc m0 T L) {q : Nat} (hq : q ≤ L) (hm : KC m0 m) (h5 : ldI m 1 5 = nI q) : ∃ m', fX9_readNumber 1 m = some m' ∧ KC m0 m' ∧ ldI m' 1 6 = nI (scn (fun i => isD (T i)) (L - q) q) ∧ ldI m' 1 5 = nI q ∧ ldI m' 1 7 = (if scn (fun i => isD (T i)) (L - q) q - q ≤ 3 then 2 else 4) ∧ (scn (fun i => isD (T i)) (L - q) q - q ≤ 3 → ldI m' 1 9 = nI (numV T q (scn (fun i => isD (T i)) (L - q) q - q))) := by
  have hL := h.1
  unfold fX9_readNumber
  rw [nm_b, h5]
  obtain ⟨m1, a1, b1, c1, d1⟩ := c_numEnd (m := stI m 1 6 (nI q)) h hq (hm.s (by decide)) ldI_stI_s (by rw [ldI_stI, if_neg (by decide)]; exact h5)
  rw [a1]
  have hg := @scn_ge (fun i => isD (T i)) (L - q) q
  have hin : ∀ i, q ≤ i → i < scn (fun i => isD (T i)) (L - q) q → isD (T i) = true := fun i h1 h2 => scn_in (c := fun i => isD (T i)) h1 h2
  obtain ⟨e, he⟩ : ∃ e, e = scn (fun i => isD (T i)) (L - q) q := ⟨_, rfl⟩
  rw [← he] at c1 hg hin ⊢
  unfold fX9_readNumber_46 fX9_readNumber_65
  rw [c1, d1, pk_sub (by omega)]
  have fin : ∀ k : Int32, ∃ m', fX9_readNumber_78 1 (ldI (stI (stI m1 1 7 k) 1 9 0) 1 5) (stI (stI m1 1 7 k) 1 9 0) = some m' ∧ KC m0 m' ∧ ldI m' 1 6 = nI e ∧ ldI m' 1 5 = nI q ∧ ldI m' 1 7 = k ∧ (e - q ≤ 3 → ldI m' 1 9 = nI (numV T q (e - q))) := by
    intro k
    have g5 : ldI (stI (stI m1 1 7 k) 1 9 0) 1 5 = nI q := by rw [ldI_stI, if_neg (by decide), ldI_stI, if_neg (by decide)]; exact d1
    rw [g5]
    exact c_num78 h (by omega) (by omega) hin ((b1.s (by decide)).s (by decide)) (by rw [ldI_stI, if_neg (by decide), ldI_stI, if_neg (by decide)]; exact c1) g5 (by rw [ldI_stI, if_neg (by decide), ldI_stI_s]) ldI_stI_s
  by_cases e8 : e - q ≤ 3
  · rw [if_neg (show ¬ (3 : Int32) < nI (e - q) from nI_nlt (a := 3) (by omega) (by decide)), if_pos e8]
    obtain ⟨m', f1, f2, f3, f4, f5, f6⟩ := fin 2
    exact ⟨m', f1, f2, f3, f4, f5, f6⟩
  · rw [if_pos (show (3 : Int32) < nI (e - q) from nI_lt (a := 3) (by omega) (by omega)), if_neg e8]
    obtain ⟨m', f1, f2, f3, f4, f5, f6⟩ := fin 4
    exact ⟨m', f1, f2, f3, f4, f5, f6⟩
theorem c_step58 (h : TBc m0 T L) {p : Nat} (hp : p ≤ L) (hm : KC m0 m) (h5 : ldI m 1 5 = nI (tkQ T L p)) : ∃ m', fX9_step_58 1 m = some m' ∧ KC m0 m' ∧ TKc m' T L p := by
  have hL := h.1
  have hq := tkQ_ge (T := T) hp
  have ht := hm.tb h
  unfold fX9_step_58
  rw [h5, c_byteAt ht (by omega), Option.bind_some, nm_b, nI_1]
  obtain ⟨u, hu⟩ : ∃ u, u = stI m 1 6 (nI (tkQ T L p + 1)) := ⟨_, rfl⟩
  rw [← hu]
  have ku : KC m0 u := by rw [hu]; exact hm.s (by decide)
  have u5 : ldI u 1 5 = nI (tkQ T L p) := by rw [hu, ldI_stI, if_neg (by decide)]; exact h5
  have u6 : ldI u 1 6 = nI (tkQ T L p + 1) := by rw [hu, ldI_stI_s]
  rw [u5, (ku.tb h).lim]
  unfold TKc
  by_cases e1 : tkQ T L p < L
  · have hb := h.lt e1
    have eE : tkE T L p = if isL (T (tkQ T L p)) = true then scn (fun i => isL (T i)) (L - tkQ T L p) (tkQ T L p) else if isD (T (tkQ T L p)) = true then scn (fun i => isD (T i)) (L - tkQ T L p) (tkQ T L p) else tkQ T L p + 1 := by unfold tkE; rw [if_neg (by omega)]
    have eK : tkK T L p = if isL (T (tkQ T L p)) = true then (if tkE T L p - tkQ T L p ≤ 8 then 1 else 4) else if isD (T (tkQ T L p)) = true then (if tkE T L p - tkQ T L p ≤ 3 then 2 else 4) else if isG (T (tkQ T L p)) = true then 3 else 4 := by unfold tkK; rw [if_neg (by omega)]
    rw [if_pos (nI_lt e1 (by omega)), if_pos e1, c_isLetter hb, Option.bind_some]
    by_cases e2 : isL (T (tkQ T L p)) = true
    · rw [if_pos e2, if_neg one0]
      rw [if_pos e2] at eE eK
      obtain ⟨m1, a1, b1, c1, d1, f1, g1⟩ := c_readWord h hq.2 ku u5
      rw [← eE] at c1 f1 g1
      rw [a1, Option.bind_some]
      refine ⟨m1, rfl, b1, d1, c1, ?_, fun _ => g1, fun hk => ?_, fun hk => ?_⟩
      · rw [f1, eK]; by_cases e3 : tkE T L p - tkQ T L p ≤ 8
        · rw [if_pos e3, if_pos e3]; rfl
        · rw [if_neg e3, if_neg e3]; rfl
      · exfalso; rw [eK] at hk; split at hk <;> omega
      · exfalso; rw [eK] at hk; split at hk <;> omega
    · rw [if_neg e2, if_pos rfl, c_isDigit hb, Option.bind_some]
      rw [if_neg e2] at eE eK
      by_cases e3 : isD (T (tkQ T L p)) = true
      · rw [if_pos e3, if_neg one0]
        rw [if_pos e3] at eE eK
        obtain ⟨m1, a1, b1, c1, d1, f1, g1⟩ := c_readNumber h hq.2 ku u5
        rw [← eE] at c1 f1 g1
        rw [a1, Option.bind_some]
        refine ⟨m1, rfl, b1, d1, c1, ?_, fun hk => ?_, fun hk => ?_, fun hk => ?_⟩
        · rw [f1, eK]; by_cases e4 : tkE T L p - tkQ T L p ≤ 3
          · rw [if_pos e4, if_pos e4]; rfl
          · rw [if_neg e4, if_neg e4]; rfl
        · exfalso; rw [eK] at hk; split at hk <;> omega
        · refine g1 ?_
          rw [eK] at hk
          by_cases e4 : tkE T L p - tkQ T L p ≤ 3
          · exact e4
          · rw [if_neg e4] at hk; omega
        · exfalso; rw [eK] at hk; split at hk <;> omega
      · rw [if_neg e3, if_pos rfl]
        rw [if_neg e3] at eE eK
        have sg : ∀ k : Nat, isG (T (tkQ T L p)) = decide (k = 3) → (k = 3 ∨ k = 4) → ∃ m', some (stI (stI u 1 7 (nI k)) 1 10 (nI (T (tkQ T L p)))) = some m' ∧ KC m0 m' ∧ ldI m' 1 5 = nI (tkQ T L p) ∧ ldI m' 1 6 = nI (tkE T L p) ∧ ldI m' 1 7 = nI (tkK T L p) ∧ (tkK T L p = 1 → ldJ m' 1 8 = lN (p8 (wf T (tkQ T L p) (tkE T L p)) 8)) ∧ (tkK T L p = 2 → ldI m' 1 9 = nI (numV T (tkQ T L p) (tkE T L p - tkQ T L p))) ∧ (tkK T L p = 3 → ldI m' 1 10 = nI (T (tkQ T L p))) := by
          intro k hk hk2
          have ek : tkK T L p = k := by
            rw [eK, hk]
            rcases hk2 with rfl | rfl <;> rfl
          rw [ek]
          refine ⟨_, rfl, (ku.s (by decide)).s (by decide), ?_, ?_, ?_, fun h => by omega, fun h => by omega, fun _ => ldI_stI_s⟩
          · rw [ldI_stI, if_neg (by decide), ldI_stI, if_neg (by decide)]; exact u5
          · rw [ldI_stI, if_neg (by decide), ldI_stI, if_neg (by decide), eE]; exact u6
          · rw [ldI_stI, if_neg (by decide), ldI_stI_s]
        have n59 : nI (T (tkQ T L p)) = 59 ↔ T (tkQ T L p) = 59 := nI_eq (b := 59) (by omega) (by decide)
        have n40 : nI (T (tkQ T L p)) = 40 ↔ T (tkQ T L p) = 40 := nI_eq (b := 40) (by omega) (by decide)
        have n41 : nI (T (tkQ T L p)) = 41 ↔ T (tkQ T L p) = 41 := nI_eq (b := 41) (by omega) (by decide)
        rw [ifc n59, ifc n40, ifc n41]
        by_cases g1 : T (tkQ T L p) = 59
        · rw [if_pos g1, nm_b, nm_b]; exact sg 3 (by unfold isG; rw [decide_eq_true g1]; rfl) (Or.inl rfl)
        · rw [if_neg g1]
          by_cases g2 : T (tkQ T L p) = 40
          · rw [if_pos g2, nm_b, nm_b]; exact sg 3 (by unfold isG; rw [decide_eq_false g1, decide_eq_true g2]; rfl) (Or.inl rfl)
          · rw [if_neg g2]
            by_cases g3 : T (tkQ T L p) = 41
            · rw [if_pos g3, nm_b, nm_b]; exact sg 3 (by unfold isG; rw [decide_eq_false g1, decide_eq_false g2, decide_eq_true g3]; rfl) (Or.inl rfl)
            · rw [if_neg g3, nm_b, nm_b]; exact sg 4 (by unfold isG; rw [decide_eq_false g1, decide_eq_false g2, decide_eq_false g3]; rfl) (Or.inr rfl)
  · have eK : tkK T L p = 0 := by unfold tkK; rw [if_pos (by omega)]
    have eE : tkE T L p = L := by unfold tkE; rw [if_pos (by omega)]
    rw [if_neg (nI_nlt (by omega) (by omega)), nm_b, nm_b, eK, eE]
    refine ⟨_, rfl, (ku.s (by decide)).s (by decide), ?_, ?_, ?_, fun h => by omega, fun h => by omega, fun h => by omega⟩
    · rw [ldI_stI, if_neg (by decide), ldI_stI, if_neg (by decide)]; exact u5
    · rw [ldI_stI_s, ldI_stI, if_neg (by decide)]; exact (ku.tb h).lim
    · rw [ldI_stI, if_neg (by decide), ldI_stI_s]; rfl
theorem c_step (h : TBc m0 T L) {p : Nat} (hp : p ≤ L) (hm : KC m0 m) (h6 : ldI m 1 6 = nI p) : ∃ m', fX9_step 1 m = some m' ∧ KC m0 m' ∧ TKc m' T L p := by
  have hL := h.1
  have hg := @scn_ge (fun i => isS (T i)) (L - p) p
  have hq := tkQ_ge (T := T) hp
  unfold fX9_step fX9_step_8
  rw [nm_b, h6]
  refine zl1_m (P := fun k m => ∃ j, p ≤ j ∧ j ≤ tkQ T L p ∧ k = tkQ T L p - j ∧ KC m0 m ∧ ldI m 1 5 = nI j) (Qr := fun r => ∃ m', r = some m' ∧ KC m0 m' ∧ TKc m' T L p) (fun k m self hP => ?_) FU (tkQ T L p - p) _ (FU_gt (by omega)) ⟨p, Nat.le_refl _, hq.1, rfl, hm.s (by decide), ldI_stI_s⟩
  obtain ⟨j, j1, j2, j3, j4, j5⟩ := hP
  have ht := j4.tb h
  have fin : j = tkQ T L p → ∃ m', fX9_step_58 1 m = some m' ∧ KC m0 m' ∧ TKc m' T L p := fun e => c_step58 h hp j4 (by rw [j5, e])
  simp only [gX9_step_8, ht.lim, j5, nm_b, nI_1]
  by_cases e1 : j < L
  · have hb := h.lt e1
    rw [if_neg (nI_ge e1 (by omega)), c_byteAt ht (by omega), Option.bind_some, Option.bind_some, if_pos e1]
    have n32 : nI (T j) = 32 ↔ T j = 32 := nI_eq (b := 32) (by omega) (by decide)
    have n10 : nI (T j) = 10 ↔ T j = 10 := nI_eq (b := 10) (by omega) (by decide)
    rw [ifc n32, ifc n10]
    by_cases e2 : isS (T j) = true
    · have e3 : j < tkQ T L p := by
        by_cases q1 : j < tkQ T L p
        · exact q1
        · exfalso
          have q2 : j = tkQ T L p := by omega
          have := @scn_out (fun i => isS (T i)) (L - p) p (by unfold tkQ at q2; omega)
          rw [show scn (fun i => isS (T i)) (L - p) p = j from q2.symm] at this
          exact this e2
      have go : ∃ k' x', k' < k ∧ (∃ j, p ≤ j ∧ j ≤ tkQ T L p ∧ k' = tkQ T L p - j ∧ KC m0 x' ∧ ldI x' 1 5 = nI j) ∧ self (stI m 1 5 (nI (j + 1))) = self x' := ⟨tkQ T L p - (j + 1), _, by omega, ⟨j + 1, by omega, by omega, rfl, j4.s (by decide), ldI_stI_s⟩, rfl⟩
      by_cases g1 : T j = 32
      · rw [if_pos g1]; exact Or.inl go
      · rw [if_neg g1]
        by_cases g2 : T j = 10
        · rw [if_pos g2]; exact Or.inl go
        · unfold isS at e2; rw [decide_eq_false g1, decide_eq_false g2] at e2; exact absurd e2 (by decide)
    · have e3 : j = tkQ T L p := by
        by_cases q1 : j < tkQ T L p
        · exfalso; exact e2 (scn_in (c := fun i => isS (T i)) j1 q1)
        · omega
      have g1 : ¬ T j = 32 := fun e => e2 (by unfold isS; rw [decide_eq_true e]; rfl)
      have g2 : ¬ T j = 10 := fun e => e2 (by unfold isS; rw [decide_eq_true e, Bool.or_true])
      rw [if_neg g1, if_neg g2]
      exact Or.inr (fin e3)
  · rw [if_pos (nI_le (by omega) (by omega))]
    exact Or.inr (fin (by omega))
end TOKD
