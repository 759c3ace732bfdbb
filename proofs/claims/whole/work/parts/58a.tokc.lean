/-! tokens: what they are, and the class's -/
def isL (b : Nat) : Bool := decide (97 ≤ b) && decide (b ≤ 122)
def isD (b : Nat) : Bool := decide (48 ≤ b) && decide (b ≤ 57)
def isS (b : Nat) : Bool := decide (b = 32) || decide (b = 10)
def scn (c : Nat → Bool) : Nat → Nat → Nat
  | 0, p => p
  | k + 1, p => if c p = true then scn c k (p + 1) else p
theorem scn_ge {c : Nat → Bool} : ∀ {k p : Nat}, p ≤ scn c k p ∧ scn c k p ≤ p + k := by
  intro k
  induction k with
  | zero => intro p; exact ⟨Nat.le_refl _, Nat.le_refl _⟩
  | succ k ih =>
    intro p
    unfold scn
    by_cases e : c p = true
    · rw [if_pos e]; have := @ih (p + 1); omega
    · rw [if_neg e]; omega
theorem scn_in {c : Nat → Bool} : ∀ {k p i : Nat}, p ≤ i → i < scn c k p → c i = true := by
  intro k
  induction k with
  | zero => intro p i h1 h2; have : i < p := h2; omega
  | succ k ih =>
    intro p i h1 h2
    unfold scn at h2
    by_cases e : c p = true
    · rw [if_pos e] at h2
      by_cases e2 : i = p
      · subst e2; exact e
      · exact ih (by omega) h2
    · rw [if_neg e] at h2; omega
theorem scn_out {c : Nat → Bool} : ∀ {k p : Nat}, scn c k p < p + k → ¬ c (scn c k p) = true := by
  intro k
  induction k with
  | zero => intro p h; exact absurd h (by show ¬ p < p + 0; omega)
  | succ k ih =>
    intro p h
    unfold scn at h ⊢
    by_cases e : c p = true
    · rw [if_pos e] at h ⊢; exact ih (by omega)
    · rw [if_neg e]; exact e
section TOK
variable (T : Nat → Nat) (L p : Nat)
def tkQ : Nat := scn (fun i => isS (T i)) (L - p) p
def tkE : Nat := if L ≤ tkQ T L p then L else if isL (T (tkQ T L p)) = true then scn (fun i => isL (T i)) (L - tkQ T L p) (tkQ T L p) else if isD (T (tkQ T L p)) = true then scn (fun i => isD (T i)) (L - tkQ T L p) (tkQ T L p) else tkQ T L p + 1
def isG (b : Nat) : Bool := decide (b = 59) || (decide (b = 40) || decide (b = 41))
def tkK : Nat := if L ≤ tkQ T L p then 0 else if isL (T (tkQ T L p)) = true then (if tkE T L p - tkQ T L p ≤ 8 then 1 else 4) else if isD (T (tkQ T L p)) = true then (if tkE T L p - tkQ T L p ≤ 3 then 2 else 4) else if isG (T (tkQ T L p)) = true then 3 else 4
end TOK
def wf (T : Nat → Nat) (q e i : Nat) : Nat := if q + i < e then T (q + i) else 0
def numV (T : Nat → Nat) (q : Nat) : Nat → Nat
  | 0 => 0
  | j + 1 => numV T q j * 10 + T (q + j) - 48
theorem tkQ_ge {T : Nat → Nat} {L p : Nat} (h : p ≤ L) : p ≤ tkQ T L p ∧ tkQ T L p ≤ L := by
  unfold tkQ
  have := @scn_ge (fun i => isS (T i)) (L - p) p
  omega
theorem tkE_gt {T : Nat → Nat} {L p : Nat} (h : p ≤ L) (h0 : tkK T L p ≠ 0) : tkQ T L p < tkE T L p ∧ tkE T L p ≤ L := by
  have hq := tkQ_ge (T := T) h
  have hqL : ¬ L ≤ tkQ T L p := fun e => h0 (by unfold tkK; rw [if_pos e])
  unfold tkE
  rw [if_neg hqL]
  by_cases e : isL (T (tkQ T L p)) = true
  · rw [if_pos e]
    have h1 := @scn_ge (fun i => isL (T i)) (L - tkQ T L p) (tkQ T L p)
    have h2 : scn (fun i => isL (T i)) (L - tkQ T L p) (tkQ T L p) ≠ tkQ T L p := fun e2 => by
      have := @scn_out (fun i => isL (T i)) (L - tkQ T L p) (tkQ T L p) (by omega)
      rw [e2] at this
      exact this e
    omega
  · rw [if_neg e]
    by_cases e2 : isD (T (tkQ T L p)) = true
    · rw [if_pos e2]
      have h1 := @scn_ge (fun i => isD (T i)) (L - tkQ T L p) (tkQ T L p)
      have h2 : scn (fun i => isD (T i)) (L - tkQ T L p) (tkQ T L p) ≠ tkQ T L p := fun e3 => by
        have := @scn_out (fun i => isD (T i)) (L - tkQ T L p) (tkQ T L p) (by omega)
        rw [e3] at this
        exact this e2
      omega
    · rw [if_neg e2]; omega
theorem tkE_le {T : Nat → Nat} {L p : Nat} (h : p ≤ L) : p ≤ tkE T L p ∧ tkE T L p ≤ L := by
  by_cases h0 : tkK T L p = 0
  · have hq := tkQ_ge (T := T) h
    by_cases e : L ≤ tkQ T L p
    · unfold tkE; rw [if_pos e]; omega
    · unfold tkK at h0
      rw [if_neg e] at h0
      split at h0
      · split at h0 <;> omega
      · split at h0
        · split at h0 <;> omega
        · split at h0 <;> omega
  · have := tkE_gt h h0; have := tkQ_ge (T := T) h; omega
/-- the letters of a word token -/
theorem tk_vw {T : Nat → Nat} {L p : Nat} (h : p ≤ L) (h1 : tkK T L p = 1) : vw (wf T (tkQ T L p) (tkE T L p)) (tkE T L p - tkQ T L p) := by
  have hg := tkE_gt (T := T) h (by rw [h1]; decide)
  unfold tkK at h1
  have hqL : ¬ L ≤ tkQ T L p := fun e => by rw [if_pos e] at h1; omega
  rw [if_neg hqL] at h1
  by_cases e : isL (T (tkQ T L p)) = true
  · rw [if_pos e] at h1
    have h8 : tkE T L p - tkQ T L p ≤ 8 := by
      by_cases e8 : tkE T L p - tkQ T L p ≤ 8
      · exact e8
      · rw [if_neg e8] at h1; omega
    refine ⟨by omega, h8, fun i hi => ?_, fun i hi => ?_⟩
    · unfold wf
      rw [if_pos (by omega)]
      have h9 : tkQ T L p + i < scn (fun i => isL (T i)) (L - tkQ T L p) (tkQ T L p) := by
        have : tkE T L p = scn (fun i => isL (T i)) (L - tkQ T L p) (tkQ T L p) := by unfold tkE; rw [if_neg hqL, if_pos e]
        omega
      have h10 := scn_in (show tkQ T L p ≤ tkQ T L p + i by omega) h9
      unfold isL at h10
      rw [Bool.and_eq_true, decide_eq_true_eq, decide_eq_true_eq] at h10
      exact h10
    · unfold wf; rw [if_neg (by omega)]
  · rw [if_neg e] at h1
    split at h1
    · split at h1 <;> omega
    · split at h1 <;> omega
theorem ln2 : Ln 2 = 600 := by decide
/-- the class's text -/
def TBc (m : Mem) (T : Nat → Nat) (L : Nat) : Prop := L ≤ 600 ∧ ldP m 1 0 = some 2 ∧ ldI m 1 4 = nI L ∧ ∀ i, i < L → T i < 256 ∧ ldI m 2 i &&& 255 = nI (T i)
/-- a step leaves all else -/
def KC (m m' : Mem) : Prop := ldP m' = ldP m ∧ (∀ a, a ≠ 1 → ldI m' a = ldI m a) ∧ (∀ a, a ≠ 1 → ldJ m' a = ldJ m a) ∧ ∀ k, k ≠ 5 → k ≠ 6 → k ≠ 7 → k ≠ 9 → k ≠ 10 → ldI m' 1 k = ldI m 1 k
theorem KC.rf {m : Mem} : KC m m := ⟨rfl, fun _ _ => rfl, fun _ _ => rfl, fun _ _ _ _ _ _ => rfl⟩
theorem KC.tr {a b c : Mem} (h1 : KC a b) (h2 : KC b c) : KC a c := ⟨h2.1.trans h1.1, fun x hx => (h2.2.1 x hx).trans (h1.2.1 x hx), fun x hx => (h2.2.2.1 x hx).trans (h1.2.2.1 x hx), fun k p q r s t => (h2.2.2.2 k p q r s t).trans (h1.2.2.2 k p q r s t)⟩
theorem KC.s {m m' : Mem} (h : KC m m') {k : Nat} {v : Int32} (hk : k = 5 ∨ k = 6 ∨ k = 7 ∨ k = 9 ∨ k = 10) : KC m (stI m' 1 k v) := ⟨h.1, fun a ha => (ldI_stI_ne ha).trans (h.2.1 a ha), h.2.2.1, fun j p q r s t => by rw [ldI_stI, if_neg (by omega)]; exact h.2.2.2 j p q r s t⟩
theorem KC.j {m m' : Mem} (h : KC m m') {v : Int64} : KC m (stJ m' 1 8 v) := ⟨h.1, h.2.1, fun a ha => (ldJ_stJ_ne ha).trans (h.2.2.1 a ha), h.2.2.2⟩
theorem KC.tb {m m' : Mem} {T : Nat → Nat} {L : Nat} (h : KC m m') (g : TBc m T L) : TBc m' T L := ⟨g.1, by rw [h.1]; exact g.2.1, by rw [h.2.2.2 4 (by decide) (by decide) (by decide) (by decide) (by decide)]; exact g.2.2.1, fun i hi => by rw [h.2.1 2 (by decide)]; exact g.2.2.2 i hi⟩
section TOKC
variable {m : Mem} {T : Nat → Nat} {L : Nat}
theorem c_byteAt (h : TBc m T L) {i : Nat} (hi : i < 2 ^ 30) : fX9_byteAt 1 (nI i) m = some (nI (if i < L then T i else 0)) := by
  obtain ⟨h1, h2, h3, h4⟩ := h
  unfold fX9_byteAt
  rw [if_neg (nI_pos (by omega)), h3]
  by_cases e : i < L
  · rw [if_neg (nI_ge e (by omega)), h2, Option.bind_some, ln2, if_neg (show ¬ Int32.ofNat 600 ≤ nI i from nI_ge (by omega) (by decide)), Option.bind_some, ln2, gd_t (inB_nI (by omega) (by decide)), nI_clamp (by omega), (h4 i e).2, if_pos e]
  · rw [if_pos (nI_le (by omega) (by omega)), if_neg e]; rfl
theorem c_isLetter {μ : Mem} {b : Nat} (hb : b < 256) : fX9_isLetter (nI b) μ = some (if isL b = true then 1 else 0) := by
  unfold fX9_isLetter isL
  by_cases e1 : b < 97
  · rw [if_pos (show nI b < 97 from nI_lt (b := 97) e1 (by decide)), decide_eq_false (show ¬ 97 ≤ b by omega)]; rfl
  · rw [if_neg (show ¬ nI b < 97 from nI_nlt (a := b) (b := 97) (by omega) (by omega)), decide_eq_true (show 97 ≤ b by omega), Bool.true_and]
    by_cases e2 : 122 < b
    · rw [if_pos (show 122 < nI b from nI_lt (a := 122) e2 (by omega)), decide_eq_false (show ¬ b ≤ 122 by omega)]; rfl
    · rw [if_neg (show ¬ 122 < nI b from nI_nlt (a := 122) (b := b) (by omega) (by decide)), decide_eq_true (show b ≤ 122 by omega)]; rfl
theorem c_isDigit {μ : Mem} {b : Nat} (hb : b < 256) : fX9_isDigit (nI b) μ = some (if isD b = true then 1 else 0) := by
  unfold fX9_isDigit isD
  by_cases e1 : b < 48
  · rw [if_pos (show nI b < 48 from nI_lt (b := 48) e1 (by decide)), decide_eq_false (show ¬ 48 ≤ b by omega)]; rfl
  · rw [if_neg (show ¬ nI b < 48 from nI_nlt (a := b) (b := 48) (by omega) (by omega)), decide_eq_true (show 48 ≤ b by omega), Bool.true_and]
    by_cases e2 : 57 < b
    · rw [if_pos (show 57 < nI b from nI_lt (a := 57) e2 (by omega)), decide_eq_false (show ¬ b ≤ 57 by omega)]; rfl
    · rw [if_neg (show ¬ 57 < nI b from nI_nlt (a := 57) (b := b) (by omega) (by decide)), decide_eq_true (show b ≤ 57 by omega)]; rfl
theorem TBc.lim (h : TBc m T L) : ldI m 1 4 = nI L := h.2.2.1
theorem TBc.lt (h : TBc m T L) {i : Nat} (hi : i < L) : T i < 256 := (h.2.2.2 i hi).1
/-- the letters' end -/
theorem c_wordEnd {m0 : Mem} (h : TBc m0 T L) {q : Nat} (hq : q ≤ L) (hm : KC m0 m) (h6 : ldI m 1 6 = nI q) (h5 : ldI m 1 5 = nI q) : ∃ m', fX9_readWord_8 1 m = fX9_readWord_46 1 m' ∧ KC m0 m' ∧ ldI m' 1 6 = nI (scn (fun i => isL (T i)) (L - q) q) ∧ ldI m' 1 5 = nI q := by
  obtain ⟨e, he⟩ : ∃ e, e = scn (fun i => isL (T i)) (L - q) q := ⟨_, rfl⟩
  have hg := @scn_ge (fun i => isL (T i)) (L - q) q
  rw [← he] at hg ⊢
  have hL := h.1
  unfold fX9_readWord_8
  refine zl1_m (P := fun k m => ∃ j, q ≤ j ∧ j ≤ e ∧ k = e - j ∧ KC m0 m ∧ ldI m 1 6 = nI j ∧ ldI m 1 5 = nI q) (Qr := fun r => ∃ m', r = fX9_readWord_46 1 m' ∧ KC m0 m' ∧ ldI m' 1 6 = nI e ∧ ldI m' 1 5 = nI q) (fun k m self hP => ?_) FU (e - q) m (FU_gt (by omega)) ⟨q, Nat.le_refl _, by omega, rfl, hm, h6, h5⟩
  obtain ⟨j, j1, j2, j3, j4, j5, j6⟩ := hP
  have ht := j4.tb h
  simp only [gX9_readWord_8, ht.lim, j5]
  by_cases e1 : j < L
  · rw [if_neg (nI_ge e1 (by omega)), c_byteAt ht (by omega), Option.bind_some, if_pos e1, c_isLetter (ht.lt e1), Option.bind_some]
    by_cases e2 : isL (T j) = true
    · have e3 : j < e := by
        by_cases q1 : j < e
        · exact q1
        · exfalso
          have q2 : j = e := by omega
          subst q2
          have := @scn_out (fun i => isL (T i)) (L - q) q (by omega)
          rw [← he] at this
          exact this e2
      rw [if_pos e2, if_neg one0, nm_b]
      exact Or.inl ⟨e - (j + 1), _, by omega, ⟨j + 1, by omega, by omega, rfl, j4.s (by decide), by rw [ldI_stI_s, nI_1], by rw [ldI_stI, if_neg (by decide)]; exact j6⟩, rfl⟩
    · have e3 : j = e := by
        by_cases q1 : j < e
        · exfalso
          rw [he] at q1
          exact e2 (scn_in (c := fun i => isL (T i)) j1 q1)
        · omega
      subst e3
      rw [if_neg e2, if_pos rfl]
      exact Or.inr ⟨m, rfl, j4, j5, j6⟩
  · have e3 : j = e := by omega
    subst e3
    rw [if_pos (nI_le (by omega) (by omega))]
    exact Or.inr ⟨m, rfl, j4, j5, j6⟩
theorem c_numEnd {m0 : Mem} (h : TBc m0 T L) {q : Nat} (hq : q ≤ L) (hm : KC m0 m) (h6 : ldI m 1 6 = nI q) (h5 : ldI m 1 5 = nI q) : ∃ m', fX9_readNumber_8 1 m = fX9_readNumber_46 1 m' ∧ KC m0 m' ∧ ldI m' 1 6 = nI (scn (fun i => isD (T i)) (L - q) q) ∧ ldI m' 1 5 = nI q := by
  obtain ⟨e, he⟩ : ∃ e, e = scn (fun i => isD (T i)) (L - q) q := ⟨_, rfl⟩
  have hg := @scn_ge (fun i => isD (T i)) (L - q) q
  rw [← he] at hg ⊢
  have hL := h.1
  unfold fX9_readNumber_8
  refine zl1_m (P := fun k m => ∃ j, q ≤ j ∧ j ≤ e ∧ k = e - j ∧ KC m0 m ∧ ldI m 1 6 = nI j ∧ ldI m 1 5 = nI q) (Qr := fun r => ∃ m', r = fX9_readNumber_46 1 m' ∧ KC m0 m' ∧ ldI m' 1 6 = nI e ∧ ldI m' 1 5 = nI q) (fun k m self hP => ?_) FU (e - q) m (FU_gt (by omega)) ⟨q, Nat.le_refl _, by omega, rfl, hm, h6, h5⟩
  obtain ⟨j, j1, j2, j3, j4, j5, j6⟩ := hP
  have ht := j4.tb h
  simp only [gX9_readNumber_8, ht.lim, j5]
  by_cases e1 : j < L
  · rw [if_neg (nI_ge e1 (by omega)), c_byteAt ht (by omega), Option.bind_some, if_pos e1, c_isDigit (ht.lt e1), Option.bind_some]
    by_cases e2 : isD (T j) = true
    · have e3 : j < e := by
        by_cases q1 : j < e
        · exact q1
        · exfalso
          have q2 : j = e := by omega
          subst q2
          have := @scn_out (fun i => isD (T i)) (L - q) q (by omega)
          rw [← he] at this
          exact this e2
      rw [if_pos e2, if_neg one0, nm_b]
      exact Or.inl ⟨e - (j + 1), _, by omega, ⟨j + 1, by omega, by omega, rfl, j4.s (by decide), by rw [ldI_stI_s, nI_1], by rw [ldI_stI, if_neg (by decide)]; exact j6⟩, rfl⟩
    · have e3 : j = e := by
        by_cases q1 : j < e
        · exfalso
          rw [he] at q1
          exact e2 (scn_in (c := fun i => isD (T i)) j1 q1)
        · omega
      subst e3
      rw [if_neg e2, if_pos rfl]
      exact Or.inr ⟨m, rfl, j4, j5, j6⟩
  · have e3 : j = e := by omega
    subst e3
    rw [if_pos (nI_le (by omega) (by omega))]
    exact Or.inr ⟨m, rfl, j4, j5, j6⟩
end TOKC
