/-! texts: class (memory c) and reference (memory m) side by side; tokens are taken -/
/-- nothing was wrong so far -/
def GD (c m : Mem) : Prop := ldI m 362 8 = 0 ∧ ldI m 362 9 = -1 ∧ ldI c 1 2 = 0 ∧ ldI c 1 3 = -1
/-- the token behind p is the present one in both, and nothing was wrong so far -/
def TR (c m : Mem) (T : Nat → Nat) (L p : Nat) : Prop := TBc c T L ∧ TBm m T L ∧ p ≤ L ∧ TKc c T L p ∧ TKm m T L p ∧ GD c m
/-- both tell the same error -/
def ER (c m : Mem) : Prop := ∃ k q : Nat, 1 ≤ k ∧ k < 10 ∧ ldI c 1 2 = nI k ∧ ldI c 1 3 = nI q ∧ ldI m 362 8 = nI k ∧ ldI m 362 9 = nI q
def KZ (c c' : Mem) : Prop := ldP c' = ldP c ∧ (∀ a, a ≠ 1 → ldI c' a = ldI c a) ∧ (∀ a, a ≠ 1 → ldJ c' a = ldJ c a) ∧ ldI c' 1 1 = ldI c 1 1
def KY (m m' : Mem) : Prop := ldP m' = ldP m ∧ (∀ a, a ≠ 362 → ldI m' a = ldI m a) ∧ (∀ a, a ≠ 362 → ldJ m' a = ldJ m a) ∧ ∀ k, k < 4 ∨ 9 < k → ldI m' 362 k = ldI m 362 k
theorem KZ.rf {c : Mem} : KZ c c := ⟨rfl, fun _ _ => rfl, fun _ _ => rfl, rfl⟩
theorem KY.rf {m : Mem} : KY m m := ⟨rfl, fun _ _ => rfl, fun _ _ => rfl, fun _ _ => rfl⟩
theorem KZ.tr {a b c : Mem} (h1 : KZ a b) (h2 : KZ b c) : KZ a c := ⟨h2.1.trans h1.1, fun x hx => (h2.2.1 x hx).trans (h1.2.1 x hx), fun x hx => (h2.2.2.1 x hx).trans (h1.2.2.1 x hx), h2.2.2.2.trans h1.2.2.2⟩
theorem KY.tr {a b c : Mem} (h1 : KY a b) (h2 : KY b c) : KY a c := ⟨h2.1.trans h1.1, fun x hx => (h2.2.1 x hx).trans (h1.2.1 x hx), fun x hx => (h2.2.2.1 x hx).trans (h1.2.2.1 x hx), fun k p => (h2.2.2.2 k p).trans (h1.2.2.2 k p)⟩
theorem KC.kz {c c' : Mem} (h : KC c c') : KZ c c' := ⟨h.1, h.2.1, h.2.2.1, h.2.2.2 1 (by decide) (by decide) (by decide) (by decide) (by decide)⟩
theorem KM.ky {m m' : Mem} (h : KM m m') : KY m m' := ⟨h.1, h.2.1, h.2.2.1, fun k hk => h.2.2.2 k (by omega) (by omega) (by omega) (by omega)⟩
theorem fa_wide_lt' (a b : Int32) : a.toInt64 < b.toInt64 ↔ a < b := by rw [Int64.lt_iff_toInt_lt, Int32.toInt_toInt64, Int32.toInt_toInt64, Int32.lt_iff_toInt_lt]
section TAKE
variable {c m : Mem} {T : Nat → Nat} {L p : Nat}
theorem TR.bc (h : TR c m T L p) : TBc c T L := h.1
theorem TR.bm (h : TR c m T L p) : TBm m T L := h.2.1
theorem TR.le (h : TR c m T L p) : p ≤ L := h.2.2.1
theorem TR.kc (h : TR c m T L p) : TKc c T L p := h.2.2.2.1
theorem TR.km (h : TR c m T L p) : TKm m T L p := h.2.2.2.2.1
theorem TR.gd (h : TR c m T L p) : ldI m 362 8 = 0 := h.2.2.2.2.2.1
theorem TR.GD (h : TR c m T L p) : GD c m := h.2.2.2.2.2
theorem TR.L600 (h : TR c m T L p) : L ≤ 600 := h.1.1
theorem m_good (h : ldI m 362 8 = 0) : fX12_isGood 362 m = some 1 := by unfold fX12_isGood; rw [if_pos h]
theorem m_bad (h : ¬ ldI m 362 8 = 0) : fX12_isGood 362 m = some 0 := by unfold fX12_isGood; rw [if_neg h]
theorem ER.bad (h : ER c m) : ¬ ldI m 362 8 = 0 := by
  obtain ⟨k, q, h1, h2, h3, h4, h5, h6⟩ := h
  rw [h5]; exact nI_ne0 (by omega) (by omega)
theorem kk4 {T : Nat → Nat} {L p : Nat} : tkK T L p < 5 := by
  unfold tkK
  split
  · decide
  · split
    · split <;> decide
    · split
      · split <;> decide
      · split <;> decide
theorem kkn {T : Nat → Nat} {L p k : Nat} {K : Int32} (hK : K = nI k) (hk : k < 5) (e : ¬ tkK T L p = k) : ¬ nI (tkK T L p) = K := by
  subst hK
  have h4 := kk4 (T := T) (L := L) (p := p)
  exact fun h => e ((nI_eq (by omega) (by omega)).mp h)
/-- the present word is the one of letters ls -/
def wB (T : Nat → Nat) (L p : Nat) (ls : List Nat) : Bool := decide (tkK T L p = 1) && decide (lN (p8 (wf T (tkQ T L p) (tkE T L p)) 8) = lN (p8 (wlt ls) 8))
theorem wB_1 {ls : List Nat} (h : wB T L p ls = true) : tkK T L p = 1 := by
  unfold wB at h
  rw [Bool.and_eq_true, decide_eq_true_eq] at h
  exact h.1
theorem c_isWord (h : TR c m T L p) {k w : Nat} {ls : List Nat} (hk : (k, w, ls) ∈ wTab) : fX9_isWord 1 k c = some (if wB T L p ls = true then 1 else 0) := by
  obtain ⟨h1, h2, h3⟩ := wTab_at hk (μ := c)
  have h4 := kk4 (T := T) (L := L) (p := p)
  unfold fX9_isWord wB
  rw [h.kc.2.2.1]
  by_cases e : tkK T L p = 1
  · rw [if_pos (by rw [e]; rfl), h1, Option.bind_some, decide_eq_true e, Bool.true_and, h.kc.2.2.2.1 e, ifc (lg_cmp_eq _ _)]
    by_cases e2 : lN (p8 (wf T (tkQ T L p) (tkE T L p)) 8) = lN (p8 (wlt ls) 8)
    · rw [if_pos e2, if_pos (decide_eq_true e2)]
    · rw [if_neg e2, if_neg (fun h => e2 (of_decide_eq_true h))]
  · rw [if_neg (kkn (K := 1) (k := 1) rfl (by decide) e), decide_eq_false e, Bool.false_and]; rfl
theorem m_isWord (h : TR c m T L p) {k w : Nat} {ls : List Nat} (hk : (k, w, ls) ∈ wTab) {W : Int64} (hW : W = lN w) : fX12_isWord 362 W m = some (if wB T L p ls = true then 1 else 0) := by
  subst hW
  obtain ⟨h1, h2, h3⟩ := wTab_at hk (μ := c)
  have h4 := kk4 (T := T) (L := L) (p := p)
  unfold fX12_isWord wB
  rw [if_pos h.gd, h.km.2.2.1]
  by_cases e : tkK T L p = 1
  · rw [if_pos (by rw [e]; rfl), decide_eq_true e, Bool.true_and, h.km.2.2.2.1 e, ifc (lg_cmp_eq _ _), h2]
    have hs := vw_same (tk_vw h.le e) h3
    by_cases e2 : lN (p8 (wf T (tkQ T L p) (tkE T L p)) 8) = lN (p8 (wlt ls) 8)
    · rw [if_pos (hs.mp e2), if_pos (decide_eq_true e2)]
    · rw [if_neg (fun h => e2 (hs.mpr h)), if_neg (fun h => e2 (of_decide_eq_true h))]
  · rw [if_neg (kkn (K := 1) (k := 1) rfl (by decide) e), decide_eq_false e, Bool.false_and]; rfl
def sB (T : Nat → Nat) (L p x : Nat) : Bool := decide (tkK T L p = 3) && decide (T (tkQ T L p) = x)
theorem sB_3 {x : Nat} (h : sB T L p x = true) : tkK T L p = 3 := by
  unfold sB at h
  rw [Bool.and_eq_true, decide_eq_true_eq] at h
  exact h.1
theorem TR.q_lt (h : TR c m T L p) (h3 : tkK T L p ≠ 0) : tkQ T L p < L := by
  have := tkE_gt h.le h3; omega
theorem c_isSign (h : TR c m T L p) {x : Nat} (hx : x < 256) : fX9_isSign 1 (nI x) c = some (if sB T L p x = true then 1 else 0) := by
  have h4 := kk4 (T := T) (L := L) (p := p)
  unfold fX9_isSign sB
  rw [h.kc.2.2.1]
  by_cases e : tkK T L p = 3
  · have hb := h.bc.lt (h.q_lt (by omega))
    rw [if_pos (by rw [e]; rfl), decide_eq_true e, Bool.true_and, h.kc.2.2.2.2.2 e, ifc (nI_eq (by omega) (by omega))]
    by_cases e2 : T (tkQ T L p) = x
    · rw [if_pos e2, if_pos (decide_eq_true e2)]
    · rw [if_neg e2, if_neg (fun h => e2 (of_decide_eq_true h))]
  · rw [if_neg (kkn (K := 3) (k := 3) rfl (by decide) e), decide_eq_false e, Bool.false_and]; rfl
theorem m_isSign (h : TR c m T L p) {x : Nat} (hx : x < 256) : fX12_isSign 362 (nI x) m = some (if sB T L p x = true then 1 else 0) := by
  have h4 := kk4 (T := T) (L := L) (p := p)
  unfold fX12_isSign sB
  rw [if_pos h.gd, h.km.2.2.1]
  by_cases e : tkK T L p = 3
  · have hb := h.bc.lt (h.q_lt (by omega))
    rw [if_pos (by rw [e]; rfl), decide_eq_true e, Bool.true_and, h.km.2.2.2.2.2 e, ifc (nI_eq (by omega) (by omega))]
    by_cases e2 : T (tkQ T L p) = x
    · rw [if_pos e2, if_pos (decide_eq_true e2)]
    · rw [if_neg e2, if_neg (fun h => e2 (of_decide_eq_true h))]
  · rw [if_neg (kkn (K := 3) (k := 3) rfl (by decide) e), decide_eq_false e, Bool.false_and]; rfl
theorem TR.step (h : TR c m T L p) : ∃ c' m', fX9_step 1 c = some c' ∧ fX12_goOn 362 m = some m' ∧ TR c' m' T L (tkE T L p) ∧ KZ c c' ∧ KY m m' := by
  have hE := (tkE_le (T := T) h.le).2
  obtain ⟨c1, a1, b1, d1⟩ := c_step h.bc hE KC.rf h.kc.2.1
  obtain ⟨m1, a2, b2, d2⟩ := m_goOn h.bm hE KM.rf h.km.2.1
  exact ⟨c1, m1, a1, a2, ⟨b1.tb h.bc, b2.tb h.bm, hE, d1, d2, by rw [b2.2.2.2 8 (by decide) (by decide) (by decide) (by decide)]; exact h.gd, by rw [b2.2.2.2 9 (by decide) (by decide) (by decide) (by decide)]; exact h.GD.2.1, by rw [b1.2.2.2 2 (by decide) (by decide) (by decide) (by decide) (by decide)]; exact h.GD.2.2.1, by rw [b1.2.2.2 3 (by decide) (by decide) (by decide) (by decide) (by decide)]; exact h.GD.2.2.2⟩, b1.kz, b2.ky⟩
theorem TR.fail (h : TR c m T L p) {k : Nat} (hk : k = 1 ∨ (tkK T L p ≠ 4 ∧ 1 ≤ k ∧ k < 10)) {K : Int32} (hK : K = nI k) : ∃ c' m', fX9_fail 1 K c = some (.inr 0, c') ∧ fX12_wrong 362 K m = some m' ∧ ER c' m' ∧ KZ c c' ∧ KY m m' := by
  subst hK
  have h4 := kk4 (T := T) (L := L) (p := p)
  unfold fX9_fail fX12_wrong
  rw [nm_b, nm_b, if_pos (by rw [h.gd]; decide), h.km.2.2.1]
  have kz : KZ c (stI (stI c 1 2 (nI k)) 1 3 (ldI (stI c 1 2 (nI k)) 1 5)) := ⟨rfl, fun a ha => by rw [ldI_stI_ne ha, ldI_stI_ne ha], fun _ _ => rfl, by rw [ldI_stI, if_neg (by decide), ldI_stI, if_neg (by decide)]⟩
  have ky : ∀ x : Int32, KY m (stI (stI m 362 8 x) 362 9 (ldI (stI m 362 8 x) 362 5)) := fun x => ⟨rfl, fun a ha => by rw [ldI_stI_ne ha, ldI_stI_ne ha], fun _ _ => rfl, fun j hj => by rw [ldI_stI, if_neg (by omega), ldI_stI, if_neg (by omega)]⟩
  have er : 1 ≤ k → k < 10 → ER (stI (stI c 1 2 (nI k)) 1 3 (ldI (stI c 1 2 (nI k)) 1 5)) (stI (stI m 362 8 (nI k)) 362 9 (ldI (stI m 362 8 (nI k)) 362 5)) := fun k1 k2 => ⟨k, tkQ T L p, k1, k2, by rw [ldI_stI, if_neg (by decide), ldI_stI_s], by rw [ldI_stI_s, ldI_stI, if_neg (by decide)]; exact h.kc.1, by rw [ldI_stI, if_neg (by decide), ldI_stI_s], by rw [ldI_stI_s, ldI_stI, if_neg (by decide)]; exact h.km.1⟩
  by_cases e : tkK T L p = 4
  · rw [if_pos (by rw [e]; rfl), nm_b, nm_b]
    rcases hk with rfl | hk
    · exact ⟨_, _, rfl, rfl, er (by decide) (by decide), kz, ky _⟩
    · exact absurd e hk.1
  · rw [if_neg (kkn (K := 4) (k := 4) rfl (by decide) e), nm_b, nm_b]
    exact ⟨_, _, rfl, rfl, er (by omega) (by omega), kz, ky _⟩
/-- what comes of a taking: both go on behind it, or both tell the same error -/
def OT (c m : Mem) (T : Nat → Nat) (L p : Nat) (rc : Option ((Unit ⊕ Nat) × Mem)) (rm : Option Mem) : Prop := (∃ c' m', rc = some (.inl (), c') ∧ rm = some m' ∧ TR c' m' T L p ∧ KZ c c' ∧ KY m m') ∨ (∃ c' m', rc = some (.inr 0, c') ∧ rm = some m' ∧ ER c' m' ∧ KZ c c' ∧ KY m m')
theorem TR.word (h : TR c m T L p) {k w : Nat} {ls : List Nat} (hk : (k, w, ls) ∈ wTab) {W : Int64} (hW : W = lN w) : OT c m T L (tkE T L p) (fX9_takeWord 1 k c) (fX12_mustWord 362 W m) := by
  unfold fX9_takeWord fX12_mustWord
  rw [c_isWord h hk, m_good h.gd, Option.bind_some, Option.bind_some, if_neg one0, m_isWord h hk hW, Option.bind_some, Option.bind_some]
  by_cases e : wB T L p ls = true
  · obtain ⟨c1, m1, a1, a2, a3, a4, a5⟩ := h.step
    rw [if_pos e, if_neg one0, if_neg one0, if_neg one0, a1, a2]
    exact Or.inl ⟨c1, m1, rfl, rfl, a3, a4, a5⟩
  · obtain ⟨c1, m1, a1, a2, a3, a4, a5⟩ := h.fail (k := 1) (Or.inl rfl) (K := 1) rfl
    rw [if_neg e, if_pos rfl, if_pos rfl, a1, a2, Option.bind_some, Option.bind_some, m_bad a3.bad, Option.bind_some, if_pos rfl]
    exact Or.inr ⟨c1, m1, rfl, rfl, a3, a4, a5⟩
theorem TR.sign (h : TR c m T L p) {x : Nat} (hx : x < 256) {X : Int32} (hX : X = nI x) : OT c m T L (tkE T L p) (fX9_takeSign 1 X c) (fX12_mustSign 362 X m) := by
  subst hX
  unfold fX9_takeSign fX12_mustSign
  rw [c_isSign h hx, m_good h.gd, Option.bind_some, Option.bind_some, if_neg one0, m_isSign h hx, Option.bind_some, Option.bind_some]
  by_cases e : sB T L p x = true
  · obtain ⟨c1, m1, a1, a2, a3, a4, a5⟩ := h.step
    rw [if_pos e, if_neg one0, if_neg one0, if_neg one0, a1, a2]
    exact Or.inl ⟨c1, m1, rfl, rfl, a3, a4, a5⟩
  · obtain ⟨c1, m1, a1, a2, a3, a4, a5⟩ := h.fail (k := 1) (Or.inl rfl) (K := 1) rfl
    rw [if_neg e, if_pos rfl, if_pos rfl, a1, a2, Option.bind_some, Option.bind_some, m_bad a3.bad, Option.bind_some, if_pos rfl]
    exact Or.inr ⟨c1, m1, rfl, rfl, a3, a4, a5⟩
theorem m_isIn {μ : Mem} {x : Int32} {lo hi : Nat} (h1 : lo < 2 ^ 31) (h2 : hi < 2 ^ 31) {A B : Int64} (hA : A = lN lo) (hB : B = lN hi) : fX12_isIn x.toInt64 A B μ = some (bI (nI lo ≤ x ∧ x ≤ nI hi)) := by
  subst hA; subst hB
  unfold fX12_isIn
  rw [ifc (lg_cmp_lt _ _), ifc (lg_cmp_gt _ _), ← nI_l h1, ← nI_l h2, ifc (fa_wide_lt' _ _), ifc (fa_wide_lt' _ _)]
  by_cases e1 : x < nI lo
  · rw [if_pos e1, bI_f (fun h => by have := h.1; rw [i32_le] at this; rw [i32_lt] at e1; omega)]
  · rw [if_neg e1]
    by_cases e2 : nI hi < x
    · rw [if_pos e2, bI_f (fun h => by have := h.2; rw [i32_le] at this; rw [i32_lt] at e2; omega)]
    · rw [if_neg e2, bI_t ⟨i32_nlt.mp e1, i32_nlt.mp e2⟩]
/-- a number of a range -/
def ON (c m : Mem) (T : Nat → Nat) (L p lo hi : Nat) (rc : Option ((Int32 ⊕ Nat) × Mem)) (rm : Option (Int32 × Mem)) : Prop := (∃ a c' m', lo ≤ a ∧ a ≤ hi ∧ rc = some (.inl (nI a), c') ∧ rm = some (nI a, m') ∧ TR c' m' T L p ∧ KZ c c' ∧ KY m m') ∨ (∃ x c' m', rc = some (.inr 0, c') ∧ rm = some (x, m') ∧ ER c' m' ∧ KZ c c' ∧ KY m m')
theorem m_badNum (h : ¬ ldI m 362 8 = 0) {A B : Int32} : fX12_number 362 A B m = some (ldI m 362 7, m) := by
  unfold fX12_number fX12_looks fX12_looks_20
  rw [m_bad h, Option.bind_some, if_pos rfl, Option.bind_some, if_pos rfl, Option.bind_some]
  dsimp only
  rw [m_bad h, Option.bind_some, if_pos rfl]
theorem TR.num (h : TR c m T L p) {lo hi : Nat} (h1 : lo < 1000) (h2 : hi < 1000) {A B : Int32} (hA : A = nI lo) (hB : B = nI hi) : ON c m T L (tkE T L p) lo hi (fX9_takeNumber 1 A B c) (fX12_number 362 A B m) := by
  subst hA; subst hB
  have h4 := kk4 (T := T) (L := L) (p := p)
  unfold fX9_takeNumber fX12_number fX12_looks
  rw [h.kc.2.2.1, h.km.2.2.1, m_good h.gd, Option.bind_some, if_neg one0]
  by_cases e : tkK T L p = 2
  · have hg := tkE_gt (T := T) h.le (by rw [e]; decide)
    have he : ∃ v : Nat, v < 1000 ∧ ldI c 1 9 = nI v ∧ ldI m 362 7 = nI v := by
      refine ⟨numV T (tkQ T L p) (tkE T L p - tkQ T L p), ?_, h.kc.2.2.2.2.1 e, h.km.2.2.2.2.1 e⟩
      have e9 := e
      unfold tkK at e9
      have hqL : ¬ L ≤ tkQ T L p := by omega
      rw [if_neg hqL] at e9
      by_cases e1 : isL (T (tkQ T L p)) = true
      · rw [if_pos e1] at e9; split at e9 <;> omega
      · rw [if_neg e1] at e9
        by_cases e2 : isD (T (tkQ T L p)) = true
        · rw [if_pos e2] at e9
          have h3 : tkE T L p - tkQ T L p ≤ 3 := by
            by_cases q : tkE T L p - tkQ T L p ≤ 3
            · exact q
            · rw [if_neg q] at e9; omega
          have eE : tkE T L p = scn (fun i => isD (T i)) (L - tkQ T L p) (tkQ T L p) := by unfold tkE; rw [if_neg hqL, if_neg e1, if_pos e2]
          have := numV_lt (T := T) (q := tkQ T L p) (j := tkE T L p - tkQ T L p) (fun i hi => scn_in (c := fun i => isD (T i)) (show tkQ T L p ≤ tkQ T L p + i by omega) (by rw [← eE]; omega))
          have h5 : 10 ^ (tkE T L p - tkQ T L p) ≤ 10 ^ 3 := Nat.pow_le_pow_right (by decide) h3
          omega
        · rw [if_neg e2] at e9; split at e9 <;> omega
    obtain ⟨v, v1, v2, v3⟩ := he
    rw [if_pos (by rw [e]; rfl), if_pos (by rw [e]; rfl)]
    unfold fX9_takeNumber_13 fX12_looks_20 fX9_takeNumber_29
    rw [v2, m_good h.gd, Option.bind_some, if_neg one0, v3, nI_l (n := lo) (by omega), nI_l (n := hi) (by omega), m_isIn (lo := lo) (hi := hi) (by omega) (by omega) rfl rfl, Option.bind_some]
    by_cases e1 : lo ≤ v
    · rw [if_neg (nI_nlt e1 (by omega))]
      by_cases e2 : v ≤ hi
      · obtain ⟨c1, m1, a1, a2, a3, a4, a5⟩ := h.step
        rw [if_pos (nI_le e2 (by omega)), bI_t ⟨nI_le e1 (by omega), nI_le e2 (by omega)⟩, if_neg one0, Option.bind_some, nm_b, a1, m_good h.gd, Option.bind_some, Option.bind_some, if_neg one0, a2]
        exact Or.inl ⟨v, c1, m1, e1, e2, rfl, rfl, a3, a4, a5⟩
      · obtain ⟨c1, m1, a1, a2, a3, a4, a5⟩ := h.fail (k := 2) (Or.inr ⟨by omega, by decide, by decide⟩) (K := 2) rfl
        rw [if_neg (nI_ge (by omega) (by omega)), bI_f (fun h => nI_ge (a := hi) (b := v) (by omega) (by omega) h.2), if_pos rfl, a1, a2, Option.bind_some, Option.bind_some, Option.bind_some]
        dsimp only
        rw [m_bad a3.bad, Option.bind_some, if_pos rfl]
        exact Or.inr ⟨_, c1, m1, rfl, rfl, a3, a4, a5⟩
    · obtain ⟨c1, m1, a1, a2, a3, a4, a5⟩ := h.fail (k := 2) (Or.inr ⟨by omega, by decide, by decide⟩) (K := 2) rfl
      rw [if_pos (nI_lt (by omega) (by omega)), bI_f (fun h => nI_ge (a := v) (b := lo) (by omega) (by omega) h.1), if_pos rfl, a1, a2, Option.bind_some, Option.bind_some, Option.bind_some]
      dsimp only
      rw [m_bad a3.bad, Option.bind_some, if_pos rfl]
      exact Or.inr ⟨_, c1, m1, rfl, rfl, a3, a4, a5⟩
  · obtain ⟨c1, m1, a1, a2, a3, a4, a5⟩ := h.fail (k := 1) (Or.inl rfl) (K := 1) rfl
    rw [if_neg (kkn (K := 2) (k := 2) rfl (by decide) e), if_neg (kkn (K := 2) (k := 2) rfl (by decide) e), a1, a2, Option.bind_some, Option.bind_some]
    unfold fX12_looks_20
    rw [m_bad a3.bad, Option.bind_some, if_pos rfl, Option.bind_some]
    dsimp only
    rw [m_bad a3.bad, Option.bind_some, if_pos rfl]
    exact Or.inr ⟨_, c1, m1, rfl, rfl, a3, a4, a5⟩
end TAKE
