/-! changes: what may be done, and what is then -/
def okA (σ : Sg) (f : Nat) (i k x : Int32) : Prop := ∃ i' k' x' a : Nat, i = nI i' ∧ k = nI k' ∧ x = nI x' ∧ σ (4 + 12 * f + 8) = nI a ∧ a ≤ 6 ∧ i' < a ∧ k' < 7 ∧ 1 ≤ x' ∧ x' ≤ mo k'
theorem or1 {x : Int32} {lo hi : Nat} (h1 : lo < 2 ^ 31) (h2 : hi < 2 ^ 31) : (nI lo ≤ x ∧ x ≤ nI hi) ↔ ∃ a : Nat, lo ≤ a ∧ a ≤ hi ∧ x = nI a := by
  constructor
  · intro ⟨g1, g2⟩
    have g0 : ¬ x < 0 := by
      rw [i32_le, nI_toInt h1] at g1
      rw [i32_lt]
      have : (0 : Int32).toInt = 0 := rfl
      omega
    obtain ⟨j, j1, rfl⟩ := nI_of g0
    exact ⟨j, (nI_leI h1 j1).mp g1, (nI_leI j1 h2).mp g2, rfl⟩
  · rintro ⟨a, a1, a2, rfl⟩
    exact ⟨nI_le a1 (by omega), nI_le a2 h2⟩
section CHG
variable {c m : Mem} {o n f : Nat} {σ : Sg} {ν : Nat → Int64}
theorem c_fPlay (h : FR c o σ ν) (v : Int32) : fX2_faultOfPlay o v c = some (if nI 1 ≤ v ∧ v ≤ nI 99 then (if sp_over σ = true ∨ 9999 < σ 3 + v then 2 else 0) else 1) := by
  unfold fX2_faultOfPlay
  rw [h.trn, c_over h, Option.bind_some]
  by_cases e1 : v < 1
  · rw [if_pos e1, if_neg (fun q => by have := q.1; rw [i32_le] at this; rw [i32_lt] at e1; have e : (nI 1).toInt = (1 : Int32).toInt := rfl; omega)]
  · rw [if_neg e1]
    by_cases e2 : v ≤ 99
    · rw [if_pos e2, if_pos (show nI 1 ≤ v ∧ v ≤ nI 99 from ⟨i32_nlt.mp e1, e2⟩)]
      by_cases e3 : sp_over σ = true
      · rw [if_pos e3, if_neg one0, if_pos (Or.inl e3)]
      · rw [if_neg e3, if_pos rfl]
        by_cases e4 : σ 3 + v ≤ 9999
        · rw [if_pos e4, if_neg (fun q => q.elim e3 (fun q => absurd e4 (i32_nle.mpr q)))]
        · rw [if_neg e4, if_pos (Or.inr (i32_nle.mp e4))]
    · rw [if_neg e2, if_neg (fun q => e2 q.2)]
theorem c_fShift (h : FR c o σ ν) (hf : f < 8) (v : Int32) : fX3_faultOfShift (o + 5 + 3 * f) v c = some (if nI 1 ≤ v ∧ v ≤ nI 999 then (if lvN σ f then 0 else 2) else 1) := by
  unfold fX3_faultOfShift
  rw [h.lif hf]
  by_cases e1 : v < 1
  · rw [if_pos e1, if_neg (fun q => by have := q.1; rw [i32_le] at this; rw [i32_lt] at e1; have e : (nI 1).toInt = (1 : Int32).toInt := rfl; omega)]
  · rw [if_neg e1]
    by_cases e2 : v ≤ 999
    · rw [if_pos e2, if_pos (show nI 1 ≤ v ∧ v ≤ nI 999 from ⟨i32_nlt.mp e1, e2⟩)]
      by_cases e3 : lvN σ f
      · rw [if_neg (i32_nle.mpr e3), if_pos e3]
      · rw [if_pos (i32_nlt.mp e3), if_neg e3]
    · rw [if_neg e2, if_neg (fun q => e2 q.2)]
theorem c_fExtra (h : FR c o σ ν) (hf : f < 8) : fX3_faultOfExtra (o + 5 + 3 * f) c = some (if lvN σ f then 0 else 2) := by
  unfold fX3_faultOfExtra
  rw [h.lif hf]
  by_cases e3 : lvN σ f
  · rw [if_pos e3, if_neg (i32_nle.mpr e3)]
  · rw [if_neg e3, if_pos (i32_nlt.mp e3)]
theorem c_fRange {v : Int32} {lo hi : Nat} {A B : Int32} (hA : A = nI lo) (hB : B = nI hi) : (if v < A then some (1 : Int32) else if B < v then some 1 else some 0) = some (if nI lo ≤ v ∧ v ≤ nI hi then 0 else 1) := by
  subst hA; subst hB
  by_cases e1 : v < nI lo
  · rw [if_pos e1, if_neg (fun q => by have := q.1; rw [i32_le] at this; rw [i32_lt] at e1; omega)]
  · rw [if_neg e1]
    by_cases e2 : nI hi < v
    · rw [if_pos e2, if_neg (fun q => by have := q.2; rw [i32_le] at this; rw [i32_lt] at e2; omega)]
    · rw [if_neg e2, if_pos ⟨i32_nlt.mp e1, i32_nlt.mp e2⟩]
theorem c_fSpeed (v : Int32) : fX3_faultOfSpeed o v c = some (if nI 1 ≤ v ∧ v ≤ nI 99 then 0 else 1) := c_fRange (lo := 1) (hi := 99) rfl rfl
theorem c_fHeal (v : Int32) : fX3_faultOfHeal o v c = some (if nI 1 ≤ v ∧ v ≤ nI 999 then 0 else 1) := c_fRange (lo := 1) (hi := 999) rfl rfl
theorem c_fWheel (v : Int32) : fX2_faultOfWheel o v c = some (if nI 100 ≤ v ∧ v ≤ nI 999 then 0 else 1) := c_fRange (lo := 100) (hi := 999) rfl rfl
theorem c_fAct (h : FR c o σ ν) (hok : okN n σ) (hf : f < n) (i k x : Int32) : fX3_faultOfAct (o + 5 + 3 * f) i k x c = some (bI (¬ okA σ f i k x)) := by
  have hf8 : f < 8 := by have := hok.le; omega
  obtain ⟨p, a, q1, q2, q3, q4, q5⟩ := hok.acts hf
  unfold fX3_faultOfAct
  rw [c_hasAct h hf8, Option.bind_some]
  by_cases e1 : sp_has σ f i
  · rw [if_pos e1, if_neg one0]
    by_cases e2 : k < 0
    · rw [if_pos e2, if_pos rfl, bI_t (fun ⟨i', k', x', a', r1, r2, r3, r4, r9, r5, r6, r7, r8⟩ => nI_pos (n := k') (by omega) (by rw [← r2]; exact e2))]
    · obtain ⟨k', k1, rfl⟩ := nI_of e2
      rw [if_neg e2]
      by_cases e3 : k' < 7
      · rw [if_neg (show ¬ (7 : Int32) ≤ nI k' from nI_ge (b := 7) e3 (by decide)), c_mostOf e3, Option.bind_some]
        have hmo := mo_bd (q := k')
        by_cases e4 : x < 1
        · rw [if_pos e4, if_pos rfl, bI_t (fun ⟨i', k', x', a', r1, r2, r3, r4, r9, r5, r6, r7, r8⟩ => by
            have hx' : x' < 2 ^ 31 := by have := mo_bd (q := k'); omega
            rw [r3, i32_lt, nI_toInt hx'] at e4
            have : (1 : Int32).toInt = 1 := rfl
            omega)]
        · rw [if_neg e4]
          have e0 : ¬ x < 0 := fun q => e4 (by
            rw [i32_lt] at q ⊢
            have h0 : (0 : Int32).toInt = 0 := rfl
            have h1 : (1 : Int32).toInt = 1 := rfl
            omega)
          obtain ⟨x', x1, rfl⟩ := nI_of e0
          have e5 : 1 ≤ x' := by
            by_cases q : 1 ≤ x'
            · exact q
            · exact absurd (show nI x' < 1 from nI_lt (b := 1) (by omega) (by decide)) e4
          by_cases e6 : x' ≤ mo k'
          · rw [if_neg (nI_nlt e6 (by omega)), if_neg one0]
            obtain ⟨h1, h2, h3⟩ := e1
            rw [q2] at h2
            obtain ⟨i', i1, rfl⟩ := nI_of (show ¬ i < 0 from i32_nlt.mpr h1)
            rw [bI_f (fun q => q ⟨i', k', x', a, rfl, rfl, rfl, q2, q4, (nI_ltI i1 (by omega)).mp h2, e3, e5, e6⟩)]
          · rw [if_pos (nI_lt (by omega) x1), if_pos rfl, bI_t (fun ⟨i'', k'', x'', a', r1, r2, r3, r4, r9, r5, r6, r7, r8⟩ => by
              have := (nI_eq (by omega) (by omega)).mp r2
              subst this
              have := (nI_eq (by omega) (by omega)).mp r3
              omega)]
      · rw [if_pos (show (7 : Int32) ≤ nI k' from nI_le (a := 7) (by omega) k1), if_pos rfl, bI_t (fun ⟨i', k'', x', a', r1, r2, r3, r4, r9, r5, r6, r7, r8⟩ => by
          have := (nI_eq k1 (by omega)).mp r2
          omega)]
  · rw [if_neg e1, if_pos rfl, if_pos rfl, bI_t (fun ⟨i', k', x', a', r1, r2, r3, r4, r9, r5, r6, r7, r8⟩ => e1 (by
      rw [q2] at r4
      have ha : a' = a := ((nI_eq (by omega) (by omega)).mp r4).symm
      subst ha
      rw [r1]
      exact ⟨nI_pos' (by omega), by rw [q2]; exact nI_lt r5 (by omega), nI_lt (b := 6) (by omega) (by decide)⟩))]
/-! the reference's -/
theorem m_mayPlay (hp : ldP m 362 13 = some 364) (h : okN n (ldI m 364)) (v : Int32) : fX12_mayPlay 362 v m = some (if sp_over (ldI m 364) = true ∨ 9999 < ldI m 364 3 + v then 0 else 1) := by
  unfold fX12_mayPlay
  rw [m_isOver hp h, Option.bind_some, hp, Option.bind_some, ln364, gd_t ib3, z3]
  by_cases e3 : sp_over (ldI m 364) = true
  · rw [if_pos e3, if_neg one0, if_pos (Or.inl e3)]
  · rw [if_neg e3, if_pos rfl]
    by_cases e4 : 9999 < ldI m 364 3 + v
    · rw [if_pos e4, if_pos (Or.inr e4)]
    · rw [if_neg e4, if_neg (fun q => q.elim e3 e4)]
theorem m_isBy (v : Int32) : fX12_isBy v m = some (bI (nI 1 ≤ v ∧ v ≤ nI 999)) := by
  unfold fX12_isBy
  rw [m_isIn (lo := 1) (hi := 999) (A := 1) (B := 999) (by decide) (by decide) rfl rfl, Option.bind_some]
theorem m_isWheel (v : Int32) : fX12_isWheel v m = some (bI (nI 100 ≤ v ∧ v ≤ nI 999)) := by
  unfold fX12_isWheel
  rw [m_isIn (lo := 100) (hi := 999) (A := 100) (B := 999) (by decide) (by decide) rfl rfl, Option.bind_some]
theorem m_isAct (hp : ldP m 362 13 = some 364) (hf : f < 8) {a : Nat} (ha : ldI m 364 (4 + 12 * f + 8) = nI a) (a1 : 1 ≤ a) (a6 : a ≤ 6) (i : Int32) : fX12_isAct 362 (nI f) i m = some (bI (∃ j : Nat, j < a ∧ i = nI j)) := by
  unfold fX12_isAct
  rw [m_of8 hp hf, Option.bind_some, ha, show (1 : Int32) = nI 1 from rfl, pk_sub a1, nI_l (n := a - 1) (by omega), m_isIn (lo := 0) (hi := a - 1) (A := 0) (by decide) (by omega) rfl rfl, Option.bind_some]
  have : (nI 0 ≤ i ∧ i ≤ nI (a - 1)) = ∃ j : Nat, j < a ∧ i = nI j := propext ((or1 (by decide) (by omega)).trans ⟨fun ⟨j, _, h2, h3⟩ => ⟨j, by omega, h3⟩, fun ⟨j, h2, h3⟩ => ⟨j, by omega, by omega, h3⟩⟩)
  rw [this]
theorem m_maySet (hp : ldP m 362 13 = some 364) (hok : okN n (ldI m 364)) (hf : f < n) (i k x : Int32) : fX12_maySet 362 (nI f) i k x m = some (bI (okA (ldI m 364) f i k x)) := by
  have hf8 : f < 8 := by have := hok.le; omega
  obtain ⟨p, a, q1, q2, q3, q4, q5⟩ := hok.acts hf
  unfold fX12_maySet
  rw [m_isAct hp hf8 q2 (by omega) q4, Option.bind_some]
  by_cases e1 : ∃ j : Nat, j < a ∧ i = nI j
  · rw [bI_t e1, if_neg one0, m_isIn (lo := 0) (hi := 6) (A := 0) (B := 6) (by decide) (by decide) rfl rfl, Option.bind_some]
    by_cases e2 : nI 0 ≤ k ∧ k ≤ nI 6
    · obtain ⟨k', -, k2, rfl⟩ := (or1 (by decide) (by decide)).mp e2
      have hmo := mo_bd (q := k')
      rw [bI_t e2, if_neg one0, m_mostOf (show k' < 7 by omega), Option.bind_some, nI_l (n := mo k') (by omega), m_isIn (lo := 1) (hi := mo k') (A := 1) (by decide) (by omega) rfl rfl, Option.bind_some]
      by_cases e3 : nI 1 ≤ x ∧ x ≤ nI (mo k')
      · obtain ⟨x', x1, x2, rfl⟩ := (or1 (by decide) (by omega)).mp e3
        obtain ⟨j, j1, rfl⟩ := e1
        rw [bI_t e3, if_neg one0, bI_t ⟨j, k', x', a, rfl, rfl, rfl, q2, q4, j1, by omega, x1, x2⟩]
      · rw [bI_f e3, if_pos rfl, bI_f (fun ⟨i', k'', x', a', r1, r2, r3, r4, r9, r5, r6, r7, r8⟩ => e3 (by
          have := (nI_eq (by omega) (by omega)).mp r2
          subst this
          exact (or1 (by decide) (by omega)).mpr ⟨x', r7, r8, r3⟩))]
    · rw [bI_f e2, if_pos rfl, bI_f (fun ⟨i', k'', x', a', r1, r2, r3, r4, r9, r5, r6, r7, r8⟩ => e2 ((or1 (by decide) (by decide)).mpr ⟨k'', Nat.zero_le _, by omega, r2⟩))]
  · rw [bI_f e1, if_pos rfl, bI_f (fun ⟨i', k'', x', a', r1, r2, r3, r4, r9, r5, r6, r7, r8⟩ => e1 (by
      have := (nI_eq (by omega) (by omega)).mp (q2.symm.trans r4)
      exact ⟨i', by omega, r1⟩))]
theorem m_swaps (hp : ldP m 362 13 = some 364) {i : Nat} (hi : i < 196) (v : Int32) : fX12_swapsCell 362 (nI i) v m = some (ldI m 364 i, stI m 364 i v) := by
  unfold fX12_swapsCell
  rw [hp, Option.bind_some, ln364, gd_t (inB_nI hi (by decide)), nI_clamp (by omega), nm_b, Option.bind_some, ln364, gd_t (inB_nI hi (by decide)), nm_b]
theorem m_setsAct (hp : ldP m 362 13 = some 364) (hf : f < 8) {i : Nat} (hi : i < 6) (k x : Int32) : fX12_setsAct 362 (nI f) (nI i) k x m = some (ldI m 364 (100 + 6 * f + i), stI (stI m 364 (148 + 6 * f + i) x) 364 (100 + 6 * f + i) k) := by
  unfold fX12_setsAct
  rw [hp, Option.bind_some, ixK 148 (C := 148) rfl, ixK 100 (C := 100) rfl, ln364, gd_t (inB_nI (by omega) (by decide)), nI_clamp (by omega), nm_b, m_swaps (m := stI m 364 (148 + 6 * f + i) x) hp (by omega), Option.bind_some, ldI_stI, if_neg (by omega)]
theorem m_gives (hp : ldP m 362 13 = some 364) (hok : okN n (ldI m 364)) (hf : f < n) : fX12_givesExtra 362 (nI f) m = some (if ldI m 364 (4 + 12 * f + 6) = 3 then (0, m) else (1, stI m 364 (4 + 12 * f + 6) (jmin (ldI m 364 (4 + 12 * f + 6) + 1) 3))) := by
  have hf8 : f < 8 := by have := hok.le; omega
  obtain ⟨e, -, e2, e3⟩ := hok.ext hf
  unfold fX12_givesExtra
  rw [m_of6 hp hf8, Option.bind_some]
  by_cases q : ldI m 364 (4 + 12 * f + 6) = 3
  · rw [if_pos q, if_pos q]
  · rw [if_neg q, if_neg q, Option.bind_some, m_sets hp hf8 (w := 6) (W := 6) (by decide) rfl, Option.bind_some, e3, nI_1, show (3 : Int32) = nI 3 from rfl, jmin_nI (by omega) (by decide), Nat.min_eq_left (by
      have : e ≠ 3 := fun h => q (by rw [e3, h]; rfl)
      omega)]
theorem okN.act' {i q x a : Nat} (h : okN n σ) (hf : f < n) (ha : σ (4 + 12 * f + 8) = nI a) (a6 : a ≤ 6) (hi : i < a) (hq : q < 7) (h1 : 1 ≤ x) (h2 : x ≤ mo q) : okN n (upd (upd σ (100 + 6 * f + i) (nI q)) (148 + 6 * f + i) (nI x)) := by
  have hn := h.le
  obtain ⟨g1, g2, g3, g4, g5⟩ := h
  have low : ∀ j, j < 100 → upd (upd σ (100 + 6 * f + i) (nI q)) (148 + 6 * f + i) (nI x) j = σ j := fun j hj => by rw [upd_n (by omega), upd_n (by omega)]
  refine ⟨g1, by rw [low 0 (by decide)]; exact g2, by rw [low 1 (by decide)]; exact g3, fun g hg => ?_, fun g hg hg8 w hw => by rw [low _ (by omega)]; exact g5 g hg hg8 w hw⟩
  obtain ⟨r1, p, b, r2, r3, r4, r5, r6⟩ := g4 g hg
  refine ⟨fun w hw => by rw [low _ (by omega)]; exact r1 w hw, p, b, by rw [low _ (by omega)]; exact r2, by rw [low _ (by omega)]; exact r3, r4, r5, fun k hk => ?_⟩
  by_cases e : g = f ∧ k = i
  · obtain ⟨rfl, rfl⟩ := e
    have hmo := mo_bd (q := q)
    refine ⟨q, x, by rw [upd_n (by omega), upd_s], upd_s, by omega, h1, by omega, fun hq => ?_⟩
    rcases hq with rfl | rfl
    · have : mo 3 = 99 := rfl
      omega
    · have : mo 5 = 99 := rfl
      omega
  · obtain ⟨q', x', s1, s2, s3⟩ := r6 k hk
    exact ⟨q', x', by rw [upd_n (by omega), upd_n (by omega)]; exact s1, by rw [upd_n (by omega), upd_n (by omega)]; exact s2, s3⟩
end CHG
