/-! scripts: one command is done -/
section EXEC
variable {c m : Mem} {n k : Nat} {ν : Nat → Int64}
/-- both refuse it, or both do it -/
def EX (n k : Nat) (ν : Nat → Int64) (c m : Mem) : Prop :=
  (∃ F : Int32, ¬ F = 0 ∧ fX1_faultOn (6 + k) 66 c = some F ∧ (fX12_may 362 (nI k) m = some 0 ∨ (fX12_may 362 (nI k) m = some 1 ∧ fX12_isDone 362 (nI k) m = some (0, m)))) ∨
  (∃ c' m', fX1_faultOn (6 + k) 66 c = some 0 ∧ fX12_may 362 (nI k) m = some 1 ∧ fX1_applyTo (6 + k) 66 c = some c' ∧ fX12_isDone 362 (nI k) m = some (1, m') ∧ FR c' 66 (ldI m' 364) ν ∧ okN n (ldI m' 364) ∧ SE (RG 66) c c' ∧ MX m m')
theorem MX.st {m : Mem} {k : Nat} {v : Int32} : MX m (stI m 364 k v) := MR.s.mc
theorem x1 {x : Nat} (hx : x ≤ 999) {lo hi : Nat} (h1 : lo < 2 ^ 31) (h2 : hi < 2 ^ 31) : (nI lo ≤ nI x ∧ nI x ≤ nI hi) ↔ (lo ≤ x ∧ x ≤ hi) := by
  rw [nI_leI h1 (by omega), nI_leI (by omega) h2]

theorem ex_0 (hk : k < 60) (hR : PRw m) (hp : ldP m 362 13 = some 364) (hF : FR c 66 (ldI m 364) ν) (hok : okN n (ldI m 364)) (h0 : ldI c (6 + k) 0 = nI 0) (h1 : ldI m 373 k = nI 0) {x : Nat} (hx : x ≤ 999) (hc2 : ldI c (6 + k) 2 = nI x) (hm1 : ldI m 374 k = nI x) : EX n k ν c m := by
  have hin : inB (nI k) 60 = true := inB_nI hk (by decide)
  have hcl : (nI k).toNatClampNeg = k := nI_clamp (by omega)
  have hFa : fX1_faultOn (6 + k) 66 c = some (if nI 1 ≤ nI x ∧ nI x ≤ nI 99 then (if sp_over (ldI m 364) = true ∨ 9999 < ldI m 364 3 + nI x then 2 else 0) else 1) := by
    unfold fX1_faultOn
    rw [c_at hF, Option.bind_some, h0, if_pos (show nI 0 = 0 from rfl), hc2, c_fPlay hF, Option.bind_some]
  have hMa : fX12_may 362 (nI k) m = some (if nI 1 ≤ nI x ∧ nI x ≤ nI 99 then (if sp_over (ldI m 364) = true ∨ 9999 < ldI m 364 3 + nI x then 0 else 1) else 0) := by
    unfold fX12_may
    rw [hR.2.1, Option.bind_some, ln37.2.1, gd_t hin, hcl, nm_b, hR.2.2.1, Option.bind_some, ln37.2.2.1, gd_t hin, nm_b, hR.1, Option.bind_some, ln37.1, gd_t hin, h1, if_pos (show nI 0 = 0 from rfl), hm1, m_isIn (lo := 1) (hi := 99) (A := 1) (B := 99) (by decide) (by decide) rfl rfl, Option.bind_some]
    by_cases e : nI 1 ≤ nI x ∧ nI x ≤ nI 99
    · rw [bI_t e, if_neg one0, m_mayPlay hp hok, Option.bind_some, if_pos e]
      by_cases e2 : sp_over (ldI m 364) = true ∨ 9999 < ldI m 364 3 + nI x
      · rw [if_pos e2, if_pos rfl]
      · rw [if_neg e2, if_neg one0]
    · rw [bI_f e, if_pos rfl, if_neg e]
  by_cases e : nI 1 ≤ nI x ∧ nI x ≤ nI 99
  · by_cases e2 : sp_over (ldI m 364) = true ∨ 9999 < ldI m 364 3 + nI x
    · rw [if_pos e, if_pos e2] at hFa hMa
      exact Or.inl ⟨2, by decide, hFa, Or.inl hMa⟩
    · rw [if_pos e, if_neg e2] at hFa hMa
      obtain ⟨c', a1, a2⟩ := c_playOn hF hok (k := x) (by omega)
      obtain ⟨m', b1, b2, b3, -⟩ := m_plays hp hok (k := x) (by omega)
      refine Or.inr ⟨c', m', hFa, hMa, ?_, ?_, by rw [b3]; exact a2.1, by rw [b3]; exact hok.play x, a2.2, b2⟩
      · unfold fX1_applyTo
        rw [c_at hF, Option.bind_some, h0, if_pos (show nI 0 = 0 from rfl), hc2, a1, Option.bind_some]
      · unfold fX12_isDone
        rw [hR.2.1, Option.bind_some, ln37.2.1, gd_t hin, hcl, nm_b, hR.2.2.1, Option.bind_some, ln37.2.2.1, gd_t hin, nm_b, hR.1, Option.bind_some, ln37.1, gd_t hin, h1, if_pos (show nI 0 = 0 from rfl), hm1, b1, Option.bind_some]
  · rw [if_neg e] at hFa hMa
    exact Or.inl ⟨1, by decide, hFa, Or.inl hMa⟩
theorem ex_1 (hk : k < 60) (hR : PRw m) (hp : ldP m 362 13 = some 364) (hF : FR c 66 (ldI m 364) ν) (hok : okN n (ldI m 364)) (h0 : ldI c (6 + k) 0 = nI 1) (h1 : ldI m 373 k = nI 1) {f : Nat} (hf : f < n) (hc1 : ldI c (6 + k) 1 = nI f) (hm1 : ldI m 374 k = nI f) {x : Nat} (hx : x ≤ 999) (hc2 : ldI c (6 + k) 2 = nI x) (hm2 : ldI m 375 k = nI x) : EX n k ν c m := by
  have hin : inB (nI k) 60 = true := inB_nI hk (by decide)
  have hcl : (nI k).toNatClampNeg = k := nI_clamp (by omega)
  have hf8 : f < 8 := by have := hok.le; omega
  have hFa : fX1_faultOn (6 + k) 66 c = some (if nI 1 ≤ nI x ∧ nI x ≤ nI 999 then (if lvN (ldI m 364) f then 0 else 2) else 1) := by
    unfold fX1_faultOn
    rw [hc1, c_at hF, Option.bind_some, sp_at_nI hf8, h0, if_neg (show ¬ nI 1 = 0 by decide), if_pos (show nI 1 = 1 from rfl), hc2, show fX3_faultOfShift (ob 66 (some f)) (nI x) c = _ from c_fShift hF hf8 _, Option.bind_some]
  have hMa : fX12_may 362 (nI k) m = some (if nI 1 ≤ nI x ∧ nI x ≤ nI 999 then (if lvN (ldI m 364) f then 1 else 0) else 0) := by
    unfold fX12_may
    rw [hR.2.1, Option.bind_some, ln37.2.1, gd_t hin, hcl, nm_b, hR.2.2.1, Option.bind_some, ln37.2.2.1, gd_t hin, nm_b, hR.1, Option.bind_some, ln37.1, gd_t hin, h1, if_neg (show ¬ nI 1 = 0 by decide), if_pos (show nI 1 = 1 from rfl), hm1, hm2, m_isBy, Option.bind_some]
    by_cases e : nI 1 ≤ nI x ∧ nI x ≤ nI 999
    · rw [bI_t e, if_neg one0, m_lives hp hf8, Option.bind_some, if_pos e]
      by_cases e2 : lvN (ldI m 364) f
      · rw [if_pos e2, if_neg one0]
      · rw [if_neg e2, if_pos rfl]
    · rw [bI_f e, if_pos rfl, if_neg e]
  by_cases e : nI 1 ≤ nI x ∧ nI x ≤ nI 999
  · by_cases e2 : lvN (ldI m 364) f
    · rw [if_pos e, if_pos e2] at hFa hMa
      obtain ⟨c', a1, a2⟩ := c_loseGauge hF hf8 (nI x)
      obtain ⟨y, m', b1, b2, b3, -⟩ := m_lowers hp hf8 (nI x)
      refine Or.inr ⟨c', m', hFa, hMa, ?_, ?_, by rw [b3]; exact a2.1, by rw [b3]; exact hok.lower hf hx, a2.2, b2.mc⟩
      · unfold fX1_applyTo
        rw [hc1, c_at hF, Option.bind_some, sp_at_nI hf8, h0, if_neg (show ¬ nI 1 = 0 by decide), if_pos (show nI 1 = 1 from rfl), hc2]
        rw [show (fX3_loseGauge (ob 66 (some f)) (nI x) c) = some c' from a1, Option.bind_some]
      · unfold fX12_isDone
        rw [hR.2.1, Option.bind_some, ln37.2.1, gd_t hin, hcl, nm_b, hR.2.2.1, Option.bind_some, ln37.2.2.1, gd_t hin, nm_b, hR.1, Option.bind_some, ln37.1, gd_t hin, h1, if_neg (show ¬ nI 1 = 0 by decide), if_pos (show nI 1 = 1 from rfl), hm1, hm2, b1, Option.bind_some]
    · rw [if_pos e, if_neg e2] at hFa hMa
      exact Or.inl ⟨2, by decide, hFa, Or.inl hMa⟩
  · rw [if_neg e] at hFa hMa
    exact Or.inl ⟨1, by decide, hFa, Or.inl hMa⟩
theorem ex_2 (hk : k < 60) (hR : PRw m) (hp : ldP m 362 13 = some 364) (hF : FR c 66 (ldI m 364) ν) (hok : okN n (ldI m 364)) (h0 : ldI c (6 + k) 0 = nI 2) (h1 : ldI m 373 k = nI 2) {f : Nat} (hf : f < n) (hc1 : ldI c (6 + k) 1 = nI f) (hm1 : ldI m 374 k = nI f) {x : Nat} (hx : x ≤ 999) (hc2 : ldI c (6 + k) 2 = nI x) (hm2 : ldI m 375 k = nI x) : EX n k ν c m := by
  have hin : inB (nI k) 60 = true := inB_nI hk (by decide)
  have hcl : (nI k).toNatClampNeg = k := nI_clamp (by omega)
  have hf8 : f < 8 := by have := hok.le; omega
  have hFa : fX1_faultOn (6 + k) 66 c = some (if nI 1 ≤ nI x ∧ nI x ≤ nI 999 then (if lvN (ldI m 364) f then 0 else 2) else 1) := by
    unfold fX1_faultOn
    rw [hc1, c_at hF, Option.bind_some, sp_at_nI hf8, h0, if_neg (show ¬ nI 2 = 0 by decide), if_neg (show ¬ nI 2 = 1 by decide), if_pos (show nI 2 = 2 from rfl), hc2, show fX3_faultOfShift (ob 66 (some f)) (nI x) c = _ from c_fShift hF hf8 _, Option.bind_some]
  have hMa : fX12_may 362 (nI k) m = some (if nI 1 ≤ nI x ∧ nI x ≤ nI 999 then (if lvN (ldI m 364) f then 1 else 0) else 0) := by
    unfold fX12_may
    rw [hR.2.1, Option.bind_some, ln37.2.1, gd_t hin, hcl, nm_b, hR.2.2.1, Option.bind_some, ln37.2.2.1, gd_t hin, nm_b, hR.1, Option.bind_some, ln37.1, gd_t hin, h1, if_neg (show ¬ nI 2 = 0 by decide), if_neg (show ¬ nI 2 = 1 by decide), if_pos (show nI 2 = 2 from rfl), hm1, hm2, m_isBy, Option.bind_some]
    by_cases e : nI 1 ≤ nI x ∧ nI x ≤ nI 999
    · rw [bI_t e, if_neg one0, m_lives hp hf8, Option.bind_some, if_pos e]
      by_cases e2 : lvN (ldI m 364) f
      · rw [if_pos e2, if_neg one0]
      · rw [if_neg e2, if_pos rfl]
    · rw [bI_f e, if_pos rfl, if_neg e]
  by_cases e : nI 1 ≤ nI x ∧ nI x ≤ nI 999
  · by_cases e2 : lvN (ldI m 364) f
    · rw [if_pos e, if_pos e2] at hFa hMa
      obtain ⟨c', a1, a2⟩ := c_gainGauge hF hf8 e2 (nI x)
      obtain ⟨y, m', b1, b2, b3, -⟩ := m_raises hp hf8 (nI x)
      refine Or.inr ⟨c', m', hFa, hMa, ?_, ?_, by rw [b3]; exact a2.1, by rw [b3]; exact hok.raise hf hx, a2.2, b2.mc⟩
      · unfold fX1_applyTo
        rw [hc1, c_at hF, Option.bind_some, sp_at_nI hf8, h0, if_neg (show ¬ nI 2 = 0 by decide), if_neg (show ¬ nI 2 = 1 by decide), if_pos (show nI 2 = 2 from rfl), hc2]
        rw [show (fX3_gainGauge (ob 66 (some f)) (nI x) c) = some c' from a1, Option.bind_some]
      · unfold fX12_isDone
        rw [hR.2.1, Option.bind_some, ln37.2.1, gd_t hin, hcl, nm_b, hR.2.2.1, Option.bind_some, ln37.2.2.1, gd_t hin, nm_b, hR.1, Option.bind_some, ln37.1, gd_t hin, h1, if_neg (show ¬ nI 2 = 0 by decide), if_neg (show ¬ nI 2 = 1 by decide), if_pos (show nI 2 = 2 from rfl), hm1, hm2, b1, Option.bind_some]
    · rw [if_pos e, if_neg e2] at hFa hMa
      exact Or.inl ⟨2, by decide, hFa, Or.inl hMa⟩
  · rw [if_neg e] at hFa hMa
    exact Or.inl ⟨1, by decide, hFa, Or.inl hMa⟩
theorem ex_3 (hk : k < 60) (hR : PRw m) (hp : ldP m 362 13 = some 364) (hF : FR c 66 (ldI m 364) ν) (hok : okN n (ldI m 364)) (h0 : ldI c (6 + k) 0 = nI 3) (h1 : ldI m 373 k = nI 3) {f : Nat} (hf : f < n) (hc1 : ldI c (6 + k) 1 = nI f) (hm1 : ldI m 374 k = nI f) : EX n k ν c m := by
  have hin : inB (nI k) 60 = true := inB_nI hk (by decide)
  have hcl : (nI k).toNatClampNeg = k := nI_clamp (by omega)
  have hf8 : f < 8 := by have := hok.le; omega
  obtain ⟨e, -, e2, e3⟩ := hok.ext hf
  have hFa : fX1_faultOn (6 + k) 66 c = some (if e < 3 then (if lvN (ldI m 364) f then 0 else 2) else 2) := by
    unfold fX1_faultOn
    rw [hc1, c_at hF, Option.bind_some, sp_at_nI hf8, h0, if_neg (show ¬ nI 3 = 0 by decide), if_neg (show ¬ nI 3 = 1 by decide), if_neg (show ¬ nI 3 = 2 by decide), if_pos (show nI 3 = 3 from rfl), show ldI c (ob 66 (some f)) 11 = nI e from (hF.ext hf8).trans e3, show fX3_faultOfExtra (ob 66 (some f)) c = _ from c_fExtra hF hf8, Option.bind_some]
    by_cases q : e < 3
    · rw [if_pos (show nI e < 3 from nI_lt (b := 3) q (by decide)), if_pos q]
    · rw [if_neg (show ¬ nI e < 3 from nI_nlt (b := 3) (by omega) (by omega)), if_neg q]
  have hMa : fX12_may 362 (nI k) m = some (if lvN (ldI m 364) f then 1 else 0) := by
    unfold fX12_may
    rw [hR.2.1, Option.bind_some, ln37.2.1, gd_t hin, hcl, nm_b, hR.2.2.1, Option.bind_some, ln37.2.2.1, gd_t hin, nm_b, hR.1, Option.bind_some, ln37.1, gd_t hin, h1, if_neg (show ¬ nI 3 = 0 by decide), if_neg (show ¬ nI 3 = 1 by decide), if_neg (show ¬ nI 3 = 2 by decide), if_pos (show nI 3 = 3 from rfl), hm1, m_lives hp hf8, Option.bind_some]
  have hDo : fX12_isDone 362 (nI k) m = some (if ldI m 364 (4 + 12 * f + 6) = 3 then (0, m) else (1, stI m 364 (4 + 12 * f + 6) (jmin (ldI m 364 (4 + 12 * f + 6) + 1) 3))) := by
    unfold fX12_isDone
    rw [hR.2.1, Option.bind_some, ln37.2.1, gd_t hin, hcl, nm_b, hR.2.2.1, Option.bind_some, ln37.2.2.1, gd_t hin, nm_b, hR.1, Option.bind_some, ln37.1, gd_t hin, h1, if_neg (show ¬ nI 3 = 0 by decide), if_neg (show ¬ nI 3 = 1 by decide), if_neg (show ¬ nI 3 = 2 by decide), if_pos (show nI 3 = 3 from rfl), hm1, m_gives hp hok hf, Option.bind_some]
  by_cases q : e < 3
  · by_cases l : lvN (ldI m 364) f
    · rw [if_pos q, if_pos l] at hFa
      rw [if_pos l] at hMa
      rw [if_neg (show ¬ ldI m 364 (4 + 12 * f + 6) = 3 from fun h => by rw [e3] at h; have := (nI_eq (a := e) (b := 3) (by omega) (by decide)).mp h; omega)] at hDo
      obtain ⟨c', a1, a2⟩ := c_gainExtras hF hf8 1
      have er : ldI (stI m 364 (4 + 12 * f + 6) (jmin (ldI m 364 (4 + 12 * f + 6) + 1) 3)) 364 = sp_xtr (ldI m 364) f 1 := ldI_stI_self
      refine Or.inr ⟨c', _, hFa, hMa, ?_, hDo, by rw [er]; exact a2.1, by rw [er]; exact hok.xtr hf (m := 1) (by decide), a2.2, MX.st⟩
      unfold fX1_applyTo
      rw [hc1, c_at hF, Option.bind_some, sp_at_nI hf8, h0, if_neg (show ¬ nI 3 = 0 by decide), if_neg (show ¬ nI 3 = 1 by decide), if_neg (show ¬ nI 3 = 2 by decide), if_pos (show nI 3 = 3 from rfl)]
      rw [show fX3_gainExtras (ob 66 (some f)) 1 c = some c' from a1, Option.bind_some]
    · rw [if_pos q, if_neg l] at hFa
      rw [if_neg l] at hMa
      exact Or.inl ⟨2, by decide, hFa, Or.inl hMa⟩
  · rw [if_neg q] at hFa
    by_cases l : lvN (ldI m 364) f
    · rw [if_pos l] at hMa
      rw [if_pos (show ldI m 364 (4 + 12 * f + 6) = 3 by rw [e3, show e = 3 by omega]; rfl)] at hDo
      exact Or.inl ⟨2, by decide, hFa, Or.inr ⟨hMa, hDo⟩⟩
    · rw [if_neg l] at hMa
      exact Or.inl ⟨2, by decide, hFa, Or.inl hMa⟩
theorem ex_4 (hk : k < 60) (hR : PRw m) (hp : ldP m 362 13 = some 364) (hF : FR c 66 (ldI m 364) ν) (hok : okN n (ldI m 364)) (h0 : ldI c (6 + k) 0 = nI 4) (h1 : ldI m 373 k = nI 4) {f : Nat} (hf : f < n) (hc1 : ldI c (6 + k) 1 = nI f) (hm1 : ldI m 374 k = nI f) {x : Nat} (hx : x ≤ 999) (hc2 : ldI c (6 + k) 2 = nI x) (hm2 : ldI m 375 k = nI x) : EX n k ν c m := by
  have hin : inB (nI k) 60 = true := inB_nI hk (by decide)
  have hcl : (nI k).toNatClampNeg = k := nI_clamp (by omega)
  have hf8 : f < 8 := by have := hok.le; omega
  have hFa : fX1_faultOn (6 + k) 66 c = some (if nI 1 ≤ nI x ∧ nI x ≤ nI 99 then 0 else 1) := by
    unfold fX1_faultOn
    rw [hc1, c_at hF, Option.bind_some, sp_at_nI hf8, h0, if_neg (show ¬ nI 4 = 0 by decide), if_neg (show ¬ nI 4 = 1 by decide), if_neg (show ¬ nI 4 = 2 by decide), if_neg (show ¬ nI 4 = 3 by decide), if_pos (show nI 4 = 4 from rfl), hc2, c_fSpeed, Option.bind_some]
  have hMa : fX12_may 362 (nI k) m = some (bI (nI 1 ≤ nI x ∧ nI x ≤ nI 99)) := by
    unfold fX12_may
    rw [hR.2.1, Option.bind_some, ln37.2.1, gd_t hin, hcl, nm_b, hR.2.2.1, Option.bind_some, ln37.2.2.1, gd_t hin, nm_b, hR.1, Option.bind_some, ln37.1, gd_t hin, h1, if_neg (show ¬ nI 4 = 0 by decide), if_neg (show ¬ nI 4 = 1 by decide), if_neg (show ¬ nI 4 = 2 by decide), if_neg (show ¬ nI 4 = 3 by decide), if_pos (show nI 4 = 4 from rfl), hm2, m_isIn (lo := 1) (hi := 99) (A := 1) (B := 99) (by decide) (by decide) rfl rfl, Option.bind_some]
  by_cases e : nI 1 ≤ nI x ∧ nI x ≤ nI 99
  · rw [if_pos e] at hFa
    rw [bI_t e] at hMa
    have hx2 := (x1 hx (by decide) (by decide)).mp e
    have hs := hF.set (f := f) (w := 1) (v := nI x) hf8 (by decide)
    have er : ldI (stI m 364 (4 + 12 * f + 1) (nI x)) 364 = upd (ldI m 364) (4 + 12 * f + 1) (nI x) := ldI_stI_self
    refine Or.inr ⟨stI c (66 + 5 + 3 * f) 6 (nI x), stI m 364 (4 + 12 * f + 1) (nI x), hFa, hMa, ?_, ?_, by rw [er]; exact hs, by rw [er]; exact hok.ls hf hx2.1 hx2.2, SE.sI ⟨by omega, by omega⟩, MX.st⟩
    · unfold fX1_applyTo
      rw [hc1, c_at hF, Option.bind_some, sp_at_nI hf8, h0, if_neg (show ¬ nI 4 = 0 by decide), if_neg (show ¬ nI 4 = 1 by decide), if_neg (show ¬ nI 4 = 2 by decide), if_neg (show ¬ nI 4 = 3 by decide), if_pos (show nI 4 = 4 from rfl), hc2]
      rfl
    · unfold fX12_isDone
      rw [hR.2.1, Option.bind_some, ln37.2.1, gd_t hin, hcl, nm_b, hR.2.2.1, Option.bind_some, ln37.2.2.1, gd_t hin, nm_b, hR.1, Option.bind_some, ln37.1, gd_t hin, h1, if_neg (show ¬ nI 4 = 0 by decide), if_neg (show ¬ nI 4 = 1 by decide), if_neg (show ¬ nI 4 = 2 by decide), if_neg (show ¬ nI 4 = 3 by decide), if_pos (show nI 4 = 4 from rfl), hm1, hm2]
      unfold fX12_cellOf
      rw [Option.bind_some, show (4 : Int32) + 12 * nI f + 1 = nI (4 + 12 * f + 1) by rw [show (4 : Int32) = nI 4 from rfl, show (12 : Int32) = nI 12 from rfl, pk_mul, nI_add, nI_1], m_swaps hp (by omega), Option.bind_some]
  · rw [if_neg e] at hFa
    rw [bI_f e] at hMa
    exact Or.inl ⟨1, by decide, hFa, Or.inl hMa⟩
theorem ex_5 (hk : k < 60) (hR : PRw m) (hp : ldP m 362 13 = some 364) (hF : FR c 66 (ldI m 364) ν) (hok : okN n (ldI m 364)) (h0 : ldI c (6 + k) 0 = nI 5) (h1 : ldI m 373 k = nI 5) {f : Nat} (hf : f < n) (hc1 : ldI c (6 + k) 1 = nI f) (hm1 : ldI m 374 k = nI f) {x : Nat} (hx : x ≤ 999) (hc2 : ldI c (6 + k) 2 = nI x) (hm2 : ldI m 375 k = nI x) : EX n k ν c m := by
  have hin : inB (nI k) 60 = true := inB_nI hk (by decide)
  have hcl : (nI k).toNatClampNeg = k := nI_clamp (by omega)
  have hf8 : f < 8 := by have := hok.le; omega
  have hFa : fX1_faultOn (6 + k) 66 c = some (if nI 1 ≤ nI x ∧ nI x ≤ nI 999 then 0 else 1) := by
    unfold fX1_faultOn
    rw [hc1, c_at hF, Option.bind_some, sp_at_nI hf8, h0, if_neg (show ¬ nI 5 = 0 by decide), if_neg (show ¬ nI 5 = 1 by decide), if_neg (show ¬ nI 5 = 2 by decide), if_neg (show ¬ nI 5 = 3 by decide), if_neg (show ¬ nI 5 = 4 by decide), if_pos (show nI 5 = 5 from rfl), hc2, c_fHeal, Option.bind_some]
  have hMa : fX12_may 362 (nI k) m = some (bI (nI 1 ≤ nI x ∧ nI x ≤ nI 999)) := by
    unfold fX12_may
    rw [hR.2.1, Option.bind_some, ln37.2.1, gd_t hin, hcl, nm_b, hR.2.2.1, Option.bind_some, ln37.2.2.1, gd_t hin, nm_b, hR.1, Option.bind_some, ln37.1, gd_t hin, h1, if_neg (show ¬ nI 5 = 0 by decide), if_neg (show ¬ nI 5 = 1 by decide), if_neg (show ¬ nI 5 = 2 by decide), if_neg (show ¬ nI 5 = 3 by decide), if_neg (show ¬ nI 5 = 4 by decide), if_pos (show nI 5 = 5 from rfl), hm2, m_isBy, Option.bind_some]
  by_cases e : nI 1 ≤ nI x ∧ nI x ≤ nI 999
  · rw [if_pos e] at hFa
    rw [bI_t e] at hMa
    obtain ⟨c', a1, a2⟩ := c_gainLife hF hf8 (nI x)
    obtain ⟨y, m', b1, b2, b3, -⟩ := m_heals hp hf8 (nI x)
    refine Or.inr ⟨c', m', hFa, hMa, ?_, ?_, by rw [b3]; exact a2.1, by rw [b3]; exact hok.heal hf hx, a2.2, b2.mc⟩
    · unfold fX1_applyTo
      rw [hc1, c_at hF, Option.bind_some, sp_at_nI hf8, h0, if_neg (show ¬ nI 5 = 0 by decide), if_neg (show ¬ nI 5 = 1 by decide), if_neg (show ¬ nI 5 = 2 by decide), if_neg (show ¬ nI 5 = 3 by decide), if_neg (show ¬ nI 5 = 4 by decide), if_pos (show nI 5 = 5 from rfl), hc2]
      rw [show fX3_gainLife (ob 66 (some f)) (nI x) c = some c' from a1, Option.bind_some]
    · unfold fX12_isDone
      rw [hR.2.1, Option.bind_some, ln37.2.1, gd_t hin, hcl, nm_b, hR.2.2.1, Option.bind_some, ln37.2.2.1, gd_t hin, nm_b, hR.1, Option.bind_some, ln37.1, gd_t hin, h1, if_neg (show ¬ nI 5 = 0 by decide), if_neg (show ¬ nI 5 = 1 by decide), if_neg (show ¬ nI 5 = 2 by decide), if_neg (show ¬ nI 5 = 3 by decide), if_neg (show ¬ nI 5 = 4 by decide), if_pos (show nI 5 = 5 from rfl), hm1, hm2, b1, Option.bind_some]
  · rw [if_neg e] at hFa
    rw [bI_f e] at hMa
    exact Or.inl ⟨1, by decide, hFa, Or.inl hMa⟩
theorem ex_6 (hk : k < 60) (hR : PRw m) (hp : ldP m 362 13 = some 364) (hF : FR c 66 (ldI m 364) ν) (hok : okN n (ldI m 364)) (h0 : ldI c (6 + k) 0 = nI 6) (h1 : ldI m 373 k = nI 6) {x : Nat} (hx : x ≤ 999) (hc2 : ldI c (6 + k) 2 = nI x) (hm1 : ldI m 374 k = nI x) : EX n k ν c m := by
  have hin : inB (nI k) 60 = true := inB_nI hk (by decide)
  have hcl : (nI k).toNatClampNeg = k := nI_clamp (by omega)
  have hFa : fX1_faultOn (6 + k) 66 c = some (if nI 100 ≤ nI x ∧ nI x ≤ nI 999 then 0 else 1) := by
    unfold fX1_faultOn
    rw [c_at hF, Option.bind_some, h0, if_neg (show ¬ nI 6 = 0 by decide), if_neg (show ¬ nI 6 = 1 by decide), if_neg (show ¬ nI 6 = 2 by decide), if_neg (show ¬ nI 6 = 3 by decide), if_neg (show ¬ nI 6 = 4 by decide), if_neg (show ¬ nI 6 = 5 by decide), if_pos (show nI 6 = 6 from rfl), hc2, c_fWheel, Option.bind_some]
  have hMa : fX12_may 362 (nI k) m = some (bI (nI 100 ≤ nI x ∧ nI x ≤ nI 999)) := by
    unfold fX12_may
    rw [hR.2.1, Option.bind_some, ln37.2.1, gd_t hin, hcl, nm_b, hR.2.2.1, Option.bind_some, ln37.2.2.1, gd_t hin, nm_b, hR.1, Option.bind_some, ln37.1, gd_t hin, h1, if_neg (show ¬ nI 6 = 0 by decide), if_neg (show ¬ nI 6 = 1 by decide), if_neg (show ¬ nI 6 = 2 by decide), if_neg (show ¬ nI 6 = 3 by decide), if_neg (show ¬ nI 6 = 4 by decide), if_neg (show ¬ nI 6 = 5 by decide), if_pos (show nI 6 = 6 from rfl), hm1, m_isWheel, Option.bind_some]
  by_cases e : nI 100 ≤ nI x ∧ nI x ≤ nI 999
  · rw [if_pos e] at hFa
    rw [bI_t e] at hMa
    have hx2 := (x1 hx (by decide) (by decide)).mp e
    have hs := hF.hd (j := 1) (v := nI x) (by decide)
    have er : ldI (stI m 364 1 (nI x)) 364 = upd (ldI m 364) 1 (nI x) := ldI_stI_self
    refine Or.inr ⟨stI c 66 3 (nI x), stI m 364 1 (nI x), hFa, hMa, ?_, ?_, by rw [er]; exact hs, by rw [er]; exact hok.w hx2.1 hx2.2, SE.sI ⟨by omega, by omega⟩, MX.st⟩
    · unfold fX1_applyTo
      rw [c_at hF, Option.bind_some, h0, if_neg (show ¬ nI 6 = 0 by decide), if_neg (show ¬ nI 6 = 1 by decide), if_neg (show ¬ nI 6 = 2 by decide), if_neg (show ¬ nI 6 = 3 by decide), if_neg (show ¬ nI 6 = 4 by decide), if_neg (show ¬ nI 6 = 5 by decide), if_pos (show nI 6 = 6 from rfl), hc2]
      rfl
    · unfold fX12_isDone
      rw [hR.2.1, Option.bind_some, ln37.2.1, gd_t hin, hcl, nm_b, hR.2.2.1, Option.bind_some, ln37.2.2.1, gd_t hin, nm_b, hR.1, Option.bind_some, ln37.1, gd_t hin, h1, if_neg (show ¬ nI 6 = 0 by decide), if_neg (show ¬ nI 6 = 1 by decide), if_neg (show ¬ nI 6 = 2 by decide), if_neg (show ¬ nI 6 = 3 by decide), if_neg (show ¬ nI 6 = 4 by decide), if_neg (show ¬ nI 6 = 5 by decide), if_pos (show nI 6 = 6 from rfl), hm1, show fX12_swapsCell 362 1 (nI x) m = _ from m_swaps hp (i := 1) (by decide) _, Option.bind_some]
  · rw [if_neg e] at hFa
    rw [bI_f e] at hMa
    exact Or.inl ⟨1, by decide, hFa, Or.inl hMa⟩
theorem ex_7 (hk : k < 60) (hR : PRw m) (hp : ldP m 362 13 = some 364) (hF : FR c 66 (ldI m 364) ν) (hok : okN n (ldI m 364)) (h0 : ldI c (6 + k) 0 = nI 7) (h1 : ldI m 373 k = nI 7) {f : Nat} (hf : f < n) (hc1 : ldI c (6 + k) 1 = nI f) (hm1 : ldI m 374 k = nI f) {x : Nat} (hx : x ≤ 999) (hc2 : ldI c (6 + k) 2 = nI x) (hm2 : ldI m 375 k = nI x) {q y : Nat} (hq : q < 7) (hy : y ≤ 999) (hc3 : ldI c (6 + k) 3 = nI q) (hm3 : ldI m 376 k = nI q) (hc4 : ldI c (6 + k) 4 = nI y) (hm4 : ldI m 377 k = nI y) : EX n k ν c m := by
  have hin : inB (nI k) 60 = true := inB_nI hk (by decide)
  have hcl : (nI k).toNatClampNeg = k := nI_clamp (by omega)
  have hf8 : f < 8 := by have := hok.le; omega
  have hFa : fX1_faultOn (6 + k) 66 c = some (bI (¬ okA (ldI m 364) f (nI x) (nI q) (nI y))) := by
    unfold fX1_faultOn
    rw [hc1, c_at hF, Option.bind_some, sp_at_nI hf8, h0, if_neg (show ¬ nI 7 = 0 by decide), if_neg (show ¬ nI 7 = 1 by decide), if_neg (show ¬ nI 7 = 2 by decide), if_neg (show ¬ nI 7 = 3 by decide), if_neg (show ¬ nI 7 = 4 by decide), if_neg (show ¬ nI 7 = 5 by decide), if_neg (show ¬ nI 7 = 6 by decide), if_pos (show nI 7 = 7 from rfl), hc2, hc3, hc4, show fX3_faultOfAct (ob 66 (some f)) (nI x) (nI q) (nI y) c = _ from c_fAct hF hok hf _ _ _, Option.bind_some]
  have hMa : fX12_may 362 (nI k) m = some (bI (okA (ldI m 364) f (nI x) (nI q) (nI y))) := by
    unfold fX12_may
    rw [hR.2.1, Option.bind_some, ln37.2.1, gd_t hin, hcl, nm_b, hR.2.2.1, Option.bind_some, ln37.2.2.1, gd_t hin, nm_b, hR.1, Option.bind_some, ln37.1, gd_t hin, h1, if_neg (show ¬ nI 7 = 0 by decide), if_neg (show ¬ nI 7 = 1 by decide), if_neg (show ¬ nI 7 = 2 by decide), if_neg (show ¬ nI 7 = 3 by decide), if_neg (show ¬ nI 7 = 4 by decide), if_neg (show ¬ nI 7 = 5 by decide), if_neg (show ¬ nI 7 = 6 by decide), hR.2.2.2.1, Option.bind_some, ln37.2.2.2.1, gd_t hin, hR.2.2.2.2, Option.bind_some, ln37.2.2.2.2, gd_t hin, hm1, hm2, hm3, hm4, m_maySet hp hok hf, Option.bind_some]
  by_cases e : okA (ldI m 364) f (nI x) (nI q) (nI y)
  · rw [bI_f (fun h => h e)] at hFa
    rw [bI_t e] at hMa
    obtain ⟨i', k', y', a, r1, r2, r3, r4, r9, r5, r6, r7, r8⟩ := e
    have hmo := mo_bd (q := k')
    have ex : x = i' := (nI_eq (by omega) (by omega)).mp r1
    have eq : q = k' := (nI_eq (by omega) (by omega)).mp r2
    have ey : y = y' := (nI_eq (by omega) (by omega)).mp r3
    subst ex; subst eq; subst ey
    obtain ⟨c', a1, a2⟩ := c_putAct hF hf8 (nI x) (nI q) (nI y)
    have hh : sp_has (ldI m 364) f (nI x) := ⟨nI_pos' (by omega), by rw [r4]; exact nI_lt r5 (by omega), nI_lt (b := 6) (by omega) (by decide)⟩
    rw [if_pos hh, nI_clamp (by omega)] at a2
    have er : ldI (stI (stI m 364 (148 + 6 * f + x) (nI y)) 364 (100 + 6 * f + x) (nI q)) 364 = upd (upd (ldI m 364) (100 + 6 * f + x) (nI q)) (148 + 6 * f + x) (nI y) := by
      rw [ldI_stI_self, ldI_stI_self, upd_comm (by omega)]
    refine Or.inr ⟨c', _, hFa, hMa, ?_, ?_, by rw [er]; exact a2.1, by rw [er]; exact hok.act' hf r4 r9 r5 hq r7 r8, a2.2, MX.st.tr MX.st⟩
    · unfold fX1_applyTo
      rw [hc1, c_at hF, Option.bind_some, sp_at_nI hf8, h0, if_neg (show ¬ nI 7 = 0 by decide), if_neg (show ¬ nI 7 = 1 by decide), if_neg (show ¬ nI 7 = 2 by decide), if_neg (show ¬ nI 7 = 3 by decide), if_neg (show ¬ nI 7 = 4 by decide), if_neg (show ¬ nI 7 = 5 by decide), if_neg (show ¬ nI 7 = 6 by decide), if_pos (show nI 7 = 7 from rfl), hc2, hc3, hc4]
      rw [show fX3_putAct (ob 66 (some f)) (nI x) (nI q) (nI y) c = some c' from a1, Option.bind_some]
    · unfold fX12_isDone
      rw [hR.2.1, Option.bind_some, ln37.2.1, gd_t hin, hcl, nm_b, hR.2.2.1, Option.bind_some, ln37.2.2.1, gd_t hin, nm_b, hR.1, Option.bind_some, ln37.1, gd_t hin, h1, if_neg (show ¬ nI 7 = 0 by decide), if_neg (show ¬ nI 7 = 1 by decide), if_neg (show ¬ nI 7 = 2 by decide), if_neg (show ¬ nI 7 = 3 by decide), if_neg (show ¬ nI 7 = 4 by decide), if_neg (show ¬ nI 7 = 5 by decide), if_neg (show ¬ nI 7 = 6 by decide), hR.2.2.2.1, Option.bind_some, ln37.2.2.2.1, gd_t hin, hR.2.2.2.2, Option.bind_some, ln37.2.2.2.2, gd_t hin, hm1, hm2, hm3, hm4, m_setsAct hp hf8 (by omega), Option.bind_some]
  · rw [bI_t e] at hFa
    rw [bI_f e] at hMa
    exact Or.inl ⟨1, by decide, hFa, Or.inl hMa⟩
theorem exec_bis {w : Nat} (hw : w < 8) (hA : AR n w k c m) (hk : k < 60) (h0 : ldI c (6 + k) 0 = nI w) (h1 : ldI m 373 k = nI w) (hR : PRw m) (hp : ldP m 362 13 = some 364) (hF : FR c 66 (ldI m 364) ν) (hok : okN n (ldI m 364)) : EX n k ν c m := by
  obtain ⟨g1, g2, g3, g4⟩ := hA
  rcases (show w = 0 ∨ w = 1 ∨ w = 2 ∨ w = 3 ∨ w = 4 ∨ w = 5 ∨ w = 6 ∨ w = 7 by omega) with rfl | rfl | rfl | rfl | rfl | rfl | rfl | rfl
  · obtain ⟨x, x1, x2, x3⟩ := g1 (Or.inl rfl)
    exact ex_0 hk hR hp hF hok h0 h1 x1 x2 x3
  · obtain ⟨f, f1, f2, f3⟩ := g2 (Or.inl rfl)
    obtain ⟨x, x1, x2, x3⟩ := g3 (Or.inl rfl)
    exact ex_1 hk hR hp hF hok h0 h1 f1 f2 f3 x1 x2 x3
  · obtain ⟨f, f1, f2, f3⟩ := g2 (Or.inr (Or.inl rfl))
    obtain ⟨x, x1, x2, x3⟩ := g3 (Or.inr (Or.inl rfl))
    exact ex_2 hk hR hp hF hok h0 h1 f1 f2 f3 x1 x2 x3
  · obtain ⟨f, f1, f2, f3⟩ := g2 (Or.inr (Or.inr (Or.inl rfl)))
    exact ex_3 hk hR hp hF hok h0 h1 f1 f2 f3
  · obtain ⟨f, f1, f2, f3⟩ := g2 (Or.inr (Or.inr (Or.inr (Or.inl rfl))))
    obtain ⟨x, x1, x2, x3⟩ := g3 (Or.inr (Or.inr (Or.inl rfl)))
    exact ex_4 hk hR hp hF hok h0 h1 f1 f2 f3 x1 x2 x3
  · obtain ⟨f, f1, f2, f3⟩ := g2 (Or.inr (Or.inr (Or.inr (Or.inr (Or.inl rfl)))))
    obtain ⟨x, x1, x2, x3⟩ := g3 (Or.inr (Or.inr (Or.inr (Or.inl rfl))))
    exact ex_5 hk hR hp hF hok h0 h1 f1 f2 f3 x1 x2 x3
  · obtain ⟨x, x1, x2, x3⟩ := g1 (Or.inr rfl)
    exact ex_6 hk hR hp hF hok h0 h1 x1 x2 x3
  · obtain ⟨f, f1, f2, f3⟩ := g2 (Or.inr (Or.inr (Or.inr (Or.inr (Or.inr rfl)))))
    obtain ⟨x, x1, x2, x3⟩ := g3 (Or.inr (Or.inr (Or.inr (Or.inr rfl))))
    obtain ⟨q, y, y1, y2, y3, y4, y5, y6⟩ := g4 rfl
    exact ex_7 hk hR hp hF hok h0 h1 f1 f2 f3 x1 x2 x3 y1 y2 y3 y4 y5 y6
end EXEC
