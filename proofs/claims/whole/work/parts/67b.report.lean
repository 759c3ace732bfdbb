/-! the law: the report -/
section RPT
variable {c0 m0 c m : Mem} {n : Nat} {ν : Nat → Int64} {σ : Sg}
/-- what the report reads, of both -/
def RD (n : Nat) (ν : Nat → Int64) (c0 m0 : Mem) : Prop := PP c0 m0 ∧ FR c0 66 (ldI m0 364) ν ∧ okN n (ldI m0 364) ∧ NMS n ν (ldJ m0 369) ∧ ldP m0 362 13 = some 364 ∧ ldP m0 362 18 = some 369
theorem PT.fr {l : Nat} (h : PT c0 m0 l c m) (hf : FR c0 66 σ ν) : FR c 66 σ ν := hf.same (fun a ha => h.1 a (fun q => by unfold RG at ha; omega))
theorem PT.row {l : Nat} (h : PT c0 m0 l c m) : ldI m 364 = ldI m0 364 := (h.2.2.1 364 (by decide)).1
theorem PT.of {l : Nat} (h : PT c0 m0 l c m) (hr : RD n ν c0 m0) {f w : Nat} (hf : f < n) (hw : w < 12) {W : Int32} (hW : W = nI w) : fX12_of 362 (nI f) W m = some (ldI m0 364 (4 + 12 * f + w)) := by
  rw [m_of (by rw [h.2.2.2.1]; exact hr.2.2.2.2.1) (by have := hr.2.2.1.le; omega) hw hW, h.row]
/-- the extra turns, the star, the line's end -/
theorem tail_bis (hr : RD n ν c0 m0) {f l : Nat} (hf : f < n) {st v1 v2 : Int32} (hst : st = 0 ↔ ¬ v1 = v2) (hv : v1 = nI f) (h : PT c0 m0 l c m) (hl : l + 5 ≤ 176) : ∃ l', l' ≤ l + 5 ∧ PB c0 m0 l' (fX7_writeLine_67 360 (66 + 5 + 3 * f) st 0 c) (fX12_tellFighter_69 362 v1 v2 0 m) := by
  subst hv
  have hf8 : f < 8 := by have := hr.2.2.1.le; omega
  obtain ⟨e, e0, e3, he⟩ := hr.2.2.1.ext hf
  have hex : ∀ {l c m}, PT c0 m0 l c m → ldI c (66 + 5 + 3 * f) 11 = nI e := fun h => by rw [(h.fr hr.2.1).ext hf8, he]
  have hof : ∀ {l c m}, PT c0 m0 l c m → fX12_of 362 (nI f) 6 m = some (nI e) := fun h => by rw [h.of hr hf (w := 6) (W := 6) (by decide) rfl, he]
  refine ⟨l + e + (if nI f = v2 then 2 else 1), by split <;> omega, ?_⟩
  unfold fX7_writeLine_67 fX12_tellFighter_69
  refine zl2_two (N := e) (I := fun j c m => PT c0 m0 (l + j) c m) (Q := fun x y => PB c0 m0 (l + e + (if nI f = v2 then 2 else 1)) x y) (by omega) (fun j c m s t hj hI => ?_) (fun c m k1 k2 h1 h2 hI => ?_) h
  · obtain ⟨c', m', a1, a2, a3⟩ := put_bis hr.1 hI (b := 43) (by omega) (by decide)
    refine ⟨c', m', ?_, ?_, a3⟩
    · unfold gX7_writeLine_67
      rw [hex hI, if_neg (nI_ge hj (by omega)), show (43 : Int32) = nI 43 from rfl, a1, Option.bind_some, nm_b, nI_1]
    · unfold gX12_tellFighter_69
      rw [hof hI, Option.bind_some, if_neg (nI_ge hj (by omega)), show (43 : Int32) = nI 43 from rfl, a2, Option.bind_some, nm_b, nI_1]
  · obtain ⟨k1, rfl⟩ : ∃ q, k1 = q + 1 := ⟨k1 - 1, by omega⟩
    obtain ⟨k2, rfl⟩ : ∃ q, k2 = q + 1 := ⟨k2 - 1, by omega⟩
    show PB _ _ _ (gX7_writeLine_67 360 (66 + 5 + 3 * f) st (zl2 (gX7_writeLine_67 360 (66 + 5 + 3 * f) st) k1) (nI e) c) (gX12_tellFighter_69 362 (nI f) v2 (zl2 (gX12_tellFighter_69 362 (nI f) v2) k2) (nI e) m)
    unfold gX7_writeLine_67 gX12_tellFighter_69
    rw [hex hI, hof hI, Option.bind_some, if_pos (nI_le (Nat.le_refl _) (by omega)), if_pos (nI_le (Nat.le_refl _) (by omega))]
    by_cases hP : nI f = v2
    · rw [if_pos hP, if_pos hP, if_neg (fun q => hst.mp q hP)]
      exact (put_bis hr.1 hI (b := 42) (by omega) (by decide)).bd (fun c m h => (put_bis hr.1 h (b := 10) (by omega) (by decide)).bd (fun c m h => ⟨c, m, rfl, rfl, h⟩))
    · rw [if_neg hP, if_neg hP, if_pos (hst.mpr hP)]
      exact (put_bis hr.1 hI (b := 10) (by omega) (by decide)).bd (fun c m h => ⟨c, m, rfl, rfl, h⟩)
/-- the numbers of a line -/
theorem nums_bis (hr : RD n ν c0 m0) {f l : Nat} (hf : f < n) {st v2 : Int32} (hst : st = 0 ↔ ¬ nI f = v2) (h : PT c0 m0 l c m) (hl : l + 14 ≤ 176) : ∃ l', l' ≤ l + 14 ∧ PB c0 m0 l' (fX7_writeLine_37 360 (66 + 5 + 3 * f) st c) ((fX12_tell 362 32 m).bind fun r_8 => (fX12_of 362 (nI f) 2 r_8).bind fun r_11 => (fX12_tellNumber 362 r_11 r_8).bind fun r_14 => (fX12_tell 362 47 r_14).bind fun r_17 => (fX12_of 362 (nI f) 4 r_17).bind fun r_20 => (fX12_tellNumber 362 r_20 r_17).bind fun r_23 => fX12_tellFighter_69 362 (nI f) v2 0 r_23) := by
  have hf8 : f < 8 := by have := hr.2.2.1.le; omega
  obtain ⟨a, -, a9, ha⟩ := hr.2.2.1.lif hf
  obtain ⟨g, -, g9, hg⟩ := hr.2.2.1.gau hf
  have da := (dgs_le (a := a)).2 a9
  have dg := (dgs_le (a := g)).1
  unfold fX7_writeLine_37
  obtain ⟨c1, m1, p1, p2, p3⟩ := put_bis hr.1 h (b := 32) (by omega) (by decide)
  rw [show (32 : Int32) = nI 32 from rfl, p1, p2, Option.bind_some, Option.bind_some]
  rw [p3.of hr hf (w := 2) (W := 2) (by decide) rfl, Option.bind_some, (p3.fr hr.2.1).lif hf8, ha]
  obtain ⟨c2, m2, q1, q2, q3⟩ := num_bis hr.1 (a := a) (by omega) p3 (by omega)
  rw [q1, q2, Option.bind_some, Option.bind_some]
  obtain ⟨c3, m3, r1, r2, r3⟩ := put_bis hr.1 q3 (b := 47) (by omega) (by decide)
  rw [show (47 : Int32) = nI 47 from rfl, r1, r2, Option.bind_some, Option.bind_some]
  rw [r3.of hr hf (w := 4) (W := 4) (by decide) rfl, Option.bind_some, (r3.fr hr.2.1).gau hf8, hg]
  obtain ⟨c4, m4, s1, s2, s3⟩ := num_bis hr.1 (a := g) (by omega) r3 (by omega)
  rw [s1, s2, Option.bind_some, Option.bind_some]
  obtain ⟨l', t1, t2⟩ := tail_bis hr hf hst rfl s3 (by omega)
  exact ⟨l', by omega, t2⟩
theorem line_bis (hr : RD n ν c0 m0) {f l : Nat} (hf : f < n) {st v2 : Int32} (hst : st = 0 ↔ ¬ nI f = v2) (h : PT c0 m0 l c m) (hl : l + 22 ≤ 176) : ∃ l', l' ≤ l + 22 ∧ PB c0 m0 l' (fX7_writeLine 360 (66 + 5 + 3 * f) st c) (fX12_tellFighter 362 (nI f) v2 m) := by
  have hf8 : f < 8 := by have := hr.2.2.1.le; omega
  obtain ⟨w, W, hw, e8, e5⟩ := hr.2.2.2.1.1 f hf
  have hW := hw.2.1
  unfold fX7_writeLine fX12_tellFighter fX7_writeLine_2 fX12_tellFighter_2
  refine zl2_two (N := W) (I := fun j c m => PT c0 m0 (l + j) c m) (Q := fun x y => ∃ l', l' ≤ l + 22 ∧ PB c0 m0 l' x y) (by omega) (fun j c m s t hj hI => ?_) (fun c m k1 k2 h1 h2 hI => ?_) h
  · have hlt := hw.2.2.1 j hj
    obtain ⟨c', m', a1, a2, a3⟩ := put_bis hr.1 hI (b := w j) (by omega) (by omega)
    refine ⟨c', m', ?_, ?_, a3⟩
    · unfold gX7_writeLine_2
      have hla : fX10_letterAt (ldJ c (66 + 5 + 3 * f) 4) (nI j) c = some (nI (w j)) := by
        rw [(hI.fr hr.2.1).nam hf8, e8]
        rcases c_letterAt (μ := c) hw (nI j) with ⟨i, hi, hij, e⟩ | ⟨hx, -⟩
        · have : j = i := (nI_eq (by omega) (by omega)).mp hij
          subst this; exact e
        · exact absurd hx (fun q => q.elim (nI_pos (by omega)) (nI_ge hj (by omega)))
      rw [if_neg (show ¬ (8 : Int32) ≤ nI j from nI_ge (b := 8) (by omega) (by decide)), hla, Option.bind_some, if_neg (nI_ne0 (by omega) (by omega)), Option.bind_some, a1, Option.bind_some, nm_b, nI_1]
    · unfold gX12_tellFighter_2
      rw [show ldP m 362 18 = some 369 by rw [hI.2.2.2.1]; exact hr.2.2.2.2.2, Option.bind_some, ln369, gd_t (inB_nI hf8 (by decide)), nI_clamp (by omega), hI.2.2.2.2.1, e5, m_lettersOf hw, Option.bind_some, if_neg (nI_ge hj (by omega)), Option.bind_some, ln369, gd_t (inB_nI hf8 (by decide)), e5, m_letterOf hw hj, Option.bind_some, a2, Option.bind_some, nm_b, nI_1]
  · obtain ⟨k1, rfl⟩ : ∃ q, k1 = q + 1 := ⟨k1 - 1, by omega⟩
    obtain ⟨k2, rfl⟩ : ∃ q, k2 = q + 1 := ⟨k2 - 1, by omega⟩
    obtain ⟨l', t1, t2⟩ := nums_bis hr hf hst hI (by omega)
    refine ⟨l', by omega, ?_⟩
    have eC : zl2 (gX7_writeLine_2 360 (66 + 5 + 3 * f) st) (k1 + 1) (nI W) c = fX7_writeLine_37 360 (66 + 5 + 3 * f) st c := by
      show gX7_writeLine_2 360 (66 + 5 + 3 * f) st (zl2 (gX7_writeLine_2 360 (66 + 5 + 3 * f) st) k1) (nI W) c = _
      unfold gX7_writeLine_2
      by_cases q : 8 ≤ W
      · rw [if_pos (show (8 : Int32) ≤ nI W from nI_le (a := 8) q (by omega))]
      · have hla : fX10_letterAt (ldJ c (66 + 5 + 3 * f) 4) (nI W) c = some 0 := by
          rw [(hI.fr hr.2.1).nam hf8, e8]
          rcases c_letterAt (μ := c) hw (nI W) with ⟨i, hi, hij, e⟩ | ⟨-, e⟩
          · have : W = i := (nI_eq (by omega) (by omega)).mp hij
            omega
          · exact e
        rw [if_neg (show ¬ (8 : Int32) ≤ nI W from nI_ge (b := 8) (by omega) (by decide)), hla, Option.bind_some, if_pos rfl]
    have eM : zl2 (gX12_tellFighter_2 362 (nI f) v2) (k2 + 1) (nI W) m = ((fX12_tell 362 32 m).bind fun r_8 => (fX12_of 362 (nI f) 2 r_8).bind fun r_11 => (fX12_tellNumber 362 r_11 r_8).bind fun r_14 => (fX12_tell 362 47 r_14).bind fun r_17 => (fX12_of 362 (nI f) 4 r_17).bind fun r_20 => (fX12_tellNumber 362 r_20 r_17).bind fun r_23 => fX12_tellFighter_69 362 (nI f) v2 0 r_23) := by
      show gX12_tellFighter_2 362 (nI f) v2 (zl2 (gX12_tellFighter_2 362 (nI f) v2) k2) (nI W) m = _
      unfold gX12_tellFighter_2
      rw [show ldP m 362 18 = some 369 by rw [hI.2.2.2.1]; exact hr.2.2.2.2.2, Option.bind_some, ln369, gd_t (inB_nI hf8 (by decide)), nI_clamp (by omega), hI.2.2.2.2.1, e5, m_lettersOf hw, Option.bind_some, if_pos (nI_le (Nat.le_refl _) (by omega))]
    rw [eC, eM]
    exact t2
/-- behind the last fighter nothing is written -/
theorem w17_end {v2 : Int32} {μ : Mem} (hf : FR μ 66 σ ν) (h0 : σ 0 = nI n) (hn : n ≤ 8) : ∀ d, d ≤ 8 → n ≤ 8 - d → ∀ k, d < k → zl2 (gX7_write_17 360 66 v2 67 (nI 8)) k (nI (8 - d)) μ = some μ := by
  intro d
  induction d with
  | zero =>
    intro _ _ k hk
    obtain ⟨k, rfl⟩ : ∃ q, k = q + 1 := ⟨k - 1, by omega⟩
    show gX7_write_17 360 66 v2 67 (nI 8) (zl2 (gX7_write_17 360 66 v2 67 (nI 8)) k) (nI 8) μ = _
    unfold gX7_write_17
    rw [if_pos (show nI 8 ≤ nI 8 by decide)]
  | succ d ih =>
    intro hd hnd k hk
    obtain ⟨k, rfl⟩ : ∃ q, k = q + 1 := ⟨k - 1, by omega⟩
    show gX7_write_17 360 66 v2 67 (nI 8) (zl2 (gX7_write_17 360 66 v2 67 (nI 8)) k) (nI (8 - (d + 1))) μ = _
    unfold gX7_write_17
    rw [if_neg (show ¬ nI 8 ≤ nI (8 - (d + 1)) from nI_ge (by omega) (by decide)), show Ln 67 = 8 from hf.ln8, gd_t (inB_nI (by omega) (by decide)), nI_clamp (by omega), show ldP μ 67 (8 - (d + 1)) = some (66 + 5 + 3 * (8 - (d + 1))) from hf.pf (by omega), Option.bind_some, hf.cnt, h0, hf.num (by omega), if_pos (nI_le hnd (by omega)), nm_b, nI_1, show 8 - (d + 1) + 1 = 8 - d by omega]
    exact ih (by omega) (by omega) k (by omega)
theorem write_bis (hr : RD n ν c0 m0) {v : Int32} (h : PT c0 m0 0 c m) : ∃ l c' m', l ≤ 176 ∧ fX7_write_17 360 66 v 67 (nI 8) 0 c = some c' ∧ fX12_report_22 362 v 0 m = some (nI l, m') ∧ PT c0 m0 l c' m' := by
  have hn := hr.2.2.1.le
  have h0 := hr.2.2.1.2.1
  unfold fX7_write_17 fX12_report_22
  refine zl2_two (N := n) (I := fun j c m => ∃ l, l ≤ 22 * j ∧ PT c0 m0 l c m) (Q := fun x y => ∃ l c' m', l ≤ 176 ∧ x = some c' ∧ y = some (nI l, m') ∧ PT c0 m0 l c' m') (by omega) (fun j c m s t hj hI => ?_) (fun c m k1 k2 h1 h2 hI => ?_) ⟨0, Nat.zero_le _, h⟩
  · obtain ⟨l, l1, hI⟩ := hI
    have hf := hI.fr hr.2.1
    obtain ⟨l', t1, c', m', t2, t3, t4⟩ := line_bis hr hj (st := if nI j = v then 1 else 0) (v2 := v) (by by_cases q : nI j = v <;> simp [q]) hI (by omega)
    refine ⟨c', m', ?_, ?_, l', by omega, t4⟩
    · unfold gX7_write_17
      rw [if_neg (show ¬ nI 8 ≤ nI j from nI_ge (by omega) (by decide)), show Ln 67 = 8 from hf.ln8, gd_t (inB_nI (by omega) (by decide)), nI_clamp (by omega), show ldP c 67 j = some (66 + 5 + 3 * j) from hf.pf (by omega), Option.bind_some, hf.cnt, h0, hf.num (by omega), if_neg (nI_ge hj (by omega))]
      by_cases q : nI j = v
      · rw [if_pos q] at t2 ⊢
        rw [t2, Option.bind_some, nm_b, nI_1]
      · rw [if_neg q] at t2 ⊢
        rw [t2, Option.bind_some, nm_b, nI_1]
    · unfold gX12_report_22
      rw [show ldP m 362 13 = some 364 by rw [hI.2.2.2.1]; exact hr.2.2.2.2.1, Option.bind_some, ln364, gd_t (by decide), show ((0 : Int32)).toNatClampNeg = 0 from rfl, hI.row, h0, if_neg (nI_ge hj (by omega)), t3, Option.bind_some, nm_b, nI_1]
  · obtain ⟨l, l1, hI⟩ := hI
    have hf := hI.fr hr.2.1
    refine ⟨l, c, m, by omega, ?_, ?_, hI⟩
    · have := w17_end (v2 := v) hf h0 hn (8 - n) (by omega) (by omega) k1 (by omega)
      rwa [show 8 - (8 - n) = n by omega] at this
    · obtain ⟨k2, rfl⟩ : ∃ q, k2 = q + 1 := ⟨k2 - 1, by omega⟩
      show gX12_report_22 362 v (zl2 (gX12_report_22 362 v) k2) (nI n) m = _
      unfold gX12_report_22
      rw [show ldP m 362 13 = some 364 by rw [hI.2.2.2.1]; exact hr.2.2.2.2.1, Option.bind_some, ln364, gd_t (by decide), show ((0 : Int32)).toNatClampNeg = 0 from rfl, hI.row, h0, if_pos (nI_le (Nat.le_refl _) (by omega)), hI.2.2.2.2.2.2.2.1]
end RPT
