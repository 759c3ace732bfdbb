/-! the law: to its end -/
section LAWE
variable {kb : Int32 → Mem → Option (Int32 × Mem)} {μ : Mem}
theorem law_step {L : Nat} {xs : Nat → Int32} {v4 : Int32} (w : Int32) (h1 : inB (v4 + 1) L = true) (h2 : inB (v4 + 2) L = true) (h3 : inB (v4 + 3) L = true) (h4 : inB (v4 + 4) L = true) (h5 : inB (v4 + 5) L = true) (hI : INV μ μ) : ∃ μ', INV μ' μ' ∧ (if w = 0 then fL_law_232 L xs 0 362 381 kb v4 μ else if w = 1 then fL_law_336 L xs 0 362 381 kb v4 μ else if w = 2 then fL_law_392 L xs 0 362 381 kb v4 μ else if w = 3 then fL_law_436 L xs 0 362 381 kb v4 μ else if w = 4 then fL_law_480 L xs 0 362 381 kb v4 μ else if w = 5 then fL_law_493 L xs 0 362 381 kb v4 μ else if w = 6 then fL_law_506 L xs 0 362 381 kb v4 μ else if w = 7 then fL_law_562 L xs 0 362 381 kb v4 μ else if w = 8 then fL_law_630 L xs 0 362 381 kb v4 μ else if w = 9 then fL_law_698 L xs 0 362 381 kb v4 μ else if w = 10 then fL_law_766 L xs 0 362 381 kb v4 μ else if w = 11 then fL_law_834 L xs 0 362 381 kb v4 μ else if w = 12 then fL_law_890 L xs 0 362 381 kb v4 μ else if w = 13 then fL_law_915 L xs 0 362 381 kb v4 μ else if w = 14 then fL_law_956 L xs 0 362 381 kb v4 μ else if w = 15 then fL_law_999 L xs 0 362 381 kb v4 μ else if w = 16 then fL_law_1055 L xs 0 362 381 kb v4 μ else if w = 17 then fL_law_1111 L xs 0 362 381 kb v4 μ else if w = 18 then fL_law_1167 L xs 0 362 381 kb v4 μ else if w = 19 then fL_law_1235 L xs 0 362 381 kb v4 μ else if w = 20 then fL_law_1303 L xs 0 362 381 kb v4 μ else if w = 21 then fL_law_1371 L xs 0 362 381 kb v4 μ else if w = 22 then fL_law_1427 L xs 0 362 381 kb v4 μ else if w = 23 then fL_law_1440 L xs 0 362 381 kb v4 μ else if w = 24 then fL_law_1453 L xs 0 362 381 kb v4 μ else if w = 25 then fL_law_1509 L xs 0 362 381 kb v4 μ else if w = 26 then fL_law_1522 L xs 0 362 381 kb v4 μ else if w = 27 then fL_law_1535 L xs 0 362 381 kb v4 μ else if w = 28 then fL_law_1591 L xs 0 362 381 kb v4 μ else if w = 29 then fL_law_1659 L xs 0 362 381 kb v4 μ else if w = 30 then fL_law_1715 L xs 0 362 381 kb v4 μ else if w = 31 then fL_law_1771 L xs 0 362 381 kb v4 μ else if w = 32 then fL_law_1827 L xs 0 362 381 kb v4 μ else if w = 33 then fL_law_1895 L xs 0 362 381 kb v4 μ else if w = 34 then fL_law_1963 L xs 0 362 381 kb v4 μ else if w = 35 then fL_law_2026 L xs 0 362 381 kb v4 μ else if w = 36 then fL_law_2094 L xs 0 362 381 kb v4 μ else if w = 37 then fL_law_2162 L xs 0 362 381 kb v4 μ else if w = 38 then fL_law_2218 L xs 0 362 381 kb v4 μ else if w = 39 then fL_law_2310 L xs 0 362 381 kb v4 μ else if w = 40 then fL_law_2323 L xs 0 362 381 kb v4 μ else if w = 41 then fL_law_2379 L xs 0 362 381 kb v4 μ else if w = 42 then fL_law_2392 L xs 0 362 381 kb v4 μ else if w = 43 then fL_law_2405 L xs 0 362 381 kb v4 μ else fL_law_2449 L xs 0 362 381 kb v4 μ) = kb (v4 + 6) μ' := by
  by_cases e : w = 0
  · rw [if_pos e]; exact law_232 h1 h2 h3 h4 h5 hI
  rw [if_neg e]; clear e
  by_cases e : w = 1
  · rw [if_pos e]; exact law_336 h1 h2 h3 h4 h5 hI
  rw [if_neg e]; clear e
  by_cases e : w = 2
  · rw [if_pos e]; exact law_392 h1 h2 h3 h4 h5 hI
  rw [if_neg e]; clear e
  by_cases e : w = 3
  · rw [if_pos e]; exact law_436 h1 h2 h3 h4 h5 hI
  rw [if_neg e]; clear e
  by_cases e : w = 4
  · rw [if_pos e]; exact law_480 h1 h2 h3 h4 h5 hI
  rw [if_neg e]; clear e
  by_cases e : w = 5
  · rw [if_pos e]; exact law_493 h1 h2 h3 h4 h5 hI
  rw [if_neg e]; clear e
  by_cases e : w = 6
  · rw [if_pos e]; exact law_506 h1 h2 h3 h4 h5 hI
  rw [if_neg e]; clear e
  by_cases e : w = 7
  · rw [if_pos e]; exact law_562 h1 h2 h3 h4 h5 hI
  rw [if_neg e]; clear e
  by_cases e : w = 8
  · rw [if_pos e]; exact law_630 h1 h2 h3 h4 h5 hI
  rw [if_neg e]; clear e
  by_cases e : w = 9
  · rw [if_pos e]; exact law_698 h1 h2 h3 h4 h5 hI
  rw [if_neg e]; clear e
  by_cases e : w = 10
  · rw [if_pos e]; exact law_766 h1 h2 h3 h4 h5 hI
  rw [if_neg e]; clear e
  by_cases e : w = 11
  · rw [if_pos e]; exact law_834 h1 h2 h3 h4 h5 hI
  rw [if_neg e]; clear e
  by_cases e : w = 12
  · rw [if_pos e]; exact law_890 h1 h2 h3 h4 h5 hI
  rw [if_neg e]; clear e
  by_cases e : w = 13
  · rw [if_pos e]; exact law_915 hI
  rw [if_neg e]; clear e
  by_cases e : w = 14
  · rw [if_pos e]; exact law_956 hI
  rw [if_neg e]; clear e
  by_cases e : w = 15
  · rw [if_pos e]; exact law_999 h1 h2 h3 h4 h5 hI
  rw [if_neg e]; clear e
  by_cases e : w = 16
  · rw [if_pos e]; exact law_1055 h1 h2 h3 h4 h5 hI
  rw [if_neg e]; clear e
  by_cases e : w = 17
  · rw [if_pos e]; exact law_1111 h1 h2 h3 h4 h5 hI
  rw [if_neg e]; clear e
  by_cases e : w = 18
  · rw [if_pos e]; exact law_1167 h1 h2 h3 h4 h5 hI
  rw [if_neg e]; clear e
  by_cases e : w = 19
  · rw [if_pos e]; exact law_1235 h1 h2 h3 h4 h5 hI
  rw [if_neg e]; clear e
  by_cases e : w = 20
  · rw [if_pos e]; exact law_1303 h1 h2 h3 h4 h5 hI
  rw [if_neg e]; clear e
  by_cases e : w = 21
  · rw [if_pos e]; exact law_1371 h1 h2 h3 h4 h5 hI
  rw [if_neg e]; clear e
  by_cases e : w = 22
  · rw [if_pos e]; exact law_1427 h1 h2 h3 h4 h5 hI
  rw [if_neg e]; clear e
  by_cases e : w = 23
  · rw [if_pos e]; exact law_1440 h1 h2 h3 h4 h5 hI
  rw [if_neg e]; clear e
  by_cases e : w = 24
  · rw [if_pos e]; exact law_1453 h1 h2 h3 h4 h5 hI
  rw [if_neg e]; clear e
  by_cases e : w = 25
  · rw [if_pos e]; exact law_1509 h1 h2 h3 h4 h5 hI
  rw [if_neg e]; clear e
  by_cases e : w = 26
  · rw [if_pos e]; exact law_1522 h1 h2 h3 h4 h5 hI
  rw [if_neg e]; clear e
  by_cases e : w = 27
  · rw [if_pos e]; exact law_1535 h1 h2 h3 h4 h5 hI
  rw [if_neg e]; clear e
  by_cases e : w = 28
  · rw [if_pos e]; exact law_1591 h1 h2 h3 h4 h5 hI
  rw [if_neg e]; clear e
  by_cases e : w = 29
  · rw [if_pos e]; exact law_1659 h1 h2 h3 h4 h5 hI
  rw [if_neg e]; clear e
  by_cases e : w = 30
  · rw [if_pos e]; exact law_1715 h1 h2 h3 h4 h5 hI
  rw [if_neg e]; clear e
  by_cases e : w = 31
  · rw [if_pos e]; exact law_1771 h1 h2 h3 h4 h5 hI
  rw [if_neg e]; clear e
  by_cases e : w = 32
  · rw [if_pos e]; exact law_1827 h1 h2 h3 h4 h5 hI
  rw [if_neg e]; clear e
  by_cases e : w = 33
  · rw [if_pos e]; exact law_1895 h1 h2 h3 h4 h5 hI
  rw [if_neg e]; clear e
  by_cases e : w = 34
  · rw [if_pos e]; exact law_1963 h1 h2 h3 h4 h5 hI
  rw [if_neg e]; clear e
  by_cases e : w = 35
  · rw [if_pos e]; exact law_2026 h1 h2 h3 h4 h5 hI
  rw [if_neg e]; clear e
  by_cases e : w = 36
  · rw [if_pos e]; exact law_2094 h1 h2 h3 h4 h5 hI
  rw [if_neg e]; clear e
  by_cases e : w = 37
  · rw [if_pos e]; exact law_2162 h1 h2 h3 h4 h5 hI
  rw [if_neg e]; clear e
  by_cases e : w = 38
  · rw [if_pos e]; exact law_2218 h1 h2 h3 h4 h5 hI
  rw [if_neg e]; clear e
  by_cases e : w = 39
  · rw [if_pos e]; exact law_2310 h1 h2 h3 h4 h5 hI
  rw [if_neg e]; clear e
  by_cases e : w = 40
  · rw [if_pos e]; exact law_2323 h1 h2 h3 h4 h5 hI
  rw [if_neg e]; clear e
  by_cases e : w = 41
  · rw [if_pos e]; exact law_2379 h1 h2 h3 h4 h5 hI
  rw [if_neg e]; clear e
  by_cases e : w = 42
  · rw [if_pos e]; exact law_2392 h1 h2 h3 h4 h5 hI
  rw [if_neg e]; clear e
  by_cases e : w = 43
  · rw [if_pos e]; exact law_2405 h1 h2 h3 h4 h5 hI
  rw [if_neg e]; clear e
  exact law_2449 hI
theorem law_run {L : Nat} {xs : Nat → Int32} (hL : L ≤ 3072) : ∀ fu i μ, INV μ μ → i ≤ L + 6 → L + 6 < 6 * fu + i → ∃ μr, zl2 (gL_law L xs 0 362 381) fu (nI i) μ = some (1, μr) := by
  intro fu
  induction fu with
  | zero =>
    intro i μ hI h1 h2
    exact absurd h2 (by omega)
  | succ fu ih =>
    intro i μ hI h1 h2
    by_cases e : L < i + 6
    · refine ⟨μ, ?_⟩
      show gL_law L xs 0 362 381 (zl2 (gL_law L xs 0 362 381) fu) (nI i) μ = _
      unfold gL_law
      rw [if_pos (show Int32.ofNat L - 6 < nI i by
        rw [i32_lt, nI_toInt (by omega), show (Int32.ofNat L - 6 : Int32) = nI L - nI 6 from rfl, pk_sub_toInt (by omega) (by decide)]
        omega)]
    · have hg : ∀ k, k < 6 → inB (nI i + nI k) L = true := fun k hk => by
        rw [nI_add]
        exact inB_nI (by omega) (by omega)
      obtain ⟨μ', hI', q⟩ := law_step (kb := zl2 (gL_law L xs 0 362 381) fu) (L := L) (xs := xs) (v4 := nI i) ((xs (nI i).toNatClampNeg) &&& 63) (hg 1 (by decide)) (hg 2 (by decide)) (hg 3 (by decide)) (hg 4 (by decide)) (hg 5 (by decide)) hI
      obtain ⟨μr, q2⟩ := ih (i + 6) μ' hI' (by omega) (by omega)
      refine ⟨μr, ?_⟩
      show gL_law L xs 0 362 381 (zl2 (gL_law L xs 0 362 381) fu) (nI i) μ = _
      unfold gL_law
      rw [if_neg (show ¬ Int32.ofNat L - 6 < nI i by
        rw [i32_lt, nI_toInt (by omega), show (Int32.ofNat L - 6 : Int32) = nI L - nI 6 from rfl, pk_sub_toInt (by omega) (by decide)]
        omega), gd_t (inB_nI (by omega) (by omega)), nm_b]
      exact q.trans (by rw [show nI i + 6 = nI (i + 6) from nI_add i 6]; exact q2)
/-- the whole script, from the start -/
theorem law_all {L : Nat} {xs : Nat → Int32} (hL : L ≤ 3072) : ∃ μr, fL_law L xs 0 362 381 0 zC = some (1, μr) := by
  unfold fL_law
  exact law_run hL 600 0 zC INV.z (by omega) (by omega)
end LAWE
