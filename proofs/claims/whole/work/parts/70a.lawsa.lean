/-! the law: its calls (1) -/
section LAWS
variable {kb : Int32 → Mem → Option (Int32 × Mem)} {v4 : Int32} {μ : Mem}
theorem law_232 {L : Nat} {xs : Nat → Int32} (h1 : inB (v4 + 1) L = true) (h2 : inB (v4 + 2) L = true) (h3 : inB (v4 + 3) L = true) (h4 : inB (v4 + 4) L = true) (h5 : inB (v4 + 5) L = true) (hI : INV μ μ) : ∃ μ', INV μ' μ' ∧ fL_law_232 L xs 0 362 381 kb v4 μ = kb (v4 + 6) μ' := by
  unfold fL_law_232
  simp only [h1, h2, h3, h4, h5, gdT, nm_b, ln381]
  have q := law_thr (kb := kb) (v4 := v4) (μ := μ) (fun k_4 m_5 => if k_4 = 1 then some (1, m_5) else none) (fv := fL_feed 0 (xs (v4 + 1).toNatClampNeg) (xs (v4 + 2).toNatClampNeg) (xs (v4 + 3).toNatClampNeg) (xs (v4 + 4).toNatClampNeg) (xs (v4 + 5).toNatClampNeg) 381 μ) (op_feed (xs (v4 + 1).toNatClampNeg) (xs (v4 + 2).toNatClampNeg) (xs (v4 + 3).toNatClampNeg) (xs (v4 + 4).toNatClampNeg) (xs (v4 + 5).toNatClampNeg)) rfl (fun k y m q => by obtain ⟨rfl, rfl⟩ := q; exact ⟨rfl, by decide⟩) hI
  exact q
theorem law_336 {L : Nat} {xs : Nat → Int32} (h1 : inB (v4 + 1) L = true) (h2 : inB (v4 + 2) L = true) (h3 : inB (v4 + 3) L = true) (h4 : inB (v4 + 4) L = true) (h5 : inB (v4 + 5) L = true) (hI : INV μ μ) : ∃ μ', INV μ' μ' ∧ fL_law_336 L xs 0 362 381 kb v4 μ = kb (v4 + 6) μ' := by
  unfold fL_law_336
  simp only [h1, gdT, nm_b, ln381]
  have q := law_thr (kb := kb) (v4 := v4) (μ := μ) (fun k_4 m_5 => if k_4 = 0 then some (1, m_5) else none) (fv := fL_truncate 0 (xs (v4 + 1).toNatClampNeg) 381 μ) (op_truncate (xs (v4 + 1).toNatClampNeg)) rfl (fun k y m q => by obtain ⟨rfl, rfl⟩ := q; exact ⟨rfl, by decide⟩) hI
  exact q
theorem law_392 {L : Nat} {xs : Nat → Int32} (h1 : inB (v4 + 1) L = true) (h2 : inB (v4 + 2) L = true) (h3 : inB (v4 + 3) L = true) (h4 : inB (v4 + 4) L = true) (h5 : inB (v4 + 5) L = true) (hI : INV μ μ) : ∃ μ', INV μ' μ' ∧ fL_law_392 L xs 0 362 381 kb v4 μ = kb (v4 + 6) μ' := by
  unfold fL_law_392
  simp only [gdT, nm_b, ln381]
  have q := law_thr (kb := kb) (v4 := v4) (μ := μ) (fun k_4 m_5 => if k_4 = 0 then some (1, m_5) else none) (fv := fL_readText 0 381 μ) (op_readText) rfl (fun k y m q => by obtain ⟨rfl, rfl⟩ := q; exact ⟨rfl, by decide⟩) hI
  exact q
theorem law_436 {L : Nat} {xs : Nat → Int32} (h1 : inB (v4 + 1) L = true) (h2 : inB (v4 + 2) L = true) (h3 : inB (v4 + 3) L = true) (h4 : inB (v4 + 4) L = true) (h5 : inB (v4 + 5) L = true) (hI : INV μ μ) : ∃ μ', INV μ' μ' ∧ fL_law_436 L xs 0 362 381 kb v4 μ = kb (v4 + 6) μ' := by
  unfold fL_law_436
  simp only [gdT, nm_b, ln381]
  have q := law_thr (kb := kb) (v4 := v4) (μ := μ) (fun k_4 m_5 => if k_4 = 0 then some (1, m_5) else none) (fv := fL_runScript 0 381 μ) (op_runScript) rfl (fun k y m q => by obtain ⟨rfl, rfl⟩ := q; exact ⟨rfl, by decide⟩) hI
  exact q
theorem law_480 {L : Nat} {xs : Nat → Int32} (h1 : inB (v4 + 1) L = true) (h2 : inB (v4 + 2) L = true) (h3 : inB (v4 + 3) L = true) (h4 : inB (v4 + 4) L = true) (h5 : inB (v4 + 5) L = true) (hI : INV μ μ) : ∃ μ', INV μ' μ' ∧ fL_law_480 L xs 0 362 381 kb v4 μ = kb (v4 + 6) μ' := by
  unfold fL_law_480
  simp only [gdT, nm_b, ln381]
  have q := law_l (kb := kb) (v4 := v4) (μ := μ) (op_errorCode) hI
  exact q
theorem law_493 {L : Nat} {xs : Nat → Int32} (h1 : inB (v4 + 1) L = true) (h2 : inB (v4 + 2) L = true) (h3 : inB (v4 + 3) L = true) (h4 : inB (v4 + 4) L = true) (h5 : inB (v4 + 5) L = true) (hI : INV μ μ) : ∃ μ', INV μ' μ' ∧ fL_law_493 L xs 0 362 381 kb v4 μ = kb (v4 + 6) μ' := by
  unfold fL_law_493
  simp only [gdT, nm_b, ln381]
  have q := law_l (kb := kb) (v4 := v4) (μ := μ) (op_errorPosition) hI
  exact q
theorem law_506 {L : Nat} {xs : Nat → Int32} (h1 : inB (v4 + 1) L = true) (h2 : inB (v4 + 2) L = true) (h3 : inB (v4 + 3) L = true) (h4 : inB (v4 + 4) L = true) (h5 : inB (v4 + 5) L = true) (hI : INV μ μ) : ∃ μ', INV μ' μ' ∧ fL_law_506 L xs 0 362 381 kb v4 μ = kb (v4 + 6) μ' := by
  unfold fL_law_506
  simp only [h1, gdT, nm_b, ln381]
  have q := law_thr (kb := kb) (v4 := v4) (μ := μ) (fun k_4 m_5 => if k_4 = 0 then some (1, m_5) else none) (fv := fL_setting 0 (xs (v4 + 1).toNatClampNeg) 381 μ) (op_setting (xs (v4 + 1).toNatClampNeg)) rfl (fun k y m q => by obtain ⟨rfl, rfl⟩ := q; exact ⟨rfl, by decide⟩) hI
  exact q
theorem law_562 {L : Nat} {xs : Nat → Int32} (h1 : inB (v4 + 1) L = true) (h2 : inB (v4 + 2) L = true) (h3 : inB (v4 + 3) L = true) (h4 : inB (v4 + 4) L = true) (h5 : inB (v4 + 5) L = true) (hI : INV μ μ) : ∃ μ', INV μ' μ' ∧ fL_law_562 L xs 0 362 381 kb v4 μ = kb (v4 + 6) μ' := by
  unfold fL_law_562
  simp only [h1, h2, gdT, nm_b, ln381]
  have q := law_thr (kb := kb) (v4 := v4) (μ := μ) (fun k_4 m_5 => if k_4 = 2 then some (1, m_5) else if k_4 = 0 then some (2, m_5) else none) (fv := fL_fighter 0 (xs (v4 + 1).toNatClampNeg) (xs (v4 + 2).toNatClampNeg) 381 μ) (op_fighter (xs (v4 + 1).toNatClampNeg) (xs (v4 + 2).toNatClampNeg)) rfl (fun k y m q => by rcases q with ⟨rfl, rfl⟩ | ⟨rfl, rfl⟩ <;> exact ⟨rfl, by decide⟩) hI
  exact q
theorem law_630 {L : Nat} {xs : Nat → Int32} (h1 : inB (v4 + 1) L = true) (h2 : inB (v4 + 2) L = true) (h3 : inB (v4 + 3) L = true) (h4 : inB (v4 + 4) L = true) (h5 : inB (v4 + 5) L = true) (hI : INV μ μ) : ∃ μ', INV μ' μ' ∧ fL_law_630 L xs 0 362 381 kb v4 μ = kb (v4 + 6) μ' := by
  unfold fL_law_630
  simp only [h1, h2, gdT, nm_b, ln381]
  have q := law_thr (kb := kb) (v4 := v4) (μ := μ) (fun k_4 m_5 => if k_4 = 2 then some (1, m_5) else none) (fv := fL_actKind 0 (xs (v4 + 1).toNatClampNeg) (xs (v4 + 2).toNatClampNeg) 381 μ) (op_actKind (xs (v4 + 1).toNatClampNeg) (xs (v4 + 2).toNatClampNeg)) rfl (fun k y m q => by obtain ⟨rfl, rfl⟩ := q; exact ⟨rfl, by decide⟩) hI
  exact q
theorem law_698 {L : Nat} {xs : Nat → Int32} (h1 : inB (v4 + 1) L = true) (h2 : inB (v4 + 2) L = true) (h3 : inB (v4 + 3) L = true) (h4 : inB (v4 + 4) L = true) (h5 : inB (v4 + 5) L = true) (hI : INV μ μ) : ∃ μ', INV μ' μ' ∧ fL_law_698 L xs 0 362 381 kb v4 μ = kb (v4 + 6) μ' := by
  unfold fL_law_698
  simp only [h1, h2, gdT, nm_b, ln381]
  have q := law_thr (kb := kb) (v4 := v4) (μ := μ) (fun k_4 m_5 => if k_4 = 2 then some (1, m_5) else none) (fv := fL_actNumber 0 (xs (v4 + 1).toNatClampNeg) (xs (v4 + 2).toNatClampNeg) 381 μ) (op_actNumber (xs (v4 + 1).toNatClampNeg) (xs (v4 + 2).toNatClampNeg)) rfl (fun k y m q => by obtain ⟨rfl, rfl⟩ := q; exact ⟨rfl, by decide⟩) hI
  exact q
theorem law_766 {L : Nat} {xs : Nat → Int32} (h1 : inB (v4 + 1) L = true) (h2 : inB (v4 + 2) L = true) (h3 : inB (v4 + 3) L = true) (h4 : inB (v4 + 4) L = true) (h5 : inB (v4 + 5) L = true) (hI : INV μ μ) : ∃ μ', INV μ' μ' ∧ fL_law_766 L xs 0 362 381 kb v4 μ = kb (v4 + 6) μ' := by
  unfold fL_law_766
  simp only [h1, h2, gdT, nm_b, ln381]
  have q := law_thr (kb := kb) (v4 := v4) (μ := μ) (fun k_4 m_5 => if k_4 = 2 then some (1, m_5) else none) (fv := fL_letter 0 (xs (v4 + 1).toNatClampNeg) (xs (v4 + 2).toNatClampNeg) 381 μ) (op_letter (xs (v4 + 1).toNatClampNeg) (xs (v4 + 2).toNatClampNeg)) rfl (fun k y m q => by obtain ⟨rfl, rfl⟩ := q; exact ⟨rfl, by decide⟩) hI
  exact q
theorem law_834 {L : Nat} {xs : Nat → Int32} (h1 : inB (v4 + 1) L = true) (h2 : inB (v4 + 2) L = true) (h3 : inB (v4 + 3) L = true) (h4 : inB (v4 + 4) L = true) (h5 : inB (v4 + 5) L = true) (hI : INV μ μ) : ∃ μ', INV μ' μ' ∧ fL_law_834 L xs 0 362 381 kb v4 μ = kb (v4 + 6) μ' := by
  unfold fL_law_834
  simp only [h1, gdT, nm_b, ln381]
  have q := law_thr (kb := kb) (v4 := v4) (μ := μ) (fun k_4 m_5 => if k_4 = 2 then some (1, m_5) else none) (fv := fL_ticksTo 0 (xs (v4 + 1).toNatClampNeg) 381 μ) (op_ticksTo (xs (v4 + 1).toNatClampNeg)) rfl (fun k y m q => by obtain ⟨rfl, rfl⟩ := q; exact ⟨rfl, by decide⟩) hI
  exact q
theorem law_890 {L : Nat} {xs : Nat → Int32} (h1 : inB (v4 + 1) L = true) (h2 : inB (v4 + 2) L = true) (h3 : inB (v4 + 3) L = true) (h4 : inB (v4 + 4) L = true) (h5 : inB (v4 + 5) L = true) (hI : INV μ μ) : ∃ μ', INV μ' μ' ∧ fL_law_890 L xs 0 362 381 kb v4 μ = kb (v4 + 6) μ' := by
  unfold fL_law_890
  simp only [h1, gdT, nm_b, ln381]
  have q := law_l (kb := kb) (v4 := v4) (μ := μ) (op_row (xs (v4 + 1).toNatClampNeg)) hI
  exact q
theorem law_999 {L : Nat} {xs : Nat → Int32} (h1 : inB (v4 + 1) L = true) (h2 : inB (v4 + 2) L = true) (h3 : inB (v4 + 3) L = true) (h4 : inB (v4 + 4) L = true) (h5 : inB (v4 + 5) L = true) (hI : INV μ μ) : ∃ μ', INV μ' μ' ∧ fL_law_999 L xs 0 362 381 kb v4 μ = kb (v4 + 6) μ' := by
  unfold fL_law_999
  simp only [h1, gdT, nm_b, ln381]
  have q := law_thr (kb := kb) (v4 := v4) (μ := μ) (fun k_4 m_5 => if k_4 = 0 then some (1, m_5) else none) (fv := fL_turn 0 (xs (v4 + 1).toNatClampNeg) 381 μ) (op_turn (xs (v4 + 1).toNatClampNeg)) rfl (fun k y m q => by obtain ⟨rfl, rfl⟩ := q; exact ⟨rfl, by decide⟩) hI
  exact q
theorem law_1055 {L : Nat} {xs : Nat → Int32} (h1 : inB (v4 + 1) L = true) (h2 : inB (v4 + 2) L = true) (h3 : inB (v4 + 3) L = true) (h4 : inB (v4 + 4) L = true) (h5 : inB (v4 + 5) L = true) (hI : INV μ μ) : ∃ μ', INV μ' μ' ∧ fL_law_1055 L xs 0 362 381 kb v4 μ = kb (v4 + 6) μ' := by
  unfold fL_law_1055
  simp only [h1, gdT, nm_b, ln381]
  have q := law_thr (kb := kb) (v4 := v4) (μ := μ) (fun k_4 m_5 => if k_4 = 0 then some (1, m_5) else none) (fv := fL_turnTime 0 (xs (v4 + 1).toNatClampNeg) 381 μ) (op_turnTime (xs (v4 + 1).toNatClampNeg)) rfl (fun k y m q => by obtain ⟨rfl, rfl⟩ := q; exact ⟨rfl, by decide⟩) hI
  exact q
theorem law_1111 {L : Nat} {xs : Nat → Int32} (h1 : inB (v4 + 1) L = true) (h2 : inB (v4 + 2) L = true) (h3 : inB (v4 + 3) L = true) (h4 : inB (v4 + 4) L = true) (h5 : inB (v4 + 5) L = true) (hI : INV μ μ) : ∃ μ', INV μ' μ' ∧ fL_law_1111 L xs 0 362 381 kb v4 μ = kb (v4 + 6) μ' := by
  unfold fL_law_1111
  simp only [h1, gdT, nm_b, ln381]
  have q := law_thr (kb := kb) (v4 := v4) (μ := μ) (fun k_4 m_5 => if k_4 = 0 then some (1, m_5) else none) (fv := fL_turnKind 0 (xs (v4 + 1).toNatClampNeg) 381 μ) (op_turnKind (xs (v4 + 1).toNatClampNeg)) rfl (fun k y m q => by obtain ⟨rfl, rfl⟩ := q; exact ⟨rfl, by decide⟩) hI
  exact q
theorem law_1167 {L : Nat} {xs : Nat → Int32} (h1 : inB (v4 + 1) L = true) (h2 : inB (v4 + 2) L = true) (h3 : inB (v4 + 3) L = true) (h4 : inB (v4 + 4) L = true) (h5 : inB (v4 + 5) L = true) (hI : INV μ μ) : ∃ μ', INV μ' μ' ∧ fL_law_1167 L xs 0 362 381 kb v4 μ = kb (v4 + 6) μ' := by
  unfold fL_law_1167
  simp only [h1, h2, gdT, nm_b, ln381]
  have q := law_thr (kb := kb) (v4 := v4) (μ := μ) (fun k_4 m_5 => if k_4 = 2 then some (1, m_5) else if k_4 = 0 then some (2, m_5) else none) (fv := fL_lifeIn 0 (xs (v4 + 1).toNatClampNeg) (xs (v4 + 2).toNatClampNeg) 381 μ) (op_lifeIn (xs (v4 + 1).toNatClampNeg) (xs (v4 + 2).toNatClampNeg)) rfl (fun k y m q => by rcases q with ⟨rfl, rfl⟩ | ⟨rfl, rfl⟩ <;> exact ⟨rfl, by decide⟩) hI
  exact q
theorem law_1235 {L : Nat} {xs : Nat → Int32} (h1 : inB (v4 + 1) L = true) (h2 : inB (v4 + 2) L = true) (h3 : inB (v4 + 3) L = true) (h4 : inB (v4 + 4) L = true) (h5 : inB (v4 + 5) L = true) (hI : INV μ μ) : ∃ μ', INV μ' μ' ∧ fL_law_1235 L xs 0 362 381 kb v4 μ = kb (v4 + 6) μ' := by
  unfold fL_law_1235
  simp only [h1, h2, gdT, nm_b, ln381]
  have q := law_thr (kb := kb) (v4 := v4) (μ := μ) (fun k_4 m_5 => if k_4 = 2 then some (1, m_5) else if k_4 = 0 then some (2, m_5) else none) (fv := fL_gaugeIn 0 (xs (v4 + 1).toNatClampNeg) (xs (v4 + 2).toNatClampNeg) 381 μ) (op_gaugeIn (xs (v4 + 1).toNatClampNeg) (xs (v4 + 2).toNatClampNeg)) rfl (fun k y m q => by rcases q with ⟨rfl, rfl⟩ | ⟨rfl, rfl⟩ <;> exact ⟨rfl, by decide⟩) hI
  exact q
theorem law_1303 {L : Nat} {xs : Nat → Int32} (h1 : inB (v4 + 1) L = true) (h2 : inB (v4 + 2) L = true) (h3 : inB (v4 + 3) L = true) (h4 : inB (v4 + 4) L = true) (h5 : inB (v4 + 5) L = true) (hI : INV μ μ) : ∃ μ', INV μ' μ' ∧ fL_law_1303 L xs 0 362 381 kb v4 μ = kb (v4 + 6) μ' := by
  unfold fL_law_1303
  simp only [h1, h2, gdT, nm_b, ln381]
  have q := law_thr (kb := kb) (v4 := v4) (μ := μ) (fun k_4 m_5 => if k_4 = 2 then some (1, m_5) else if k_4 = 0 then some (2, m_5) else none) (fv := fL_turnsOf 0 (xs (v4 + 1).toNatClampNeg) (xs (v4 + 2).toNatClampNeg) 381 μ) (op_turnsOf (xs (v4 + 1).toNatClampNeg) (xs (v4 + 2).toNatClampNeg)) rfl (fun k y m q => by rcases q with ⟨rfl, rfl⟩ | ⟨rfl, rfl⟩ <;> exact ⟨rfl, by decide⟩) hI
  exact q
theorem law_1371 {L : Nat} {xs : Nat → Int32} (h1 : inB (v4 + 1) L = true) (h2 : inB (v4 + 2) L = true) (h3 : inB (v4 + 3) L = true) (h4 : inB (v4 + 4) L = true) (h5 : inB (v4 + 5) L = true) (hI : INV μ μ) : ∃ μ', INV μ' μ' ∧ fL_law_1371 L xs 0 362 381 kb v4 μ = kb (v4 + 6) μ' := by
  unfold fL_law_1371
  simp only [h1, gdT, nm_b, ln381]
  have q := law_thr (kb := kb) (v4 := v4) (μ := μ) (fun k_4 m_5 => if k_4 = 0 then some (1, m_5) else none) (fv := fL_longestRun 0 (xs (v4 + 1).toNatClampNeg) 381 μ) (op_longestRun (xs (v4 + 1).toNatClampNeg)) rfl (fun k y m q => by obtain ⟨rfl, rfl⟩ := q; exact ⟨rfl, by decide⟩) hI
  exact q
theorem law_1427 {L : Nat} {xs : Nat → Int32} (h1 : inB (v4 + 1) L = true) (h2 : inB (v4 + 2) L = true) (h3 : inB (v4 + 3) L = true) (h4 : inB (v4 + 4) L = true) (h5 : inB (v4 + 5) L = true) (hI : INV μ μ) : ∃ μ', INV μ' μ' ∧ fL_law_1427 L xs 0 362 381 kb v4 μ = kb (v4 + 6) μ' := by
  unfold fL_law_1427
  simp only [gdT, nm_b, ln381]
  have q := law_ns (kb := kb) (v4 := v4) (μ := μ) (op_endsIn) hI
  exact q
theorem law_1440 {L : Nat} {xs : Nat → Int32} (h1 : inB (v4 + 1) L = true) (h2 : inB (v4 + 2) L = true) (h3 : inB (v4 + 3) L = true) (h4 : inB (v4 + 4) L = true) (h5 : inB (v4 + 5) L = true) (hI : INV μ μ) : ∃ μ', INV μ' μ' ∧ fL_law_1440 L xs 0 362 381 kb v4 μ = kb (v4 + 6) μ' := by
  unfold fL_law_1440
  simp only [gdT, nm_b, ln381]
  have q := law_ns (kb := kb) (v4 := v4) (μ := μ) (op_winner) hI
  exact q
end LAWS
