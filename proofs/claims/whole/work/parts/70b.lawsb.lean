/-! the law: its calls (2) -/
section LAWS
variable {kb : Int32 → Mem → Option (Int32 × Mem)} {v4 : Int32} {μ : Mem}
theorem law_1453 {L : Nat} {xs : Nat → Int32} (h1 : inB (v4 + 1) L = true) (h2 : inB (v4 + 2) L = true) (h3 : inB (v4 + 3) L = true) (h4 : inB (v4 + 4) L = true) (h5 : inB (v4 + 5) L = true) (hI : INV μ μ) : ∃ μ', INV μ' μ' ∧ fL_law_1453 L xs 0 362 381 kb v4 μ = kb (v4 + 6) μ' := by
  unfold fL_law_1453
  simp only [h1, gdT, nm_b, ln381]
  have q := law_thr (kb := kb) (v4 := v4) (μ := μ) (fun k_4 m_5 => if k_4 = 2 then some (1, m_5) else none) (fv := fL_firstLoss 0 (xs (v4 + 1).toNatClampNeg) 381 μ) (op_firstLoss (xs (v4 + 1).toNatClampNeg)) rfl (fun k y m q => by obtain ⟨rfl, rfl⟩ := q; exact ⟨rfl, by decide⟩) hI
  exact q
theorem law_1509 {L : Nat} {xs : Nat → Int32} (h1 : inB (v4 + 1) L = true) (h2 : inB (v4 + 2) L = true) (h3 : inB (v4 + 3) L = true) (h4 : inB (v4 + 4) L = true) (h5 : inB (v4 + 5) L = true) (hI : INV μ μ) : ∃ μ', INV μ' μ' ∧ fL_law_1509 L xs 0 362 381 kb v4 μ = kb (v4 + 6) μ' := by
  unfold fL_law_1509
  simp only [gdT, nm_b, ln381]
  have q := law_ns (kb := kb) (v4 := v4) (μ := μ) (op_repeatIn) hI
  exact q
theorem law_1522 {L : Nat} {xs : Nat → Int32} (h1 : inB (v4 + 1) L = true) (h2 : inB (v4 + 2) L = true) (h3 : inB (v4 + 3) L = true) (h4 : inB (v4 + 4) L = true) (h5 : inB (v4 + 5) L = true) (hI : INV μ μ) : ∃ μ', INV μ' μ' ∧ fL_law_1522 L xs 0 362 381 kb v4 μ = kb (v4 + 6) μ' := by
  unfold fL_law_1522
  simp only [gdT, nm_b, ln381]
  have q := law_ns (kb := kb) (v4 := v4) (μ := μ) (op_cycle) hI
  exact q
theorem law_1535 {L : Nat} {xs : Nat → Int32} (h1 : inB (v4 + 1) L = true) (h2 : inB (v4 + 2) L = true) (h3 : inB (v4 + 3) L = true) (h4 : inB (v4 + 4) L = true) (h5 : inB (v4 + 5) L = true) (hI : INV μ μ) : ∃ μ', INV μ' μ' ∧ fL_law_1535 L xs 0 362 381 kb v4 μ = kb (v4 + 6) μ' := by
  unfold fL_law_1535
  simp only [h1, gdT, nm_b, ln381]
  have q := law_thr (kb := kb) (v4 := v4) (μ := μ) (fun k_4 m_5 => if k_4 = 2 then some (1, m_5) else none) (fv := fL_leastSpeed 0 (xs (v4 + 1).toNatClampNeg) 381 μ) (op_leastSpeed (xs (v4 + 1).toNatClampNeg)) rfl (fun k y m q => by obtain ⟨rfl, rfl⟩ := q; exact ⟨rfl, by decide⟩) hI
  exact q
theorem law_1591 {L : Nat} {xs : Nat → Int32} (h1 : inB (v4 + 1) L = true) (h2 : inB (v4 + 2) L = true) (h3 : inB (v4 + 3) L = true) (h4 : inB (v4 + 4) L = true) (h5 : inB (v4 + 5) L = true) (hI : INV μ μ) : ∃ μ', INV μ' μ' ∧ fL_law_1591 L xs 0 362 381 kb v4 μ = kb (v4 + 6) μ' := by
  unfold fL_law_1591
  simp only [h1, h2, gdT, nm_b, ln381]
  have q := law_thr (kb := kb) (v4 := v4) (μ := μ) (fun k_4 m_5 => if k_4 = 0 then some (1, m_5) else none) (fv := fL_bestPush 0 (xs (v4 + 1).toNatClampNeg) (xs (v4 + 2).toNatClampNeg) 381 μ) (op_bestPush (xs (v4 + 1).toNatClampNeg) (xs (v4 + 2).toNatClampNeg)) rfl (fun k y m q => by obtain ⟨rfl, rfl⟩ := q; exact ⟨rfl, by decide⟩) hI
  exact q
theorem law_1659 {L : Nat} {xs : Nat → Int32} (h1 : inB (v4 + 1) L = true) (h2 : inB (v4 + 2) L = true) (h3 : inB (v4 + 3) L = true) (h4 : inB (v4 + 4) L = true) (h5 : inB (v4 + 5) L = true) (hI : INV μ μ) : ∃ μ', INV μ' μ' ∧ fL_law_1659 L xs 0 362 381 kb v4 μ = kb (v4 + 6) μ' := by
  unfold fL_law_1659
  simp only [h1, gdT, nm_b, ln381]
  have q := law_thr (kb := kb) (v4 := v4) (μ := μ) (fun k_4 m_5 => if k_4 = 2 then some (1, m_5) else none) (fv := fL_bestSwap 0 (xs (v4 + 1).toNatClampNeg) 381 μ) (op_bestSwap (xs (v4 + 1).toNatClampNeg)) rfl (fun k y m q => by obtain ⟨rfl, rfl⟩ := q; exact ⟨rfl, by decide⟩) hI
  exact q
theorem law_1715 {L : Nat} {xs : Nat → Int32} (h1 : inB (v4 + 1) L = true) (h2 : inB (v4 + 2) L = true) (h3 : inB (v4 + 3) L = true) (h4 : inB (v4 + 4) L = true) (h5 : inB (v4 + 5) L = true) (hI : INV μ μ) : ∃ μ', INV μ' μ' ∧ fL_law_1715 L xs 0 362 381 kb v4 μ = kb (v4 + 6) μ' := by
  unfold fL_law_1715
  simp only [h1, gdT, nm_b, ln381]
  have q := law_thr (kb := kb) (v4 := v4) (μ := μ) (fun k_4 m_5 => if k_4 = 2 then some (1, m_5) else none) (fv := fL_bestPlace 0 (xs (v4 + 1).toNatClampNeg) 381 μ) (op_bestPlace (xs (v4 + 1).toNatClampNeg)) rfl (fun k y m q => by obtain ⟨rfl, rfl⟩ := q; exact ⟨rfl, by decide⟩) hI
  exact q
theorem law_1771 {L : Nat} {xs : Nat → Int32} (h1 : inB (v4 + 1) L = true) (h2 : inB (v4 + 2) L = true) (h3 : inB (v4 + 3) L = true) (h4 : inB (v4 + 4) L = true) (h5 : inB (v4 + 5) L = true) (hI : INV μ μ) : ∃ μ', INV μ' μ' ∧ fL_law_1771 L xs 0 362 381 kb v4 μ = kb (v4 + 6) μ' := by
  unfold fL_law_1771
  simp only [h1, gdT, nm_b, ln381]
  have q := law_thr (kb := kb) (v4 := v4) (μ := μ) (fun k_4 m_5 => if k_4 = 0 then some (1, m_5) else if k_4 = 1 then some (2, m_5) else none) (fv := fL_play 0 (xs (v4 + 1).toNatClampNeg) 381 μ) (op_play (xs (v4 + 1).toNatClampNeg)) rfl (fun k y m q => by rcases q with ⟨rfl, rfl⟩ | ⟨rfl, rfl⟩ <;> exact ⟨rfl, by decide⟩) hI
  exact q
theorem law_1827 {L : Nat} {xs : Nat → Int32} (h1 : inB (v4 + 1) L = true) (h2 : inB (v4 + 2) L = true) (h3 : inB (v4 + 3) L = true) (h4 : inB (v4 + 4) L = true) (h5 : inB (v4 + 5) L = true) (hI : INV μ μ) : ∃ μ', INV μ' μ' ∧ fL_law_1827 L xs 0 362 381 kb v4 μ = kb (v4 + 6) μ' := by
  unfold fL_law_1827
  simp only [h1, h2, gdT, nm_b, ln381]
  have q := law_thr (kb := kb) (v4 := v4) (μ := μ) (fun k_4 m_5 => if k_4 = 2 then some (1, m_5) else if k_4 = 0 then some (2, m_5) else if k_4 = 1 then some (3, m_5) else none) (fv := fL_push 0 (xs (v4 + 1).toNatClampNeg) (xs (v4 + 2).toNatClampNeg) 381 μ) (op_push (xs (v4 + 1).toNatClampNeg) (xs (v4 + 2).toNatClampNeg)) rfl (fun k y m q => by rcases q with ⟨rfl, rfl⟩ | ⟨rfl, rfl⟩ | ⟨rfl, rfl⟩ <;> exact ⟨rfl, by decide⟩) hI
  exact q
theorem law_1895 {L : Nat} {xs : Nat → Int32} (h1 : inB (v4 + 1) L = true) (h2 : inB (v4 + 2) L = true) (h3 : inB (v4 + 3) L = true) (h4 : inB (v4 + 4) L = true) (h5 : inB (v4 + 5) L = true) (hI : INV μ μ) : ∃ μ', INV μ' μ' ∧ fL_law_1895 L xs 0 362 381 kb v4 μ = kb (v4 + 6) μ' := by
  unfold fL_law_1895
  simp only [h1, h2, gdT, nm_b, ln381]
  have q := law_thr (kb := kb) (v4 := v4) (μ := μ) (fun k_4 m_5 => if k_4 = 2 then some (1, m_5) else if k_4 = 0 then some (2, m_5) else if k_4 = 1 then some (3, m_5) else none) (fv := fL_lift 0 (xs (v4 + 1).toNatClampNeg) (xs (v4 + 2).toNatClampNeg) 381 μ) (op_lift (xs (v4 + 1).toNatClampNeg) (xs (v4 + 2).toNatClampNeg)) rfl (fun k y m q => by rcases q with ⟨rfl, rfl⟩ | ⟨rfl, rfl⟩ | ⟨rfl, rfl⟩ <;> exact ⟨rfl, by decide⟩) hI
  exact q
theorem law_1963 {L : Nat} {xs : Nat → Int32} (h1 : inB (v4 + 1) L = true) (h2 : inB (v4 + 2) L = true) (h3 : inB (v4 + 3) L = true) (h4 : inB (v4 + 4) L = true) (h5 : inB (v4 + 5) L = true) (hI : INV μ μ) : ∃ μ', INV μ' μ' ∧ fL_law_1963 L xs 0 362 381 kb v4 μ = kb (v4 + 6) μ' := by
  unfold fL_law_1963
  simp only [h1, gdT, nm_b, ln381]
  have q := law_thb (kb := kb) (v4 := v4) (μ := μ) (fun k_4 m_5 => if k_4 = 2 then some (1, m_5) else if k_4 = 1 then some (2, m_5) else none) (fv := fL_extra 0 (xs (v4 + 1).toNatClampNeg) 381 μ) (op_extra (xs (v4 + 1).toNatClampNeg)) rfl (fun k y m q => by rcases q with ⟨rfl, rfl⟩ | ⟨rfl, rfl⟩ <;> exact ⟨rfl, by decide⟩) hI
  exact q
theorem law_2026 {L : Nat} {xs : Nat → Int32} (h1 : inB (v4 + 1) L = true) (h2 : inB (v4 + 2) L = true) (h3 : inB (v4 + 3) L = true) (h4 : inB (v4 + 4) L = true) (h5 : inB (v4 + 5) L = true) (hI : INV μ μ) : ∃ μ', INV μ' μ' ∧ fL_law_2026 L xs 0 362 381 kb v4 μ = kb (v4 + 6) μ' := by
  unfold fL_law_2026
  simp only [h1, h2, gdT, nm_b, ln381]
  have q := law_thr (kb := kb) (v4 := v4) (μ := μ) (fun k_4 m_5 => if k_4 = 2 then some (1, m_5) else if k_4 = 0 then some (2, m_5) else none) (fv := fL_setSpeed 0 (xs (v4 + 1).toNatClampNeg) (xs (v4 + 2).toNatClampNeg) 381 μ) (op_setSpeed (xs (v4 + 1).toNatClampNeg) (xs (v4 + 2).toNatClampNeg)) rfl (fun k y m q => by rcases q with ⟨rfl, rfl⟩ | ⟨rfl, rfl⟩ <;> exact ⟨rfl, by decide⟩) hI
  exact q
theorem law_2094 {L : Nat} {xs : Nat → Int32} (h1 : inB (v4 + 1) L = true) (h2 : inB (v4 + 2) L = true) (h3 : inB (v4 + 3) L = true) (h4 : inB (v4 + 4) L = true) (h5 : inB (v4 + 5) L = true) (hI : INV μ μ) : ∃ μ', INV μ' μ' ∧ fL_law_2094 L xs 0 362 381 kb v4 μ = kb (v4 + 6) μ' := by
  unfold fL_law_2094
  simp only [h1, h2, gdT, nm_b, ln381]
  have q := law_thr (kb := kb) (v4 := v4) (μ := μ) (fun k_4 m_5 => if k_4 = 2 then some (1, m_5) else if k_4 = 0 then some (2, m_5) else none) (fv := fL_heal 0 (xs (v4 + 1).toNatClampNeg) (xs (v4 + 2).toNatClampNeg) 381 μ) (op_heal (xs (v4 + 1).toNatClampNeg) (xs (v4 + 2).toNatClampNeg)) rfl (fun k y m q => by rcases q with ⟨rfl, rfl⟩ | ⟨rfl, rfl⟩ <;> exact ⟨rfl, by decide⟩) hI
  exact q
theorem law_2162 {L : Nat} {xs : Nat → Int32} (h1 : inB (v4 + 1) L = true) (h2 : inB (v4 + 2) L = true) (h3 : inB (v4 + 3) L = true) (h4 : inB (v4 + 4) L = true) (h5 : inB (v4 + 5) L = true) (hI : INV μ μ) : ∃ μ', INV μ' μ' ∧ fL_law_2162 L xs 0 362 381 kb v4 μ = kb (v4 + 6) μ' := by
  unfold fL_law_2162
  simp only [h1, gdT, nm_b, ln381]
  have q := law_thr (kb := kb) (v4 := v4) (μ := μ) (fun k_4 m_5 => if k_4 = 0 then some (1, m_5) else none) (fv := fL_setWheel 0 (xs (v4 + 1).toNatClampNeg) 381 μ) (op_setWheel (xs (v4 + 1).toNatClampNeg)) rfl (fun k y m q => by obtain ⟨rfl, rfl⟩ := q; exact ⟨rfl, by decide⟩) hI
  exact q
theorem law_2218 {L : Nat} {xs : Nat → Int32} (h1 : inB (v4 + 1) L = true) (h2 : inB (v4 + 2) L = true) (h3 : inB (v4 + 3) L = true) (h4 : inB (v4 + 4) L = true) (h5 : inB (v4 + 5) L = true) (hI : INV μ μ) : ∃ μ', INV μ' μ' ∧ fL_law_2218 L xs 0 362 381 kb v4 μ = kb (v4 + 6) μ' := by
  unfold fL_law_2218
  simp only [h1, h2, h3, h4, gdT, nm_b, ln381]
  have q := law_thr (kb := kb) (v4 := v4) (μ := μ) (fun k_4 m_5 => if k_4 = 2 then some (1, m_5) else if k_4 = 0 then some (2, m_5) else none) (fv := fL_setAct 0 (xs (v4 + 1).toNatClampNeg) (xs (v4 + 2).toNatClampNeg) (xs (v4 + 3).toNatClampNeg) (xs (v4 + 4).toNatClampNeg) 381 μ) (op_setAct (xs (v4 + 1).toNatClampNeg) (xs (v4 + 2).toNatClampNeg) (xs (v4 + 3).toNatClampNeg) (xs (v4 + 4).toNatClampNeg)) rfl (fun k y m q => by rcases q with ⟨rfl, rfl⟩ | ⟨rfl, rfl⟩ <;> exact ⟨rfl, by decide⟩) hI
  exact q
theorem law_2310 {L : Nat} {xs : Nat → Int32} (h1 : inB (v4 + 1) L = true) (h2 : inB (v4 + 2) L = true) (h3 : inB (v4 + 3) L = true) (h4 : inB (v4 + 4) L = true) (h5 : inB (v4 + 5) L = true) (hI : INV μ μ) : ∃ μ', INV μ' μ' ∧ fL_law_2310 L xs 0 362 381 kb v4 μ = kb (v4 + 6) μ' := by
  unfold fL_law_2310
  simp only [gdT, nm_b, ln381]
  have q := law_ns (kb := kb) (v4 := v4) (μ := μ) (op_report) hI
  exact q
theorem law_2323 {L : Nat} {xs : Nat → Int32} (h1 : inB (v4 + 1) L = true) (h2 : inB (v4 + 2) L = true) (h3 : inB (v4 + 3) L = true) (h4 : inB (v4 + 4) L = true) (h5 : inB (v4 + 5) L = true) (hI : INV μ μ) : ∃ μ', INV μ' μ' ∧ fL_law_2323 L xs 0 362 381 kb v4 μ = kb (v4 + 6) μ' := by
  unfold fL_law_2323
  simp only [h1, gdT, nm_b, ln381]
  have q := law_thr (kb := kb) (v4 := v4) (μ := μ) (fun k_4 m_5 => if k_4 = 2 then some (1, m_5) else none) (fv := fL_reportByte 0 (xs (v4 + 1).toNatClampNeg) 381 μ) (op_reportByte (xs (v4 + 1).toNatClampNeg)) rfl (fun k y m q => by obtain ⟨rfl, rfl⟩ := q; exact ⟨rfl, by decide⟩) hI
  exact q
theorem law_2379 {L : Nat} {xs : Nat → Int32} (h1 : inB (v4 + 1) L = true) (h2 : inB (v4 + 2) L = true) (h3 : inB (v4 + 3) L = true) (h4 : inB (v4 + 4) L = true) (h5 : inB (v4 + 5) L = true) (hI : INV μ μ) : ∃ μ', INV μ' μ' ∧ fL_law_2379 L xs 0 362 381 kb v4 μ = kb (v4 + 6) μ' := by
  unfold fL_law_2379
  simp only [gdT, nm_b, ln381]
  have q := law_ns (kb := kb) (v4 := v4) (μ := μ) (op_undo) hI
  exact q
theorem law_2392 {L : Nat} {xs : Nat → Int32} (h1 : inB (v4 + 1) L = true) (h2 : inB (v4 + 2) L = true) (h3 : inB (v4 + 3) L = true) (h4 : inB (v4 + 4) L = true) (h5 : inB (v4 + 5) L = true) (hI : INV μ μ) : ∃ μ', INV μ' μ' ∧ fL_law_2392 L xs 0 362 381 kb v4 μ = kb (v4 + 6) μ' := by
  unfold fL_law_2392
  simp only [gdT, nm_b, ln381]
  have q := law_ns (kb := kb) (v4 := v4) (μ := μ) (op_save) hI
  exact q
theorem law_2405 {L : Nat} {xs : Nat → Int32} (h1 : inB (v4 + 1) L = true) (h2 : inB (v4 + 2) L = true) (h3 : inB (v4 + 3) L = true) (h4 : inB (v4 + 4) L = true) (h5 : inB (v4 + 5) L = true) (hI : INV μ μ) : ∃ μ', INV μ' μ' ∧ fL_law_2405 L xs 0 362 381 kb v4 μ = kb (v4 + 6) μ' := by
  unfold fL_law_2405
  simp only [gdT, nm_b, ln381]
  have q := law_thr (kb := kb) (v4 := v4) (μ := μ) (fun k_4 m_5 => if k_4 = 1 then some (1, m_5) else none) (fv := fL_restore 0 381 μ) (op_restore) rfl (fun k y m q => by obtain ⟨rfl, rfl⟩ := q; exact ⟨rfl, by decide⟩) hI
  exact q
theorem law_2449 {L : Nat} {xs : Nat → Int32} (hI : INV μ μ) : ∃ μ', INV μ' μ' ∧ fL_law_2449 L xs 0 362 381 kb v4 μ = kb (v4 + 6) μ' := ⟨μ, hI, rfl⟩
end LAWS
