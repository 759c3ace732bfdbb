/-! the law: the row, asked for a place -/
section ROWY
variable {c c' m m' : Mem} {n : Nat} {ν : Nat → Int64} {σ : Sg}
theorem ah_self {f : Nat} : sp_ah σ f f = false := by
  unfold sp_ah
  rw [if_pos rfl, if_pos rfl]
  exact decide_eq_false (Nat.lt_irrefl f)
theorem aw_n (h : okN n σ) {f : Nat} : ∀ d, n + d ≤ 8 → sp_aw σ f (n + d) = sp_aw σ f n := by
  intro d
  induction d with
  | zero => intro _; rfl
  | succ d ih =>
    intro hd
    rw [show n + (d + 1) = (n + d) + 1 from rfl, sp_aw, if_neg (fun q => absurd (h.liv (by omega) q.1) (by omega)), ih (by omega)]
theorem aw_le {f : Nat} : ∀ j, sp_aw σ f j ≤ j := by
  intro j
  induction j with
  | zero => exact Nat.le_refl _
  | succ j ih =>
    rw [sp_aw]
    split <;> omega
theorem row22 (hp : ldP m 362 13 = some 364) (h : okN n (ldI m 364)) {f : Nat} (hf : f < n) {v : Int32} {kb : Int32 → Mem → Option (Int32 × Mem)} : ∀ (d j k : Nat), d = n - j → j ≤ n → d < k → zl3 (gX12_row_22 kb 362 v (nI f)) k (nI (sp_aw (ldI m 364) f j)) (nI j) m = (if lvN (ldI m 364) f ∧ nI (sp_aw (ldI m 364) f n) = v then some (nI f, m) else kb (nI (f + 1)) m) := by
  have hn := h.le
  intro d
  induction d with
  | zero =>
    intro j k hd hj hk
    obtain ⟨k, rfl⟩ : ∃ x, k = x + 1 := ⟨k - 1, by omega⟩
    have : j = n := by omega
    subst this
    rw [zl3_s]
    unfold gX12_row_22
    rw [hp, Option.bind_some, ln364, gd_t (by decide), show ((0 : Int32)).toNatClampNeg = 0 from rfl, h.2.1, if_pos (nI_le (Nat.le_refl _) (by omega)), m_lives hp (by omega), Option.bind_some, nm_b, nI_1]
    by_cases e : lvN (ldI m 364) f
    · rw [if_pos e, if_neg one0]
      by_cases q : nI (sp_aw (ldI m 364) f j) = v
      · rw [if_pos q, if_pos ⟨e, q⟩]
      · rw [if_neg q, if_neg (fun w => q w.2)]
    · rw [if_neg e, if_pos rfl, if_neg (fun w => e w.1)]
  | succ d ih =>
    intro j k hd hj hk
    obtain ⟨k, rfl⟩ : ∃ x, k = x + 1 := ⟨k - 1, by omega⟩
    have hjn : j < n := by omega
    have hnext := ih (j + 1) k (by omega) (by omega) (by omega)
    have hstep : gX12_row_22 kb 362 v (nI f) (zl3 (gX12_row_22 kb 362 v (nI f)) k) (nI (sp_aw (ldI m 364) f j)) (nI j) m = zl3 (gX12_row_22 kb 362 v (nI f)) k (nI (sp_aw (ldI m 364) f (j + 1))) (nI (j + 1)) m := by
      generalize hG : zl3 (gX12_row_22 kb 362 v (nI f)) k = G
      unfold gX12_row_22
      rw [hp, Option.bind_some, ln364, gd_t (by decide), show ((0 : Int32)).toNatClampNeg = 0 from rfl, h.2.1, if_neg (jn hjn hn), sp_aw]
      by_cases e : j = f
      · subst e
        rw [if_pos rfl, truth0, Option.bind_some, nm_b, nm_b, nI_1, Int32.add_zero, if_neg (fun w => by rw [ah_self] at w; exact absurd w.2 (by decide))]
      · rw [if_neg (fun w => e ((nI_eq (by omega) (by omega)).mp w)), m_lives hp (by omega), Option.bind_some]
        by_cases l : lvN (ldI m 364) j
        · rw [if_pos l, if_neg one0, m_isSooner hp h hjn hf, Option.bind_some]
          by_cases q : sp_ah (ldI m 364) j f = true
          · rw [if_pos q, if_neg one0, truth1, Option.bind_some, nm_b, nm_b, nI_1, nI_1, if_pos ⟨l, q⟩]
          · rw [if_neg q, if_pos rfl, truth0, Option.bind_some, nm_b, nm_b, nI_1, Int32.add_zero, if_neg (fun w => q w.2)]
        · rw [if_neg l, if_pos rfl, truth0, Option.bind_some, nm_b, nm_b, nI_1, Int32.add_zero, if_neg (fun w => l w.1)]
    rw [zl3_s, hstep]
    exact hnext
theorem row7 (hp : ldP m 362 13 = some 364) (h : okN n (ldI m 364)) {v : Int32} : ∀ (d f k : Nat), d = n - f → f ≤ n → d < k → (∀ i, i < f → (decide (lvN (ldI m 364) i) && decide (nI (sp_aw (ldI m 364) i 8) = v)) = false) → zl2 (gX12_row_7 362 v) k (nI f) m = some (noI (sp_row (ldI m 364) v), m) := by
  have hn := h.le
  have h8 : ∀ i, sp_aw (ldI m 364) i 8 = sp_aw (ldI m 364) i n := fun i => by
    have := aw_n h (f := i) (8 - n) (by omega)
    rw [show n + (8 - n) = 8 by omega] at this
    exact this
  intro d
  induction d with
  | zero =>
    intro f k hd hf hk hc
    obtain ⟨k, rfl⟩ : ∃ x, k = x + 1 := ⟨k - 1, by omega⟩
    have : f = n := by omega
    subst this
    rw [zl2_s]
    unfold gX12_row_7 sp_row
    rw [hp, Option.bind_some, ln364, gd_t (by decide), show ((0 : Int32)).toNatClampNeg = 0 from rfl, h.2.1, if_pos (nI_le (Nat.le_refl _) (by omega)), first_no (fun i hi => ?_)]
    · rfl
    · by_cases q : i < f
      · exact hc i q
      · rw [decide_eq_false (fun w => absurd (h.liv hi w) q), Bool.false_and]
  | succ d ih =>
    intro f k hd hf hk hc
    obtain ⟨k, rfl⟩ : ∃ x, k = x + 1 := ⟨k - 1, by omega⟩
    have hfn : f < n := by omega
    have hnext := ih (f + 1) k (by omega) (by omega) (by omega)
    rw [zl2_s]
    generalize hG : zl2 (gX12_row_7 362 v) k = G at hnext ⊢
    unfold gX12_row_7
    have hr := row22 hp h hfn (v := v) (kb := G) (n - 0) 0 FU rfl (Nat.zero_le _) (by unfold FU; omega)
    rw [hp, Option.bind_some, ln364, gd_t (by decide), show ((0 : Int32)).toNatClampNeg = 0 from rfl, h.2.1, if_neg (jn hfn hn)]
    refine Eq.trans hr ?_
    by_cases e : lvN (ldI m 364) f ∧ nI (sp_aw (ldI m 364) f n) = v
    · rw [if_pos e]
      unfold sp_row
      rw [first_at hc (by rw [h8, decide_eq_true e.1, decide_eq_true e.2]; rfl) (show f < 8 by omega)]
      rfl
    · rw [if_neg e]
      refine hnext (fun i hi => ?_)
      by_cases q : i < f
      · exact hc i q
      · have : i = f := by omega
        subst this
        rw [h8, ← Bool.decide_and]
        exact decide_eq_false e
theorem op_row (v : Int32) : OPl (fun c => fX11_row 0 v c) (fun m => fX12_row 362 v m) := by
  intro c m h
  have h' := h
  obtain ⟨n, ν, hX⟩ := h.x
  have h00 := hX.okz
  obtain ⟨h1, h2, h3, p1, p2, p3⟩ := hX
  have hn := h2.le
  refine ⟨noI (sp_row (ldI m 364) v), stI m 362 0 0, ?_, ?_, h'.st0 0, MFr.s⟩
  · show fX11_row 0 v c = _
    unfold fX11_row
    rw [h3.1.2.2.1, Option.bind_some, c_inRow h1 (fun f hf hl => h2.sp1 hf hl), Option.bind_some]
    cases hx : sp_row (ldI m 364) v with
    | none => exact congrArg some h1.2.2.1.1
    | some f => exact congrArg some (h1.num (first_lt hx).1)
  · show fX12_row 362 v m = _
    unfold fX12_row fX12_row_7
    rw [nm_b]
    have := row7 (m := stI m 362 0 0) p1 h00 (v := v) n 0 FU rfl (Nat.zero_le _) (by unfold FU; omega) (fun i hi => absurd hi (Nat.not_lt_zero _))
    rw [r0] at this
    exact this
end ROWY
