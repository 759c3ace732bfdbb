/-! the law: a byte of the report -/
section RBY
variable {c c' m m' : Mem} {n : Nat} {ν : Nat → Int64} {σ : Sg}
theorem ln361 : 176 ≤ Ln 361 ∧ 176 ≤ Ln 380 ∧ Ln 361 < 2 ^ 31 ∧ Ln 380 < 2 ^ 31 := by decide
theorem isIn_out {l : Nat} (hl : l < 1000) {x : Int32} (hx : x < 0 ∨ nI l ≤ x) : fX12_isIn x.toInt64 0 (nI l - 1).toInt64 m = some 0 := by
  rw [m_isIn0]
  by_cases e : x < 0
  · rw [if_pos e]
  · rw [if_neg e]
    obtain ⟨f, f1, rfl⟩ := nI_of e
    have hf : nI l ≤ nI f := hx.elim (fun q => absurd q e) id
    by_cases h0 : l = 0
    · subst h0
      rw [if_pos (show nI 0 - 1 < nI f by rw [i32_lt, nI_toInt f1]; have : (nI 0 - 1).toInt = -1 := rfl; omega)]
    · have hnf : l ≤ f := (nI_leI (by omega) f1).mp hf
      rw [show nI l - 1 = nI (l - 1) from pk_sub (a := l) (b := 1) (by omega), if_pos (nI_lt (by omega) f1)]
theorem op_reportByte (x : Int32) : OP (fun k y => k = 2 ∧ y = 1) (fun c => fX11_reportByte 0 x c) (fun m => fX12_reportByte 362 x m) := by
  intro c m h
  have h' := h
  obtain ⟨n, ν, h1, h2, h3, h4, h5, h6, h7, h8, h9, l, l1, l2, l3, l4⟩ := h
  have hcl : (x < 0 ∨ nI l ≤ x) → fX11_reportByte 0 x c = some (.inr 2, c) := fun hx => by
    unfold fX11_reportByte
    by_cases e : x < 0
    · rw [if_pos e]
    · rw [if_neg e]
      obtain ⟨f, f1, rfl⟩ := nI_of e
      have hf : nI l ≤ nI f := hx.elim (fun q => absurd q e) id
      have hnf : l ≤ f := (nI_leI (by omega) f1).mp hf
      rw [h3.1.2.2.2.2.2.2.2, Option.bind_some, l2, if_neg (nI_nlt hnf f1)]
  have hbad : (x < 0 ∨ nI l ≤ x) → fX12_reportByte 362 x m = some (0, stI m 362 0 1) := fun hx => by
    unfold fX12_reportByte fX12_reportByte_28 fX12_reportByte_29
    rcases l3 with ⟨e, -⟩ | ⟨e, e2⟩
    · rw [e, if_pos rfl, m_goes0, Option.bind_some, if_pos rfl]
    · rw [e, if_neg one0, e2, isIn_out (by omega) hx, Option.bind_some, if_pos rfl, m_goes0, Option.bind_some, if_pos rfl]
  by_cases hx : x < 0 ∨ nI l ≤ x
  · exact OP.r (e := fun k y => k = 2 ∧ y = 1) (A := fun c => fX11_reportByte 0 x c) (B := fun m => fX12_reportByte 362 x m) (k := 2) (v := 0) (hcl hx) (hbad hx) (h'.st0 1) MFr.s ⟨rfl, ldI_stI_s⟩
  · obtain ⟨f, f1, rfl⟩ := nI_of (fun q => hx (Or.inl q))
    have hfl : f < l := by
      by_cases q : f < l
      · exact q
      · exact absurd (Or.inr (nI_le (by omega) f1)) hx
    obtain ⟨b, b1, b2, b3⟩ := l4 f hfl
    have hl3 : ldI m 362 41 = 1 ∧ ldI m 362 40 = nI l := by
      rcases l3 with ⟨-, e⟩ | e
      · omega
      · exact e
    refine ⟨.inl (nI b), c, nI b, stI m 362 0 0, ?_, ?_, h'.st0 0, SE.rf, MFr.s, Or.inl ⟨rfl, ldI_stI_s⟩⟩
    · show fX11_reportByte 0 (nI f) c = _
      unfold fX11_reportByte fX7_byteAt
      rw [if_neg (nI_pos f1), h3.1.2.2.2.2.2.2.2, Option.bind_some, l2, if_pos (nI_lt hfl (by omega)), Option.bind_some, if_neg (nI_pos f1), l2, if_neg (nI_ge hfl (by omega)), h3.2.2.2.2.2.1, Option.bind_some, if_neg (show ¬ Int32.ofNat (Ln 361) ≤ nI f from nI_ge (Nat.lt_of_lt_of_le (by omega) ln361.1) ln361.2.2.1), Option.bind_some, gd_t (inB_nI (Nat.lt_of_lt_of_le (by omega) ln361.1) ln361.2.2.1), nI_clamp (by omega), b2, Option.bind_some]
    · show fX12_reportByte 362 (nI f) m = _
      unfold fX12_reportByte fX12_reportByte_29
      rw [hl3.1, if_neg one0, hl3.2, show nI l - 1 = nI (l - 1) from pk_sub (a := l) (b := 1) (by omega), isIn_y (by omega) (by omega), Option.bind_some, if_neg one0, m_goes1, Option.bind_some, if_neg one0, show ldP (stI m 362 0 0) 362 39 = some 380 from h4.2.2.2.2.2, Option.bind_some, gd_t (inB_nI (Nat.lt_of_lt_of_le (by omega) ln361.2.1) ln361.2.2.2), nI_clamp (by omega), ldI_stI_ne (by decide), b3]
end RBY
