/-! the law: who is where in the row -/
section ROWX
variable {c c' m m' : Mem} {n : Nat} {ν : Nat → Int64} {σ : Sg}
theorem i32_sub0 {x y : Int32} : x - y = 0 ↔ x = y := by
  constructor
  · intro h
    have := congrArg (fun z => z + y) h
    simp only [Int32.sub_add_cancel, Int32.zero_add] at this
    exact this
  · intro h; rw [h, Int32.sub_self]
theorem m_isSooner (hp : ldP m 362 13 = some 364) (h : okN n (ldI m 364)) {a b : Nat} (ha : a < n) (hb : b < n) : fX12_isSooner 362 (nI a) (nI b) m = some (if sp_ah (ldI m 364) a b = true then 1 else 0) := by
  have hn := h.le
  obtain ⟨p, p0, p9, ep⟩ := h.luk ha
  obtain ⟨q, q0, q9, eq⟩ := h.luk hb
  obtain ⟨t, t9, et, -⟩ := h.tk ha
  obtain ⟨s, s9, es, -⟩ := h.tk hb
  have hq9 : q ≤ 9 := q9
  have hp9 : p ≤ 9 := p9
  unfold fX12_isSooner sp_ah
  rw [m_ticksFor hp h ha, Option.bind_some, m_ticksFor hp h hb, Option.bind_some, nm_b, m_of3 hp (by omega), Option.bind_some, m_of3 hp (by omega), Option.bind_some, nm_b, ep, eq, et, es]
  have d1 := pk_sub_toInt (a := t) (b := s) (by omega) (by omega)
  have d2 := pk_sub_toInt (a := p) (b := q) (by omega) (by omega)
  have z0 : (0 : Int32).toInt = 0 := rfl
  by_cases e1 : nI t = nI s
  · rw [if_pos (i32_sub0.mpr e1), if_pos e1]
    by_cases e2 : nI p = nI q
    · rw [if_neg (show ¬ 0 < nI p - nI q by rw [i32_sub0.mpr e2]; decide), if_pos (i32_sub0.mpr e2), if_pos e2]
      by_cases e3 : a < b
      · rw [if_neg (nI_ge e3 (by omega)), decide_eq_true e3, if_pos rfl]
      · rw [if_pos (nI_le (by omega) (by omega)), decide_eq_false e3, if_neg (by decide)]
    · rw [if_neg (fun w => e2 (i32_sub0.mp w)), if_neg e2]
      by_cases e3 : nI q < nI p
      · have : q < p := by rw [i32_lt, nI_toInt (by omega), nI_toInt (by omega)] at e3; omega
        rw [if_pos (show 0 < nI p - nI q by rw [i32_lt, d2, z0]; omega), decide_eq_true e3, if_pos rfl]
      · have : ¬ q < p := fun w => e3 (nI_lt w (by omega))
        rw [if_neg (show ¬ 0 < nI p - nI q by rw [i32_lt, d2, z0]; omega), decide_eq_false e3, if_neg (by decide)]
  · rw [if_neg (fun w => e1 (i32_sub0.mp w)), if_neg e1]
    by_cases e3 : nI t < nI s
    · have : t < s := by rw [i32_lt, nI_toInt (by omega), nI_toInt (by omega)] at e3; omega
      rw [if_neg (show ¬ 0 ≤ nI t - nI s by rw [i32_le, d1, z0]; omega), decide_eq_true e3, if_pos rfl]
    · have : ¬ t < s := fun w => e3 (nI_lt w (by omega))
      rw [if_pos (show 0 ≤ nI t - nI s by rw [i32_le, d1, z0]; omega), decide_eq_false e3, if_neg (by decide)]
end ROWX
