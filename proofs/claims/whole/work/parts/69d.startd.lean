/-! the start: both agree -/
theorem z_fa : ∀ i, i < 6 → FA zC (186 + 29 * i) := by
  intro i hi
  rcases (show i = 0 ∨ i = 1 ∨ i = 2 ∨ i = 3 ∨ i = 4 ∨ i = 5 by omega) with rfl | rfl | rfl | rfl | rfl | rfl
  · exact ⟨_, _, z186⟩
  · exact ⟨_, _, z215⟩
  · exact ⟨_, _, z244⟩
  · exact ⟨_, _, z273⟩
  · exact ⟨_, _, z302⟩
  · exact ⟨_, _, z331⟩
theorem INV.z : INV zC zC := by
  obtain ⟨c1, c2, c3, c4, c5, c6⟩ := z_c
  obtain ⟨m1, m2, m3, m4⟩ := z_m
  obtain ⟨p1, p2, p3, p4, p5, p6⟩ := z_cp
  refine ⟨0, fun _ => 0, z66.cg z_row (fun _ _ => rfl), okN.clr z_row, ⟨p1, p2, p3, p4, p5, p6, ⟨_, _, z95⟩, ⟨_, _, z154⟩⟩, z_mp, ⟨fun f hf => absurd hf (Nat.not_lt_zero _), fun f g hf => absurd hf (Nat.not_lt_zero _)⟩, ⟨fun i => 186 + 29 * i, 0, ⟨fun i hi => ⟨i, hi, rfl⟩, fun i j _ _ e => by have : 186 + 29 * i = 186 + 29 * j := e; omega, fun i hi => ⟨z_hp i hi, z_fa i hi⟩⟩, Nat.zero_le _, c2, m2, fun i hi => absurd hi (Nat.not_lt_zero _)⟩, Or.inl ⟨c1, m3, _, _, z124⟩, ⟨0, Nat.zero_le _, c3, m1, fun i hi => absurd hi (Nat.not_lt_zero _)⟩, ⟨c5, c6⟩, ⟨0, Nat.zero_le _, c4, Or.inl ⟨m4, rfl⟩, fun i hi => absurd hi (Nat.not_lt_zero _)⟩⟩
