/-! the law: a text is begun -/
section BEG
variable {c c' m m' : Mem} {n u : Nat} {ν : Nat → Int64}
def bgC (c c' : Mem) : Prop := ldP c' = ldP c ∧ (∀ a, a ≠ 1 → ldI c' a = ldI c a) ∧ (∀ a, a ≠ 1 → ldJ c' a = ldJ c a) ∧ ldI c' 1 1 = 0
def bgM (m m' : Mem) : Prop := ldP m' = ldP m ∧ (∀ a, a ≠ 362 → ldI m' a = ldI m a) ∧ (∀ a, a ≠ 362 → ldJ m' a = ldJ m a) ∧ (∀ k, 9 < k → ldI m' 362 k = ldI m 362 k) ∧ ldI m' 362 2 = 0 ∧ ldI m' 362 0 = ldI m 362 0
theorem begin_bis (hB : BF c m) (h0 : ldP c 1 0 = some 2) (h1 : ldP m 362 1 = some 363) : ∃ T L c' m', fX9_begin 1 c = some c' ∧ fX12_beginsText 362 m = some m' ∧ TR c' m' T L 0 ∧ bgC c c' ∧ bgM m m' := by
  obtain ⟨l, b1, b2, b3, b4⟩ := hB
  obtain ⟨T, hT⟩ : ∃ T : Nat → Nat, ∀ i, i < l → T i < 256 ∧ ldI c 2 i &&& 255 = nI (T i) ∧ ldI m 363 i = nI (T i) := by
    have : ∀ i, ∃ b : Nat, i < l → b < 256 ∧ ldI c 2 i &&& 255 = nI b ∧ ldI m 363 i = nI b := fun i => by
      by_cases e : i < l
      · obtain ⟨b, hb⟩ := b4 i e; exact ⟨b, fun _ => hb⟩
      · exact ⟨0, fun q => absurd q e⟩
    exact Classical.axiomOfChoice this
  obtain ⟨x, hx⟩ : ∃ x, x = stI (stI (stI (stI (stI c 1 4 (ldI c 1 1)) 1 1 0) 1 2 0) 1 3 (-1)) 1 6 0 := ⟨_, rfl⟩
  obtain ⟨y, hy⟩ : ∃ y, y = stI (stI (stI (stI (stI m 362 3 (ldI m 362 2)) 362 2 0) 362 4 0) 362 8 0) 362 9 (-1) := ⟨_, rfl⟩
  have ex : ∀ k, ldI x 1 k = if k = 6 then 0 else if k = 3 then -1 else if k = 2 then 0 else if k = 1 then 0 else if k = 4 then nI l else ldI c 1 k := by
    intro k
    rw [hx, ldI_stI, ldI_stI, ldI_stI, ldI_stI, ldI_stI, b2]
    simp only [true_and]
  have ey : ∀ k, ldI y 362 k = if k = 9 then -1 else if k = 8 then 0 else if k = 4 then 0 else if k = 2 then 0 else if k = 3 then nI l else ldI m 362 k := by
    intro k
    rw [hy, ldI_stI, ldI_stI, ldI_stI, ldI_stI, ldI_stI, b3]
    simp only [true_and]
  have fx : ∀ a, a ≠ 1 → ldI x a = ldI c a := fun a q => by rw [hx, ldI_stI_ne q, ldI_stI_ne q, ldI_stI_ne q, ldI_stI_ne q, ldI_stI_ne q]
  have fy : ∀ a, a ≠ 362 → ldI y a = ldI m a := fun a q => by rw [hy, ldI_stI_ne q, ldI_stI_ne q, ldI_stI_ne q, ldI_stI_ne q, ldI_stI_ne q]
  have px : ldP x = ldP c := by rw [hx]; rfl
  have py : ldP y = ldP m := by rw [hy]; rfl
  have jx : ldJ x = ldJ c := by rw [hx]; rfl
  have jy : ldJ y = ldJ m := by rw [hy]; rfl
  have tx : TBc x T l := ⟨b1, by rw [px]; exact h0, by rw [ex]; rfl, fun i hi => ⟨(hT i hi).1, by rw [fx 2 (by decide)]; exact (hT i hi).2.1⟩⟩
  have ty : TBm y T l := ⟨b1, by rw [py]; exact h1, by rw [ey]; rfl, fun i hi => ⟨(hT i hi).1, by rw [fy 363 (by decide)]; exact (hT i hi).2.2⟩⟩
  obtain ⟨c1, s1, s2, s3⟩ := c_step (m := x) (p := 0) tx (Nat.zero_le _) KC.rf (by rw [ex]; rfl)
  obtain ⟨m1, g1, g2, g3⟩ := m_goOn (m := y) (p := 0) ty (Nat.zero_le _) KM.rf (by rw [ey]; rfl)
  refine ⟨T, l, c1, m1, ?_, ?_, ⟨s2.tb tx, g2.tb ty, Nat.zero_le _, s3, g3, ?_, ?_, ?_, ?_⟩, ⟨s2.1.trans px, fun a q => (s2.2.1 a q).trans (fx a q), fun a q => (s2.2.2.1 a q).trans (by rw [jx]), ?_⟩, ⟨g2.1.trans py, fun a q => (g2.2.1 a q).trans (fy a q), fun a q => (g2.2.2.1 a q).trans (by rw [jy]), fun k hk => ?_, ?_, ?_⟩⟩
  · unfold fX9_begin
    rw [nm_b, nm_b, nm_b, nm_b, nm_b, ← hx, s1, Option.bind_some]
  · unfold fX12_beginsText
    rw [nm_b, nm_b, nm_b, nm_b, nm_b, ← hy, g1, Option.bind_some]
  · rw [g2.2.2.2 8 (by decide) (by decide) (by decide) (by decide), ey]; rfl
  · rw [g2.2.2.2 9 (by decide) (by decide) (by decide) (by decide), ey]; rfl
  · rw [s2.2.2.2 2 (by decide) (by decide) (by decide) (by decide) (by decide), ex]; rfl
  · rw [s2.2.2.2 3 (by decide) (by decide) (by decide) (by decide) (by decide), ex]; rfl
  · rw [s2.2.2.2 1 (by decide) (by decide) (by decide) (by decide) (by decide), ex]; rfl
  · rw [g2.2.2.2 k (by omega) (by omega) (by omega) (by omega), ey, if_neg (by omega), if_neg (by omega), if_neg (by omega), if_neg (by omega), if_neg (by omega)]
  · rw [g2.2.2.2 2 (by decide) (by decide) (by decide) (by decide), ey]; rfl
  · rw [g2.2.2.2 0 (by decide) (by decide) (by decide) (by decide), ey]; rfl
theorem m_clears (hM : MPt m) : ∃ m', fX12_clears 362 m = some m' ∧ (∀ i, i < 196 → ldI m' 364 i = sp_clr i) ∧ ldP m' = ldP m ∧ (∀ a, a ≠ 364 → ldI m' a = ldI m a) ∧ (∀ a, a ≠ 369 → ldJ m' a = ldJ m a) := by
  have e196 : (196 : Int32) = nI 196 := rfl
  have h2 : ∀ μ, ldP μ = ldP m → ∃ m', fX12_clears_24 362 0 μ = some m' ∧ (∀ i, ldI m' 364 i = if i = 1 then 300 else ldI μ 364 i) ∧ ldP m' = ldP m ∧ (∀ a, a ≠ 364 → ldI m' a = ldI μ a) ∧ (∀ a, a ≠ 369 → ldJ m' a = ldJ μ a) := by
    intro μ hμ
    unfold fX12_clears_24
    refine zl2_fob (N := 8) (I := fun j x => ldP x = ldP m ∧ ldI x = ldI μ ∧ ∀ a, a ≠ 369 → ldJ x a = ldJ μ a) (Qr := fun r => ∃ m', r = some m' ∧ (∀ i, ldI m' 364 i = if i = 1 then 300 else ldI μ 364 i) ∧ ldP m' = ldP m ∧ (∀ a, a ≠ 364 → ldI m' a = ldI μ a) ∧ (∀ a, a ≠ 369 → ldJ m' a = ldJ μ a)) (by decide) ⟨hμ, rfl, fun _ _ => rfl⟩ (fun j x self hj hI => ?_) (fun x self hI => ?_)
    · obtain ⟨i1, i2, i3⟩ := hI
      have hstep : gX12_clears_24 362 self (nI j) x = self (nI (j + 1)) (stJ x 369 j 0) := by
        unfold gX12_clears_24
        rw [if_neg (show ¬ (8 : Int32) ≤ nI j from n8 hj), i1, hM.2.1.1, Option.bind_some, ln3x.2.2.2.1, gd_t (inB_nI hj (by decide)), nI_clamp (by omega), nm_b, nm_b, nI_1]
      exact Or.inl ⟨_, hstep, i1, i2, fun a q => by rw [ldJ_stJ_ne q]; exact i3 a q⟩
    · obtain ⟨i1, i2, i3⟩ := hI
      refine ⟨stI x 364 1 300, ?_, fun i => ?_, i1, fun a q => by rw [ldI_stI_ne q, i2], i3⟩
      · unfold gX12_clears_24
        rw [if_pos (show (8 : Int32) ≤ nI 8 by decide), i1, hM.1.2.1, Option.bind_some, ln364, gd_t (by decide), nm_b]
        rfl
      · rw [ldI_stI, i2]
        by_cases q : i = 1
        · rw [if_pos ⟨rfl, q⟩, if_pos q]
        · rw [if_neg (fun w => q w.2), if_neg q]
  have h1 : ∃ μ, fX12_clears 362 m = fX12_clears_24 362 0 μ ∧ ldP μ = ldP m ∧ ldJ μ = ldJ m ∧ (∀ i, i < 196 → ldI μ 364 i = 0) ∧ ∀ a, a ≠ 364 → ldI μ a = ldI m a := by
    unfold fX12_clears fX12_clears_2
    refine zl2_fob (N := 196) (I := fun j x => ldP x = ldP m ∧ ldJ x = ldJ m ∧ (∀ i, i < j → ldI x 364 i = 0) ∧ ∀ a, a ≠ 364 → ldI x a = ldI m a) (Qr := fun r => ∃ μ, r = fX12_clears_24 362 0 μ ∧ ldP μ = ldP m ∧ ldJ μ = ldJ m ∧ (∀ i, i < 196 → ldI μ 364 i = 0) ∧ ∀ a, a ≠ 364 → ldI μ a = ldI m a) (by decide) ⟨rfl, rfl, fun i hi => absurd hi (Nat.not_lt_zero _), fun _ _ => rfl⟩ (fun j x self hj hI => ?_) (fun x self hI => ?_)
    · obtain ⟨i1, i2, i3, i4⟩ := hI
      have hstep : gX12_clears_2 362 self (nI j) x = self (nI (j + 1)) (stI x 364 j 0) := by
        unfold gX12_clears_2
        rw [e196, if_neg (nI_ge hj (by decide)), i1, hM.1.2.1, Option.bind_some, ln364, gd_t (inB_nI hj (by decide)), nI_clamp (by omega), nm_b, nm_b, nI_1]
      refine Or.inl ⟨_, hstep, i1, i2, fun i hi => ?_, fun a q => by rw [ldI_stI_ne q]; exact i4 a q⟩
      rw [ldI_stI]
      by_cases q : i = j
      · rw [if_pos ⟨rfl, q⟩]
      · rw [if_neg (fun w => q w.2)]; exact i3 i (by omega)
    · refine ⟨x, ?_, hI⟩
      unfold gX12_clears_2
      rw [e196, if_pos (nI_le (Nat.le_refl _) (by decide))]
  obtain ⟨μ, a1, a2, a3, a4, a5⟩ := h1
  obtain ⟨m', b1, b2, b3, b4, b5⟩ := h2 μ a2
  refine ⟨m', a1.trans b1, fun i hi => ?_, b3, fun a q => (b4 a q).trans (a5 a q), fun a q => (b5 a q).trans (by rw [a3])⟩
  rw [b2, a4 i hi]
  unfold sp_clr
  rfl
end BEG
