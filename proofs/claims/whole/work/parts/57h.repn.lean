/-! repeats: the reference looks for them -/
section REPN
variable {μ m m' : Mem} {n : Nat}
/-- μ's fight has left (its row lies aside); m is then -/
def WA (μ m : Mem) : Prop := ldP m = ldP μ ∧ ldJ m = ldJ μ ∧ (∀ a, a ≠ 362 → a ≠ 364 → a ≠ 367 → a ≠ 372 → ldI m a = ldI μ a) ∧ (∀ k, k ≠ 24 → k ≠ 25 → k ≠ 27 → k ≠ 28 → ldI m 362 k = ldI μ 362 k) ∧ ∀ i, i < 196 → ldI m 367 i = ldI μ 364 i
/-- what all forecasts leave as it was -/
def QFm (μ m : Mem) : Prop := ldP m = ldP μ ∧ ldJ m = ldJ μ ∧ (∀ a, a ≠ 362 → a ≠ 364 → a ≠ 367 → a ≠ 372 → ldI m a = ldI μ a) ∧ (∀ k, k ≠ 24 → k ≠ 25 → k ≠ 27 → k ≠ 28 → ldI m 362 k = ldI μ 362 k) ∧ ∀ i, i < 196 → ldI m 364 i = ldI μ 364 i
theorem QFm.rf : QFm μ μ := ⟨rfl, rfl, fun _ _ _ _ _ => rfl, fun _ _ _ _ _ => rfl, fun _ _ => rfl⟩
theorem QFm.tr {a b c : Mem} (h1 : QFm a b) (h2 : QFm b c) : QFm a c := ⟨h2.1.trans h1.1, h2.2.1.trans h1.2.1, fun a p q r s => (h2.2.2.1 a p q r s).trans (h1.2.2.1 a p q r s), fun k p q r s => (h2.2.2.2.1 k p q r s).trans (h1.2.2.2.1 k p q r s), fun i p => (h2.2.2.2.2 i p).trans (h1.2.2.2.2 i p)⟩
theorem QE.qw (h : QE μ m) : QFm μ m := ⟨h.1, h.2.1, fun a p q r _ => h.2.2.1 a p q r, fun k p q _ _ => h.2.2.2.1 k p q, h.2.2.2.2⟩
theorem LV.wa (h : LV μ m) : WA μ m := ⟨h.1, h.2.1, fun a _ _ r _ => h.2.2.1 a r, fun k _ _ _ _ => by rw [h.2.2.1 362 (by decide)], h.2.2.2⟩
theorem WA.mx (h : WA μ m) (g : MX m m') : WA μ m' := by
  obtain ⟨a1, a2, a3, a4, a5⟩ := h
  obtain ⟨b1, b2, b3, b4⟩ := g
  exact ⟨b1.trans a1, b2.trans a2, fun a p q r s => (b3 a q p).trans (a3 a p q r s), fun k p q r s => (b4 k p q).trans (a4 k p q r s), fun i hi => by rw [b3 367 (by decide) (by decide)]; exact a5 i hi⟩
theorem WA.s7 (h : WA μ m) (g : S7 m m') : WA μ m' := by
  obtain ⟨a1, a2, a3, a4, a5⟩ := h
  obtain ⟨b1, b2, b3⟩ := g
  exact ⟨b1.trans a1, b2.trans a2, fun a p q r s => (b3 a s).trans (a3 a p q r s), fun k p q r s => by rw [b3 362 (by decide)]; exact a4 k p q r s, fun i hi => by rw [b3 367 (by decide)]; exact a5 i hi⟩
/-- only cells 27 and 28 have changed -/
def CZ (μ m : Mem) : Prop := ldP m = ldP μ ∧ ldJ m = ldJ μ ∧ (∀ a, a ≠ 362 → ldI m a = ldI μ a) ∧ ∀ k, k ≠ 27 → k ≠ 28 → ldI m 362 k = ldI μ 362 k
theorem CZ.rf : CZ μ μ := ⟨rfl, rfl, fun _ _ => rfl, fun _ _ _ => rfl⟩
theorem CZ.s (h : CZ μ m) {k : Nat} {v : Int32} (hk : k = 27 ∨ k = 28) : CZ μ (stI m 362 k v) := ⟨h.1, h.2.1, fun a ha => (ldI_stI_ne ha).trans (h.2.2.1 a ha), fun j p q => by rw [ldI_stI, if_neg (by omega)]; exact h.2.2.2 j p q⟩
theorem WA.cz (h : WA μ m) (g : CZ m m') : WA μ m' := by
  obtain ⟨a1, a2, a3, a4, a5⟩ := h
  obtain ⟨b1, b2, b3, b4⟩ := g
  exact ⟨b1.trans a1, b2.trans a2, fun a p q r s => (b3 a p).trans (a3 a p q r s), fun k p q r s => (b4 k r s).trans (a4 k p q r s), fun i hi => by rw [b3 367 (by decide)]; exact a5 i hi⟩
theorem WA.cb (h : WA μ m) (hp : ldP μ 362 13 = some 364) (hq : ldP μ 362 16 = some 367) (v : Int32) : ∃ m3, fX12_comesBack 362 v m = some (v, m3) ∧ QFm μ m3 ∧ ldI m3 362 = ldI m 362 := by
  obtain ⟨b1, b2, b3, b4, b5⟩ := h
  have hp' : ldP m 362 13 = some 364 := by rw [b1]; exact hp
  have hq' : ldP m 362 16 = some 367 := by rw [b1]; exact hq
  unfold fX12_comesBack
  rw [hp', hq', Option.bind_some, Option.bind_some]
  obtain ⟨m3, a1, a2, a3, a4, a5, a6⟩ := m_copies (μ := m) (a := 367) (b := 364) (x := 0) (y := 0) (by rw [ln367]; decide) (by rw [ln364]; decide) (by decide) (by decide) (by decide) (by rw [ln367]; decide) (by rw [ln364]; decide)
  rw [show fX12_copiesRow 367 0 364 0 m = some m3 from a1, Option.bind_some]
  refine ⟨m3, rfl, ⟨a4.trans b1, a5.trans b2, fun a p q r s => (a6 a q).trans (b3 a p q r s), fun k p q r s => by rw [a6 362 (by decide)]; exact b4 k p q r s, fun i hi => ?_⟩, a6 362 (by decide)⟩
  have := a2 i hi
  rw [Nat.zero_add] at this
  rw [this, b5 i hi]
theorem m_look54 (kb : Int32 → Mem → Option Mem) (hp : ldP μ 362 13 = some 364) (hq : ldP μ 362 26 = some 372) (h0 : ldI μ 364 0 = nI n) {S : Nat → Sg} (hS : ∀ b, okN n (S b)) {t : Nat} (ht : t ≤ 200) (hN : SN S n t μ) (h28 : ldI μ 362 28 = -1) : ∃ μ', fX12_looksForAgain_54 kb 362 (nI t) 0 μ = kb (nI (t + 1)) μ' ∧ ldI μ' 362 28 = noI (sp_bef S t t) ∧ ldI μ' 362 27 = (match sp_bef S t t with
    | none => -1
    | some _ => nI t) ∧ CZ μ μ' := by
  have hn := (hS 0).le
  unfold fX12_looksForAgain_54
  refine zl2_fob (N := t) (I := fun b m => CZ μ m ∧ ldI m 362 28 = noI (sp_bef S t b)) (Qr := fun r => ∃ μ', r = kb (nI (t + 1)) μ' ∧ ldI μ' 362 28 = noI (sp_bef S t t) ∧ ldI μ' 362 27 = (match sp_bef S t t with
    | none => -1
    | some _ => nI t) ∧ CZ μ μ') (by omega) ⟨CZ.rf, h28⟩ (fun b m self hb hI => ?_) (fun m self hI => ?_)
  · obtain ⟨i1, i2⟩ := hI
    have e71 : ldI m 372 = ldI μ 372 := i1.2.2.1 372 (by decide)
    have hN' : SN S n t m := fun b hb f hf k hk => by rw [e71]; exact hN b hb f hf k hk
    have hl := m_areLike (μ := m) (n := n) (by rw [i1.1]; exact hp) (by rw [i1.1]; exact hq) (by rw [i1.2.2.1 364 (by decide)]; exact h0) hn (a := b) (b := t) (by omega) ht
    have hk := SN_like hS hN' (a := b) (b := t) (by omega) (Nat.le_refl _)
    simp only [gX12_looksForAgain_54, if_neg (nI_ge hb (by omega)), hl, Option.bind_some, nm_b, nI_1]
    by_cases e : eqvB (S b) (S t) = true
    · rw [bI_t (hk.mpr e), if_neg one0]
      exact Or.inl ⟨_, rfl, i1.s (Or.inr rfl), by rw [ldI_stI_s, bef_s, if_pos e]; rfl⟩
    · rw [bI_f (fun h => e (hk.mp h)), if_pos rfl]
      exact Or.inl ⟨_, rfl, i1.s (Or.inr rfl), by rw [ldI_stI_s, bef_s, if_neg e]; exact i2⟩
  · obtain ⟨i1, i2⟩ := hI
    simp only [gX12_looksForAgain_54, if_pos (show nI t ≤ nI t from nI_le (Nat.le_refl _) (by omega)), nm_b, nI_1, i2]
    cases hb : sp_bef S t t with
    | none =>
      rw [if_pos (show noI none = -1 from rfl)]
      refine ⟨_, rfl, ?_, ?_, i1.s (Or.inl rfl)⟩
      · rw [ldI_stI, if_neg (by omega), i2, hb]
      · rw [ldI_stI_s]
    | some b =>
      have := bef_lt hb
      rw [if_neg (show ¬ noI (some b) = -1 from nI_m1 (by omega))]
      refine ⟨_, rfl, ?_, ?_, i1.s (Or.inl rfl)⟩
      · rw [ldI_stI, if_neg (by omega), i2, hb]
      · rw [ldI_stI_s]
theorem rp_bd {S : Nat → Sg} : ∀ {k t a b : Nat}, sp_rp S k t = some (a, b) → b < a ∧ a < t + k := by
  intro k
  induction k with
  | zero => intro t a b h; cases h
  | succ k ih =>
    intro t a b h
    by_cases ho : sp_over (S (t - 1)) = true
    · rw [rp_over ho] at h; cases h
    · cases hb : sp_bef S t t with
      | none => rw [rp_none ho hb] at h; have := ih h; omega
      | some c => rw [rp_some ho hb] at h; cases h; exact ⟨bef_lt hb, by omega⟩
/-- how it answers -/
def LA (R : Option (Nat × Nat)) (m : Mem) : Prop := ldI m 362 27 = rpT R ∧ ∀ x, R = some x → ldI m 362 28 = nI x.2
theorem m_looks (hp : ldP μ 362 13 = some 364) (hq : ldP μ 362 16 = some 367) (hr : ldP μ 362 26 = some 372) (h : okN n (ldI μ 364)) : ∃ μ', fX12_looksForAgain 362 μ = some μ' ∧ LA (sp_rp (SS (ldI μ 364)) 200 1) μ' ∧ QFm μ μ' := by
  have hn := h.le
  obtain ⟨m1, a1, b1⟩ := m_leaves hp hq
  have e1 := b1.s
  have w1 := b1.wa
  unfold fX12_looksForAgain fX12_looksForAgain_21
  rw [a1, Option.bind_some, nm_b, nm_b]
  obtain ⟨u, hu⟩ : ∃ u, u = stI (stI m1 362 27 (-1)) 362 28 (-1) := ⟨_, rfl⟩
  rw [← hu]
  have cu : CZ m1 u := by rw [hu]; exact (CZ.rf.s (Or.inl rfl)).s (Or.inr rfl)
  have wu := w1.cz cu
  have u7 : ldI u 362 27 = -1 := by rw [hu]; rfl
  have u8 : ldI u 362 28 = -1 := by rw [hu]; rfl
  have e2 : ldI u 364 = ldI μ 364 := by rw [cu.2.2.1 364 (by decide), e1]
  obtain ⟨m2, a2, b2, c2, d2⟩ := m_sees (μ := u) (n := n) (by rw [wu.1]; exact hp) (by rw [wu.1]; exact hr) (by rw [e2]; exact h) (t := 0) (by decide)
  rw [show (0 : Int32) = nI 0 from rfl, a2, Option.bind_some]
  refine zl2_m (P := fun q v1 m => WA μ m ∧ ((∃ j, j ≤ 200 ∧ q = 201 - j ∧ v1 = nI (j + 1) ∧ ldI m 364 = SS (ldI μ 364) j ∧ ldI m 362 27 = -1 ∧ ldI m 362 28 = -1 ∧ SN (SS (ldI μ 364)) n j m ∧ sp_rp (SS (ldI μ 364)) (200 - j) (j + 1) = sp_rp (SS (ldI μ 364)) 200 1) ∨ (q = 0 ∧ ∃ x, sp_rp (SS (ldI μ 364)) 200 1 = some x ∧ ldI m 362 27 = nI x.1 ∧ ldI m 362 28 = nI x.2))) (Qr := fun r => ∃ μ', r = some μ' ∧ LA (sp_rp (SS (ldI μ 364)) 200 1) μ' ∧ QFm μ μ') (fun q v1 m self hP => ?_) FU 201 1 m2 (FU_gt (by decide)) ⟨wu.s7 b2, Or.inl ⟨0, by decide, rfl, rfl, by rw [b2.2.2 364 (by decide), e2]; rfl, by rw [b2.2.2 362 (by decide)]; exact u7, by rw [b2.2.2 362 (by decide)]; exact u8, fun b hb f hf k hk => ?_, rfl⟩⟩
  · obtain ⟨g0, hP⟩ := hP
    have hpm : ldP m 362 13 = some 364 := by rw [g0.1]; exact hp
    have hrm : ldP m 362 26 = some 372 := by rw [g0.1]; exact hr
    obtain ⟨m9, a9, b9, c9⟩ := g0.cb hp hq 0
    rcases hP with ⟨j, e3, e4, e5, g1, g2, g3, g4, g5⟩ | ⟨e3, x, g1, g2, g3⟩
    · subst e4; subst e5
      by_cases hj : j < 200
      · rw [show 200 - j = (200 - (j + 1)) + 1 by omega] at g5
        have hok : okN n (ldI m 364) := by rw [g1]; exact SS_ok h j
        have e6 : ¬ (200 : Int32) < nI (j + 1) := nI_nlt (a := 200) (b := j + 1) (by omega) (by decide)
        simp only [gX12_looksForAgain_21, if_neg e6, g2, if_true, m_isOver hpm hok, Option.bind_some]
        by_cases ho : sp_over (SS (ldI μ 364) j) = true
        · rw [rp_over (by rw [Nat.add_sub_cancel]; exact ho)] at g5
          rw [g1, if_pos ho, if_neg one0, a9, Option.bind_some]
          exact Or.inr ⟨m9, rfl, ⟨by rw [c9, g2, ← g5]; rfl, fun x hx => by rw [← g5] at hx; cases hx⟩, b9⟩
        · have ho' : ¬ sp_over (ldI m 364) = true := by rw [g1]; exact ho
          obtain ⟨w, m3, t1, t2, t3, t4, t5, t6, t7, t8⟩ := m_turns hpm hok ho'
          rw [if_neg ho', if_pos rfl, t4, Option.bind_some]
          obtain ⟨-, w', y1, y2⟩ := SS_next h ho
          rw [g1] at t1 t6
          rw [y1] at t1; cases t1
          rw [← y2] at t6
          have g03 := g0.mx t5
          obtain ⟨m4, a4, b4, c4, d4⟩ := m_sees (μ := m3) (n := n) (by rw [g03.1]; exact hp) (by rw [g03.1]; exact hr) (by rw [t6]; exact SS_ok h (j + 1)) (t := j + 1) (by omega)
          have g04 := g03.s7 b4
          have n4 : SN (SS (ldI μ 364)) n (j + 1) m4 := by
            intro b hb f hf k hk
            by_cases e : b = j + 1
            · subst e; rw [c4 f hf k hk, t6]
            · rw [d4 _ (by omega), t5.2.2.1 372 (by decide) (by decide)]; exact g4 b (by omega) f hf k hk
          rw [a4, Option.bind_some]
          obtain ⟨m5, a5, b5, c5, d5⟩ := m_look54 (μ := m4) (n := n) self (by rw [g04.1]; exact hp) (by rw [g04.1]; exact hr) (by rw [b4.2.2 364 (by decide), t6]; exact (SS_ok h (j + 1)).2.1) (SS_ok h) (t := j + 1) (by omega) n4 (by rw [b4.2.2 362 (by decide), t5.2.2.2 28 (by decide) (by decide)]; exact g3)
          rw [show fX12_looksForAgain_54 self 362 (nI (j + 1)) 0 m4 = self (nI (j + 1 + 1)) m5 from a5]
          have g05 := g04.cz d5
          cases hb : sp_bef (SS (ldI μ 364)) (j + 1) (j + 1) with
          | none =>
            rw [hb] at b5 c5
            rw [rp_none (by rw [Nat.add_sub_cancel]; exact ho) hb] at g5
            exact Or.inl ⟨201 - (j + 1), _, _, by omega, ⟨g05, Or.inl ⟨j + 1, by omega, rfl, rfl, by rw [d5.2.2.1 364 (by decide), b4.2.2 364 (by decide), t6], c5, b5, fun b hb f hf k hk => by rw [d5.2.2.1 372 (by decide)]; exact n4 b hb f hf k hk, g5⟩⟩, rfl⟩
          | some b =>
            rw [hb] at b5 c5
            rw [rp_some (by rw [Nat.add_sub_cancel]; exact ho) hb] at g5
            exact Or.inl ⟨0, _, _, by omega, ⟨g05, Or.inr ⟨rfl, _, g5.symm, c5, b5⟩⟩, rfl⟩
      · have : j = 200 := by omega
        subst this
        refine Or.inr ?_
        simp only [gX12_looksForAgain_21, if_pos (show (200 : Int32) < nI (200 + 1) by decide), a9, Option.bind_some]
        exact ⟨m9, rfl, ⟨by rw [c9, g2, ← g5]; rfl, fun x hx => by rw [← g5] at hx; cases hx⟩, b9⟩
    · have hx := rp_bd g1
      refine Or.inr ?_
      simp only [gX12_looksForAgain_21, g2, if_neg (show ¬ nI x.1 = -1 from nI_m1 (by omega)), a9, Option.bind_some, ite_self]
      exact ⟨m9, rfl, ⟨by rw [c9, g2, g1]; rfl, fun y hy => by rw [g1] at hy; cases hy; rw [c9]; exact g3⟩, b9⟩
  · have : b = 0 := by omega
    subst this
    rw [c2 f hf k hk, e2]; rfl
end REPN
