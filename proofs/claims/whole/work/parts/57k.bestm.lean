/-! what would be best: the reference's -/
section BESTM
variable {μ m m' : Mem} {n : Nat}
theorem take_keep {σ : Sg} {w i : Nat} (hw : w < 8) (hi : 196 ≤ i) : sp_take σ w i = σ i := by
  rw [take_eq, upd_n (by omega), act_keep hw (fun h => by unfold acC at h; obtain ⟨f, hf, h⟩ := h; omega), pre_keep (by omega) (by omega) (by omega) (by omega) (by omega) (by omega)]
theorem play_keep {i : Nat} (hi : 196 ≤ i) : ∀ (k : Nat) {σ : Sg}, okN n σ → (sp_play k σ).2 i = σ i := by
  intro k
  induction k with
  | zero => intro σ _; rfl
  | succ k ih =>
    intro σ h
    have e1 : (sp_next σ).2 i = σ i := next_keep (by omega) (fun f hf => by omega)
    cases hx : (sp_next σ).1 with
    | none => rw [play_none hx]; exact e1
    | some w =>
      obtain ⟨h1, h2⟩ := h.next
      obtain ⟨h3, -, h5⟩ := h2 w hx
      rw [play_some hx]
      dsimp only
      rw [ih (h1.take h3 h5), take_keep (by have := h.le; omega) hi, e1]
def WB (μ m : Mem) : Prop := WA μ m ∧ ∀ i, 196 ≤ i → ldI m 364 i = ldI μ 364 i
def QFF (μ m : Mem) : Prop := QFm μ m ∧ ldI m 364 = ldI μ 364
theorem QFF.rf : QFF μ μ := ⟨QFm.rf, rfl⟩
theorem QFF.tr {a b c : Mem} (h1 : QFF a b) (h2 : QFF b c) : QFF a c := ⟨h1.1.tr h2.1, h2.2.trans h1.2⟩
theorem QFF.p (h : QFF μ m) {k x : Nat} (hp : ldP μ 362 k = some x) : ldP m 362 k = some x := by rw [h.1.1]; exact hp
theorem LV.wb (h : LV μ m) : WB μ m := ⟨h.wa, fun i _ => by rw [h.s]⟩
theorem WB.p (h : WB μ m) {k x : Nat} (hp : ldP μ 362 k = some x) : ldP m 362 k = some x := by rw [h.1.1]; exact hp
theorem WB.mr (h : WB μ m) (g : MR m m') (g2 : ∀ i, 196 ≤ i → ldI m' 364 i = ldI m 364 i) : WB μ m' := ⟨h.1.mx g.mc, fun i hi => (g2 i hi).trans (h.2 i hi)⟩
theorem WB.run (h : WB μ m) (hp : ldP μ 362 13 = some 364) (hok : okN n (ldI m 364)) {k : Nat} (hk : k < 1000000) : ∃ m2, fX12_plays 362 (nI k) m = some (nI (sp_play k (ldI m 364)).1, m2) ∧ WB μ m2 ∧ ldI m2 364 = (sp_play k (ldI m 364)).2 := by
  obtain ⟨m2, a2, b2, c2, -⟩ := m_plays (h.p hp) hok hk
  exact ⟨m2, a2, ⟨h.1.mx b2, fun i hi => by rw [c2, play_keep hi k hok]; exact h.2 i hi⟩, c2⟩
theorem WB.cb (h : WB μ m) (hp : ldP μ 362 13 = some 364) (hq : ldP μ 362 16 = some 367) (v : Int32) : ∃ m3, fX12_comesBack 362 v m = some (v, m3) ∧ QFF μ m3 := by
  obtain ⟨b1, b2, b3, b4, b5⟩ := h.1
  unfold fX12_comesBack
  rw [h.p hp, h.p hq, Option.bind_some, Option.bind_some]
  obtain ⟨m3, a1, a2, a3, a4, a5, a6⟩ := m_copies (μ := m) (a := 367) (b := 364) (x := 0) (y := 0) (by rw [ln367]; decide) (by rw [ln364]; decide) (by decide) (by decide) (by decide) (by rw [ln367]; decide) (by rw [ln364]; decide)
  rw [show fX12_copiesRow 367 0 364 0 m = some m3 from a1, Option.bind_some]
  have hrow : ∀ i, i < 196 → ldI m3 364 i = ldI μ 364 i := fun i hi => by
    have := a2 i hi
    rw [Nat.zero_add] at this
    rw [this, b5 i hi]
  refine ⟨m3, rfl, ⟨a4.trans b1, a5.trans b2, fun a p q r s => (a6 a q).trans (b3 a p q r s), fun k p q r s => by rw [a6 362 (by decide)]; exact b4 k p q r s, hrow⟩, ?_⟩
  funext i
  by_cases hi : i < 196
  · exact hrow i hi
  · rw [a3 i (Or.inr (by omega))]; exact h.2 i (by omega)
theorem WB.then (h : WB μ m) (hp : ldP μ 362 13 = some 364) (hq : ldP μ 362 16 = some 367) (hok : okN n (ldI m 364)) (sd : Int32) : ∃ m3, fX12_thenOn 362 sd m = some (sp_sl (sp_play 20 (ldI m 364)).2 sd 8, m3) ∧ QFF μ m3 := by
  obtain ⟨m2, a2, b2, c2⟩ := h.run hp hok (k := 20) (by decide)
  have hok2 : okN n (ldI m2 364) := by rw [c2]; exact hok.play 20
  obtain ⟨m3, a3, b3⟩ := b2.cb hp hq (sp_sl (sp_play 20 (ldI m 364)).2 sd 8)
  unfold fX12_thenOn
  rw [show (20 : Int32) = nI 20 from rfl, a2, Option.bind_some, m_lifeOn (b2.p hp) hok2, Option.bind_some, c2, a3, Option.bind_some]
  exact ⟨m3, rfl, b3⟩
theorem m_winsWith (hp : ldP μ 362 13 = some 364) (hq : ldP μ 362 16 = some 367) (h : okN n (ldI μ 364)) {f v : Nat} (hf : f < n) (h1 : 1 ≤ v) (h2 : v ≤ 99) : ∃ m3, fX12_winsWith 362 (nI f) (nI v) μ = some ((if ls_c (ldI μ 364) f v = true then 1 else 0), m3) ∧ QFF μ m3 := by
  have hf8 : f < 8 := by have := h.le; omega
  obtain ⟨m1, a1, b1⟩ := m_leaves hp hq
  obtain ⟨m2, a2, p2, b2, c2, -⟩ := m_sets' (b1.p hp) hf8 (w := 1) (W := 1) (v := nI v) (by decide) rfl
  rw [b1.s] at c2
  have w2 : WB μ m2 := b1.wb.mr b2 (fun i hi => by rw [c2, upd_n (by omega), b1.s])
  have hok2 : okN n (ldI m2 364) := by rw [c2]; exact h.ls hf h1 h2
  obtain ⟨m3, a3, b3, c3⟩ := w2.run hp hok2 (k := 200) (by decide)
  have hok3 : okN n (ldI m3 364) := by rw [c3]; exact hok2.play 200
  obtain ⟨m4, a4, b4⟩ := b3.cb hp hq (sp_won (ldI m3 364))
  unfold fX12_winsWith
  rw [a1, Option.bind_some, a2, Option.bind_some, show (200 : Int32) = nI 200 from rfl, a3, Option.bind_some, m_won (b3.p hp) hok3, Option.bind_some, a4, Option.bind_some, m_of0 (b4.p hp) hf8, Option.bind_some, b4.2, c3, c2]
  refine ⟨m4, ?_, b4⟩
  by_cases e : ls_c (ldI μ 364) f v = true
  · rw [if_pos e, if_pos (of_decide_eq_true e)]
  · rw [if_neg e, if_neg (fun h => e (decide_eq_true h))]
theorem m_leastSpeed16 (hp : ldP μ 362 13 = some 364) (hq : ldP μ 362 16 = some 367) (h : okN n (ldI μ 364)) {f : Nat} (hf : f < n) : ∃ m3, fX12_leastSpeed_16 362 (nI f) 1 μ = some (noI (sp_ls (ldI μ 364) f), m3) ∧ QFF μ m3 := by
  unfold fX12_leastSpeed_16 sp_ls
  refine zl2_m (P := fun q v m => ∃ j, j ≤ 99 ∧ q = 99 - j ∧ v = nI (j + 1) ∧ QFF μ m ∧ sp_least (ls_c (ldI μ 364) f) (99 - j) (j + 1) = sp_least (ls_c (ldI μ 364) f) 99 1) (Qr := fun r => ∃ μ', r = some (noI (sp_least (ls_c (ldI μ 364) f) 99 1), μ') ∧ QFF μ μ') (fun q v m self hP => ?_) FU 99 1 μ (FU_gt (by decide)) ⟨0, by decide, rfl, rfl, QFF.rf, rfl⟩
  obtain ⟨j, e1, e2, e3, g1, g3⟩ := hP
  subst e2; subst e3
  by_cases hj : j < 99
  · rw [show 99 - j = (99 - (j + 1)) + 1 by omega, sp_least] at g3
    obtain ⟨m1, a1, b1⟩ := m_winsWith (g1.p hp) (g1.p hq) (by rw [g1.2]; exact h) hf (v := j + 1) (by omega) (by omega)
    rw [g1.2] at a1
    simp only [gX12_leastSpeed_16, if_neg (show ¬ (100 : Int32) ≤ nI (j + 1) from nI_ge (a := j + 1) (b := 100) (by omega) (by decide)), a1, Option.bind_some, nm_b, nI_1]
    by_cases e : ls_c (ldI μ 364) f (j + 1) = true
    · rw [if_pos e] at g3
      rw [if_pos e, if_neg one0]
      exact Or.inr ⟨m1, by rw [← g3]; rfl, g1.tr b1⟩
    · rw [if_neg e] at g3
      rw [if_neg e, if_pos rfl]
      exact Or.inl ⟨_, _, _, by omega, ⟨j + 1, by omega, rfl, rfl, g1.tr b1, g3⟩, rfl⟩
  · have : j = 99 := by omega
    subst this
    refine Or.inr ?_
    simp only [gX12_leastSpeed_16, if_pos (show (100 : Int32) ≤ nI (99 + 1) by decide)]
    exact ⟨m, by rw [← g3]; rfl, g1⟩
theorem m_byPush (hp : ldP μ 362 13 = some 364) (hq : ldP μ 362 16 = some 367) (h : okN n (ldI μ 364)) (sd : Int32) {j by' : Nat} (hj : j < n) (hb : by' ≤ 999) : ∃ m3, fX12_byPush 362 sd (nI j) (nI by') μ = some (vPush (ldI μ 364) sd (nI by') j, m3) ∧ QFF μ m3 := by
  have hj8 : j < 8 := by have := h.le; omega
  obtain ⟨m1, a1, b1⟩ := m_leaves hp hq
  obtain ⟨x, m2, a2, b2, c2, -⟩ := m_lowers (b1.p hp) hj8 (nI by')
  rw [b1.s] at c2
  have w2 : WB μ m2 := b1.wb.mr b2 (fun i hi => by rw [c2, b1.s]; unfold sp_lower; rw [upd_n (by omega)])
  have hok2 : okN n (ldI m2 364) := by rw [c2]; exact h.lower hj hb
  obtain ⟨m3, a3, b3⟩ := w2.then hp hq hok2 sd
  unfold fX12_byPush
  rw [a1, Option.bind_some, a2, Option.bind_some, a3, Option.bind_some, c2]
  exact ⟨m3, rfl, b3⟩
theorem m_bestPush44 (hp : ldP μ 362 13 = some 364) (hq : ldP μ 362 16 = some 367) (h : okN n (ldI μ 364)) (sd : Int32) {by' : Nat} (hb : by' ≤ 999) : ∃ m3, fX12_bestPush_44 362 sd (nI by') (-1) 0 0 μ = some (noI (sp_bp (ldI μ 364) sd (nI by')), m3) ∧ QFF μ m3 := by
  have hn := h.le
  obtain ⟨σ, hσ⟩ : ∃ σ, σ = ldI μ 364 := ⟨_, rfl⟩
  rw [← hσ] at h ⊢
  unfold fX12_bestPush_44 sp_bp
  have hx : sp_mx (cPush σ sd) (vPush σ sd (nI by')) (-1) 8 = sp_mx (cPush σ sd) (vPush σ sd (nI by')) (-1) n := mx_ext 8 hn (fun f h1 h2 => by unfold cPush; rw [decide_eq_false (h.dead f h1 h2), Bool.false_and])
  rw [hx]
  refine zl4_fol (N := n) (s0 := 0) (I := fun j a b m => a = noI (sp_mx (cPush σ sd) (vPush σ sd (nI by')) (-1) j).1 ∧ ((sp_mx (cPush σ sd) (vPush σ sd (nI by')) (-1) j).1 ≠ none → b = (sp_mx (cPush σ sd) (vPush σ sd (nI by')) (-1) j).2) ∧ QFF μ m) (Qr := fun r => ∃ μ', r = some (noI (sp_mx (cPush σ sd) (vPush σ sd (nI by')) (-1) n).1, μ') ∧ QFF μ μ') (by omega) (by omega) rfl ⟨rfl, fun h => absurd rfl h, QFF.rf⟩ (fun j a b m self _ hj hI => ?_) (fun a b m self hI => ?_)
  · obtain ⟨i1, i2, i3⟩ := hI
    subst i1
    have hj8 : j < 8 := by omega
    have es : ldI m 364 = σ := by rw [i3.2, hσ]
    have hskip : ¬ (cPush σ sd j = true ∧ (sp_mx (cPush σ sd) (vPush σ sd (nI by')) (-1) j).2 < vPush σ sd (nI by') j) → (noI (sp_mx (cPush σ sd) (vPush σ sd (nI by')) (-1) j).1 = noI (sp_mx (cPush σ sd) (vPush σ sd (nI by')) (-1) (j + 1)).1 ∧ ((sp_mx (cPush σ sd) (vPush σ sd (nI by')) (-1) (j + 1)).1 ≠ none → b = (sp_mx (cPush σ sd) (vPush σ sd (nI by')) (-1) (j + 1)).2)) := fun e => by rw [mx_skip e]; exact ⟨rfl, i2⟩
    simp only [gX12_bestPush_44, i3.p hp, Option.bind_some, ln364, gd_t ib0, z0, es, h.2.1, if_neg (jn hj hn), m_lives (i3.p hp) hj8, m_of0 (i3.p hp) hj8, nm_b, nI_1]
    by_cases e1 : lvN σ j
    · rw [if_pos e1, if_neg one0]
      by_cases e2 : σ (4 + 12 * j) = sd
      · rw [if_pos e2]
        have e3 : cPush σ sd j = false := by unfold cPush; rw [decide_eq_true e2, Bool.not_true, Bool.and_false]
        obtain ⟨k1, k2⟩ := hskip (fun h => by rw [e3] at h; exact absurd h.1 (by decide))
        exact Or.inl ⟨_, _, _, rfl, k1, k2, i3⟩
      · rw [if_neg e2]
        have e3 : cPush σ sd j = true := by unfold cPush; rw [decide_eq_true e1, decide_eq_false e2]; rfl
        obtain ⟨m1, a1, b1⟩ := m_byPush (i3.p hp) (i3.p hq) (by rw [es]; exact h) sd hj hb
        rw [es] at a1
        rw [a1, Option.bind_some]
        by_cases e4 : (sp_mx (cPush σ sd) (vPush σ sd (nI by')) (-1) j).1 = none
        · rw [if_pos (by rw [e4]; rfl)]
          have e5 : (sp_mx (cPush σ sd) (vPush σ sd (nI by')) (-1) j).2 < vPush σ sd (nI by') j := by rw [mx_none e4]; exact sl_pos ((h.lower hj hb).play 20)
          exact Or.inl ⟨_, _, _, rfl, by rw [mx_take e3 e5]; rfl, fun _ => by rw [mx_take e3 e5], i3.tr b1⟩
        · rw [if_neg (fun e6 => e4 ((noI_m1 (fun f hf => by have := (mx_lt hf).1; omega)).mp e6)), i2 e4]
          by_cases e5 : (sp_mx (cPush σ sd) (vPush σ sd (nI by')) (-1) j).2 < vPush σ sd (nI by') j
          · rw [if_pos e5]
            exact Or.inl ⟨_, _, _, rfl, by rw [mx_take e3 e5]; rfl, fun _ => by rw [mx_take e3 e5], i3.tr b1⟩
          · rw [if_neg e5]
            exact Or.inl ⟨_, _, _, rfl, by rw [mx_skip (fun h => e5 h.2)], fun _ => by rw [mx_skip (fun h => e5 h.2)], i3.tr b1⟩
    · rw [if_neg e1, if_pos rfl]
      have e3 : cPush σ sd j = false := by unfold cPush; rw [decide_eq_false e1, Bool.false_and]
      obtain ⟨k1, k2⟩ := hskip (fun h => by rw [e3] at h; exact absurd h.1 (by decide))
      exact Or.inl ⟨_, _, _, rfl, k1, k2, i3⟩
  · obtain ⟨i1, i2, i3⟩ := hI
    simp only [gX12_bestPush_44, i3.p hp, Option.bind_some, ln364, gd_t ib0, z0, i3.2, ← hσ, h.2.1, if_pos (show nI n ≤ nI n from nI_le (Nat.le_refl _) (by omega)), i1]
    exact ⟨m, rfl, i3⟩
theorem m_bySwap (hp : ldP μ 362 13 = some 364) (hq : ldP μ 362 16 = some 367) (h : okN n (ldI μ 364)) {f j : Nat} (hf : f < n) (hj : j < n) : ∃ m3, fX12_bySwap 362 (nI f) (nI j) μ = some (vSwap (ldI μ 364) f j, m3) ∧ QFF μ m3 := by
  have hn := h.le
  have hf8 : f < 8 := by omega
  have hj8 : j < 8 := by omega
  obtain ⟨m1, a1, b1⟩ := m_leaves hp hq
  have p1 := b1.p hp
  obtain ⟨m2, a2, p2, b2, c2, -⟩ := m_sets' p1 hf8 (w := 4) (W := 4) (v := ldI m1 364 (4 + 12 * j + 4)) (by decide) rfl
  obtain ⟨m3, a3, p3, b3, c3, -⟩ := m_sets' p2 hj8 (w := 4) (W := 4) (v := ldI m1 364 (4 + 12 * f + 4)) (by decide) rfl
  rw [b1.s] at c2 c3
  have e3 : ldI m3 364 = swp (ldI μ 364) f j := by rw [c3, c2]; rfl
  have w3 : WB μ m3 := (b1.wb.mr b2 (fun i hi => by rw [c2, upd_n (by omega), b1.s])).mr b3 (fun i hi => by rw [c3, upd_n (by omega)])
  have hok3 : okN n (ldI m3 364) := by rw [e3]; exact h.swq hf hj
  have e4 : ldI m3 364 (4 + 12 * f) = ldI μ 364 (4 + 12 * f) := by rw [e3]; unfold swp; rw [upd_n (by omega), upd_n (by omega)]
  obtain ⟨m4, a4, b4⟩ := w3.then hp hq hok3 (ldI μ 364 (4 + 12 * f))
  unfold fX12_bySwap
  rw [a1, Option.bind_some, m_of4 p1 hf8, Option.bind_some, m_of4 p1 hj8, Option.bind_some, a2, Option.bind_some, a3, Option.bind_some, m_of0 p3 hf8, Option.bind_some, e4, a4, Option.bind_some, e3]
  exact ⟨m4, rfl, b4⟩
theorem m_bestSwap45 (hp : ldP μ 362 13 = some 364) (hq : ldP μ 362 16 = some 367) (h : okN n (ldI μ 364)) {f : Nat} (hf : f < n) {base : Int32} {m0 : Mem} (h0 : QFF μ m0) (hb : base = sp_sl (sp_play 20 (ldI μ 364)).2 (ldI μ 364 (4 + 12 * f)) 8) : ∃ m3, fX12_bestSwap_45 362 (nI f) (-1) base 0 m0 = some (noI (sp_bs (ldI μ 364) f), m3) ∧ QFF μ m3 := by
  have hn := h.le
  have hf8 : f < 8 := by omega
  obtain ⟨σ, hσ⟩ : ∃ σ, σ = ldI μ 364 := ⟨_, rfl⟩
  rw [← hσ] at h hb ⊢
  unfold fX12_bestSwap_45 sp_bs
  rw [← hb]
  have hx : sp_mx (cSwap σ f) (vSwap σ f) base 8 = sp_mx (cSwap σ f) (vSwap σ f) base n := mx_ext 8 hn (fun g h1 h2 => by unfold cSwap sd_c; rw [decide_eq_false (h.dead g h1 h2), Bool.false_and, Bool.and_false])
  rw [hx]
  refine zl4_fol (N := n) (s0 := 0) (I := fun j a b m => a = noI (sp_mx (cSwap σ f) (vSwap σ f) base j).1 ∧ b = (sp_mx (cSwap σ f) (vSwap σ f) base j).2 ∧ QFF μ m) (Qr := fun r => ∃ μ', r = some (noI (sp_mx (cSwap σ f) (vSwap σ f) base n).1, μ') ∧ QFF μ μ') (by omega) (by omega) rfl ⟨rfl, rfl, h0⟩ (fun j a b m self _ hj hI => ?_) (fun a b m self hI => ?_)
  · obtain ⟨i1, i2, i3⟩ := hI
    subst i1; subst i2
    have hj8 : j < 8 := by omega
    have es : ldI m 364 = σ := by rw [i3.2, hσ]
    have hskip : cSwap σ f j = false → sp_mx (cSwap σ f) (vSwap σ f) base (j + 1) = sp_mx (cSwap σ f) (vSwap σ f) base j := fun e3 => mx_skip (fun h => by rw [e3] at h; exact absurd h.1 (by decide))
    simp only [gX12_bestSwap_45, i3.p hp, Option.bind_some, ln364, gd_t ib0, z0, es, h.2.1, if_neg (jn hj hn), m_lives (i3.p hp) hj8, m_of0 (i3.p hp) hj8, m_of0 (i3.p hp) hf8, nm_b, nI_1, nI_eq (show j < 2 ^ 31 by omega) (show f < 2 ^ 31 by omega)]
    by_cases e1 : j = f
    · rw [if_pos e1]
      have e3 : cSwap σ f j = false := by unfold cSwap; rw [decide_eq_false (fun h => h e1), Bool.false_and]
      exact Or.inl ⟨_, _, _, rfl, by rw [hskip e3], by rw [hskip e3], i3⟩
    rw [if_neg e1]
    by_cases e2 : lvN σ j
    · rw [if_pos e2, if_neg one0]
      by_cases e4 : σ (4 + 12 * j) = σ (4 + 12 * f)
      · rw [if_pos e4]
        have e3 : cSwap σ f j = true := by unfold cSwap sd_c; rw [decide_eq_true e1, decide_eq_true e2, decide_eq_true e4]; rfl
        obtain ⟨m1, a1, b1⟩ := m_bySwap (i3.p hp) (i3.p hq) (by rw [es]; exact h) hf hj
        rw [es] at a1
        rw [a1, Option.bind_some]
        by_cases e5 : (sp_mx (cSwap σ f) (vSwap σ f) base j).2 < vSwap σ f j
        · rw [if_pos e5]
          exact Or.inl ⟨_, _, _, rfl, by rw [mx_take e3 e5]; rfl, by rw [mx_take e3 e5], i3.tr b1⟩
        · rw [if_neg e5]
          exact Or.inl ⟨_, _, _, rfl, by rw [mx_skip (fun h => e5 h.2)], by rw [mx_skip (fun h => e5 h.2)], i3.tr b1⟩
      · rw [if_neg e4]
        have e3 : cSwap σ f j = false := by unfold cSwap sd_c; rw [decide_eq_false e4, Bool.and_false, Bool.and_false]
        exact Or.inl ⟨_, _, _, rfl, by rw [hskip e3], by rw [hskip e3], i3⟩
    · rw [if_neg e2, if_pos rfl]
      have e3 : cSwap σ f j = false := by unfold cSwap sd_c; rw [decide_eq_false e2, Bool.false_and, Bool.and_false]
      exact Or.inl ⟨_, _, _, rfl, by rw [hskip e3], by rw [hskip e3], i3⟩
  · obtain ⟨i1, i2, i3⟩ := hI
    simp only [gX12_bestSwap_45, i3.p hp, Option.bind_some, ln364, gd_t ib0, z0, i3.2, ← hσ, h.2.1, if_pos (show nI n ≤ nI n from nI_le (Nat.le_refl _) (by omega)), i1]
    exact ⟨m, rfl, i3⟩
theorem m_byPlace (hp : ldP μ 362 13 = some 364) (hq : ldP μ 362 16 = some 367) (h : okN n (ldI μ 364)) {f i a : Nat} (hf : f < n) (ha : ldI μ 364 (4 + 12 * f + 8) = nI a) (ha6 : a ≤ 6) (hi : i < a) : ∃ m3, fX12_byPlace 362 (nI f) (nI i) μ = some (vPlace (ldI μ 364) f i, m3) ∧ QFF μ m3 := by
  have hf8 : f < 8 := by have := h.le; omega
  obtain ⟨m1, a1, b1⟩ := m_leaves hp hq
  obtain ⟨m2, a2, p2, b2, c2, -⟩ := m_sets' (b1.p hp) hf8 (w := 7) (W := 7) (v := nI i) (by decide) rfl
  rw [b1.s] at c2
  have w2 : WB μ m2 := b1.wb.mr b2 (fun i hi => by rw [c2, upd_n (by omega), b1.s])
  have hok2 : okN n (ldI m2 364) := by rw [c2]; exact h.pl hf ha ha6 hi
  have e4 : ldI m2 364 (4 + 12 * f) = ldI μ 364 (4 + 12 * f) := by rw [c2, upd_n (by omega)]
  obtain ⟨m3, a3, b3⟩ := w2.then hp hq hok2 (ldI μ 364 (4 + 12 * f))
  unfold fX12_byPlace
  rw [a1, Option.bind_some, a2, Option.bind_some, m_of0 p2 hf8, Option.bind_some, e4, a3, Option.bind_some, c2]
  exact ⟨m3, rfl, b3⟩
theorem m_bestPlace26 (hp : ldP μ 362 13 = some 364) (hq : ldP μ 362 16 = some 367) (h : okN n (ldI μ 364)) {f a : Nat} (hf : f < n) (ha : ldI μ 364 (4 + 12 * f + 8) = nI a) (ha6 : a ≤ 6) (ha1 : 1 ≤ a) {m0 : Mem} (h0 : QFF μ m0) : ∃ m3, fX12_bestPlace_26 362 (nI f) 0 (vPlace (ldI μ 364) f 0) 1 m0 = some (noI (sp_bl (ldI μ 364) f a), m3) ∧ QFF μ m3 := by
  have hn := h.le
  have hf8 : f < 8 := by omega
  obtain ⟨σ, hσ⟩ : ∃ σ, σ = ldI μ 364 := ⟨_, rfl⟩
  rw [← hσ] at h ha ⊢
  unfold fX12_bestPlace_26 sp_bl
  have e1 : sp_mx (fun _ => true) (vPlace σ f) (-1) 1 = (some 0, vPlace σ f 0) := mx_take rfl (sl_pos ((h.pl hf ha ha6 (by omega)).play 20))
  refine zl4_fol (N := a) (s0 := 1) (I := fun j x b m => x = noI (sp_mx (fun _ => true) (vPlace σ f) (-1) j).1 ∧ b = (sp_mx (fun _ => true) (vPlace σ f) (-1) j).2 ∧ QFF μ m) (Qr := fun r => ∃ μ', r = some (noI (sp_mx (fun _ => true) (vPlace σ f) (-1) a).1, μ') ∧ QFF μ μ') (by omega) ha1 rfl ⟨by rw [e1]; rfl, by rw [e1], h0⟩ (fun j x b m self _ hj hI => ?_) (fun x b m self hI => ?_)
  · obtain ⟨i1, i2, i3⟩ := hI
    subst i1; subst i2
    have es : ldI m 364 = σ := by rw [i3.2, hσ]
    obtain ⟨m1, a1, b1⟩ := m_byPlace (i3.p hp) (i3.p hq) (by rw [es]; exact h) hf (by rw [es]; exact ha) ha6 hj
    rw [es] at a1
    simp only [gX12_bestPlace_26, m_of8 (i3.p hp) hf8, Option.bind_some, es, ha, if_neg (nI_ge hj (show a < 2 ^ 31 by omega)), a1, nm_b, nI_1]
    by_cases e5 : (sp_mx (fun _ => true) (vPlace σ f) (-1) j).2 < vPlace σ f j
    · rw [if_pos e5]
      exact Or.inl ⟨_, _, _, rfl, by rw [mx_take rfl e5]; rfl, by rw [mx_take rfl e5], i3.tr b1⟩
    · rw [if_neg e5]
      exact Or.inl ⟨_, _, _, rfl, by rw [mx_skip (fun h => e5 h.2)], by rw [mx_skip (fun h => e5 h.2)], i3.tr b1⟩
  · obtain ⟨i1, i2, i3⟩ := hI
    have es : ldI m 364 = σ := by rw [i3.2, hσ]
    simp only [gX12_bestPlace_26, m_of8 (i3.p hp) hf8, Option.bind_some, es, ha, if_pos (show nI a ≤ nI a from nI_le (Nat.le_refl _) (by omega)), i1]
    exact ⟨m, rfl, i3⟩
end BESTM
