/-! what would be best: the class's -/
section BESTC
variable {μ : Mem} {n : Nat} {σ : Sg} {ν : Nat → Int64}
theorem n153 : ¬ RG 154 153 := fun h => by unfold RG at h; omega
/-- one step of all these: the later fight is a copy -/
theorem c_later {m : Mem} (h : FR m 66 σ ν) (hl : FA m 154) (hp : ldP m 153 0 = some 154) : ∃ m1, fX2_copyFrom 154 66 m = some m1 ∧ FR m1 154 σ ν ∧ FR m1 66 σ ν ∧ SE (RG 154) m m1 ∧ ldP m1 153 0 = some 154 := by
  obtain ⟨σ0, ν0, hl⟩ := hl
  obtain ⟨m1, a1, b1⟩ := c_copyS hl h (Or.inr (by decide))
  exact ⟨m1, a1, b1.1, h.out b1.2 r66, b1.2, by rw [(b1.2 153 n153).2.2]; exact hp⟩
theorem c_speedToWin (h : FR μ 66 σ ν) (hl : FA μ 154) (hp : ldP μ 153 0 = some 154) (hok : okN n σ) {f : Nat} (hf : f < n) : ∃ μ', fX4_speedToWin 153 66 (66 + 5 + 3 * f) μ = some (noI (sp_ls σ f), μ') ∧ FA μ' 154 ∧ SE (RG 154) μ μ' := by
  have hf8 : f < 8 := by have := hok.le; omega
  unfold fX4_speedToWin fX4_speedToWin_2 sp_ls
  refine zl2_m (P := fun q v m => ∃ j, j ≤ 99 ∧ q = 99 - j ∧ v = nI (j + 1) ∧ FA m 154 ∧ SE (RG 154) μ m ∧ sp_least (ls_c σ f) (99 - j) (j + 1) = sp_least (ls_c σ f) 99 1) (Qr := fun r => ∃ μ', r = some (noI (sp_least (ls_c σ f) 99 1), μ') ∧ FA μ' 154 ∧ SE (RG 154) μ μ') (fun q v m self hP => ?_) FU 99 1 μ (FU_gt (by decide)) ⟨0, by decide, rfl, rfl, hl, SE.rf, rfl⟩
  obtain ⟨j, e1, e2, e3, g1, g2, g3⟩ := hP
  subst e2; subst e3
  by_cases hj : j < 99
  · rw [show 99 - j = (99 - (j + 1)) + 1 by omega, sp_least] at g3
    obtain ⟨m1, a1, b1, c1, d1, p1⟩ := c_later (h.out g2 r66) g1 (by rw [(g2 153 n153).2.2]; exact hp)
    have e4 : ¬ (99 : Int32) < nI (j + 1) := nI_nlt (a := 99) (b := j + 1) (by omega) (by decide)
    have hs := b1.set (f := f) (w := 1) (v := nI (j + 1)) hf8 (by decide)
    have hss : SE (RG 154) m1 (stI m1 (154 + 5 + 3 * f) 6 (nI (j + 1))) := SE.sI ⟨by omega, by omega⟩
    obtain ⟨m2, a2, b2⟩ := c_playOn hs (hok.ls hf (v := j + 1) (by omega) (by omega)) (k := 200) (by decide)
    have t2 := ((g2.tr d1).tr hss).tr b2.2
    simp only [gX4_speedToWin_2, if_neg e4, show ldP m 153 0 = some 154 by rw [(g2 153 n153).2.2]; exact hp, Option.bind_some, a1, p1, c1.num hf8, c_at b1, sp_at_nI hf8, ob, nm_b]
    rw [show ldP (stI m1 (154 + 5 + 3 * f) 6 (nI (j + 1))) 153 0 = some 154 from p1, Option.bind_some, show fX2_playOn 154 200 (stI m1 (154 + 5 + 3 * f) 6 (nI (j + 1))) = some (_, m2) from a2, Option.bind_some, show ldP m2 153 0 = some 154 by rw [(t2 153 n153).2.2]; exact hp, Option.bind_some, c_wonBy b2.1, Option.bind_some, (h.out t2 r66).sid hf8]
    by_cases e : ls_c σ f (j + 1) = true
    · rw [if_pos e] at g3
      rw [if_pos (of_decide_eq_true e)]
      exact Or.inr ⟨m2, by rw [← g3]; rfl, ⟨_, _, b2.1⟩, t2⟩
    · rw [if_neg e] at g3
      rw [if_neg (fun h => e (decide_eq_true h)), nI_1]
      exact Or.inl ⟨_, _, _, by omega, ⟨j + 1, by omega, rfl, rfl, ⟨_, _, b2.1⟩, t2, g3⟩, rfl⟩
  · have : j = 99 := by omega
    subst this
    refine Or.inr ?_
    simp only [gX4_speedToWin_2, if_pos (show (99 : Int32) < nI (99 + 1) by decide)]
    exact ⟨m, by rw [← g3]; rfl, g1, g2⟩
theorem zl4_fol {T1 T2 T4 β : Type} {g : (T1 → T2 → Int32 → T4 → Option β) → T1 → T2 → Int32 → T4 → Option β} {N : Nat} {a0 : T1} {b0 : T2} {c0 : T4} {I : Nat → T1 → T2 → T4 → Prop} {Qr : Option β → Prop} (hN : N < 4000000) {s0 : Nat} (hs0 : s0 ≤ N) {S0 : Int32} (hS0 : S0 = nI s0) (h0 : I s0 a0 b0 c0) (hs : ∀ j a b c self, s0 ≤ j → j < N → I j a b c → (∃ a' b' c', g self a b (nI j) c = self a' b' (nI (j + 1)) c' ∧ I (j + 1) a' b' c') ∨ Qr (g self a b (nI j) c)) (he : ∀ a b c self, I N a b c → Qr (g self a b (nI N) c)) : Qr (zl4 g FU a0 b0 S0 c0) := by
  refine zl4_m (P := fun k a b x c => ∃ j, s0 ≤ j ∧ j ≤ N ∧ k = N - j ∧ x = nI j ∧ I j a b c) (fun k a b x c self ⟨j, h0, h1, h2, h3, h4⟩ => ?_) FU (N - s0) a0 b0 S0 c0 (FU_gt (by omega)) ⟨s0, Nat.le_refl _, hs0, rfl, hS0, h0⟩
  subst h3
  by_cases hj : j < N
  · rcases hs j a b c self h0 hj h4 with ⟨a', b', c', h5, h6⟩ | h5
    · exact Or.inl ⟨N - (j + 1), _, _, _, _, by omega, ⟨j + 1, by omega, by omega, rfl, rfl, h6⟩, h5⟩
    · exact Or.inr h5
  · have : j = N := by omega
    subst this
    exact Or.inr (he a b c self h4)
theorem c_whomToPush (h : FR μ 66 σ ν) (hl : FA μ 154) (hp : ldP μ 153 0 = some 154) (hok : okN n σ) (sd : Int32) {by' : Nat} (hb : by' ≤ 999) : ∃ μ', fX4_whomToPush 153 66 sd (nI by') μ = some (noI (sp_bp σ sd (nI by')), μ') ∧ FA μ' 154 ∧ SE (RG 154) μ μ' := by
  unfold fX4_whomToPush fX4_whomToPush_20 sp_bp
  rw [h.p0, Option.bind_some, nm_b, h.ln]
  refine zl4_fol (N := 8) (s0 := 0) (I := fun j a b m => a = noI (sp_mx (cPush σ sd) (vPush σ sd (nI by')) (-1) j).1 ∧ b = (sp_mx (cPush σ sd) (vPush σ sd (nI by')) (-1) j).2 ∧ FA m 154 ∧ SE (RG 154) μ m) (Qr := fun r => ∃ μ', r = some (noI (sp_mx (cPush σ sd) (vPush σ sd (nI by')) (-1) 8).1, μ') ∧ FA μ' 154 ∧ SE (RG 154) μ μ') (by decide) (by decide) rfl ⟨rfl, rfl, hl, SE.rf⟩ (fun j a b m self _ hj hI => ?_) (fun a b m self hI => ?_)
  · obtain ⟨i1, i2, i3, i4⟩ := hI
    subst i1; subst i2
    have hm := h.out i4 r66
    simp only [gX4_whomToPush_20, if_neg (n8 hj), gd_t (h.inb hj), cl8 hj, hm.pf hj, Option.bind_some, nm_b, nI_1, hm.lif hj, hm.sid hj]
    by_cases e1 : lvN σ j
    · rw [if_neg (fun h => le0.mp h e1)]
      by_cases e2 : σ (4 + 12 * j) = sd
      · rw [if_pos e2]
        have e3 : cPush σ sd j = false := by unfold cPush; rw [decide_eq_true e2, Bool.not_true, Bool.and_false]
        exact Or.inl ⟨_, _, _, rfl, by rw [mx_skip (fun h => by rw [e3] at h; exact absurd h.1 (by decide))], by rw [mx_skip (fun h => by rw [e3] at h; exact absurd h.1 (by decide))], i3, i4⟩
      · rw [if_neg e2]
        have e3 : cPush σ sd j = true := by unfold cPush; rw [decide_eq_true e1, decide_eq_false e2]; rfl
        obtain ⟨m1, a1, b1, c1, d1, p1⟩ := c_later hm i3 (by rw [(i4 153 n153).2.2]; exact hp)
        obtain ⟨m2, a2, b2⟩ := c_loseGauge b1 hj (nI by')
        have p2 : ldP m2 153 0 = some 154 := by rw [(b2.2 153 n153).2.2]; exact p1
        obtain ⟨m3, a3, b3⟩ := c_playOn b2.1 (hok.lower (hok.liv hj e1) hb) (k := 20) (by decide)
        have t3 := ((i4.tr d1).tr b2.2).tr b3.2
        have p3 : ldP m3 153 0 = some 154 := by rw [(b3.2 153 n153).2.2]; exact p2
        rw [show ldP m 153 0 = some 154 by rw [(i4 153 n153).2.2]; exact hp, Option.bind_some, a1, Option.bind_some, p1, Option.bind_some, c1.num hj, c_at b1, Option.bind_some, sp_at_nI hj, show fX3_loseGauge (ob 154 (some j)) (nI by') m1 = some m2 from a2, Option.bind_some, p2, Option.bind_some, show fX2_playOn 154 20 m2 = some (_, m3) from a3, Option.bind_some, p3, Option.bind_some, show fX2_sideLife 154 sd m3 = some (vPush σ sd (nI by') j) from c_sideLife b3.1 sd, Option.bind_some, (h.out t3 r66).num hj]
        by_cases e4 : (sp_mx (cPush σ sd) (vPush σ sd (nI by')) (-1) j).2 < vPush σ sd (nI by') j
        · rw [if_neg (i32_nle.mpr e4)]
          exact Or.inl ⟨_, _, _, rfl, by rw [mx_take e3 e4]; rfl, by rw [mx_take e3 e4], ⟨_, _, b3.1⟩, t3⟩
        · rw [if_pos (i32_nlt.mp e4)]
          exact Or.inl ⟨_, _, _, rfl, by rw [mx_skip (fun h => e4 h.2)], by rw [mx_skip (fun h => e4 h.2)], ⟨_, _, b3.1⟩, t3⟩
    · rw [if_pos (le0.mpr e1)]
      have e3 : cPush σ sd j = false := by unfold cPush; rw [decide_eq_false e1, Bool.false_and]
      exact Or.inl ⟨_, _, _, rfl, by rw [mx_skip (fun h => by rw [e3] at h; exact absurd h.1 (by decide))], by rw [mx_skip (fun h => by rw [e3] at h; exact absurd h.1 (by decide))], i3, i4⟩
  · obtain ⟨i1, i2, i3, i4⟩ := hI
    simp only [gX4_whomToPush_20, if_pos (show nI 8 ≤ nI 8 from nI_le (Nat.le_refl _) (by decide)), i1]
    exact ⟨m, rfl, i3, i4⟩
theorem ob_inj {o f g : Nat} : o + 5 + 3 * f = o + 5 + 3 * g ↔ f = g := ⟨fun h => by omega, fun h => by rw [h]⟩
theorem c_withWhomToSwap (h : FR μ 66 σ ν) (hl : FA μ 154) (hp : ldP μ 153 0 = some 154) (hok : okN n σ) {f : Nat} (hf : f < n) : ∃ μ', fX4_withWhomToSwap 153 66 (66 + 5 + 3 * f) μ = some ((if lvN σ f then noI (sp_bs σ f) else -1), μ') ∧ FA μ' 154 ∧ SE (RG 154) μ μ' := by
  have hf8 : f < 8 := by have := hok.le; omega
  unfold fX4_withWhomToSwap fX4_withWhomToSwap_56
  rw [h.lif hf8]
  by_cases e0 : lvN σ f
  · rw [if_pos e0, if_pos e0]
    obtain ⟨m1, a1, b1, c1, d1, p1⟩ := c_later h hl hp
    obtain ⟨m2, a2, b2⟩ := c_playOn b1 hok (k := 20) (by decide)
    have t2 := d1.tr b2.2
    have p2 : ldP m2 153 0 = some 154 := by rw [(b2.2 153 n153).2.2]; exact p1
    have h2 := h.out t2 r66
    rw [hp, Option.bind_some, a1, Option.bind_some, p1, Option.bind_some, show fX2_playOn 154 20 m1 = some (_, m2) from a2, Option.bind_some, p2, Option.bind_some, h2.sid hf8, c_sideLife b2.1, Option.bind_some, h2.p0, Option.bind_some, nm_b, h.ln]
    unfold sp_bs
    obtain ⟨base, hbase⟩ : ∃ base, base = sp_sl (sp_play 20 σ).2 (σ (4 + 12 * f)) 8 := ⟨_, rfl⟩
    rw [← hbase]
    have key : ∀ (r : Option (Int32 × Mem)), (∃ μ', r = some (noI (sp_mx (cSwap σ f) (vSwap σ f) base 8).1, μ') ∧ FA μ' 154 ∧ SE (RG 154) μ μ') → ∃ μ', r = some (noI (sp_mx (cSwap σ f) (vSwap σ f) base 8).1, μ') ∧ FA μ' 154 ∧ SE (RG 154) μ μ' := fun r h => h
    apply key
    refine zl4_fol (N := 8) (s0 := 0) (I := fun j b a m => a = noI (sp_mx (cSwap σ f) (vSwap σ f) base j).1 ∧ b = (sp_mx (cSwap σ f) (vSwap σ f) base j).2 ∧ FA m 154 ∧ SE (RG 154) μ m) (Qr := fun r => ∃ μ', r = some (noI (sp_mx (cSwap σ f) (vSwap σ f) base 8).1, μ') ∧ FA μ' 154 ∧ SE (RG 154) μ μ') (by decide) (by decide) rfl ⟨rfl, rfl, ⟨_, _, b2.1⟩, t2⟩ (fun j b a m self _ hj hI => ?_) (fun b a m self hI => ?_)
    · obtain ⟨i1, i2, i3, i4⟩ := hI
      subst i1; subst i2
      have hm := h.out i4 r66
      have hskip : cSwap σ f j = false → sp_mx (cSwap σ f) (vSwap σ f) base (j + 1) = sp_mx (cSwap σ f) (vSwap σ f) base j := fun e3 => mx_skip (fun h => by rw [e3] at h; exact absurd h.1 (by decide))
      simp only [gX4_withWhomToSwap_56, if_neg (n8 hj), gd_t (h.inb hj), cl8 hj, hm.pf hj, Option.bind_some, nm_b, nI_1, hm.lif hj, hm.sid hj, hm.sid hf8, ob_inj]
      by_cases e1 : j = f
      · rw [if_pos e1]
        have e3 : cSwap σ f j = false := by unfold cSwap; rw [decide_eq_false (fun h => h e1), Bool.false_and]
        exact Or.inl ⟨_, _, _, rfl, by rw [hskip e3], by rw [hskip e3], i3, i4⟩
      rw [if_neg e1]
      by_cases e2 : lvN σ j
      · rw [if_neg (fun h => le0.mp h e2)]
        by_cases e4 : σ (4 + 12 * j) = σ (4 + 12 * f)
        · rw [if_pos e4]
          have e3 : cSwap σ f j = true := by unfold cSwap sd_c; rw [decide_eq_true e1, decide_eq_true e2, decide_eq_true e4]; rfl
          obtain ⟨m1, a1, b1, c1, d1, p1⟩ := c_later hm i3 (by rw [(i4 153 n153).2.2]; exact hp)
          have s1 := b1.set (f := f) (w := 4) (v := σ (4 + 12 * j + 4)) hf8 (by decide)
          have x1 : SE (RG 154) m1 (stI m1 (154 + 5 + 3 * f) 9 (σ (4 + 12 * j + 4))) := SE.sI ⟨by omega, by omega⟩
          have c2 := c1.out x1 r66
          have s2 := s1.set (f := j) (w := 4) (v := σ (4 + 12 * f + 4)) hj (by decide)
          have x2 : SE (RG 154) (stI m1 (154 + 5 + 3 * f) 9 (σ (4 + 12 * j + 4))) (stI (stI m1 (154 + 5 + 3 * f) 9 (σ (4 + 12 * j + 4))) (154 + 5 + 3 * j) 9 (σ (4 + 12 * f + 4))) := SE.sI ⟨by omega, by omega⟩
          obtain ⟨m3, a3, b3⟩ := c_playOn s2 (hok.swq hf (hok.liv hj e2)) (k := 20) (by decide)
          have t3 := (((i4.tr d1).tr x1).tr x2).tr b3.2
          have p3 : ldP m3 153 0 = some 154 := by rw [(t3 153 n153).2.2]; exact hp
          have h3 := h.out t3 r66
          rw [show ldP m 153 0 = some 154 by rw [(i4 153 n153).2.2]; exact hp, Option.bind_some, a1, Option.bind_some, p1, Option.bind_some, c1.num hf8, c_at b1, Option.bind_some, sp_at_nI hf8, c1.gau hj]
          simp only [ob]
          rw [show ldP (stI m1 (154 + 5 + 3 * f) 9 (σ (4 + 12 * j + 4))) 153 0 = some 154 from p1, Option.bind_some, c2.num hj, show fX2_at 154 (nI j) (stI m1 (154 + 5 + 3 * f) 9 (σ (4 + 12 * j + 4))) = _ from c_at s1 _, Option.bind_some, sp_at_nI hj, c2.gau hf8]
          simp only [ob]
          rw [show ldP (stI (stI m1 (154 + 5 + 3 * f) 9 (σ (4 + 12 * j + 4))) (154 + 5 + 3 * j) 9 (σ (4 + 12 * f + 4))) 153 0 = some 154 from p1, Option.bind_some, show fX2_playOn 154 20 (stI (stI m1 (154 + 5 + 3 * f) 9 (σ (4 + 12 * j + 4))) (154 + 5 + 3 * j) 9 (σ (4 + 12 * f + 4))) = some (_, m3) from a3, Option.bind_some, p3, Option.bind_some, h3.sid hf8, show fX2_sideLife 154 (σ (4 + 12 * f)) m3 = some (vSwap σ f j) from c_sideLife b3.1 _, Option.bind_some, h3.num hj]
          by_cases e5 : (sp_mx (cSwap σ f) (vSwap σ f) base j).2 < vSwap σ f j
          · rw [if_neg (i32_nle.mpr e5)]
            exact Or.inl ⟨_, _, _, rfl, by rw [mx_take e3 e5]; rfl, by rw [mx_take e3 e5], ⟨_, _, b3.1⟩, t3⟩
          · rw [if_pos (i32_nlt.mp e5)]
            exact Or.inl ⟨_, _, _, rfl, by rw [mx_skip (fun h => e5 h.2)], by rw [mx_skip (fun h => e5 h.2)], ⟨_, _, b3.1⟩, t3⟩
        · rw [if_neg e4]
          have e3 : cSwap σ f j = false := by unfold cSwap sd_c; rw [decide_eq_false e4, Bool.and_false, Bool.and_false]
          exact Or.inl ⟨_, _, _, rfl, by rw [hskip e3], by rw [hskip e3], i3, i4⟩
      · rw [if_pos (le0.mpr e2)]
        have e3 : cSwap σ f j = false := by unfold cSwap sd_c; rw [decide_eq_false e2, Bool.false_and, Bool.and_false]
        exact Or.inl ⟨_, _, _, rfl, by rw [hskip e3], by rw [hskip e3], i3, i4⟩
    · obtain ⟨i1, i2, i3, i4⟩ := hI
      simp only [gX4_withWhomToSwap_56, if_pos (show nI 8 ≤ nI 8 from nI_le (Nat.le_refl _) (by decide)), i1]
      exact ⟨m, rfl, i3, i4⟩
  · rw [if_neg e0, if_neg e0]
    exact ⟨μ, rfl, hl, SE.rf⟩
theorem c_whereToStart (h : FR μ 66 σ ν) (hl : FA μ 154) (hp : ldP μ 153 0 = some 154) (hok : okN n σ) {f a : Nat} (hf : f < n) (ha : σ (4 + 12 * f + 8) = nI a) (ha6 : a ≤ 6) : ∃ μ', fX4_whereToStart 153 66 (66 + 5 + 3 * f) μ = some (noI (sp_bl σ f a), μ') ∧ FA μ' 154 ∧ SE (RG 154) μ μ' := by
  have hf8 : f < 8 := by have := hok.le; omega
  unfold fX4_whereToStart fX4_whereToStart_8 sp_bl
  refine zl4_fol (N := a) (s0 := 0) (I := fun j x b m => x = noI (sp_mx (fun _ => true) (vPlace σ f) (-1) j).1 ∧ b = (sp_mx (fun _ => true) (vPlace σ f) (-1) j).2 ∧ FA m 154 ∧ SE (RG 154) μ m) (Qr := fun r => ∃ μ', r = some (noI (sp_mx (fun _ => true) (vPlace σ f) (-1) a).1, μ') ∧ FA μ' 154 ∧ SE (RG 154) μ μ') (by omega) (by omega) rfl ⟨rfl, rfl, hl, SE.rf⟩ (fun j x b m self _ hj hI => ?_) (fun x b m self hI => ?_)
  · obtain ⟨i1, i2, i3, i4⟩ := hI
    subst i1; subst i2
    have hm := h.out i4 r66
    obtain ⟨m1, a1, b1, c1, d1, p1⟩ := c_later hm i3 (by rw [(i4 153 n153).2.2]; exact hp)
    have s1 := b1.set (f := f) (w := 7) (v := nI j) hf8 (by decide)
    have x1 : SE (RG 154) m1 (stI m1 (154 + 5 + 3 * f) 12 (nI j)) := SE.sI ⟨by omega, by omega⟩
    obtain ⟨m3, a3, b3⟩ := c_playOn s1 (hok.pl hf ha ha6 hj) (k := 20) (by decide)
    have t3 := ((i4.tr d1).tr x1).tr b3.2
    have p3 : ldP m3 153 0 = some 154 := by rw [(t3 153 n153).2.2]; exact hp
    have h3 := h.out t3 r66
    simp only [gX4_whereToStart_8, hm.act hf8, ha, if_neg (nI_ge hj (show a < 2 ^ 31 by omega)), show ldP m 153 0 = some 154 by rw [(i4 153 n153).2.2]; exact hp, Option.bind_some, a1, p1, c1.num hf8, c_at b1, sp_at_nI hf8, ob, nm_b, nI_1]
    rw [show ldP (stI m1 (154 + 5 + 3 * f) 12 (nI j)) 153 0 = some 154 from p1, Option.bind_some, show fX2_playOn 154 20 (stI m1 (154 + 5 + 3 * f) 12 (nI j)) = some (_, m3) from a3, Option.bind_some, p3, Option.bind_some, h3.sid hf8, show fX2_sideLife 154 (σ (4 + 12 * f)) m3 = some (vPlace σ f j) from c_sideLife b3.1 _, Option.bind_some]
    by_cases e5 : (sp_mx (fun _ => true) (vPlace σ f) (-1) j).2 < vPlace σ f j
    · rw [if_neg (i32_nle.mpr e5)]
      exact Or.inl ⟨_, _, _, rfl, by rw [mx_take rfl e5]; rfl, by rw [mx_take rfl e5], ⟨_, _, b3.1⟩, t3⟩
    · rw [if_pos (i32_nlt.mp e5)]
      exact Or.inl ⟨_, _, _, rfl, by rw [mx_skip (fun h => e5 h.2)], by rw [mx_skip (fun h => e5 h.2)], ⟨_, _, b3.1⟩, t3⟩
  · obtain ⟨i1, i2, i3, i4⟩ := hI
    have hm := h.out i4 r66
    simp only [gX4_whereToStart_8, hm.act hf8, ha, if_pos (show nI a ≤ nI a from nI_le (Nat.le_refl _) (by omega)), i1]
    exact ⟨m, rfl, i3, i4⟩
end BESTC
