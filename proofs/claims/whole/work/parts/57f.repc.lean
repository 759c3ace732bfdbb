/-! repeats: the class's -/
def rpT : Option (Nat × Nat) → Int32
  | none => -1
  | some x => nI x.1
def rpL : Option (Nat × Nat) → Int32
  | none => -1
  | some x => nI (x.1 - x.2)
/-- 1 if it holds -/
noncomputable def bI (P : Prop) : Int32 := @ite _ P (Classical.propDecidable P) 1 0
theorem bI_t {P : Prop} (h : P) : bI P = 1 := if_pos h
theorem bI_f {P : Prop} (h : ¬ P) : bI P = 0 := if_neg h
section REPC
variable {μ : Mem} {n : Nat} {σ : Sg} {ν : Nat → Int64}
theorem ln183 : Ln 183 = 1608 := by decide
theorem c_likeness {o : Nat} (h : FR μ o σ ν) {f : Nat} (hf : f < 8) : fX3_likeness (o + 5 + 3 * f) μ = some (lk σ f) := by
  unfold fX3_likeness lk
  simp only [nm_b, h.lif hf, h.spd hf, h.gau hf, h.grd hf, h.ext hf, h.plc hf]
def SJ (μ μ' : Mem) : Prop := ldI μ' = ldI μ ∧ ldP μ' = ldP μ ∧ ∀ a, a ≠ 183 → ldJ μ' a = ldJ μ a
theorem SJ.se {μ' : Mem} (h : SJ μ μ') : SE (fun a => a = 183) μ μ' := fun a ha => ⟨by rw [h.1], h.2.2 a ha, by rw [h.2.1]⟩
theorem rg183 {a : Nat} (h : RG 154 a) : ¬ a = 183 := fun e => by unfold RG at h; omega
theorem c_note (h : FR μ 154 σ ν) (hp : ldP μ 153 0 = some 154) (hq : ldP μ 153 1 = some 183) {t : Nat} (ht : t ≤ 200) : ∃ μ', fX4_note 153 (nI t) μ = some μ' ∧ SJ μ μ' ∧ (∀ f, f < 8 → ldJ μ' 183 (8 * t + f) = lk σ f) ∧ ∀ i, i < 8 * t → ldJ μ' 183 i = ldJ μ 183 i := by
  unfold fX4_note fX4_note_14
  rw [hp, Option.bind_some, h.p0, Option.bind_some, nm_b, h.ln]
  refine zl2_fob (N := 8) (I := fun j m => SJ μ m ∧ (∀ f, f < j → ldJ m 183 (8 * t + f) = lk σ f) ∧ ∀ i, i < 8 * t → ldJ m 183 i = ldJ μ 183 i) (Qr := fun r => ∃ μ', r = some μ' ∧ SJ μ μ' ∧ (∀ f, f < 8 → ldJ μ' 183 (8 * t + f) = lk σ f) ∧ ∀ i, i < 8 * t → ldJ μ' 183 i = ldJ μ 183 i) (by decide) ⟨⟨rfl, rfl, fun _ _ => rfl⟩, fun f hf => absurd hf (Nat.not_lt_zero _), fun _ _ => rfl⟩ (fun j m self hj hI => ?_) (fun m self hI => ?_)
  · obtain ⟨i1, i4, i5⟩ := hI
    have hm : FR m 154 σ ν := h.out i1.se (fun a ha => rg183 ha)
    have hqm : ldP m 153 1 = some 183 := by rw [i1.2.1]; exact hq
    have e1 : nI t * 8 + nI j = nI (t * 8 + j) := by rw [show (8 : Int32) = nI 8 from rfl, pk_mul, nI_add]
    have e2 : ¬ (Int32.ofNat (Ln 183)) ≤ nI (t * 8 + j) := by rw [ln183]; exact nI_ge (by omega) (by decide)
    have e3 : inB (nI (t * 8 + j)) (Ln 183) = true := by rw [ln183]; exact inB_nI (by omega) (by decide)
    simp only [gX4_note_14, if_neg (n8 hj), gd_t (hm.inb hj), cl8 hj, hm.pf hj, Option.bind_some, nm_b, nI_1, hm.num hj, e1, if_neg (nI_pos (n := t * 8 + j) (by omega)), hqm, if_neg e2, c_likeness hm hj, gd_t e3, nI_clamp (show t * 8 + j < 2 ^ 31 by omega)]
    refine Or.inl ⟨_, rfl, ⟨i1.1, i1.2.1, fun a ha => ?_⟩, fun f hf => ?_, fun i hi => ?_⟩
    · rw [ldJ_stJ_ne ha]; exact i1.2.2 a ha
    · rw [ldJ_stJ]
      by_cases e : f = j
      · subst e; rw [if_pos ⟨rfl, by omega⟩]
      · rw [if_neg (by omega)]; exact i4 f (by omega)
    · rw [ldJ_stJ, if_neg (by omega)]; exact i5 i hi
  · simp only [gX4_note_14, if_pos (show nI 8 ≤ nI 8 from nI_le (Nat.le_refl _) (by decide))]
    exact ⟨m, rfl, hI⟩
theorem c_isSame (hq : ldP μ 153 1 = some 183) {a b : Nat} (ha : a ≤ 200) (hb : b ≤ 200) : fX4_isSame 153 (nI (a * 8)) (nI (b * 8)) μ = some (bI (∀ f, f < 8 → ldJ μ 183 (8 * a + f) = ldJ μ 183 (8 * b + f))) := by
  have e1 : (Int32.ofNat (Ln 183)) - 8 = nI 1600 := by rw [ln183]; decide
  unfold fX4_isSame fX4_isSame_36
  rw [if_neg (nI_pos (by omega)), if_neg (nI_pos (by omega)), hq, Option.bind_some, e1, if_neg (nI_nlt (by omega) (by decide)), Option.bind_some, e1, if_pos (nI_le (by omega) (by decide))]
  refine zl1_for (N := 8) (I := fun j => ∀ f, f < j → ldJ μ 183 (8 * a + f) = ldJ μ 183 (8 * b + f)) (Qr := fun r => r = some (bI (∀ f, f < 8 → ldJ μ 183 (8 * a + f) = ldJ μ 183 (8 * b + f)))) (by decide) (fun f hf => absurd hf (Nat.not_lt_zero _)) (fun j self hj hI => ?_) (fun self hI => ?_)
  · have e2 : inB (nI (a * 8 + j)) (Ln 183) = true := by rw [ln183]; exact inB_nI (by omega) (by decide)
    have e3 : inB (nI (b * 8 + j)) (Ln 183) = true := by rw [ln183]; exact inB_nI (by omega) (by decide)
    simp only [gX4_isSame_36, if_neg (show ¬ (8 : Int32) ≤ nI j from n8 hj), hq, Option.bind_some, nI_add, gd_t e2, gd_t e3, nI_clamp (show a * 8 + j < 2 ^ 31 by omega), nI_clamp (show b * 8 + j < 2 ^ 31 by omega), lg_cmp_eq, nm_b, nI_1]
    by_cases e : ldJ μ 183 (a * 8 + j) = ldJ μ 183 (b * 8 + j)
    · refine Or.inl ⟨by rw [if_pos e], fun f hf => ?_⟩
      by_cases e4 : f = j
      · subst e4
        rw [show 8 * a + f = a * 8 + f by omega, show 8 * b + f = b * 8 + f by omega]; exact e
      · exact hI f (by omega)
    · refine Or.inr ?_
      rw [if_neg e, bI_f (fun h => e (by
        have := h j hj
        rwa [show 8 * a + j = a * 8 + j by omega, show 8 * b + j = b * 8 + j by omega] at this))]
  · simp only [gX4_isSame_36, if_pos (show (8 : Int32) ≤ nI 8 by decide)]
    rw [bI_t hI]
theorem c_sameBefore (hq : ldP μ 153 1 = some 183) {S : Nat → Sg} (hS : ∀ b, okN n (S b)) {t : Nat} (ht : t ≤ 200) (hL : ∀ b, b ≤ t → ∀ f, f < 8 → ldJ μ 183 (8 * b + f) = lk (S b) f) : fX4_sameBefore 153 (nI t) μ = some (noI (sp_bef S t t)) := by
  unfold fX4_sameBefore fX4_sameBefore_4
  rw [nm_b]
  refine zl1_m (P := fun k x => k ≤ t ∧ x = nI k - 1 ∧ sp_bef S t k = sp_bef S t t) (Qr := fun r => r = some (noI (sp_bef S t t))) (fun k x self hP => ?_) FU t (nI t - 1) (FU_gt (by omega)) ⟨Nat.le_refl _, rfl, rfl⟩
  obtain ⟨h1, h2, h3⟩ := hP
  subst h2
  cases k with
  | zero =>
    refine Or.inr ?_
    simp only [gX4_sameBefore_4, if_pos (show nI 0 - 1 < 0 by decide)]
    rw [← h3]; rfl
  | succ b =>
    have hs := c_isSame hq (a := b) (b := t) (by omega) ht
    have hb : (∀ f, f < 8 → ldJ μ 183 (8 * b + f) = ldJ μ 183 (8 * t + f)) ↔ eqvB (S b) (S t) = true := by
      rw [eqvB_iff]
      refine ⟨fun h f hf => (lk_iff (hS b) (hS t) hf).mp ?_, fun h f hf => ?_⟩
      · rw [← hL b (by omega) f hf, ← hL t (Nat.le_refl _) f hf]; exact h f hf
      · rw [hL b (by omega) f hf, hL t (Nat.le_refl _) f hf]; exact (lk_iff (hS b) (hS t) hf).mpr (h f hf)
    simp only [gX4_sameBefore_4, nI_pred, if_neg (nI_pos (n := b) (by omega)), show (8 : Int32) = nI 8 from rfl, pk_mul, hs, Option.bind_some, nm_b]
    rw [bef_s] at h3
    by_cases e : eqvB (S b) (S t) = true
    · rw [if_pos e] at h3
      rw [bI_t (hb.mpr e), if_neg one0, ← h3]
      exact Or.inr rfl
    · rw [if_neg e] at h3
      rw [bI_f (fun h => e (hb.mp h)), if_pos rfl]
      exact Or.inl ⟨b, _, by omega, ⟨by omega, (Int32.sub_eq_add_neg _ _).symm, h3⟩, rfl⟩
def SR (a : Nat) : Prop := a = 153 ∨ RG 154 a ∨ a = 183
theorem c_findRepeat (h : FR μ 66 σ ν) (hl : FA μ 154) (hp : ldP μ 153 0 = some 154) (hq : ldP μ 153 1 = some 183) (hok : okN n σ) : ∃ μ', fX4_findRepeat 153 66 μ = some μ' ∧ ldI μ' 153 2 = rpT (sp_rp (SS σ) 200 1) ∧ ldI μ' 153 3 = rpL (sp_rp (SS σ) 200 1) ∧ FA μ' 154 ∧ SE SR μ μ' ∧ ldP μ' 153 = ldP μ 153 := by
  obtain ⟨σ0, ν0, hl⟩ := hl
  have hn : ¬ RG 154 153 := fun h => by unfold RG at h; omega
  unfold fX4_findRepeat fX4_findRepeat_25
  obtain ⟨u, hu⟩ : ∃ u, u = stI (stI μ 153 2 (-1)) 153 3 (-1) := ⟨_, rfl⟩
  rw [nm_b, nm_b, ← hu]
  have u1 : SE (fun a => a = 153) μ u := by
    rw [hu]; exact (SE.sI (S := fun a => a = 153) rfl).tr (SE.sI (S := fun a => a = 153) rfl)
  have u2 : ldP u = ldP μ := by rw [hu]; rfl
  have u3 : ldI u 153 2 = -1 := by rw [hu]; rfl
  have u4 : ldI u 153 3 = -1 := by rw [hu]; rfl
  have hl' : FR u 154 σ0 ν0 := hl.out u1 (fun a ha e => by unfold RG at ha; omega)
  have h' : FR u 66 σ ν := h.out u1 (fun a ha e => by unfold RG at ha; omega)
  obtain ⟨m1, a1, b1⟩ := c_copyS hl' h' (Or.inr (by decide))
  have p1 : ldP m1 153 = ldP μ 153 := by rw [(b1.2 153 hn).2.2, u2]
  rw [show ldP u 153 0 = some 154 by rw [u2]; exact hp, Option.bind_some, a1, Option.bind_some, show (0 : Int32) = nI 0 from rfl]
  obtain ⟨m2, a2, b2, c2, d2⟩ := c_note b1.1 (by rw [p1]; exact hp) (by rw [p1]; exact hq) (t := 0) (by decide)
  rw [a2, Option.bind_some]
  have w1 : ∀ {x y : Mem}, SE (RG 154) x y → SE SR x y := fun h => h.mono (fun a ha => Or.inr (Or.inl ha))
  have w2 : ∀ {x y : Mem}, SJ x y → SE SR x y := fun h => h.se.mono (fun a ha => Or.inr (Or.inr ha))
  have w3 : SE SR μ m2 := ((u1.mono (fun a ha => Or.inl ha)).tr (w1 b1.2)).tr (w2 b2)
  refine zl2_m (P := fun q v2 m => ∃ j, j ≤ 200 ∧ q = 200 - j ∧ v2 = nI (j + 1) ∧ FR m 154 (SS σ j) ν ∧ SE SR μ m ∧ ldP m 153 = ldP μ 153 ∧ ldI m 153 2 = -1 ∧ ldI m 153 3 = -1 ∧ (∀ b, b ≤ j → ∀ f, f < 8 → ldJ m 183 (8 * b + f) = lk (SS σ b) f) ∧ sp_rp (SS σ) (200 - j) (j + 1) = sp_rp (SS σ) 200 1) (Qr := fun r => ∃ μ', r = some μ' ∧ ldI μ' 153 2 = rpT (sp_rp (SS σ) 200 1) ∧ ldI μ' 153 3 = rpL (sp_rp (SS σ) 200 1) ∧ FA μ' 154 ∧ SE SR μ μ' ∧ ldP μ' 153 = ldP μ 153) (fun q v2 m self hP => ?_) FU 200 1 m2 (FU_gt (by decide)) ⟨0, by decide, rfl, rfl, b1.1.out b2.se (fun a ha => rg183 ha), w3, by rw [b2.2.1]; exact p1, by rw [b2.1, (b1.2 153 hn).1]; exact u3, by rw [b2.1, (b1.2 153 hn).1]; exact u4, fun b hb f hf => ?_, rfl⟩
  · obtain ⟨j, e1, e2, e3, g1, g2, g3, g4, g5, g6, g7⟩ := hP
    subst e2; subst e3
    have hpm : ldP m 153 0 = some 154 := by rw [g3]; exact hp
    have hqm : ldP m 153 1 = some 183 := by rw [g3]; exact hq
    by_cases hj : j < 200
    · rw [show 200 - j = (200 - (j + 1)) + 1 by omega] at g7
      obtain ⟨m3, a3, b3⟩ := c_playOn g1 (SS_ok hok j) (k := 1) (by decide)
      have p3 : ldP m3 153 = ldP μ 153 := by rw [(b3.2 153 hn).2.2, g3]
      have i3 := (b3.2 153 hn).1
      have x3 := g2.tr (w1 b3.2)
      have e5 : ¬ (200 : Int32) < nI (j + 1) := nI_nlt (a := 200) (b := j + 1) (by omega) (by decide)
      simp only [gX4_findRepeat_25, if_neg e5, hpm, Option.bind_some, show fX2_playOn 154 1 m = some (nI (sp_play 1 (SS σ j)).1, m3) from a3]
      by_cases ho : sp_over (SS σ j) = true
      · rw [rp_over (by rw [Nat.add_sub_cancel]; exact ho)] at g7
        have e6 : (sp_play 1 (SS σ j)).1 = 0 := by rw [play_over ho]
        rw [e6, if_neg (show ¬ (1 : Int32) ≤ nI 0 by decide)]
        exact Or.inr ⟨m3, rfl, by rw [i3, g4, ← g7]; rfl, by rw [i3, g5, ← g7]; rfl, ⟨_, _, b3.1⟩, x3, p3⟩
      · obtain ⟨e7, w, e8, e9⟩ := SS_next hok ho
        rw [e7] at b3
        rw [e7, if_pos (show (1 : Int32) ≤ nI 1 by decide)]
        obtain ⟨m4, a4, b4, c4, d4⟩ := c_note b3.1 (by rw [p3]; exact hp) (by rw [p3]; exact hq) (t := j + 1) (by omega)
        have p4 : ldP m4 153 = ldP μ 153 := by rw [b4.2.1, p3]
        have f4 : FR m4 154 (SS σ (j + 1)) ν := b3.1.out b4.se (fun a ha => rg183 ha)
        have x4 := x3.tr (w2 b4)
        have y4 : ∀ b, b ≤ j + 1 → ∀ f, f < 8 → ldJ m4 183 (8 * b + f) = lk (SS σ b) f := by
          intro b hb f hf
          by_cases e : b = j + 1
          · subst e; exact c4 f hf
          · rw [d4 _ (by omega), (b3.2 183 (fun h => rg183 h rfl)).2.1]; exact g6 b (by omega) f hf
        rw [a4, Option.bind_some, c_sameBefore (S := SS σ) (by rw [p4]; exact hq) (SS_ok hok) (by omega) y4, Option.bind_some]
        cases hb : sp_bef (SS σ) (j + 1) (j + 1) with
        | none =>
          rw [rp_none (by rw [Nat.add_sub_cancel]; exact ho) hb] at g7
          rw [if_pos (show noI none = -1 from rfl), nm_b, nI_1]
          exact Or.inl ⟨_, _, _, by omega, ⟨j + 1, by omega, rfl, rfl, f4, x4, p4, by rw [b4.1, i3]; exact g4, by rw [b4.1, i3]; exact g5, y4, g7⟩, rfl⟩
        | some b =>
          have hlt := bef_lt hb
          rw [rp_some (by rw [Nat.add_sub_cancel]; exact ho) hb] at g7
          rw [if_neg (show ¬ noI (some b) = -1 from nI_m1 (by omega)), nm_b, nm_b, show noI (some b) = nI b from rfl, pk_sub (by omega)]
          refine Or.inr ⟨_, rfl, ?_, ?_, ⟨_, _, (f4.out (SE.sI (S := fun a => a = 153) rfl) (fun a ha e => by unfold RG at ha; omega)).out (SE.sI (S := fun a => a = 153) rfl) (fun a ha e => by unfold RG at ha; omega)⟩, (x4.tr (SE.sI (Or.inl rfl))).tr (SE.sI (Or.inl rfl)), p4⟩
          · rw [ldI_stI, if_neg (by omega), ldI_stI_s, ← g7]; rfl
          · rw [ldI_stI_s, ← g7]; rfl
    · have : j = 200 := by omega
      subst this
      refine Or.inr ?_
      simp only [gX4_findRepeat_25, if_pos (show (200 : Int32) < nI (200 + 1) by decide)]
      exact ⟨m, rfl, by rw [g4, ← g7]; rfl, by rw [g5, ← g7]; rfl, ⟨_, _, g1⟩, g2, g3⟩
  · have : b = 0 := by omega
    subst this
    exact c2 f hf
end REPC
