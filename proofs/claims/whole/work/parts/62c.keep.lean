/-! the law: a fight is kept -/
section KEEP
variable {c c' m m' : Mem} {n u : Nat} {ν : Nat → Int64} {π : Nat → Nat} {σ : Sg}
theorem drop_all : ∀ (d j k : Nat) (μ : Mem), d = 6 - j → 1 ≤ j → j ≤ 6 → d < k → (∀ i, i < 6 → ldP μ 185 i = some (if i < j - 1 then π (i + 1) else π i)) → ldP μ 184 0 = some 185 → ∃ μ', zl2 (gX5_dropOldest_9 184 (π 0)) k (nI j) μ = some μ' ∧ (∀ i, i < 6 → ldP μ' 185 i = some (if i = 5 then π 0 else π (i + 1))) ∧ ldI μ' = ldI (stI μ 184 1 (nI 5)) ∧ ldJ μ' = ldJ μ ∧ ∀ a, a ≠ 185 → ldP μ' a = ldP μ a := by
  intro d
  induction d with
  | zero =>
    intro j k μ hd h1 h6 hk hp h0
    obtain ⟨k, rfl⟩ : ∃ x, k = x + 1 := ⟨k - 1, by omega⟩
    have : j = 6 := by omega
    subst this
    rw [zl2_s]
    refine ⟨stI (stP μ 185 5 (some (π 0))) 184 1 (nI 5), ?_, fun i hi => ?_, rfl, rfl, fun a ha => by rw [show ldP (stI (stP μ 185 5 (some (π 0))) 184 1 (nI 5)) a = ldP (stP μ 185 5 (some (π 0))) a from rfl, ldP_stP_ne ha]⟩
    · unfold gX5_dropOldest_9
      rw [h0, Option.bind_some, ln185, if_pos (show Int32.ofNat 6 ≤ nI 6 by decide), Option.bind_some, Option.bind_some, ln185, gd_t (by decide), show (Int32.ofNat 6 - 1).toNatClampNeg = 5 by decide, nm_b, show ldP (stP μ 185 5 (some (π 0))) 184 0 = some 185 by rw [ldP_stP_ne (by decide)]; exact h0, Option.bind_some, ln185, nm_b]
      rfl
    · rw [show ldP (stI (stP μ 185 5 (some (π 0))) 184 1 (nI 5)) 185 i = ldP (stP μ 185 5 (some (π 0))) 185 i from rfl, ldP_stP]
      by_cases e : i = 5
      · rw [if_pos ⟨rfl, e⟩, if_pos e]
      · rw [if_neg (fun q => e q.2), if_neg e, hp i hi, if_pos (by omega)]
  | succ d ih =>
    intro j k μ hd h1 h6 hk hp h0
    obtain ⟨k, rfl⟩ : ∃ x, k = x + 1 := ⟨k - 1, by omega⟩
    rw [zl2_s]
    have hj : nI j - 1 = nI (j - 1) := pk_sub (a := j) (b := 1) h1
    have hstep : gX5_dropOldest_9 184 (π 0) (zl2 (gX5_dropOldest_9 184 (π 0)) k) (nI j) μ = zl2 (gX5_dropOldest_9 184 (π 0)) k (nI (j + 1)) (stP μ 185 (j - 1) (some (π j))) := by
      unfold gX5_dropOldest_9
      generalize zl2 _ k = G
      rw [h0, Option.bind_some, ln185, if_neg (show ¬ Int32.ofNat 6 ≤ nI j from nI_ge (by omega) (by decide)), Option.bind_some, Option.bind_some, ln185, gd_t (inB_nI (by omega) (by decide)), nI_clamp (by omega), hp j (by omega), if_neg (by omega), Option.bind_some, hj, gd_t (inB_nI (by omega) (by decide)), nI_clamp (by omega), nm_b, nm_b, nI_1]
    rw [hstep]
    have hp' : ∀ i, i < 6 → ldP (stP μ 185 (j - 1) (some (π j))) 185 i = some (if i < j + 1 - 1 then π (i + 1) else π i) := by
      intro i hi
      rw [ldP_stP]
      by_cases e : i = j - 1
      · rw [if_pos ⟨rfl, e⟩, if_pos (by omega), show i + 1 = j by omega]
      · rw [if_neg (fun q => e q.2), hp i hi]
        by_cases e2 : i < j - 1
        · rw [if_pos e2, if_pos (by omega)]
        · rw [if_neg e2, if_neg (by omega)]
    obtain ⟨μ', g1, g2, g3, g4, g5⟩ := ih (j + 1) k (stP μ 185 (j - 1) (some (π j))) (by omega) (by omega) (by omega) (by omega) hp' (by rw [ldP_stP_ne (by decide)]; exact h0)
    exact ⟨μ', g1, g2, g3, g4, fun a ha => (g5 a ha).trans (by rw [ldP_stP_ne ha])⟩
/-- the rows of a history, and the fight now -/
def HC (ρ : Nat → Sg) (π : Nat → Nat) (u : Nat) (ν : Nat → Int64) (c : Mem) : Prop := HP π c ∧ u ≤ 6 ∧ ldI c 184 1 = nI u ∧ ∀ i, i < u → FR c (π i) (ρ i) ν
def kpR (ρ : Nat → Sg) (u : Nat) (σ : Sg) (i : Nat) : Sg := if u < 6 then (if i = u then σ else ρ i) else if i = 5 then σ else ρ (i + 1)
def kpU (u : Nat) : Nat := if u < 6 then u + 1 else 6
theorem c_keep16 {ρ : Nat → Sg} (h : HC ρ π u ν c) (hu : u < 6) (h0 : ldP c 184 0 = some 185) (hF : FR c 66 σ ν) : ∃ c', fX5_keep_16 184 66 c = some c' ∧ HC (fun i => if i = u then σ else ρ i) π (u + 1) ν c' ∧ SE (fun a => 184 ≤ a ∧ a < 360) c c' ∧ ldP c' 184 = ldP c 184 := by
  obtain ⟨⟨g1, g2, g3⟩, h1, h2, h3⟩ := h
  obtain ⟨j, j1, j2⟩ := g1 u hu
  obtain ⟨σ0, ν0, hf⟩ := (g3 u hu).2
  obtain ⟨c1, k1, k2, k3⟩ := c_copyS hf hF (by omega)
  have n184 : ¬ RG (π u) 184 := fun q => by unfold RG at q; omega
  have n185 : ¬ RG (π u) 185 := fun q => by unfold RG at q; omega
  have hS : SE (fun a => RG (π u) a ∨ a = 184) c (stI c1 184 1 (nI (u + 1))) := SE.tr (k3.mono (fun a ha => Or.inl ha)) (SE.sI (Or.inr rfl))
  have hdis : ∀ i, i < 6 → i ≠ u → ∀ a, RG (π i) a → ¬ (RG (π u) a ∨ a = 184) := by
    intro i hi hne a ha q
    obtain ⟨i', i1, i2⟩ := g1 i hi
    unfold RG at ha q
    have : i' ≠ j := fun e => hne (g2 i u hi hu (by omega))
    omega
  have hself : FR (stI c1 184 1 (nI (u + 1))) (π u) σ ν := k2.same (fun a ha => (SE.sI (S := fun a => a = 184) rfl) a (fun q => by unfold RG at ha; omega))
  refine ⟨stI c1 184 1 (nI (u + 1)), ?_, ⟨⟨g1, g2, fun i hi => ⟨?_, ?_⟩⟩, by omega, ldI_stI_s, fun i hi => ?_⟩, ?_, (k3 184 n184).2.2⟩
  · unfold fX5_keep_16
    rw [h2, if_neg (nI_pos (by omega)), h0, Option.bind_some, ln185, if_neg (show ¬ Int32.ofNat 6 ≤ nI u from nI_ge hu (by decide)), Option.bind_some, ln185, gd_t (inB_nI hu (by decide)), nI_clamp (by omega), (g3 u hu).1, Option.bind_some, k1, Option.bind_some, (k3 184 n184).1, h2, nI_1, nm_b]
  · rw [(hS 185 (fun q => q.elim n185 (by decide))).2.2]; exact (g3 i hi).1
  · by_cases e : i = u
    · subst e; exact ⟨_, _, hself⟩
    · exact (g3 i hi).2.same (fun a ha => hS a (hdis i hi e a ha))
  · show FR _ (π i) (if i = u then σ else ρ i) ν
    by_cases e : i = u
    · subst e; rw [if_pos rfl]; exact hself
    · rw [if_neg e]; exact (h3 i (by omega)).same (fun a ha => hS a (hdis i (by omega) e a ha))
  · exact hS.mono (fun a ha => by unfold RG at ha; show 184 ≤ a ∧ a < 360; omega)
theorem c_keep {ρ : Nat → Sg} (h : HC ρ π u ν c) (h0 : ldP c 184 0 = some 185) (hF : FR c 66 σ ν) : ∃ π' c', fX5_keep 184 66 c = some c' ∧ HC (kpR ρ u σ) π' (kpU u) ν c' ∧ SE (fun a => 184 ≤ a ∧ a < 360) c c' ∧ ldP c' 184 = ldP c 184 := by
  have h' := h
  obtain ⟨⟨g1, g2, g3⟩, h1, h2, h3⟩ := h
  unfold kpR kpU
  by_cases hu : u < 6
  · obtain ⟨c', a1, a2, a3, a4⟩ := c_keep16 h' hu h0 hF
    refine ⟨π, c', ?_, ?_, a3, a4⟩
    · unfold fX5_keep
      rw [h0, Option.bind_some, ln185, h2, if_pos (show nI u < Int32.ofNat 6 from nI_lt hu (by decide))]; exact a1
    · simp only [if_pos hu]; exact a2
  · have hu6 : u = 6 := by omega
    subst hu6
    obtain ⟨c1, d1, d2, d3, d4, d5⟩ := drop_all (π := π) 5 1 FU c rfl (by decide) (by decide) (by decide) (fun i hi => by rw [if_neg (by omega)]; exact (g3 i hi).1) h0
    have hD : fX5_dropOldest 184 c = some c1 := by
      unfold fX5_dropOldest
      rw [h0, Option.bind_some, ln185, gd_t (by decide), show ((0 : Int32)).toNatClampNeg = 0 from rfl, (g3 0 (by decide)).1, Option.bind_some]; exact d1
    have hsame : ∀ a, a ≠ 184 → a ≠ 185 → ldI c1 a = ldI c a ∧ ldJ c1 a = ldJ c a ∧ ldP c1 a = ldP c a := fun a x y => ⟨by rw [d3]; funext i; rw [ldI_stI_ne x], by rw [d4], d5 a y⟩
    have hrow : ∀ i, i < 6 → ∀ a, RG (π i) a → ldI c1 a = ldI c a ∧ ldJ c1 a = ldJ c a ∧ ldP c1 a = ldP c a := fun i hi a ha => by
      obtain ⟨j, j1, j2⟩ := g1 i hi
      unfold RG at ha
      exact hsame a (by omega) (by omega)
    have hH : HC (fun i => ρ (i + 1)) (fun i => if i = 5 then π 0 else π (i + 1)) 5 ν c1 := by
      refine ⟨⟨fun i hi => ?_, fun i j hi hj e => ?_, fun i hi => ⟨d2 i hi, ?_⟩⟩, by decide, by rw [d3, ldI_stI_s], fun i hi => ?_⟩
      · by_cases e : i = 5
        · simp only [if_pos e]; exact g1 0 (by decide)
        · simp only [if_neg e]; exact g1 (i + 1) (by omega)
      · by_cases e1 : i = 5
        · by_cases e2 : j = 5
          · rw [e1, e2]
          · simp only [if_pos e1, if_neg e2] at e
            exact absurd (g2 0 (j + 1) (by decide) (by omega) e) (by omega)
        · by_cases e2 : j = 5
          · simp only [if_neg e1, if_pos e2] at e
            exact absurd (g2 (i + 1) 0 (by omega) (by decide) e) (by omega)
          · simp only [if_neg e1, if_neg e2] at e
            have := g2 (i + 1) (j + 1) (by omega) (by omega) e
            omega
      · by_cases e : i = 5
        · simp only [if_pos e]; exact (g3 0 (by decide)).2.same (hrow 0 (by decide))
        · simp only [if_neg e]; exact (g3 (i + 1) (by omega)).2.same (hrow (i + 1) (by omega))
      · simp only [if_neg (show ¬ i = 5 by omega)]
        exact (h3 (i + 1) (by omega)).same (hrow (i + 1) (by omega))
    have h01 : ldP c1 184 = ldP c 184 := d5 184 (by decide)
    obtain ⟨c', a1, a2, a3, a4⟩ := c_keep16 hH (by decide) (by rw [h01]; exact h0) (hF.same (fun a ha => hsame a (fun q => by unfold RG at ha; omega) (fun q => by unfold RG at ha; omega)))
    refine ⟨fun i => if i = 5 then π 0 else π (i + 1), c', ?_, ?_, SE.tr (fun a ha => hsame a (fun q => ha (by omega)) (fun q => ha (by omega))) a3, a4.trans h01⟩
    · unfold fX5_keep
      rw [h0, Option.bind_some, ln185, h2, if_neg (show ¬ nI 6 < Int32.ofNat 6 by decide), hD, Option.bind_some]; exact a1
    · exact a2
/-- what keeping leaves as it was -/
def KPm (m m' : Mem) : Prop := ldP m' = ldP m ∧ ldJ m' = ldJ m ∧ (∀ a, a ≠ 362 → a ≠ 368 → ldI m' a = ldI m a) ∧ ∀ k, k ≠ 21 → ldI m' 362 k = ldI m 362 k
theorem m_keeps55 (hM : MPt m) (hu : u < 6) (h21 : ldI m 362 21 = nI u) : ∃ m', fX12_keeps_55 362 m = some m' ∧ ldI m' 362 21 = nI (u + 1) ∧ (∀ j, j < 196 → ldI m' 368 (196 * u + j) = ldI m 366 j) ∧ (∀ j, j < 196 * u → ldI m' 368 j = ldI m 368 j) ∧ KPm m m' := by
  obtain ⟨m2, a1, a2, a3, a4, a5, a6⟩ := m_copies (μ := m) (a := 366) (b := 368) (x := 0) (y := 196 * u) (by rw [ln3x.2.1]; decide) (by rw [ln3x.2.2.1]; omega) (by decide) (by decide) (by omega) (by decide) (by decide)
  have a1' : fX12_copiesRow 366 0 368 (196 * nI u) m = some m2 := by rw [show (196 : Int32) * nI u = nI (196 * u) from pk_mul 196 u]; exact a1
  refine ⟨stI m2 362 21 (nI (u + 1)), ?_, ldI_stI_s, fun j hj => ?_, fun j hj => ?_, a4, a5, fun a x y => by rw [ldI_stI_ne x, a6 a y], fun k x => by rw [ldI_stI, if_neg (fun q => x q.2), a6 362 (by decide)]⟩
  · unfold fX12_keeps_55
    rw [hM.1.2.2.2.1, Option.bind_some, hM.1.2.2.2.2.2, Option.bind_some, h21, a1', Option.bind_some, a6 362 (by decide), h21, nI_1, nm_b]
  · have := a2 j hj
    rw [Nat.zero_add] at this
    rw [ldI_stI_ne (by decide), this]
  · rw [ldI_stI_ne (by decide), a3 j (Or.inl hj)]
theorem KPm.tr {a b d : Mem} (h1 : KPm a b) (h2 : KPm b d) : KPm a d := ⟨h2.1.trans h1.1, h2.2.1.trans h1.2.1, fun x p q => (h2.2.2.1 x p q).trans (h1.2.2.1 x p q), fun k p => (h2.2.2.2 k p).trans (h1.2.2.2 k p)⟩
theorem m_keeps {ρ : Nat → Sg} (hM : MPt m) (hu : u ≤ 6) (h21 : ldI m 362 21 = nI u) (hr : ∀ i, i < u → ∀ j, j < 196 → ldI m 368 (196 * i + j) = ρ i j) (ha : ∀ j, j < 196 → ldI m 366 j = σ j) : ∃ m', fX12_keeps 362 m = some m' ∧ ldI m' 362 21 = nI (kpU u) ∧ (∀ i, i < kpU u → ∀ j, j < 196 → ldI m' 368 (196 * i + j) = kpR ρ u σ i j) ∧ KPm m m' := by
  unfold kpU kpR
  by_cases e : u < 6
  · obtain ⟨m', b1, b2, b3, b4, b5⟩ := m_keeps55 hM e h21
    refine ⟨m', ?_, by rw [if_pos e]; exact b2, fun i hi j hj => ?_, b5⟩
    · unfold fX12_keeps
      rw [h21, if_neg (show ¬ nI u = 6 from fun q => absurd ((nI_eq (b := 6) (by omega) (by decide)).mp q) (by omega))]; exact b1
    · rw [if_pos e] at hi
      rw [if_pos e]
      by_cases q : i = u
      · subst q; rw [if_pos rfl, b3 j hj]; exact ha j hj
      · rw [if_neg q, b4 _ (by omega)]; exact hr i (by omega) j hj
  · have e6 : u = 6 := by omega
    subst e6
    have hloop : ∃ m2, fX12_keeps_21 362 0 (stI m 362 21 (nI 5)) = fX12_keeps_55 362 m2 ∧ (∀ i, i < 980 → ldI m2 368 i = ldI m 368 (i + 196)) ∧ ldP m2 = ldP m ∧ ldJ m2 = ldJ m ∧ ∀ a, a ≠ 368 → ldI m2 a = ldI (stI m 362 21 (nI 5)) a := by
      unfold fX12_keeps_21
      refine zl2_fob (N := 980) (I := fun j μ => (∀ i, i < j → ldI μ 368 i = ldI m 368 (i + 196)) ∧ (∀ i, j ≤ i → ldI μ 368 i = ldI m 368 i) ∧ ldP μ = ldP m ∧ ldJ μ = ldJ m ∧ ∀ a, a ≠ 368 → ldI μ a = ldI (stI m 362 21 (nI 5)) a) (Qr := fun r => ∃ m2, r = fX12_keeps_55 362 m2 ∧ (∀ i, i < 980 → ldI m2 368 i = ldI m 368 (i + 196)) ∧ ldP m2 = ldP m ∧ ldJ m2 = ldJ m ∧ ∀ a, a ≠ 368 → ldI m2 a = ldI (stI m 362 21 (nI 5)) a) (by decide) ⟨fun i hi => absurd hi (Nat.not_lt_zero _), fun i _ => by rw [ldI_stI_ne (by decide)], rfl, rfl, fun _ _ => rfl⟩ (fun j μ self hj hI => ?_) (fun μ self hI => ?_)
      · obtain ⟨h1, h2, h3, h4, h5⟩ := hI
        have q1 : ldI μ 362 21 = nI 5 := by rw [h5 362 (by decide), ldI_stI_s]
        have q2 : ldP μ 362 17 = some 368 := by rw [h3]; exact hM.1.2.2.2.2.2
        have hstep : gX12_keeps_21 362 self (nI j) μ = self (nI (j + 1)) (stI μ 368 j (ldI μ 368 (j + 196))) := by
          unfold gX12_keeps_21
          rw [q1, if_neg (show ¬ (196 : Int32) * nI 5 ≤ nI j from nI_ge (b := 980) hj (by decide)), q2, Option.bind_some, Option.bind_some, show nI j + 196 = nI (j + 196) from nI_add j 196, ln3x.2.2.1, gd_t (inB_nI (by omega) (by decide)), gd_t (inB_nI (by omega) (by decide)), nI_clamp (by omega), nI_clamp (by omega), nm_b, nm_b, nI_1]
        refine Or.inl ⟨_, hstep, fun i hi => ?_, fun i hi => ?_, h3, h4, fun a ha => by rw [ldI_stI_ne ha]; exact h5 a ha⟩
        · rw [ldI_stI]
          by_cases q : i = j
          · subst q; rw [if_pos ⟨rfl, rfl⟩, h2 _ (by omega)]
          · rw [if_neg (fun w => q w.2)]; exact h1 i (by omega)
        · rw [ldI_stI, if_neg (by omega)]; exact h2 i (by omega)
      · obtain ⟨h1, h2, h3, h4, h5⟩ := hI
        have q1 : ldI μ 362 21 = nI 5 := by rw [h5 362 (by decide), ldI_stI_s]
        refine ⟨μ, ?_, h1, h3, h4, h5⟩
        unfold gX12_keeps_21
        rw [q1, if_pos (show (196 : Int32) * nI 5 ≤ nI 980 by decide)]
    obtain ⟨m2, l1, l2, l3, l4, l5⟩ := hloop
    obtain ⟨m', b1, b2, b3, b4, b5, b6, b7, b8⟩ := m_keeps55 (hM.cg (m' := m2) (by rw [l3])) (u := 5) (by decide) (by rw [l5 362 (by decide), ldI_stI_s])
    refine ⟨m', ?_, b2, fun i hi j hj => ?_, b5.trans l3, b6.trans l4, fun a x y => by rw [b7 a x y, l5 a y, ldI_stI_ne x], fun k x => by rw [b8 k x, l5 362 (by decide), ldI_stI, if_neg (fun q => x q.2)]⟩
    · unfold fX12_keeps
      rw [h21, if_pos (show nI 6 = 6 from rfl), show nI 6 - 1 = nI 5 from rfl, nm_b, l1]; exact b1
    · have hi6 : i < 6 := hi
      rw [if_neg (by decide)]
      by_cases q : i = 5
      · subst q; rw [if_pos rfl, b3 j hj, l5 366 (by decide), ldI_stI_ne (by decide)]; exact ha j hj
      · rw [if_neg q, b4 _ (by omega), l2 _ (by omega), show 196 * i + j + 196 = 196 * (i + 1) + j by omega]; exact hr (i + 1) (by omega) j hj
/-- both keep the fight -/
theorem keep_bis (h : HI n ν c m) (h0 : ldP c 184 0 = some 185) (hM : MPt m) (hF : FR c 66 σ ν) (hok : okN n σ) : ∃ c', fX5_keep 184 66 c = some c' ∧ SE (fun a => 184 ≤ a ∧ a < 360) c c' ∧ ldP c' 184 = ldP c 184 ∧ ∀ m1, ldP m1 362 = ldP m 362 → ldI m1 362 21 = ldI m 362 21 → ldI m1 368 = ldI m 368 → (∀ j, j < 196 → ldI m1 366 j = σ j) → ∃ m', fX12_keeps 362 m1 = some m' ∧ HI n ν c' m' ∧ KPm m1 m' := by
  obtain ⟨π, u, g1, v1, v2, v3, v4⟩ := h
  obtain ⟨π', c', k1, ⟨k2, k3, k4, k5⟩, k6, k7⟩ := c_keep (ρ := fun i j => ldI m 368 (196 * i + j)) ⟨g1, v1, v2, fun i hi => (v4 i hi).1⟩ h0 hF
  refine ⟨c', k1, k6, k7, fun m1 e1 e2 e3 e4 => ?_⟩
  obtain ⟨m', b1, b2, b3, b4⟩ := m_keeps (u := u) (ρ := fun i j => ldI m 368 (196 * i + j)) (σ := σ) (hM.cg e1) v1 (by rw [e2]; exact v3) (fun i _ j _ => by rw [e3]) e4
  refine ⟨m', b1, ⟨π', kpU u, k2, k3, k4, b2, fun i hi => ⟨(k5 i hi).cg (fun j hj => b3 i hi j hj) (fun _ _ => rfl), ?_⟩⟩, b4⟩
  refine okN.cg (σ := kpR (fun i j => ldI m 368 (196 * i + j)) u σ i) ?_ (fun j hj => b3 i hi j hj)
  unfold kpR
  unfold kpU at hi
  by_cases e : u < 6
  · rw [if_pos e] at hi ⊢
    by_cases q : i = u
    · rw [if_pos q]; exact hok
    · rw [if_neg q]; exact (v4 i (by omega)).2
  · rw [if_neg e] at hi ⊢
    by_cases q : i = 5
    · rw [if_pos q]; exact hok
    · rw [if_neg q]; exact (v4 (i + 1) (by omega)).2
end KEEP
