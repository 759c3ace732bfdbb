/-! the law: the report (2) -/
section RPU
variable {c c' m m' : Mem} {n : Nat} {ν : Nat → Int64} {σ : Sg}
theorem HI.cg' (h : HI n ν c m) (kc : ∀ a, (184 ≤ a ∧ a < 360) → ldI c' a = ldI c a ∧ ldJ c' a = ldJ c a ∧ ldP c' a = ldP c a) (k1 : ldI m' 368 = ldI m 368) (k2 : ldI m' 362 21 = ldI m 362 21) : HI n ν c' m' := by
  obtain ⟨π, u, ⟨h1, h2, h3⟩, h4, h5, h6, h7⟩ := h
  have hr : ∀ i, i < 6 → ∀ a, RG (π i) a → ldI c' a = ldI c a ∧ ldJ c' a = ldJ c a ∧ ldP c' a = ldP c a := by
    intro i hi a ha
    obtain ⟨j, j1, j2⟩ := h1 i hi
    unfold RG at ha
    exact kc a (by omega)
  refine ⟨π, u, ⟨h1, h2, fun i hi => ⟨by rw [(kc 185 (by omega)).2.2]; exact (h3 i hi).1, (h3 i hi).2.same (hr i hi)⟩⟩, h4, by rw [(kc 184 (by omega)).1]; exact h5, by rw [k2]; exact h6, fun i hi => ?_⟩
  rw [k1]
  exact ⟨(h7 i hi).1.same (hr i (by omega)), (h7 i hi).2⟩
/-- the report alone has changed -/
theorem INV.rep (h : INV c m) (s : SE (fun a => RG 154 a ∨ a = 360 ∨ a = 361) c c') (e : ldP c' 360 = ldP c 360) (fa : FA c' 154) (p : ldP m' = ldP m) (j : ldJ m' = ldJ m) (i : ∀ a, a ≠ 362 → a ≠ 364 → a ≠ 367 → a ≠ 380 → ldI m' a = ldI m a) (i2 : ∀ k, k ≠ 0 → k ≠ 24 → k ≠ 25 → k ≠ 40 → k ≠ 41 → ldI m' 362 k = ldI m 362 k) (i4 : ∀ k, k < 196 → ldI m' 364 k = ldI m 364 k) (sh : SH c' m') : INV c' m' := by
  obtain ⟨n, ν, h1, h2, h3, h4, h5, h6, h7, h8, h9, h10⟩ := h
  have hn : ∀ a, (a < 154 ∨ (183 ≤ a ∧ a < 360)) → ¬ (RG 154 a ∨ a = 360 ∨ a = 361) := fun a ha q => by unfold RG at q; omega
  refine ⟨n, ν, (h1.same (fun a ha => s a (hn a (by unfold RG at ha; omega)))).cg i4 (fun _ _ => rfl), h2.cg i4, h3.cg ⟨fun a ha => ?_, fun g => g.same (fun a ha => s a (hn a (by unfold RG at ha; omega))), fun _ => fa⟩, h4.cg (by rw [p]), by rw [j]; exact h5, h6.cg' (fun a ha => s a (hn a (by omega))) (i 368 (by decide) (by decide) (by decide) (by decide)) (i2 21 (by decide) (by decide) (by decide) (by decide) (by decide)), h7.cg (by rw [(s 0 (hn 0 (by decide))).1]) (fun a ha => s a (hn a (by unfold RG at ha; omega))) (i 365 (by decide) (by decide) (by decide) (by decide)) (by rw [j]) (i2 22 (by decide) (by decide) (by decide) (by decide) (by decide)), h8.cg (by rw [(s 1 (hn 1 (by decide))).1]) (s 2 (hn 2 (by decide))).1 (i 363 (by decide) (by decide) (by decide) (by decide)) (i2 2 (by decide) (by decide) (by decide) (by decide) (by decide)), ⟨?_, ?_⟩, sh⟩
  · by_cases q : a = 360
    · subst q; exact e
    · exact (s a (hn a (by omega))).2.2
  · rw [(s 1 (hn 1 (by decide))).1, i2 10 (by decide) (by decide) (by decide) (by decide) (by decide)]; exact h9.1
  · rw [(s 1 (hn 1 (by decide))).1, i2 11 (by decide) (by decide) (by decide) (by decide) (by decide)]; exact h9.2
theorem m_nextTurn (hp : ldP m 362 13 = some 364) (hq : ldP m 362 16 = some 367) (h : okN n (ldI m 364)) : ∃ m3, fX12_nextTurn 362 m = some (noI (sp_next (ldI m 364)).1, m3) ∧ QE m m3 := by
  obtain ⟨m1, m2, a1, b1, a2, c2, d2, e2, p2, q2⟩ := m_away hp hq h (k := 1) (by decide)
  unfold fX12_nextTurn
  rw [a1, Option.bind_some, show fX12_plays 362 1 m1 = _ from a2, Option.bind_some]
  rcases play_next (k := 0) h with ⟨w, w1, w2, w3, w4, w5⟩ | ⟨w1, w2, w3⟩
  · obtain ⟨τ, w', t1, t2, t3, t4, t5, t6, -⟩ := e2 (by rw [w5]; exact Nat.one_pos)
    have hτ : τ = ldI m 364 := by
      rw [w5] at t2
      have : sp_play 0 (ldI m 364) = (0, τ) := t2
      exact (congrArg Prod.snd this).symm
    rw [hτ] at t4
    rw [w5, if_neg (show ¬ nI 1 = 0 by decide), t6]
    obtain ⟨m3, a3, b3⟩ := m_comesBack (v := nI w') p2 q2 b1 c2
    rw [a3, Option.bind_some, t4]
    exact ⟨m3, rfl, b3⟩
  · rw [w3]
    have hn : (sp_next (ldI m 364)).1 = none := congrArg Prod.fst w2
    obtain ⟨m3, a3, b3⟩ := m_comesBack (v := -1) p2 q2 b1 c2
    rw [if_pos (show nI (sp_play 0 (ldI m 364)).1 = 0 from rfl), a3, Option.bind_some, hn]
    exact ⟨m3, rfl, b3⟩
theorem op_report : OPn (fun c => fX11_report 0 c) (fun m => fX12_report 362 m) := by
  intro c m h
  have h' := h
  obtain ⟨n, ν, h1, h2, h3, h4, h5, -⟩ := h
  have hp : ldP m 362 13 = some 364 := h4.1.2.1
  obtain ⟨c1, a1, a2, a3⟩ := c_actorOf h1 h3.2.2.2.2.2.2.2 h3.2.2.2.1.1 h2 (k := 0) (by omega)
  have hP0 : sp_play 0 (ldI m 364) = (0, ldI m 364) := rfl
  rw [hP0] at a1 a2
  have a1' : fX4_actorOf 153 66 0 c = some (ob 154 (sp_next (ldI m 364)).1, c1) := a1
  have a2' : FR c1 154 (sp_next (ldI m 364)).2 ν := a2
  have e3 : ldI (stI (stI (stI m 362 0 0) 362 40 0) 362 41 1) 364 = ldI m 364 := by funext i; rw [ldI_stI_ne (by decide), ldI_stI_ne (by decide), ldI_stI_ne (by decide)]
  obtain ⟨m4, b1, b2⟩ := m_nextTurn (m := stI (stI (stI m 362 0 0) 362 40 0) 362 41 1) (n := n) hp h4.1.2.2.2.2.1 (by rw [e3]; exact h2)
  rw [e3] at b1
  have hrow : ∀ k, k < 196 → ldI m4 364 k = ldI m 364 k := fun k hk => (b2.2.2.2.2 k hk).trans (by rw [e3])
  have hnx := (okN.next h2).2
  have hs : ∀ a, (a < 154 ∨ 183 ≤ a) → ¬ RG 154 a := fun a ha q => by unfold RG at q; omega
  have hcp : ldP c1 360 = ldP c 360 := (a3 360 (hs 360 (by decide))).2.2
  have hrd : RD n ν (stI c1 360 1 0) m4 := by
    refine ⟨⟨hcp ▸ h3.2.2.2.2.2.1, by rw [b2.1]; exact h4.2.2.2.2.2⟩, ?_, h2.cg hrow, by rw [b2.2.1]; exact h5, by rw [b2.1]; exact hp, by rw [b2.1]; exact h4.2.1.1⟩
    exact (h1.same (fun a ha => ⟨(ldI_stI_ne (by unfold RG at ha; omega)).trans (a3 a (hs a (by unfold RG at ha; omega))).1, (a3 a (hs a (by unfold RG at ha; omega))).2.1, (a3 a (hs a (by unfold RG at ha; omega))).2.2⟩)).cg hrow (fun _ _ => rfl)
  have hpt : PT (stI c1 360 1 0) m4 0 (stI c1 360 1 0) m4 := ⟨SE.rf, rfl, SE.rf, rfl, rfl, fun _ _ => rfl, ldI_stI_s, by rw [b2.2.2.2.1 40 (by decide) (by decide)]; rfl, fun i hi => absurd hi (Nat.not_lt_zero _)⟩
  obtain ⟨l, c', m', l1, d1, d2, d3⟩ := write_bis hrd (v := noI (sp_next (ldI m 364)).1) hpt
  have hv : ldI c1 (ob 154 (sp_next (ldI m 364)).1) 0 = noI (sp_next (ldI m 364)).1 := by
    cases hx : (sp_next (ldI m 364)).1 with
    | none => exact a2'.2.2.1.1
    | some w => exact a2'.num (by have := (hnx w hx).1; have := h2.le; omega)
  have hc1 : ∀ k, ldP c1 0 k = ldP c 0 k := fun k => by rw [(a3 0 (hs 0 (by decide))).2.2]
  have hFR1 : FR c1 66 (ldI m 364) ν := h1.same (fun a ha => a3 a (hs a (by unfold RG at ha; omega)))
  have hpc : ldP c' = ldP c1 := d3.2.1
  have hA : fX11_report 0 c = some (nI l, c') := by
    unfold fX11_report
    rw [h3.1.2.2.2.2.2.2.2, Option.bind_some, h3.1.2.2.1, Option.bind_some, h3.1.2.2.2.2.2.1, Option.bind_some, Option.bind_some, a1', Option.bind_some]
    dsimp only
    rw [hv]
    unfold fX7_write
    rw [nm_b, show ldP (stI c1 360 1 0) 66 0 = some 67 from hFR1.p0, Option.bind_some, nm_b, show Int32.ofNat (Ln 67) = nI 8 from hFR1.ln, d1, Option.bind_some, hpc, hc1, h3.1.2.2.2.2.2.2.2, Option.bind_some, d3.2.2.2.2.2.2.1]
  have hB : fX12_report 362 m = some (nI l, m') := by
    unfold fX12_report
    rw [nm_b, nm_b, nm_b, b1, Option.bind_some, d2]
  have hm4 : ∀ k, k ≠ 0 → k ≠ 24 → k ≠ 25 → k ≠ 40 → k ≠ 41 → ldI m' 362 k = ldI m 362 k := fun k k0 k24 k25 k40 k41 => by
    rw [d3.2.2.2.2.2.1 k k40, b2.2.2.2.1 k k24 k25, ldI_stI, if_neg (fun q => k41 q.2), ldI_stI, if_neg (fun q => k40 q.2), ldI_stI, if_neg (fun q => k0 q.2)]
  have hma : ∀ a, a ≠ 362 → a ≠ 364 → a ≠ 367 → a ≠ 380 → ldI m' a = ldI m a := fun a x1 x2 x3 x4 => by
    rw [(d3.2.2.1 a (fun q => q.elim x1 x4)).1, b2.2.2.1 a x1 x2 x3]
    funext i
    rw [ldI_stI_ne x1, ldI_stI_ne x1, ldI_stI_ne x1]
  have hSE : SE (fun a => RG 154 a ∨ a = 360 ∨ a = 361) c c' := SE.tr (a3.mono (fun a ha => Or.inl ha)) (SE.tr (SE.sI (Or.inr (Or.inl rfl))) (d3.1.mono (fun a ha => Or.inr ha)))
  refine ⟨nI l, c', m', hA, hB, h'.rep hSE (by rw [hpc]; exact hcp) ⟨_, _, a2'.same (fun a ha => (SE.tr (SE.sI (S := fun a => a = 360 ∨ a = 361) (Or.inl rfl)) d3.1) a (fun q => by unfold RG at ha; omega))⟩ (by rw [d3.2.2.2.1, b2.1]; rfl) (by rw [d3.2.2.2.2.1, b2.2.1]; rfl) hma hm4 (fun k hk => by rw [(d3.2.2.1 364 (by decide)).1]; exact hrow k hk) ⟨l, l1, d3.2.2.2.2.2.2.1, Or.inr ⟨?_, d3.2.2.2.2.2.2.2.1⟩, d3.2.2.2.2.2.2.2.2⟩, hSE.mono (fun a ha => by unfold RG at ha; show a < 362; omega), fun a ha => ?_⟩
  · rw [d3.2.2.2.2.2.1 41 (by decide), b2.2.2.2.1 41 (by decide) (by decide), ldI_stI_s]
  · have x1 : a ≠ 362 := fun q => ha (by omega)
    refine ⟨hma a x1 (fun q => ha (by omega)) (fun q => ha (by omega)) (fun q => ha (by omega)), ?_, ?_⟩
    · rw [d3.2.2.2.2.1, b2.2.1]; rfl
    · rw [d3.2.2.2.1, b2.1]; rfl
end RPU
