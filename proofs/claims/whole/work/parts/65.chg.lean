/-! the law: changes -/
section CHGS
variable {c c' m m' : Mem} {n : Nat} {ν : Nat → Int64} {σ : Sg}
/-- a change of the fight, kept before -/
theorem change_bis (h1 : FR c 66 (ldI m 364) ν) (h2 : okN n (ldI m 364)) (h3 : RS n ν c m) : ∃ c1 m1, fX5_keep 184 66 c = some c1 ∧ ldP c1 0 = ldP c 0 ∧ FR c1 66 (ldI m 364) ν ∧ fX12_laysAside 362 (stI m 362 0 0) = some m1 ∧ ldI m1 364 = ldI m 364 ∧ ldP m1 = ldP m ∧ (∀ v, ldI m1 362 0 = v → v = 0) ∧ (INV c m → INV c m1) ∧ MFr m m1 ∧
    ∀ c2 m2, SE (RG 66) c1 c2 → MX m1 m2 → FR c2 66 (ldI m2 364) ν → okN n (ldI m2 364) → ∃ m3, fX12_keeps 362 m2 = some m3 ∧ INV c2 m3 ∧ CFr c c2 ∧ MFr m m3 ∧ ldI m3 362 0 = 0 := by
  obtain ⟨h3, h4, h5, h6, h7, h8, h9, h10⟩ := h3
  obtain ⟨m1, a1, a2, a3, a4, a5, a6⟩ := m_copies (μ := stI m 362 0 0) (a := 364) (b := 366) (x := 0) (y := 0) (by decide) (by decide) (by decide) (by decide) (by decide) (by decide) (by decide)
  have lay : fX12_laysAside 362 (stI m 362 0 0) = some m1 := by
    unfold fX12_laysAside
    rw [show ldP (stI m 362 0 0) 362 13 = some 364 from h4.1.2.1, Option.bind_some, show ldP (stI m 362 0 0) 362 15 = some 366 from h4.1.2.2.2.1, Option.bind_some, show fX12_copiesRow 364 0 366 0 (stI m 362 0 0) = some m1 from a1, Option.bind_some]
  have p1 : ldP m1 = ldP m := a4
  have j1 : ldJ m1 = ldJ m := a5
  have ka : ∀ a, a ≠ 362 → a ≠ 366 → ldI m1 a = ldI m a := fun a x y => by rw [a6 a y, ldI_stI_ne x]
  have kk : ∀ k, k ≠ 0 → ldI m1 362 k = ldI m 362 k := fun k x => by rw [a6 362 (by decide), ldI_stI, if_neg (fun q => x q.2)]
  have k0 : ldI m1 362 0 = 0 := by rw [a6 362 (by decide), ldI_stI_s]
  have e364 : ldI m1 364 = ldI m 364 := ka 364 (by decide) (by decide)
  have e366 : ∀ j, j < 196 → ldI m1 366 j = ldI m 364 j := fun j hj => by
    have := a2 j hj
    rw [Nat.zero_add] at this
    rw [this, ldI_stI_ne (by decide)]
  have M1 : MPt m1 := h4.cg (by rw [p1])
  have H1 : HI n ν c m1 := h6.cg (fun a _ => ⟨rfl, rfl, rfl⟩) (ka 368 (by decide) (by decide)) (kk 21 (by decide))
  obtain ⟨c1, y1, y2, y3, y4⟩ := keep_bis H1 h3.2.2.2.2.1 M1 h1 h2
  have km1 : Km m m1 := ⟨by rw [p1], fun a ha => ka a (by omega) (by omega), fun a _ => by rw [j1], fun k hk => kk k (by omega)⟩
  refine ⟨c1, m1, y1, (y2 0 (by decide)).2.2, h1.same (fun a ha => y2 a (fun q => by unfold RG at ha; omega)), lay, e364, p1, fun v hv => by rw [← hv]; exact k0, fun g => g.ref km1 (fun i _ => by rw [e364]), fun a ha => ⟨ka a (fun q => ha (by omega)) (fun q => ha (by omega)), by rw [j1], by rw [p1]⟩, fun c2 m2 S2 X2 F2 O2 => ?_⟩
  obtain ⟨m3, z1, z2, z3⟩ := y4 m2 (by rw [X2.1]) (X2.2.2.2 21 (by decide) (by decide)) (X2.2.2.1 368 (by decide) (by decide)) (fun j hj => by rw [X2.2.2.1 366 (by decide) (by decide)]; exact e366 j hj)
  have Sa : ∀ a, ¬ RG 66 a → ¬ (184 ≤ a ∧ a < 360) → ldI c2 a = ldI c a ∧ ldJ c2 a = ldJ c a ∧ ldP c2 a = ldP c a := fun a x y => ⟨(S2 a x).1.trans (y2 a y).1, (S2 a x).2.1.trans (y2 a y).2.1, (S2 a x).2.2.trans (y2 a y).2.2⟩
  have ma : ∀ a, a ≠ 362 → a ≠ 364 → a ≠ 366 → a ≠ 368 → ldI m3 a = ldI m a := fun a x y z w => (z3.2.2.1 a x w).trans ((X2.2.2.1 a y x).trans (ka a x z))
  have mk : ∀ k, k ≠ 0 → k ≠ 21 → k ≠ 24 → k ≠ 25 → ldI m3 362 k = ldI m 362 k := fun k x y z w => (z3.2.2.2 k y).trans ((X2.2.2.2 k z w).trans (kk k x))
  have mj : ldJ m3 = ldJ m := by rw [z3.2.1, X2.2.1, j1]
  have mp : ldP m3 = ldP m := by rw [z3.1, X2.1, p1]
  have e3 : ldI m3 364 = ldI m2 364 := z3.2.2.1 364 (by decide) (by decide)
  refine ⟨m3, z1, ⟨n, ν, by rw [e3]; exact F2, by rw [e3]; exact O2, h3.cg ⟨fun a ha => ?_, fun g => g.same (fun a ha => Sa a (fun q => by unfold RG at q ha; omega) (fun q => by unfold RG at ha; omega)), fun g => g.same (fun a ha => Sa a (fun q => by unfold RG at q ha; omega) (fun q => by unfold RG at ha; omega))⟩, h4.cg (by rw [mp]), by rw [mj]; exact h5, z2.cg (fun a ha => S2 a (fun q => by unfold RG at q; omega)) rfl rfl, h7.cg (by rw [(Sa 0 (fun q => by unfold RG at q; omega) (by decide)).1]) (fun a ha => Sa a (fun q => by unfold RG at q ha; omega) (fun q => by unfold RG at ha; omega)) (ma 365 (by decide) (by decide) (by decide) (by decide)) (by rw [mj]) (mk 22 (by decide) (by decide) (by decide) (by decide)), h8.cg (by rw [(Sa 1 (fun q => by unfold RG at q; omega) (by decide)).1]) (Sa 2 (fun q => by unfold RG at q; omega) (by decide)).1 (ma 363 (by decide) (by decide) (by decide) (by decide)) (mk 2 (by decide) (by decide) (by decide) (by decide)), ⟨?_, ?_⟩, h10.cg (by rw [(Sa 360 (fun q => by unfold RG at q; omega) (by decide)).1]) (Sa 361 (fun q => by unfold RG at q; omega) (by decide)).1 (ma 380 (by decide) (by decide) (by decide) (by decide)) (mk 40 (by decide) (by decide) (by decide) (by decide)) (mk 41 (by decide) (by decide) (by decide) (by decide))⟩, ?_, ?_, ?_⟩
  · by_cases q : a = 184
    · subst q; rw [(S2 184 (fun q => by unfold RG at q; omega)).2.2, y3]
    · exact (Sa a (fun q => by unfold RG at q; omega) (fun q => by omega)).2.2
  · rw [(Sa 1 (fun q => by unfold RG at q; omega) (by decide)).1, mk 10 (by decide) (by decide) (by decide) (by decide)]; exact h9.1
  · rw [(Sa 1 (fun q => by unfold RG at q; omega) (by decide)).1, mk 11 (by decide) (by decide) (by decide) (by decide)]; exact h9.2
  · intro a ha
    have ha' : 362 ≤ a := by
      by_cases q : 362 ≤ a
      · exact q
      · exact absurd (show a < 362 by omega) ha
    exact Sa a (fun q => by unfold RG at q; omega) (by omega)
  · intro a ha
    exact ⟨ma a (fun q => ha (by omega)) (fun q => ha (by omega)) (fun q => ha (by omega)) (fun q => ha (by omega)), by rw [mj], by rw [mp]⟩
  · rw [z3.2.2.2 0 (by decide), X2.2.2.2 0 (by decide) (by decide)]; exact k0
theorem m_goesAll {a b d : Int32} : fX12_goesAll 362 a b d m = some (if a = 0 then 0 else if b = 0 then 0 else if d = 0 then 0 else 1, if a = 0 then stI m 362 0 1 else if b = 0 then stI m 362 0 2 else if d = 0 then stI (stI m 362 0 0) 362 0 3 else stI m 362 0 0) := by
  unfold fX12_goesAll
  rw [m_goesBoth, Option.bind_some]
  by_cases e1 : a = 0
  · simp only [if_pos e1, ldI_stI_s, if_neg one0, if_pos]
  · by_cases e2 : b = 0
    · simp only [if_neg e1, if_pos e2, ldI_stI_s, if_neg (show ¬ (2 : Int32) = 0 by decide), if_pos]
    · by_cases e3 : d = 0
      · simp only [if_neg e1, if_neg e2, if_pos e3, ldI_stI_s, if_neg one0, nm_b, if_neg (show ¬ (3 : Int32) = 0 by decide)]
      · simp only [if_neg e1, if_neg e2, if_neg e3, ldI_stI_s, if_neg one0, if_pos]
end CHGS
