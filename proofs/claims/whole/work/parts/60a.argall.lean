/-! scripts: all arguments of a command -/
section ARGA
variable {T : Nat → Nat} {L n N : Nat}
/-- a command that has a name; a number behind it -/
def hasN (w : Nat) : Prop := w = 1 ∨ w = 2 ∨ w = 3 ∨ w = 4 ∨ w = 5 ∨ w = 7
def hasX (w : Nat) : Prop := w = 1 ∨ w = 2 ∨ w = 4 ∨ w = 5 ∨ w = 7
theorem r20_skip {w : Nat} (hw : w = 0 ∨ w = 6 ∨ w = 8) {v : Int32} {m : Mem} : fX12_readsNumbers_20 362 v (nI w) m = fX12_readsNumbers_97 362 v (nI w) m := by
  unfold fX12_readsNumbers_20 fX12_readsNumbers_61
  rcases hw with rfl | rfl | rfl <;> rw [if_neg (by decide), if_neg (by decide), if_neg (by decide), if_neg (by decide), if_neg (by decide), if_neg (by decide), if_neg (by decide), if_neg (by decide), if_neg (by decide), if_neg (by decide), if_neg (by decide)]
theorem r20_51 {w : Nat} (hw : hasN w) {v : Int32} {m : Mem} : fX12_readsNumbers_20 362 v (nI w) m = fX12_readsNumbers_51 362 v (nI w) m := by
  unfold fX12_readsNumbers_20
  rcases hw with rfl | rfl | rfl | rfl | rfl | rfl
  · rw [if_pos (by decide)]
  · rw [if_neg (by decide), if_pos (by decide)]
  · rw [if_neg (by decide), if_neg (by decide), if_pos (by decide)]
  · rw [if_neg (by decide), if_neg (by decide), if_neg (by decide), if_pos (by decide)]
  · rw [if_neg (by decide), if_neg (by decide), if_neg (by decide), if_neg (by decide), if_pos (by decide)]
  · rw [if_neg (by decide), if_neg (by decide), if_neg (by decide), if_neg (by decide), if_neg (by decide), if_pos (by decide)]
theorem r61_87 {w : Nat} (hw : hasX w) {v : Int32} {m : Mem} : fX12_readsNumbers_61 362 v (nI w) m = fX12_readsNumbers_87 362 v (nI w) m := by
  unfold fX12_readsNumbers_61
  rcases hw with rfl | rfl | rfl | rfl | rfl
  · rw [if_pos (by decide)]
  · rw [if_neg (by decide), if_pos (by decide)]
  · rw [if_neg (by decide), if_neg (by decide), if_pos (by decide)]
  · rw [if_neg (by decide), if_neg (by decide), if_neg (by decide), if_pos (by decide)]
  · rw [if_neg (by decide), if_neg (by decide), if_neg (by decide), if_neg (by decide), if_pos (by decide)]
theorem r61_3 {v : Int32} {m : Mem} : fX12_readsNumbers_61 362 v (nI 3) m = fX12_readsNumbers_97 362 v (nI 3) m := by
  unfold fX12_readsNumbers_61
  rw [if_neg (by decide), if_neg (by decide), if_neg (by decide), if_neg (by decide), if_neg (by decide)]
theorem hasN_06 {w : Nat} (hw : hasN w) : ¬ nI w = 0 ∧ ¬ nI w = 6 := by
  rcases hw with rfl | rfl | rfl | rfl | rfl | rfl <;> exact ⟨by decide, by decide⟩
theorem hasX_3 {w : Nat} (hw : hasX w) : ¬ nI w = 3 := by
  rcases hw with rfl | rfl | rfl | rfl | rfl <;> decide
theorem hasX_N {w : Nat} (hw : hasX w) : hasN w := by
  rcases hw with rfl | rfl | rfl | rfl | rfl
  · exact Or.inl rfl
  · exact Or.inr (Or.inl rfl)
  · exact Or.inr (Or.inr (Or.inr (Or.inl rfl)))
  · exact Or.inr (Or.inr (Or.inr (Or.inr (Or.inl rfl))))
  · exact Or.inr (Or.inr (Or.inr (Or.inr (Or.inr rfl))))
theorem hasN_lt {w : Nat} (hw : hasN w) : w < 8 := by
  rcases hw with rfl | rfl | rfl | rfl | rfl | rfl <;> decide
/-- the arguments in both -/
def AR (n w N : Nat) (c m : Mem) : Prop := ((w = 0 ∨ w = 6) → ∃ x : Nat, x ≤ 999 ∧ ldI c (6 + N) 2 = nI x ∧ ldI m 374 N = nI x) ∧ (hasN w → ∃ f : Nat, f < n ∧ ldI c (6 + N) 1 = nI f ∧ ldI m 374 N = nI f) ∧ (hasX w → ∃ x : Nat, x ≤ 999 ∧ ldI c (6 + N) 2 = nI x ∧ ldI m 375 N = nI x) ∧ (w = 7 → ∃ q x : Nat, q < 7 ∧ x ≤ 999 ∧ ldI c (6 + N) 3 = nI q ∧ ldI m 376 N = nI q ∧ ldI c (6 + N) 4 = nI x ∧ ldI m 377 N = nI x)
def AOut (T : Nat → Nat) (L n w N p : Nat) (c m : Mem) (rc : Option ((Unit ⊕ Nat) × Mem)) (rm : Option Mem) : Prop :=
  (∃ c' m' p', rc = some (.inl (), c') ∧ rm = some m' ∧ TR c' m' T L p' ∧ p ≤ p' ∧ AR n w N c' m' ∧ ldI c' (6 + N) 0 = nI w ∧ GAc N c c' ∧ GAm N m m') ∨
  (∃ c' m', rc = some (.inr 0, c') ∧ rm = some m' ∧ ER c' m' ∧ GAc N c c' ∧ GAm N m m')
/-- a number, then the end -/
theorem args_num {c m : Mem} {p w : Nat} (h : TR c m T L p) (hR : PRw m) (hN : N < 60) (hw : w < 8) (hu : ldI c (6 + N) 0 = nI w) {A : Nat} (hA : (A = 374 ∧ (w = 0 ∨ w = 6)) ∨ (A = 375 ∧ hasX w ∧ ∃ f : Nat, f < n ∧ ldI c (6 + N) 1 = nI f ∧ ldI m 374 N = nI f)) :
    AOut T L n w N p c m ((fX9_takeNumber 1 0 999 c).bind fun r_1 => xb r_1 fun v_7 m_5 => nm (stI m_5 (6 + N) 2 v_7) fun m_8 => fX6_readArguments_45 (6 + N) 1 m_8) ((fX12_any 362 m).bind fun r_4 => gd (inB (nI N) (Ln A)) (nm (stI r_4.2 A (nI N).toNatClampNeg r_4.1) fun m_7 => fX12_readsNumbers_97 362 (nI N) (nI w) m_7)) := by
  have hA1 : 374 ≤ A ∧ A ≤ 377 ∧ Ln A = 60 := by
    rcases hA with ⟨rfl, _⟩ | ⟨rfl, _⟩
    · exact ⟨by decide, by decide, ln37.2.1⟩
    · exact ⟨by decide, by decide, ln37.2.2.1⟩
  have hg1 := tkE_le (T := T) h.le
  rcases any_bis h with ⟨x, c1, m1, x1, x2, a1, a2, a3, a4, a5⟩ | ⟨x, c1, m1, a1, a2, a3, a4, a5⟩
  · rw [a1, a2, Option.bind_some, Option.bind_some, xbl, nm_b, hA1.2.2, gd_t (inB_nI hN (by decide)), nI_clamp (by omega), nm_b]
    have hT2 : TR (stI c1 (6 + N) 2 (nI x)) (stI m1 A N (nI x)) T L (tkE T L p) := (a3.c6 (by omega)).m37 (by omega)
    have hu2 : ldI (stI c1 (6 + N) 2 (nI x)) (6 + N) 0 = nI w := by rw [ldI_stI, if_neg (by omega), a4.2.1 _ (by omega)]; exact hu
    have g1 : GAc N c (stI c1 (6 + N) 2 (nI x)) := a4.ga.tr GAc.s
    have g2 : GAm N m (stI m1 A N (nI x)) := a5.ga.tr (GAm.s hA1.1 hA1.2.1)
    rcases args_45 hT2 ((hR.of a5.1).of rfl) hN hw hu2 with ⟨c2, m2, p2, b1, b2, b3, b4, b5, b6, b7, b8, b9, b10⟩ | ⟨c2, m2, b1, b2, b3, b4, b5⟩
    · refine Or.inl ⟨c2, m2, p2, b1, b2, b3, by omega, ⟨fun hw0 => ?_, fun hw0 => ?_, fun hw0 => ?_, b5⟩, by rw [b6 0 (by decide)]; exact hu2, g1.tr b9, g2.tr b10⟩
      · rcases hA with ⟨rfl, _⟩ | ⟨rfl, hX, _⟩
        · exact ⟨x, x2, by rw [b6 2 (by decide), ldI_stI_s], by rw [b7, ldI_stI_s]⟩
        · have := hasN_06 (hasX_N hX)
          rcases hw0 with rfl | rfl
          · exact absurd rfl this.1
          · exact absurd rfl this.2
      · rcases hA with ⟨rfl, hw1⟩ | ⟨rfl, hX, f, f1, f2, f3⟩
        · have := hasN_06 hw0
          rcases hw1 with rfl | rfl
          · exact absurd rfl this.1
          · exact absurd rfl this.2
        · exact ⟨f, f1, by rw [b6 1 (by decide), ldI_stI, if_neg (by omega), a4.2.1 _ (by omega)]; exact f2, by rw [b7, ldI_stI_ne (by decide), a5.2.1 374 (by decide)]; exact f3⟩
      · rcases hA with ⟨rfl, hw1⟩ | ⟨rfl, hX, f, f1, f2, f3⟩
        · have := hasN_06 (hasX_N hw0)
          rcases hw1 with rfl | rfl
          · exact absurd rfl this.1
          · exact absurd rfl this.2
        · exact ⟨x, x2, by rw [b6 2 (by decide), ldI_stI_s], by rw [b8, ldI_stI_s]⟩
    · exact Or.inr ⟨c2, m2, b1, b2, b3, g1.tr b4, g2.tr b5⟩
  · rw [a1, a2, Option.bind_some, Option.bind_some, xbr, hA1.2.2, gd_t (inB_nI hN (by decide)), nI_clamp (by omega), nm_b]
    have g : GB N m1 (stI m1 A N x) := GB.s hA1.1 hA1.2.1
    obtain ⟨m3, d1, d2⟩ := b_r97 (m := stI m1 A N x) ((hR.of a5.1).of rfl) hN (g.bad a3.bad) (nI w)
    exact Or.inr ⟨c1, m3, rfl, d1, (g.tr d2).er a3, a4.ga, a5.ga.tr (g.tr d2).1⟩
theorem args_all {c m : Mem} {p w : Nat} {σ : Sg} {ν : Nat → Int64} (h : TR c m T L p) (hR : PRw m) (hN : N < 60) (hw : w < 8) (hu : ldI c (6 + N) 0 = nI w) (hF : FR c 66 σ ν) (h0 : σ 0 = nI n) (h0m : ldI m 364 0 = nI n) (hn : n ≤ 8) (hp : ldP m 362 13 = some 364) (hq : ldP m 362 18 = some 369) (hNM : NMS n ν (ldJ m 369)) :
    AOut T L n w N p c m (fX6_readArguments (6 + N) 1 66 c) (fX12_readsNumbers 362 (nI N) (nI w) m) := by
  unfold fX6_readArguments fX12_readsNumbers
  rw [hu]
  have hcase : w = 0 ∨ w = 6 ∨ hasN w := by
    unfold hasN; omega
  have c06 : (w = 0 ∨ w = 6) → AOut T L n w N p c m (fX6_readArguments_25 (6 + N) 1 c) (fX12_readsNumbers_10 362 (nI N) (nI w) m) := by
    intro hw0
    have n3 : ¬ nI w = 3 := by rcases hw0 with rfl | rfl <;> decide
    unfold fX6_readArguments_25 fX12_readsNumbers_10
    rw [hu, if_neg n3, hR.2.1, Option.bind_some]
    rw [show (fun m_7 => fX12_readsNumbers_20 362 (nI N) (nI w) m_7) = fun m_7 => fX12_readsNumbers_97 362 (nI N) (nI w) m_7 from funext fun x => r20_skip (by omega)]
    exact args_num h hR hN hw hu (Or.inl ⟨rfl, hw0⟩)
  rcases hcase with e | e | e
  · rw [if_pos (show nI w = 0 by rw [e]; rfl), if_pos (show nI w = 0 by rw [e]; rfl)]
    exact c06 (Or.inl e)
  · rw [if_neg (show ¬ nI w = 0 by rw [e]; decide), if_neg (show ¬ nI w = 0 by rw [e]; decide), if_pos (show nI w = 6 by rw [e]; rfl), if_pos (show nI w = 6 by rw [e]; rfl)]
    exact c06 (Or.inr e)
  · obtain ⟨e0, e6⟩ := hasN_06 e
    rw [if_neg e0, if_neg e0, if_neg e6, if_neg e6, r20_51 e]
    unfold fX12_readsNumbers_51
    rw [hR.2.1, Option.bind_some]
    have hg1 := tkE_le (T := T) h.le
    rcases told_bis h hF h0 h0m hn hp hq hNM with ⟨f, c1, m1, f1, a1, a2, a3, a4, a5⟩ | ⟨x, c1, m1, a1, a2, a3, a4, a5⟩
    · rw [a1, a2, Option.bind_some, Option.bind_some, xbl, nm_b, ln37.2.1, gd_t (inB_nI hN (by decide)), nI_clamp (by omega), nm_b]
      have hT2 : TR (stI c1 (6 + N) 1 (nI f)) (stI m1 374 N (nI f)) T L (tkE T L p) := (a3.c6 (by omega)).m37 (by decide)
      have hu2 : ldI (stI c1 (6 + N) 1 (nI f)) (6 + N) 0 = nI w := by rw [ldI_stI, if_neg (by omega), a4.2.1 _ (by omega)]; exact hu
      have g1 : GAc N c (stI c1 (6 + N) 1 (nI f)) := a4.ga.tr GAc.s
      have g2 : GAm N m (stI m1 374 N (nI f)) := a5.ga.tr (GAm.s (by decide) (by decide))
      have hR2 : PRw (stI m1 374 N (nI f)) := (hR.of a5.1).of rfl
      have pre : ∀ {rc : Option ((Unit ⊕ Nat) × Mem)} {rm : Option Mem}, AOut T L n w N (tkE T L p) (stI c1 (6 + N) 1 (nI f)) (stI m1 374 N (nI f)) rc rm → AOut T L n w N p c m rc rm := by
        intro rc rm hA
        rcases hA with ⟨c2, m2, p2, b1, b2, b3, b4, b5, b6, b7, b8⟩ | ⟨c2, m2, b1, b2, b3, b4, b5⟩
        · exact Or.inl ⟨c2, m2, p2, b1, b2, b3, by omega, b5, b6, g1.tr b7, g2.tr b8⟩
        · exact Or.inr ⟨c2, m2, b1, b2, b3, g1.tr b4, g2.tr b5⟩
      unfold fX6_readArguments_25
      rw [hu2]
      by_cases e3 : w = 3
      · subst e3
        rw [if_pos (show nI 3 = 3 from rfl), r61_3]
        refine pre ?_
        rcases args_45 hT2 hR2 hN hw hu2 with ⟨c2, m2, p2, b1, b2, b3, b4, b5, b6, b7, b8, b9, b10⟩ | ⟨c2, m2, b1, b2, b3, b4, b5⟩
        · refine Or.inl ⟨c2, m2, p2, b1, b2, b3, b4, ⟨fun hw0 => by omega, fun _ => ⟨f, f1, by rw [b6 1 (by decide), ldI_stI_s], by rw [b7, ldI_stI_s]⟩, fun hw0 => absurd rfl (hasX_3 hw0), b5⟩, by rw [b6 0 (by decide)]; exact hu2, b9, b10⟩
        · exact Or.inr ⟨c2, m2, b1, b2, b3, b4, b5⟩
      · have hX : hasX w := by unfold hasN at e; unfold hasX; omega
        rw [if_neg (hasX_3 hX), r61_87 hX]
        unfold fX12_readsNumbers_87
        rw [hR2.2.2.1, Option.bind_some]
        exact pre (args_num hT2 hR2 hN hw hu2 (Or.inr ⟨rfl, hX, f, f1, ldI_stI_s, ldI_stI_s⟩))
    · rw [a1, a2, Option.bind_some, Option.bind_some, xbr, ln37.2.1, gd_t (inB_nI hN (by decide)), nI_clamp (by omega), nm_b]
      have g : GB N m1 (stI m1 374 N x) := GB.s (by decide) (by decide)
      obtain ⟨m3, d1, d2⟩ := b_r61 (m := stI m1 374 N x) ((hR.of a5.1).of rfl) hN (g.bad a3.bad) (nI w)
      exact Or.inr ⟨c1, m3, rfl, d1, (g.tr d2).er a3, a4.ga, a5.ga.tr (g.tr d2).1⟩
end ARGA
