/-! texts: fighters, wheels, the whole text -/
section TXT
variable {T : Nat → Nat} {L n : Nat}
theorem fighter_bis {c m : Mem} {p : Nat} {ν : Nat → Int64} (h : TR c m T L p) (hk : tkK T L p = 1) (hp : ldP m 362 13 = some 364) (hq : ldP m 362 18 = some 369) (hok : okN n (ldI m 364)) (hF : FR c 95 (ldI m 364) ν) (hN : NMS n ν (ldJ m 369)) : FOut T L n p c m (fX8_readFighter 95 1 c) (fX12_readsFighter 362 m) := by
  have hn8 := hok.le
  have hg := tkE_gt (T := T) h.le (by rw [hk]; decide)
  unfold fX8_readFighter fX12_readsFighter
  rw [hF.cnt, hp, Option.bind_some, ln364, gd_t ib0, z0, nm_b, hok.2.1]
  by_cases hn : n < 8
  · rw [if_pos (show nI n < 8 from nI_lt (b := 8) hn (by decide)), if_neg (show ¬ nI n = 8 from fun e => by have := (nI_eq (a := n) (b := 8) (by omega) (by decide)).mp e; omega)]
    unfold fX8_readFighter_14 fX12_readsFighter_18
    obtain ⟨c1, m1, a1, a2, a3, a4, a5⟩ := h.step
    have hF1 := a4.fr (o := 95) (by decide) hF
    rw [a1, Option.bind_some, hF1.cnt, hok.2.1, c_at hF1, Option.bind_some, sp_at_nI hn, m_good h.gd, Option.bind_some, if_neg one0, a2, Option.bind_some]
    have hg1 := tkE_le (T := T) a3.le
    have hpq := tkQ_ge (T := T) h.le
    unfold fX8_readNewName fX12_readsFighter_29 fX12_mustBeWord
    rw [a3.kc.2.2.1, m_good a3.gd, Option.bind_some, if_neg one0, a3.km.2.2.1]
    have e364 : ldI m1 364 = ldI m 364 := a5.2.1 364 (by decide)
    have eJ : ldJ m1 369 = ldJ m 369 := a5.2.2.1 369 (by decide)
    by_cases e1 : tkK T L (tkE T L p) = 1
    · rw [if_pos (show nI (tkK T L (tkE T L p)) = 1 by rw [e1]; rfl), if_pos (show nI (tkK T L (tkE T L p)) = 1 by rw [e1]; rfl), Option.bind_some, m_good a3.gd, Option.bind_some, if_neg one0]
      unfold fX8_readNewName_13
      have hw := tk_vw a3.le e1
      have hc8 := a3.kc.2.2.2.1 e1
      rw [c_numberOf hF1, hc8, m_named (σ := ldI m 364) (ν := ν) (by rw [a5.1]; exact hp) (by rw [a5.1]; exact hq) (by rw [e364]; exact hok.2.1) hn8 (by rw [eJ]; exact hN) hw (a3.km.2.2.2.1 e1) hok.2.1, Option.bind_some, Option.bind_some]
      cases hno : sp_no (ldI m 364) ν (lN (p8 (wf T (tkQ T L (tkE T L p)) (tkE T L (tkE T L p))) 8)) with
      | some f =>
        have hf := no_lt hok.2.1 hn8 hno
        have e2 : ¬ noI (some f) = -1 := nI_m1 (by omega)
        obtain ⟨c2, m2, b1, b2, b3, b4, b5⟩ := a3.fail (k := 3) (Or.inr ⟨by omega, by decide, by decide⟩) (K := 3) rfl
        rw [if_neg e2, if_neg e2, b1, Option.bind_some, xbr, Option.bind_some, xbr, b2, Option.bind_some, b_53 b3.bad]
        exact Or.inr (Or.inl ⟨c2, m2, rfl, rfl, b3, ⟨_, _, b4.fr (by decide) hF1⟩, a4.fx.tr b4.fx, a5.fx.tr b5.fx⟩)
      | none =>
        have hne := no_none hok.2.1 hn8 hno
        rw [if_pos (show noI none = -1 from rfl), if_pos (show noI none = -1 from rfl), nm_b, m53 a3.gd (by rw [a5.1]; exact hq) hn]
        obtain ⟨c2, m2, b1, b2, b3, b4, b5⟩ := (a3.m369 (k := n) (v := ldJ m1 362 12)).step
        rw [b1, b2, Option.bind_some, Option.bind_some, xbl, nm_b]
        have hg2 := tkE_le (T := T) a3.le
        have hF2 := (b4.fr (o := 95) (by decide) hF1).setJ (f := n) (v := lN (p8 (wf T (tkQ T L (tkE T L p)) (tkE T L (tkE T L p))) 8)) hn
        have hs : SE (RG 95) c2 (stJ c2 (95 + 5 + 3 * n) 4 (lN (p8 (wf T (tkQ T L (tkE T L p)) (tkE T L (tkE T L p))) 8))) := SE.sJ ⟨by omega, by omega⟩
        have hm : MID T L n (tkE T L (tkE T L p)) (ldI m 364) (fun g => if g = n then lN (p8 (wf T (tkQ T L (tkE T L p)) (tkE T L (tkE T L p))) 8) else ν g) c m (stJ c2 (95 + 5 + 3 * n) 4 (lN (p8 (wf T (tkQ T L (tkE T L p)) (tkE T L (tkE T L p))) 8))) m2 := by
          refine ⟨b3.cs hs, hF2, by rw [b5.2.1 364 (by decide)]; exact e364, (a4.fx.tr b4.fx).tr (SE.fx hs), (a5.fx.tr FXm.n).tr b5.fx, ?_, ?_⟩
          · rw [b5.2.2.2 23 (by decide)]
            exact a5.2.2.2 23 (by decide)
          · rw [b5.2.2.1 369 (by decide)]
            have q1 : ∀ f, f < n → ldJ (stJ m1 369 n (ldJ m1 362 12)) 369 f = ldJ m 369 f := fun f hf => by rw [ldJ_stJ, if_neg (by omega), eJ]
            have q2 : ldJ (stJ m1 369 n (ldJ m1 362 12)) 369 n = ldJ m1 362 12 := by rw [ldJ_stJ, if_pos ⟨rfl, rfl⟩]
            refine ⟨fun f hf => ?_, fun f g hf hg' e => ?_⟩
            · dsimp only
              by_cases ef : f = n
              · subst ef
                rw [if_pos rfl, q2]
                exact ⟨_, _, hw, rfl, a3.km.2.2.2.1 e1⟩
              · rw [if_neg ef, q1 f (by omega)]
                exact hN.1 f (by omega)
            · dsimp only at e
              by_cases ef : f = n
              · by_cases eg : g = n
                · omega
                · rw [if_pos ef, if_neg eg] at e
                  exact absurd e.symm (hne g (by omega))
              · by_cases eg : g = n
                · rw [if_neg ef, if_pos eg] at e
                  exact absurd e (hne f (by omega))
                · rw [if_neg ef, if_neg eg] at e
                  exact hN.2 f g (by omega) (by omega) e
        exact fgt_A hm (by omega) hn hp hok
    · obtain ⟨c2, m2, b1, b2, b3, b4, b5⟩ := a3.fail (k := 1) (Or.inl rfl) (K := 1) rfl
      have e2 := kkn (K := 1) (k := 1) rfl (by decide) e1
      rw [if_neg e2, if_neg e2, b1, Option.bind_some, xbr, Option.bind_some, xbr, b2, Option.bind_some, Option.bind_some, m_bad b3.bad, Option.bind_some, if_pos rfl, b_53 b3.bad]
      exact Or.inr (Or.inl ⟨c2, m2, rfl, rfl, b3, ⟨_, _, b4.fr (by decide) hF1⟩, a4.fx.tr b4.fx, a5.fx.tr b5.fx⟩)
  · have : n = 8 := by omega
    subst this
    obtain ⟨c2, m2, b1, b2, b3, b4, b5⟩ := h.fail (k := 5) (Or.inr ⟨by omega, by decide, by decide⟩) (K := 5) rfl
    rw [if_neg (show ¬ nI 8 < 8 by decide), if_pos (show nI 8 = 8 from rfl), b1, b2, Option.bind_some, Option.bind_some, xbr, b_18 b3.bad]
    exact Or.inr (Or.inl ⟨c2, m2, rfl, rfl, b3, ⟨_, _, b4.fr (by decide) hF⟩, b4.fx, b5.fx⟩)
theorem okN.w {σ : Sg} {v : Nat} (h : okN n σ) (h1 : 100 ≤ v) (h2 : v ≤ 999) : okN n (upd σ 1 (nI v)) := by
  obtain ⟨g1, g2, g3, g4, g5⟩ := h
  refine ⟨g1, by rw [upd_n (by omega)]; exact g2, by rw [upd_s]; exact ⟨v, h1, h2, rfl⟩, fun f hf => ?_, fun f hf hf8 w hw => by rw [upd_n (by omega)]; exact g5 f hf hf8 w hw⟩
  exact (g4 f hf).cg (fun w _ => upd_n (by omega)) (fun k _ => ⟨upd_n (by omega), upd_n (by omega)⟩)
/-- what comes of a text -/
def TOut (T : Nat → Nat) (L : Nat) (c m : Mem) (rc : Option ((Unit ⊕ Nat) × Mem)) (rm : Option (Int32 × Mem)) : Prop :=
  (∃ c' m' n' ν' p', rc = some (.inl (), c') ∧ rm = fX12_readText_49 362 m' ∧ TR c' m' T L p' ∧ okN n' (ldI m' 364) ∧ FR c' 95 (ldI m' 364) ν' ∧ NMS n' ν' (ldJ m' 369) ∧ FXc c c' ∧ FXm m m') ∨
  (∃ c' m', rc = some (.inr 0, c') ∧ rm = fX12_readText_49 362 m' ∧ ER c' m' ∧ FA c' 95 ∧ FXc c c' ∧ FXm m m')
theorem TOut.pre {c m c1 m1 : Mem} {rc : Option ((Unit ⊕ Nat) × Mem)} {rm : Option (Int32 × Mem)} (h : TOut T L c1 m1 rc rm) (hc : FXc c c1) (hm : FXm m m1) : TOut T L c m rc rm := by
  rcases h with ⟨c', m', n', ν', p', h1, h2, h3, h4, h5, h6, h7, h8⟩ | ⟨c', m', h1, h2, h3, h4, h5, h6⟩
  · exact Or.inl ⟨c', m', n', ν', p', h1, h2, h3, h4, h5, h6, hc.tr h7, hm.tr h8⟩
  · exact Or.inr ⟨c', m', h1, h2, h3, h4, hc.tr h5, hm.tr h6⟩
theorem b_28 {m : Mem} (h : ¬ ldI m 362 8 = 0) {k : Nat} : zl1 (gX12_readText_28 362) (k + 1) m = fX12_readText_49 362 m := by
  rw [zl1_s]
  unfold gX12_readText_28
  rw [m_bad h, Option.bind_some, if_pos rfl]
theorem b_wheel12 {m : Mem} (h : ¬ ldI m 362 8 = 0) : fX12_readsWheel_12 362 m = some (stI m 362 23 1) := by
  have hb : BM m (stI m 362 23 1) := BM.w
  unfold fX12_readsWheel_12 fX12_readsWheel_28
  rw [nm_b, m_bad (hb.bad h), Option.bind_some, if_pos rfl, m_badNum (hb.bad h), Option.bind_some]
  dsimp only
  rw [m_bad (hb.bad h), Option.bind_some, if_pos rfl]
theorem text_bis : ∀ (d : Nat) (c m : Mem) (p j n k1 k2 : Nat) (ν : Nat → Int64), L - p = d → j ≤ p → TR c m T L p → ldP m 362 13 = some 364 → ldP m 362 18 = some 369 → okN n (ldI m 364) → FR c 95 (ldI m 364) ν → NMS n ν (ldJ m 369) → (ldI m 362 23 = 0 ∨ ldI m 362 23 = 1) → d < k1 → d + 1 < k2 → TOut T L c m (zl3 (gX8_readInto_8 95 1) k1 (ldI m 362 23) (nI j) c) (zl1 (gX12_readText_28 362) k2 m) := by
  intro d
  induction d using Nat.strongRecOn with
  | ind d ih =>
  intro c m p j n k1 k2 ν hd hj h hp hq hok hF hN h23 hk1 hk2
  obtain ⟨k1, rfl⟩ : ∃ k, k1 = k + 1 := ⟨k1 - 1, by omega⟩
  obtain ⟨k2, rfl⟩ : ∃ k, k2 = k + 2 := ⟨k2 - 2, by omega⟩
  rw [zl3_s, show k2 + 2 = (k2 + 1) + 1 from rfl, zl1_s]
  generalize hG : zl3 (gX8_readInto_8 95 1) k1 = G
  generalize hH : zl1 (gX12_readText_28 362) (k2 + 1) = H
  have hbad : ∀ {x : Mem}, ¬ ldI x 362 8 = 0 → H x = fX12_readText_49 362 x := fun hx => by rw [← hH]; exact b_28 hx
  have goon : ∀ {c' m' : Mem} {p' n' : Nat} {ν' : Nat → Int64} {v : Int32}, p < p' → v = ldI m' 362 23 → TR c' m' T L p' → FXm m m' → FXc c c' → okN n' (ldI m' 364) → FR c' 95 (ldI m' 364) ν' → NMS n' ν' (ldJ m' 369) → (ldI m' 362 23 = 0 ∨ ldI m' 362 23 = 1) → TOut T L c m (G v (nI (j + 1)) c') (H m') := by
    intro c' m' p' n' ν' v h1 h2 h3 h4 h5 h6 h7 h8 h9
    subst h2
    rw [← hG, ← hH]
    have := h3.le
    exact (ih (L - p') (by omega) c' m' p' (j + 1) n' k1 (k2 + 1) ν' rfl (by omega) h3 (h4.p hp) (h4.p hq) h6 h7 h8 h9 (by omega) (by omega)).pre h5 h4
  have hL := h.L600
  have hpL := h.le
  unfold gX8_readInto_8 gX12_readText_28
  rw [m_good h.gd, Option.bind_some, if_neg one0, h.kc.2.2.1, h.km.2.2.1]
  by_cases e0 : tkK T L p = 0
  · rw [if_pos (show nI (tkK T L p) = 0 by rw [e0]; rfl), if_pos (show nI (tkK T L p) = 0 by rw [e0]; rfl), ite_self]
    exact Or.inl ⟨c, m, n, ν, p, rfl, rfl, h, hok, hF, hN, FXc.rf, FXm.rf⟩
  have hg := tkE_gt (T := T) h.le e0
  have hq0 := tkQ_ge (T := T) h.le
  have j600 : ¬ (600 : Int32) ≤ nI j := nI_ge (b := 600) (by omega) (by decide)
  have n0 := kkn (K := 0) (k := 0) rfl (by decide) e0
  have mW : (2, 24384684, [119, 104, 101, 101, 108]) ∈ wTab := by decide
  have mG : (4, 6752063666, [102, 105, 103, 104, 116, 101, 114]) ∈ wTab := by decide
  unfold fX12_statement
  rw [if_neg j600, if_neg n0, if_neg n0, c_isWord h mW, m_isWord h mW (W := 24384684) rfl, Option.bind_some, Option.bind_some]
  by_cases eW : wB T L p [119, 104, 101, 101, 108] = true
  · rw [if_pos eW, if_neg one0, if_neg one0]
    unfold fX12_readsWheel
    have k1' := wB_1 eW
    rcases h23 with z | z
    · rw [z, if_pos rfl, if_pos rfl]
      unfold fX8_readInto_40 fX12_readsWheel_12
      rw [nm_b]
      have hT1 : TR c (stI m 362 23 1) T L p := h.m23
      obtain ⟨c1, m1, a1, a2, a3, a4, a5⟩ := hT1.step
      rw [a1, m_good hT1.gd, Option.bind_some, Option.bind_some, if_neg one0, a2, Option.bind_some]
      unfold fX12_readsWheel_28
      have e364 : ldI m1 364 = ldI m 364 := by rw [a5.2.1 364 (by decide), ldI_stI_ne (by decide)]
      have hg1 := tkE_le (T := T) a3.le
      have hm1 : FXm m m1 := FXm.w.tr a5.fx
      rcases a3.num (lo := 100) (hi := 999) (by decide) (by decide) (A := 100) (B := 999) rfl rfl with ⟨v, c2, m2, v1, v2, b1, b2, b3, b4, b5⟩ | ⟨x, c2, m2, b1, b2, b3, b4, b5⟩
      · rw [b1, b2, Option.bind_some, Option.bind_some, xbl, nm_b]
        dsimp only
        have hm2 := hm1.tr b5.fx
        rw [m_good b3.gd, Option.bind_some, if_neg one0, hm2.p hp, Option.bind_some, ln364, gd_t ib1, z1, nm_b, Option.bind_some]
        have hF2 := (b4.fr (o := 95) (by decide) (a4.fr (by decide) hF)).hd (j := 1) (v := nI v) (by decide)
        have hs : SE (RG 95) c2 (stI c2 95 3 (nI v)) := SE.sI ⟨by omega, by omega⟩
        have hT3 : TR (stI c2 95 3 (nI v)) (stI m2 364 1 (nI v)) T L (tkE T L (tkE T L p)) := (b3.cs hs).m364
        have hg2 := tkE_le (T := T) b3.le
        have e3 : ldI (stI m2 364 1 (nI v)) 364 = upd (ldI m 364) 1 (nI v) := by rw [ldI_stI_self, b5.2.1 364 (by decide), e364]
        rcases hT3.sign (x := 59) (by decide) (X := 59) rfl with ⟨c4, m4, d1, d2, d3, d4, d5⟩ | ⟨c4, m4, d1, d2, d3, d4, d5⟩
        · rw [show fX9_takeSign 1 59 (stI c2 95 3 (nI v)) = _ from d1, d2, Option.bind_some, Option.bind_some, xbl, nm_b, nI_1, Option.bind_some]
          have e4 : ldI m4 364 = upd (ldI m 364) 1 (nI v) := by rw [d5.2.1 364 (by decide), e3]
          have e23 : ldI m4 362 23 = 1 := by
            rw [d5.2.2.2 23 (by decide), ldI_stI_ne (by decide), b5.2.2.2 23 (by decide), a5.2.2.2 23 (by decide), ldI_stI_s]
          have eJ : ldJ m4 369 = ldJ m 369 := by
            rw [d5.2.2.1 369 (by decide)]
            show ldJ m2 369 = _
            rw [b5.2.2.1 369 (by decide), a5.2.2.1 369 (by decide)]; rfl
          exact goon (by omega) e23.symm d3 ((hm2.tr FXm.s).tr d5.fx) (((a4.fx.tr b4.fx).tr (SE.fx hs)).tr d4.fx) (by rw [e4]; exact hok.w v1 v2) (by rw [e4]; exact d4.fr (by decide) hF2) (by rw [eJ]; exact hN) (Or.inr e23)
        · rw [show fX9_takeSign 1 59 (stI c2 95 3 (nI v)) = _ from d1, d2, Option.bind_some, Option.bind_some, xbr, Option.bind_some, hbad d3.bad]
          exact Or.inr ⟨c4, m4, rfl, rfl, d3, ⟨_, _, d4.fr (by decide) hF2⟩, ((a4.fx.tr b4.fx).tr (SE.fx hs)).tr d4.fx, (hm2.tr FXm.s).tr d5.fx⟩
      · rw [b1, b2, Option.bind_some, Option.bind_some, xbr]
        dsimp only
        rw [m_bad b3.bad, Option.bind_some, if_pos rfl, Option.bind_some, b_mustSign b3.bad, Option.bind_some, Option.bind_some, hbad b3.bad]
        exact Or.inr ⟨c2, m2, rfl, rfl, b3, ⟨_, _, b4.fr (by decide) (a4.fr (by decide) hF)⟩, a4.fx.tr b4.fx, hm1.tr b5.fx⟩
    · obtain ⟨c2, m2, b1, b2, b3, b4, b5⟩ := h.fail (k := 3) (Or.inr ⟨by omega, by decide, by decide⟩) (K := 3) rfl
      have hw : BM m2 (stI m2 362 23 1) := BM.w
      rw [z, if_neg one0, if_neg one0, b1, b2, Option.bind_some, Option.bind_some, xbr, b_wheel12 b3.bad, Option.bind_some, b_mustSign (hw.bad b3.bad), Option.bind_some, Option.bind_some, hbad (hw.bad b3.bad)]
      exact Or.inr ⟨c2, _, rfl, rfl, hw.er b3, ⟨_, _, b4.fr (by decide) hF⟩, b4.fx, b5.fx.tr hw.fx⟩
  · rw [if_neg eW, if_pos rfl, if_pos rfl, c_isWord h mG, m_isWord h mG (W := 6752063666) rfl, Option.bind_some, Option.bind_some]
    by_cases eG : wB T L p [102, 105, 103, 104, 116, 101, 114] = true
    · rw [if_pos eG, if_neg one0, if_neg one0]
      rcases fighter_bis h (wB_1 eG) hp hq hok hF hN with ⟨c1, m1, p1, ν1, a1, a2, a3, a4, a5, a6, a7, a8, a9, a10, a11⟩ | ⟨c1, m1, a1, a2, a3, a4, a5, a6⟩ | ⟨c0, c1, m1, p1, a1, a2, a3, a4, a5, a6, a7, a8⟩
      · rw [a1, a2, Option.bind_some, Option.bind_some, xbl]
        have hg2 := tkE_le (T := T) a3.le
        rcases a3.sign (x := 59) (by decide) (X := 59) rfl with ⟨c4, m4, d1, d2, d3, d4, d5⟩ | ⟨c4, m4, d1, d2, d3, d4, d5⟩
        · rw [d1, d2, Option.bind_some, Option.bind_some, xbl, nm_b, nI_1, Option.bind_some]
          have e364 : ldI m4 364 = ldI m1 364 := d5.2.1 364 (by decide)
          have e23 : ldI m4 362 23 = ldI m 362 23 := by rw [d5.2.2.2 23 (by decide), a11]
          exact goon (by omega) e23.symm d3 (a10.tr d5.fx) (a9.tr d4.fx) (by rw [e364]; exact a6) (by rw [e364]; exact d4.fr (by decide) a7) (by rw [d5.2.2.1 369 (by decide)]; exact a8) (by rw [e23]; exact h23)
        · rw [d1, d2, Option.bind_some, Option.bind_some, xbr, Option.bind_some, hbad d3.bad]
          exact Or.inr ⟨c4, m4, rfl, rfl, d3, ⟨_, _, d4.fr (by decide) a7⟩, a9.tr d4.fx, a10.tr d5.fx⟩
      · rw [a1, a2, Option.bind_some, Option.bind_some, xbr, b_mustSign a3.bad, Option.bind_some, Option.bind_some, hbad a3.bad]
        exact Or.inr ⟨c1, m1, rfl, rfl, a3, a4, a5, a6⟩
      · obtain ⟨c2, m2, b1, b2, b3, b4, b5⟩ := a4.fail (k := 1) (Or.inl rfl) (K := 1) rfl
        rw [a2] at b1
        have e12 : c1 = c2 := congrArg Prod.snd (Option.some.inj b1)
        subst e12
        rw [a1, a3, Option.bind_some, Option.bind_some, xbr]
        have hs0 : fX12_isSign 362 59 m1 = some 0 := by rw [show fX12_isSign 362 59 m1 = _ from m_isSign a4 (x := 59) (by decide), a5]; rfl
        unfold fX12_mustSign
        rw [m_good a4.gd, Option.bind_some, if_neg one0, hs0, Option.bind_some, if_pos rfl, b2, Option.bind_some, m_bad b3.bad, Option.bind_some, if_pos rfl, Option.bind_some, Option.bind_some, hbad b3.bad]
        obtain ⟨σ9, ν9, h9⟩ := a6
        exact Or.inr ⟨c1, m2, rfl, rfl, b3, ⟨_, _, b4.fr (by decide) h9⟩, a7.tr b4.fx, a8.tr b5.fx⟩
    · obtain ⟨c2, m2, b1, b2, b3, b4, b5⟩ := h.fail (k := 1) (Or.inl rfl) (K := 1) rfl
      rw [if_neg eG, if_pos rfl, if_pos rfl, b1, b2, Option.bind_some, Option.bind_some, xbr, b_mustSign b3.bad, Option.bind_some, Option.bind_some, hbad b3.bad]
      exact Or.inr ⟨c2, m2, rfl, rfl, b3, ⟨_, _, b4.fr (by decide) hF⟩, b4.fx, b5.fx⟩
end TXT
