/-! scripts: the whole text -/
def SOut (n : Nat) (c m : Mem) (rc : Option ((Unit ⊕ Nat) × Mem)) (rm : Option (Int32 × Mem)) : Prop :=
  (∃ c' m' N t, rc = some (.inl (), c') ∧ rm = fX12_runScript_82 362 m' ∧ GD c' m' ∧ SCS n N t c' m' ∧ stk (ldI m' 373) N = [] ∧ FSc c c' ∧ FSm m m') ∨
  (∃ c' m', rc = some (.inr 0, c') ∧ rm = fX12_runScript_82 362 m' ∧ ER c' m' ∧ FSc c c' ∧ FSm m m')
section SCR
variable {T : Nat → Nat} {L n N : Nat}
theorem b_isSign {m : Mem} (h : ¬ ldI m 362 8 = 0) {X : Int32} : fX12_isSign 362 X m = some 0 := by
  unfold fX12_isSign
  rw [if_neg h]
theorem b_closes {m : Mem} (h : ¬ ldI m 362 8 = 0) {k : Nat} : zl1 (gX12_closes_0 362) (k + 1) m = some m := by
  rw [zl1_s]
  unfold gX12_closes_0
  rw [b_isSign h, Option.bind_some, if_pos rfl, ite_self]
theorem b_19 {m : Mem} (h : ¬ ldI m 362 8 = 0) {k : Nat} : zl1 (gX12_runScript_19 362) (k + 1) m = fX12_runScript_82 362 m := by
  rw [zl1_s]
  unfold gX12_runScript_19 fX12_runScript_63
  rw [m_bad h, Option.bind_some, if_pos rfl, Option.bind_some, if_pos rfl]
theorem cm_body {m : Mem} {G : Mem → Option (Int32 × Mem)} : ((fX12_command 362 m).bind fun r_6 => if (ldI r_6 362 38) = (ldI m 362 38) then (fX12_mustSign 362 59 r_6).bind fun r_12 => (fX12_closes 362 r_12).bind fun r_15 => G r_15 else (fX12_closes 362 r_6).bind fun r_9 => G r_9) = (mCm m).bind fun r => (fX12_closes 362 r).bind fun x => G x := by
  unfold mCm
  cases hC : fX12_command 362 m with
  | none => rfl
  | some r =>
    rw [Option.bind_some, Option.bind_some]
    by_cases e : ldI r 362 38 = ldI m 362 38
    · rw [if_pos e, if_pos e]
    · rw [if_neg e, if_neg e, Option.bind_some]
theorem close_bis {c m : Mem} {p t : Nat} (h : TR c m T L p) (hS : SCS n N t c m) (hPC : PC c) (hR : PRw m) (hs : sB T L p 41 = true) (hd : 0 < (stk (ldI m 373) N).length) (G : Mem → Option Mem) :
    ∃ rc : Option ((Unit ⊕ Nat) × Mem), ∃ rm : Mem, (∀ K : Mem → Option ((Unit ⊕ Nat) × Mem), ((fX9_step 1 c).bind fun r_37 => (fX9_takeSign 1 59 r_37).bind fun r_40 => xb r_40 fun _ m_44 => (fX6_closeRepeat 3 m_44).bind fun r_47 => K r_47) = rc.bind fun r => xb r fun _ x => K x) ∧ gX12_closes_0 362 G m = G rm ∧
    ((∃ c' p', rc = some (.inl (), c') ∧ TR c' rm T L p' ∧ p < p' ∧ SCS n (N + 1) t c' rm ∧ FSc c c' ∧ FSm m rm) ∨ (∃ c', rc = some (.inr 0, c') ∧ ER c' rm ∧ FSc c c' ∧ FSm m rm)) := by
  obtain ⟨s1, s2, s3, s4, s5, s6, s7, s8, s9, s10, s11⟩ := hS
  have s9' := s9 N (Nat.le_refl N)
  have hN : N < 60 := by omega
  have hg := tkE_gt (T := T) h.le (by rw [sB_3 hs]; decide)
  have hq0 := tkQ_ge (T := T) h.le
  obtain ⟨d, hdd⟩ : ∃ d, (stk (ldI m 373) N).length = d + 1 := ⟨(stk (ldI m 373) N).length - 1, by omega⟩
  unfold gX12_closes_0
  rw [s8, hdd, if_neg (nI_nle (by omega) (by omega)), show fX12_isSign 362 41 m = _ from m_isSign h (x := 41) (by decide), Option.bind_some, if_pos hs, if_neg one0, nm_b, nI_pred, show ldP (stI m 362 38 (nI d)) 362 29 = some 373 from hR.1, Option.bind_some, ldI_stI, if_neg (by decide), s2, ln37.1, gd_t (inB_nI hN (by decide)), nI_clamp (by omega), nm_b, nm_b, ldI_stI_ne (show (362 : Nat) ≠ 373 by decide), ldI_stI, if_neg (by decide), s2, nI_1]
  have hT1 : TR c (stI (stI (stI m 362 38 (nI d)) 373 N 9) 362 36 (nI (N + 1))) T L p := ((h.m362 (by decide)).m37 (by decide)).m362 (by decide)
  obtain ⟨c1, m1, a1, a2, a3, a4, a5⟩ := hT1.step
  rw [a2, Option.bind_some]
  have hg2 := tkE_le (T := T) a3.le
  have fm0 : FSm m (stI (stI (stI m 362 38 (nI d)) 373 N 9) 362 36 (nI (N + 1))) := ((FSm.s (by decide)).tr FSm.t).tr (FSm.s (by decide))
  rcases a3.sign (x := 59) (by decide) (X := 59) rfl with ⟨c2, m2, b1, b2, b3, b4, b5⟩ | ⟨c2, m2, b1, b2, b3, b4, b5⟩
  · rw [b2, Option.bind_some]
    have p2 : ldP c2 = ldP c := b4.1.trans a4.1
    have kc : ∀ a, a ≠ 1 → ldI c2 a = ldI c a := fun a ha => by rw [b4.2.1 a ha, a4.2.1 a ha]
    have hPC2 := hPC.of p2
    obtain ⟨c3, d1, d2, d3, d4, d5, d6, d7⟩ := c_added (c := stI c2 3 4 (nI d)) (hPC2.of rfl) hN (by rw [ldI_stI, if_neg (by decide), kc 3 (by decide)]; exact s1) 9
    have e34 : ldI c3 3 4 = nI d := by rw [d4 4 (by decide), ldI_stI_s]
    have e5 : ldI c3 5 d = nI ((stk (ldI m 373) N).getD d 0) := by rw [d7 5 (by decide) (by omega), ldI_stI_ne (by decide), kc 5 (by decide)]; exact s10 d (by omega)
    have hcl : fX6_closeRepeat 3 c2 = some (stI c3 (6 + N) 5 (nI ((stk (ldI m 373) N).getD d 0))) := by
      unfold fX6_closeRepeat
      rw [kc 3 (by decide), s7, hdd, if_neg (nI_nle (by omega) (by omega)), hPC2.2.1, Option.bind_some, ln45.2, if_neg (show ¬ Int32.ofNat 2 < nI (d + 1) from nI_nlt (a := 2) (by omega) (by decide)), nm_b, nI_pred, d1, Option.bind_some]
      dsimp only
      rw [show ldP c3 3 1 = some 5 by rw [d5]; exact hPC2.2.1, Option.bind_some, e34, ln45.2, gd_t (inB_nI (by omega) (by decide)), nI_clamp (by omega), e5, nm_b]
    refine ⟨some (.inl (), stI c3 (6 + N) 5 (nI ((stk (ldI m 373) N).getD d 0))), m2, fun K => ?_, rfl, Or.inl ⟨_, tkE T L (tkE T L p), rfl, ?_, by omega, ?_, ?_, ?_⟩⟩
    · rw [a1, Option.bind_some, b1, Option.bind_some, xbl, hcl, Option.bind_some, Option.bind_some, xbl]
    · refine TR.c6 ?_ (by omega)
      obtain ⟨⟨x1, x2, x3, x4⟩, y2, y3, ⟨k1, k2, k3, k4, k5, k6⟩, y5, y6⟩ := b3
      have q1 : ldI c3 1 = ldI c2 1 := by rw [d7 1 (by decide) (by omega), ldI_stI_ne (by decide)]
      have q2 : ldI c3 2 = ldI c2 2 := by rw [d7 2 (by decide) (by omega), ldI_stI_ne (by decide)]
      exact ⟨⟨x1, by rw [d5]; exact x2, by rw [q1]; exact x3, fun i hi => by rw [q2]; exact x4 i hi⟩, y2, y3, ⟨by rw [q1]; exact k1, by rw [q1]; exact k2, by rw [q1]; exact k3, fun e => by rw [d6]; exact k4 e, fun e => by rw [q1]; exact k5 e, fun e => by rw [q1]; exact k6 e⟩, y5, y6.1, y6.2.1, by rw [q1]; exact y6.2.2.1, by rw [q1]; exact y6.2.2.2⟩
    · have km : ∀ a, a ≠ 362 → a ≠ 373 → ldI m2 a = ldI m a := fun a h1 h2 => by rw [b5.2.1 a h1, a5.2.1 a h1, ldI_stI_ne h1, ldI_stI_ne h2, ldI_stI_ne h1]
      have k362 : ∀ k, 9 < k → ldI m2 362 k = ldI (stI (stI (stI m 362 38 (nI d)) 373 N 9) 362 36 (nI (N + 1))) 362 k := fun k hk => by rw [b5.2.2.2 k (Or.inr hk), a5.2.2.2 k (Or.inr hk)]
      have k373 : ∀ i, ldI m2 373 i = if i = N then 9 else ldI m 373 i := fun i => by
        rw [b5.2.1 373 (by decide), a5.2.1 373 (by decide), ldI_stI_ne (by decide), ldI_stI]
        by_cases ei : i = N
        · rw [if_pos ⟨rfl, ei⟩, if_pos ei]
        · rw [if_neg (fun q => ei q.2), if_neg ei, ldI_stI_ne (by decide)]
      have u2 : ∀ i, i < N → ldI m2 373 i = ldI m 373 i := fun i hi => by rw [k373, if_neg (by omega)]
      have uN : ldI m2 373 N = 9 := by rw [k373, if_pos rfl]
      have est : stk (ldI m2 373) (N + 1) = (stk (ldI m 373) N).dropLast := by
        rw [stk, uN, if_neg (by decide), if_pos rfl, stk_cg u2]
      have elen : (stk (ldI m2 373) (N + 1)).length = d := by rw [est, List.length_dropLast, hdd, Nat.add_sub_cancel]
      refine ⟨?_, ?_, ?_, ?_, s5, by omega, ?_, ?_, ?_, fun i hi => ?_, fun k hk => ?_⟩
      · rw [ldI_stI_ne (by omega)]; exact d3
      · rw [k362 36 (by decide), ldI_stI_s]
      · rw [ldI_stI_ne (by omega), d4 3 (by decide), ldI_stI, if_neg (by decide), kc 3 (by decide)]; exact s3
      · rw [k362 37 (by decide), ldI_stI, if_neg (by decide), ldI_stI_ne (by decide), ldI_stI, if_neg (by decide)]; exact s4
      · rw [elen, ldI_stI_ne (by omega)]; exact e34
      · rw [elen, k362 38 (by decide), ldI_stI, if_neg (by decide), ldI_stI_ne (by decide), ldI_stI_s]
      · intro k hk
        by_cases ek : k = N + 1
        · rw [ek, elen]; omega
        · rw [stk_cg (fun i hi => u2 i (by omega))]; exact s9 k (by omega)
      · rw [elen] at hi
        rw [ldI_stI_ne (by omega), d7 5 (by decide) (by omega), ldI_stI_ne (by decide), kc 5 (by decide), s10 i (by omega), est, List.getD_eq_getElem?_getD, List.getD_eq_getElem?_getD, List.getElem?_dropLast, if_pos (by omega)]
      · by_cases ek : k = N
        · subst ek
          refine ⟨9, by decide, ?_, uN, fun h => by omega, fun h => by omega, fun _ => ⟨(stk (ldI m 373) k).getD d 0, ?_, ldI_stI_s⟩⟩
          · rw [ldI_stI, if_neg (by omega)]; exact d2
          · rw [stk_cg u2, List.getLast?_eq_getElem?, hdd, Nat.add_sub_cancel, List.getD_eq_getElem?_getD, List.getElem?_eq_getElem (show d < (stk (ldI m 373) k).length by omega)]; rfl
        · exact (s11 k (by omega)).cg (fun j => by rw [ldI_stI_ne (by omega), d7 _ (by omega) (by omega), ldI_stI_ne (by omega), kc _ (by omega)]) (fun a h1 h2 => by rw [km a (by omega) (by omega)]) (fun i hi => u2 i (by omega))
    · exact ((((a4.fs.tr b4.fs).tr (FSc.s (by decide))).tr ⟨d5, fun a ha => d7 a (by omega) (by omega), fun _ _ => by rw [d6], by rw [d7 1 (by decide) (by omega)]⟩)).tr (FSc.s (by omega))
    · exact (fm0.tr a5.fs).tr b5.fs
  · rw [b2, Option.bind_some]
    exact ⟨some (.inr 0, c2), m2, fun K => by rw [a1, Option.bind_some, b1, Option.bind_some, xbr, Option.bind_some, xbr], rfl, Or.inr ⟨c2, rfl, b3, a4.fs.tr b4.fs, (fm0.tr a5.fs).tr b5.fs⟩⟩
theorem script_bis {c0 m0 : Mem} {σ : Sg} {ν : Nat → Int64} (hPC : PC c0) (hR : PRw m0) (hF : FR c0 66 σ ν) (hσ : σ 0 = nI n) (h0m : ldI m0 364 0 = nI n) (hn : n ≤ 8) (hp : ldP m0 362 13 = some 364) (hq : ldP m0 362 18 = some 369) (hNM : NMS n ν (ldJ m0 369)) : ∀ (d : Nat) (c m : Mem) (p j N t k1 k2 k3 : Nat), L - p = d → j ≤ p → TR c m T L p → SCS n N t c m → FSc c0 c → FSm m0 m → d < k1 → d + 1 < k2 → d < k3 → d < FU → SOut n c0 m0 (zl2 (gX6_readFrom_17 3 1 66) k1 (nI j) c) ((zl1 (gX12_closes_0 362) k3 m).bind fun r => zl1 (gX12_runScript_19 362) k2 r) := by
  intro d
  induction d using Nat.strongRecOn with
  | ind d ih =>
  intro c m p j N t k1 k2 k3 hd hj h hS f0 g0 hk1 hk2 hk3 hFU
  have hS' := hS
  obtain ⟨s1, s2, s3, s4, s5, s6, s7, s8, s9, s10, s11⟩ := hS
  have s9' := s9 N (Nat.le_refl N)
  obtain ⟨k1, rfl⟩ : ∃ k, k1 = k + 1 := ⟨k1 - 1, by omega⟩
  obtain ⟨k2, rfl⟩ : ∃ k, k2 = k + 2 := ⟨k2 - 2, by omega⟩
  obtain ⟨k3, rfl⟩ : ∃ k, k3 = k + 1 := ⟨k3 - 1, by omega⟩
  have hL := h.L600
  have hpL := h.le
  have hq0 := tkQ_ge (T := T) h.le
  have nn41 : fX9_isSign 1 41 c = some (if sB T L p 41 = true then 1 else 0) := c_isSign h (x := 41) (by decide)
  have mm41 : fX12_isSign 362 41 m = some (if sB T L p 41 = true then 1 else 0) := m_isSign h (x := 41) (by decide)
  by_cases hcl : 0 < (stk (ldI m 373) N).length ∧ sB T L p 41 = true
  · -- a repeat is closed
    obtain ⟨rc, rm, e1, e2, e3⟩ := close_bis h hS' (hPC.of f0.1) (hR.of g0.1) hcl.2 hcl.1 (zl1 (gX12_closes_0 362) k3)
    have h0 : tkK T L p ≠ 0 := by rw [sB_3 hcl.2]; decide
    have hg := tkE_gt (T := T) h.le h0
    rw [zl2_s, zl1_s, e2]
    generalize hG : zl2 (gX6_readFrom_17 3 1 66) k1 = G
    unfold gX6_readFrom_17
    rw [if_neg (show ¬ (600 : Int32) ≤ nI j from nI_ge (b := 600) (by omega) (by decide)), h.kc.2.2.1, if_neg (kkn (K := 0) (k := 0) rfl (by decide) h0), s7, if_neg (nI_nle hcl.1 (by omega)), nn41, Option.bind_some, if_pos hcl.2, if_neg one0, e1 (fun r_47 => nm (nI j + 1) fun v_50 => G v_50 r_47)]
    rcases e3 with ⟨c', p', a1, a2, a3, a4, a5, a6⟩ | ⟨c', a1, a2, a3, a4⟩
    · rw [a1, Option.bind_some, xbl, nm_b, nI_1, ← hG]
      have := a2.le
      exact ih (L - p') (by omega) c' rm p' (j + 1) (N + 1) t k1 (k2 + 2) k3 rfl (by omega) a2 a4 (f0.tr a5) (g0.tr a6) (by omega) (by omega) (by omega) (by omega)
    · obtain ⟨k3', rfl⟩ : ∃ k, k3 = k + 1 := ⟨k3 - 1, by omega⟩
      rw [a1, Option.bind_some, xbr, b_closes a2.bad, Option.bind_some, show k2 + 2 = (k2 + 1) + 1 from rfl, b_19 a2.bad]
      exact Or.inr ⟨c', rm, rfl, rfl, a2, f0.tr a3, g0.tr a4⟩
  · -- no repeat is closed here
    have hstop : gX12_closes_0 362 (zl1 (gX12_closes_0 362) k3) m = some m := by
      unfold gX12_closes_0
      rw [s8, mm41, Option.bind_some]
      by_cases e : 0 < (stk (ldI m 373) N).length
      · rw [if_neg (nI_nle e (by omega)), if_neg (fun q => hcl ⟨e, q⟩), if_pos rfl]
      · rw [if_pos (show nI (stk (ldI m 373) N).length ≤ 0 by rw [show (stk (ldI m 373) N).length = 0 by omega]; decide)]
    rw [zl2_s, zl1_s, hstop, Option.bind_some, show k2 + 2 = (k2 + 1) + 1 from rfl, zl1_s]
    generalize hG : zl2 (gX6_readFrom_17 3 1 66) k1 = G
    generalize hH : zl1 (gX12_runScript_19 362) (k2 + 1) = H
    unfold gX6_readFrom_17 gX12_runScript_19
    rw [m_good h.gd, Option.bind_some, if_neg one0, h.kc.2.2.1, h.km.2.2.1, s7]
    by_cases h0 : tkK T L p = 0
    · rw [if_pos (show nI (tkK T L p) = 0 by rw [h0]; rfl), if_pos (show nI (tkK T L p) = 0 by rw [h0]; rfl), ite_self]
      unfold fX12_runScript_63
      rw [m_good h.gd, Option.bind_some, if_neg one0, s8]
      by_cases e : 0 < (stk (ldI m 373) N).length
      · obtain ⟨c1, m1, a1, a2, a3, a4, a5⟩ := h.fail (k := 1) (Or.inl rfl) (K := 1) rfl
        rw [if_neg (nI_nle e (by omega)), if_neg (nI_nle e (by omega)), a1, a2, Option.bind_some, Option.bind_some, xbr]
        exact Or.inr ⟨c1, m1, rfl, rfl, a3, f0.tr a4.fs, g0.tr a5.fs⟩
      · have e0 : nI (stk (ldI m 373) N).length ≤ 0 := by rw [show (stk (ldI m 373) N).length = 0 by omega]; decide
        rw [if_pos e0, if_pos e0]
        exact Or.inl ⟨c, m, N, t, rfl, rfl, h.GD, hS', List.eq_nil_of_length_eq_zero (by omega), f0, g0⟩
    · have hg := tkE_gt (T := T) h.le h0
      have n0 := kkn (K := 0) (k := 0) rfl (by decide) h0
      have hbod := cm_body (m := m) (G := H)
      rw [if_neg (show ¬ (600 : Int32) ≤ nI j from nI_ge (b := 600) (by omega) (by decide)), if_neg n0, if_neg n0, nm_b, hbod]
      have hcm : (if nI (stk (ldI m 373) N).length ≤ 0 then (fX6_readCommand 3 1 66 c).bind fun r_17 => xb r_17 fun _ m_21 => nm (nI j + 1) fun v_24 => G v_24 m_21 else (fX9_isSign 1 41 c).bind fun r_25 => if r_25 = 0 then (fX6_readCommand 3 1 66 c).bind fun r_29 => xb r_29 fun _ m_33 => nm (nI j + 1) fun v_36 => G v_36 m_33 else (fX9_step 1 c).bind fun r_37 => (fX9_takeSign 1 59 r_37).bind fun r_40 => xb r_40 fun _ m_44 => (fX6_closeRepeat 3 m_44).bind fun r_47 => nm (nI j + 1) fun v_50 => G v_50 r_47) = (fX6_readCommand 3 1 66 c).bind fun r_17 => xb r_17 fun _ m_21 => nm (nI j + 1) fun v_24 => G v_24 m_21 := by
        by_cases e : 0 < (stk (ldI m 373) N).length
        · rw [if_neg (nI_nle e (by omega)), nn41, Option.bind_some, if_neg (fun q => hcl ⟨e, q⟩), if_pos rfl]
        · rw [if_pos (show nI (stk (ldI m 373) N).length ≤ 0 by rw [show (stk (ldI m 373) N).length = 0 by omega]; decide)]
      rw [hcm]
      rcases command_bis h h0 hS' (hPC.of f0.1) (hR.of g0.1) (f0.fr (by decide) hF) hσ (by rw [g0.2.2.1 364 (by decide) (by decide)]; exact h0m) hn (g0.p hp) (g0.p hq) (by rw [g0.2.1 369 (by decide)]; exact hNM) with ⟨c', m', p', N', t', a1, a2, a3, a4, a5, a6, a7⟩ | ⟨c', m', a1, a2, a3, a4, a5⟩
      · rw [a1, a2, Option.bind_some, Option.bind_some, xbl, nm_b, nI_1, ← hG, ← hH]
        unfold fX12_closes fX12_closes_0
        have := a3.le
        exact ih (L - p') (by omega) c' m' p' (j + 1) N' t' k1 (k2 + 1) FU rfl (by omega) a3 a5 (f0.tr a6) (g0.tr a7) (by omega) (by omega) (by omega) (by omega)
      · unfold fX12_closes fX12_closes_0
        rw [a1, a2, Option.bind_some, Option.bind_some, xbr, show FU = (FU - 1) + 1 from rfl, b_closes a3.bad, Option.bind_some, ← hH, b_19 a3.bad]
        exact Or.inr ⟨c', m', rfl, rfl, a3, f0.tr a4, g0.tr a5⟩
end SCR
