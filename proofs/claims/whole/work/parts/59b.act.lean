/-! texts: behind an error nothing goes on; an act -/
/-- what the reference leaves while it reads a text -/
def FXm (m m' : Mem) : Prop := ldP m' = ldP m ∧ (∀ a, a ≠ 362 → a ≠ 364 → ldI m' a = ldI m a) ∧ (∀ a, a ≠ 362 → a ≠ 369 → ldJ m' a = ldJ m a) ∧ ∀ k, (k < 4 ∨ 9 < k) → k ≠ 23 → ldI m' 362 k = ldI m 362 k
theorem FXm.rf {m : Mem} : FXm m m := ⟨rfl, fun _ _ _ => rfl, fun _ _ _ => rfl, fun _ _ _ => rfl⟩
theorem FXm.tr {a b c : Mem} (h1 : FXm a b) (h2 : FXm b c) : FXm a c := ⟨h2.1.trans h1.1, fun x p q => (h2.2.1 x p q).trans (h1.2.1 x p q), fun x p q => (h2.2.2.1 x p q).trans (h1.2.2.1 x p q), fun k p q => (h2.2.2.2 k p q).trans (h1.2.2.2 k p q)⟩
theorem KY.fx {m m' : Mem} (h : KY m m') : FXm m m' := ⟨h.1, fun a p _ => h.2.1 a p, fun a p _ => h.2.2.1 a p, fun k p _ => h.2.2.2 k p⟩
theorem FXm.s {m : Mem} {k : Nat} {v : Int32} : FXm m (stI m 364 k v) := ⟨rfl, fun _ _ q => ldI_stI_ne q, fun _ _ _ => rfl, fun _ _ _ => by rw [ldI_stI_ne (by decide)]⟩
theorem FXm.n {m : Mem} {k : Nat} {v : Int64} : FXm m (stJ m 369 k v) := ⟨rfl, fun _ _ _ => rfl, fun _ _ q => ldJ_stJ_ne q, fun _ _ _ => rfl⟩
theorem FXm.w {m : Mem} {v : Int32} : FXm m (stI m 362 23 v) := ⟨rfl, fun _ p _ => ldI_stI_ne p, fun _ _ _ => rfl, fun k _ q => by rw [ldI_stI, if_neg (by omega)]⟩
theorem FXm.p {m m' : Mem} (h : FXm m m') {k x : Nat} (hp : ldP m 362 k = some x) : ldP m' 362 k = some x := by rw [h.1]; exact hp
/-- .. behind an error -/
def BM (m m' : Mem) : Prop := ldP m' = ldP m ∧ (∀ a, a ≠ 362 → a ≠ 364 → ldI m' a = ldI m a) ∧ ldJ m' = ldJ m ∧ ∀ k, k ≠ 23 → ldI m' 362 k = ldI m 362 k
theorem BM.rf {m : Mem} : BM m m := ⟨rfl, fun _ _ _ => rfl, rfl, fun _ _ => rfl⟩
theorem BM.tr {a b c : Mem} (h1 : BM a b) (h2 : BM b c) : BM a c := ⟨h2.1.trans h1.1, fun x p q => (h2.2.1 x p q).trans (h1.2.1 x p q), h2.2.2.1.trans h1.2.2.1, fun k p => (h2.2.2.2 k p).trans (h1.2.2.2 k p)⟩
theorem BM.s {m : Mem} {k : Nat} {v : Int32} : BM m (stI m 364 k v) := ⟨rfl, fun _ _ q => ldI_stI_ne q, rfl, fun _ _ => by rw [ldI_stI_ne (by decide)]⟩
theorem BM.w {m : Mem} {v : Int32} : BM m (stI m 362 23 v) := ⟨rfl, fun _ p _ => ldI_stI_ne p, rfl, fun k q => by rw [ldI_stI, if_neg (by omega)]⟩
theorem BM.fx {m m' : Mem} (h : BM m m') : FXm m m' := ⟨h.1, h.2.1, fun a _ _ => by rw [h.2.2.1], fun k _ q => h.2.2.2 k q⟩
theorem BM.er {c m m' : Mem} (h : BM m m') (e : ER c m) : ER c m' := by
  obtain ⟨k, q, h1, h2, h3, h4, h5, h6⟩ := e
  exact ⟨k, q, h1, h2, h3, h4, by rw [h.2.2.2 8 (by decide)]; exact h5, by rw [h.2.2.2 9 (by decide)]; exact h6⟩
theorem BM.bad {m m' : Mem} (h : BM m m') (e : ¬ ldI m 362 8 = 0) : ¬ ldI m' 362 8 = 0 := by rw [h.2.2.2 8 (by decide)]; exact e
theorem BM.p {m m' : Mem} (h : BM m m') {k x : Nat} (hp : ldP m 362 k = some x) : ldP m' 362 k = some x := by rw [h.1]; exact hp
section BAD
variable {m : Mem}
theorem b_mustWord (h : ¬ ldI m 362 8 = 0) {W : Int64} : fX12_mustWord 362 W m = some m := by
  unfold fX12_mustWord
  rw [m_bad h, Option.bind_some, if_pos rfl, Option.bind_some, if_pos rfl]
theorem b_mustSign (h : ¬ ldI m 362 8 = 0) {X : Int32} : fX12_mustSign 362 X m = some m := by
  unfold fX12_mustSign
  rw [m_bad h, Option.bind_some, if_pos rfl, Option.bind_some, if_pos rfl]
theorem b_isWord (h : ¬ ldI m 362 8 = 0) {W : Int64} : fX12_isWord 362 W m = some 0 := by
  unfold fX12_isWord
  rw [if_neg h]
theorem b_after (h : ¬ ldI m 362 8 = 0) {W : Int64} {A B : Int32} : fX12_after 362 W A B m = some (ldI m 362 7, m) := by
  unfold fX12_after
  rw [b_mustWord h, Option.bind_some, m_badNum h, Option.bind_some]
theorem b_kindHere (h : ¬ ldI m 362 8 = 0) : fX12_kindHere 362 m = some (-1) := by
  unfold fX12_kindHere
  simp only [b_isWord h, Option.bind_some, if_true]
theorem b_side (h : ¬ ldI m 362 8 = 0) : fX12_side 362 m = some (0, m) := by
  unfold fX12_side fX12_side_34
  rw [b_isWord h, Option.bind_some, m_bad h, Option.bind_some, if_pos rfl, Option.bind_some, if_pos rfl]
  rfl
theorem m_mostOf' (k : Int32) : ∃ x, fX12_mostOf k m = some x := by
  unfold fX12_mostOf
  split
  · exact ⟨_, rfl⟩
  · split
    · exact ⟨_, rfl⟩
    · split
      · exact ⟨_, rfl⟩
      · exact ⟨_, rfl⟩
theorem b_act59 (h : ¬ ldI m 362 8 = 0) {A B C : Int32} : fX12_readsAct_59 362 A B C m = some m := by
  unfold fX12_readsAct_59
  obtain ⟨x, hx⟩ := m_mostOf' (m := m) B
  rw [hx, Option.bind_some, m_badNum h, Option.bind_some]
  dsimp only
  rw [m_bad h, Option.bind_some, if_pos rfl]
theorem b_act48 (h : ¬ ldI m 362 8 = 0) {A B C : Int32} : fX12_readsAct_48 362 A B C m = some m := by
  unfold fX12_readsAct_48
  rw [m_bad h, Option.bind_some, if_pos rfl, b_act59 h]
theorem b_act30 (h : ¬ ldI m 362 8 = 0) {A B C : Int32} : fX12_readsAct_30 362 A B C m = some m := by
  unfold fX12_readsAct_30
  rw [m_bad h, Option.bind_some, if_pos rfl, b_act48 h]
theorem b_readsAct (hp : ldP m 362 13 = some 364) (h : ¬ ldI m 362 8 = 0) {f : Nat} (hf : f < 8) : fX12_readsAct 362 (nI f) m = some m := by
  unfold fX12_readsAct
  rw [b_kindHere h, Option.bind_some, m_of8 hp hf, Option.bind_some, m_bad h, Option.bind_some, if_pos rfl, b_act30 h]
theorem b_190 (h : ¬ ldI m 362 8 = 0) : fX12_readsFighter_190 362 m = some m := by
  unfold fX12_readsFighter_190
  rw [m_bad h, Option.bind_some, if_pos rfl]
theorem b_167 (h : ¬ ldI m 362 8 = 0) {f : Int32} {k : Nat} : zl1 (gX12_readsFighter_167 362 f) (k + 1) m = some m := by
  rw [zl1_s]
  unfold gX12_readsFighter_167
  rw [m_bad h, Option.bind_some, if_pos rfl, b_190 h]
end BAD
/-- the class leaves all but its tokens and the draft -/
def FXc (c c' : Mem) : Prop := SE (fun a => a = 1 ∨ RG 95 a) c c' ∧ ldP c' 1 = ldP c 1 ∧ ldI c' 1 1 = ldI c 1 1
theorem FXc.rf {c : Mem} : FXc c c := ⟨SE.rf, rfl, rfl⟩
theorem FXc.tr {a b c : Mem} (h1 : FXc a b) (h2 : FXc b c) : FXc a c := ⟨h1.1.tr h2.1, h2.2.1.trans h1.2.1, h2.2.2.trans h1.2.2⟩
theorem KZ.fx {c c' : Mem} (h : KZ c c') : FXc c c' := ⟨fun a ha => by
  have : a ≠ 1 := fun e => ha (Or.inl e)
  exact ⟨h.2.1 a this, h.2.2.1 a this, by rw [h.1]⟩, by rw [h.1], h.2.2.2⟩
theorem SE.fx {c c' : Mem} (h : SE (RG 95) c c') : FXc c c' := ⟨h.mono (fun a ha => Or.inr ha), (h 1 (fun h => by unfold RG at h; omega)).2.2, by rw [(h 1 (fun h => by unfold RG at h; omega)).1]⟩
theorem KZ.fr {c c' : Mem} (h : KZ c c') {o : Nat} (ho : 2 ≤ o) {σ : Sg} {ν : Nat → Int64} (g : FR c o σ ν) : FR c' o σ ν := g.out (S := fun a => a = 1) (fun a ha => ⟨h.2.1 a ha, h.2.2.1 a ha, by rw [h.1]⟩) (fun a ha e => by unfold RG at ha; omega)
section ACT
variable {c m : Mem} {T : Nat → Nat} {L p : Nat}
theorem TR.cs (h : TR c m T L p) {c' : Mem} (g : SE (RG 95) c c') : TR c' m T L p := by
  have g1 := g 1 (fun h => by unfold RG at h; omega)
  have g2 := g 2 (fun h => by unfold RG at h; omega)
  obtain ⟨⟨a1, a2, a3, a4⟩, h2, h3, ⟨k1, k2, k3, k4, k5, k6⟩, h5, h6⟩ := h
  exact ⟨⟨a1, by rw [g1.2.2]; exact a2, by rw [g1.1]; exact a3, fun i hi => by rw [g2.1]; exact a4 i hi⟩, h2, h3, ⟨by rw [g1.1]; exact k1, by rw [g1.1]; exact k2, by rw [g1.1]; exact k3, fun e => by rw [g1.2.1]; exact k4 e, fun e => by rw [g1.1]; exact k5 e, fun e => by rw [g1.1]; exact k6 e⟩, h5, h6.1, h6.2.1, by rw [g1.1]; exact h6.2.2.1, by rw [g1.1]; exact h6.2.2.2⟩
theorem TR.ms (h : TR c m T L p) {m' : Mem} (hP : ldP m' 362 = ldP m 362) (hI : ∀ k, k < 10 → ldI m' 362 k = ldI m 362 k) (h3 : ldI m' 363 = ldI m 363) (hJ : ldJ m' 362 = ldJ m 362) : TR c m' T L p := by
  obtain ⟨h1, ⟨a1, a2, a3, a4⟩, h3', h4, ⟨k1, k2, k3, k4, k5, k6⟩, h6⟩ := h
  exact ⟨h1, ⟨a1, by rw [hP]; exact a2, by rw [hI 3 (by decide)]; exact a3, fun i hi => by rw [h3]; exact a4 i hi⟩, h3', h4, ⟨by rw [hI 5 (by decide)]; exact k1, by rw [hI 4 (by decide)]; exact k2, by rw [hI 6 (by decide)]; exact k3, fun e => by rw [hJ]; exact k4 e, fun e => by rw [hI 7 (by decide)]; exact k5 e, fun e => by rw [hI 7 (by decide)]; exact k6 e⟩, by rw [hI 8 (by decide)]; exact h6.1, by rw [hI 9 (by decide)]; exact h6.2.1, h6.2.2⟩
theorem TR.m364 (h : TR c m T L p) {k : Nat} {v : Int32} : TR c (stI m 364 k v) T L p := h.ms rfl (fun _ _ => by rw [ldI_stI_ne (by decide)]) (ldI_stI_ne (by decide)) rfl
theorem TR.m369 (h : TR c m T L p) {k : Nat} {v : Int64} : TR c (stJ m 369 k v) T L p := h.ms rfl (fun _ _ => rfl) rfl (ldJ_stJ_ne (by decide))
theorem TR.m23 (h : TR c m T L p) {v : Int32} : TR c (stI m 362 23 v) T L p := h.ms rfl (fun k hk => by rw [ldI_stI, if_neg (by omega)]) (ldI_stI_ne (by decide)) rfl
def mo (q : Nat) : Nat := if q = 1 ∨ q = 2 then 999 else if q = 4 then 3 else 99
theorem mo_bd {q : Nat} : 3 ≤ mo q ∧ mo q ≤ 999 := by
  unfold mo; split
  · decide
  · split <;> decide
theorem c_mostOf {μ : Mem} {q : Nat} (hq : q < 7) : fX0_mostOf (nI q) μ = some (nI (mo q)) := by
  rcases (show q = 0 ∨ q = 1 ∨ q = 2 ∨ q = 3 ∨ q = 4 ∨ q = 5 ∨ q = 6 by omega) with rfl | rfl | rfl | rfl | rfl | rfl | rfl <;> rfl
theorem m_mostOf {μ : Mem} {q : Nat} (hq : q < 7) : fX12_mostOf (nI q) μ = some (nI (mo q)) := by
  rcases (show q = 0 ∨ q = 1 ∨ q = 2 ∨ q = 3 ∨ q = 4 ∨ q = 5 ∨ q = 6 by omega) with rfl | rfl | rfl | rfl | rfl | rfl | rfl <;> rfl
/-- an act more -/
def actR (σ : Sg) (n a q v : Nat) : Sg := upd (upd (upd σ (100 + 6 * n + a) (nI q)) (148 + 6 * n + a) (nI v)) (4 + 12 * n + 8) (nI (a + 1))
theorem act_bis (kb : Int32 → Mem → Option ((Unit ⊕ Nat) × Mem)) (h : TR c m T L p) (hp : ldP m 362 13 = some 364) {n a : Nat} (hn : n < 8) (ha : a ≤ 6) {ν : Nat → Int64} (hF : FR c 95 (ldI m 364) ν) (h8 : ldI m 364 (4 + 12 * n + 8) = nI a) :
    (∃ c' m' q v, fX8_readPlan_21 kb (95 + 5 + 3 * n) 1 (nI a) c = kb (nI (a + 1)) c' ∧ fX12_readsAct 362 (nI n) m = some m' ∧ TR c' m' T L (tkE T L (tkE T L p)) ∧ tkK T L p = 1 ∧ a < 6 ∧ q < 7 ∧ 1 ≤ v ∧ v ≤ mo q ∧ FR c' 95 (ldI m' 364) ν ∧ ldI m' 364 = actR (ldI m 364) n a q v ∧ FXc c c' ∧ FXm m m' ∧ ldI m' 362 23 = ldI m 362 23 ∧ ldJ m' 369 = ldJ m 369) ∨
    (∃ c' m', fX8_readPlan_21 kb (95 + 5 + 3 * n) 1 (nI a) c = some (.inr 0, c') ∧ fX12_readsAct 362 (nI n) m = some m' ∧ ER c' m' ∧ FA c' 95 ∧ FXc c c' ∧ FXm m m') := by
  unfold fX8_readPlan_21 fX12_readsAct
  rw [c_kindHere h, m_kindHere h, Option.bind_some, Option.bind_some, m_of8 hp hn, h8, Option.bind_some, m_good h.gd, Option.bind_some, if_neg one0]
  cases hk : sp_first (fun q => wB T L p (kl q)) 7 with
  | none =>
    obtain ⟨c1, m1, a1, a2, a3, a4, a5⟩ := h.fail (k := 1) (Or.inl rfl) (K := 1) rfl
    rw [if_pos (show noI none = -1 from rfl), if_pos (show noI none = -1 from rfl), a1, a2, Option.bind_some, Option.bind_some, b_act30 a3.bad]
    exact Or.inr ⟨c1, m1, rfl, rfl, a3, ⟨_, _, a4.fr (by decide) hF⟩, a4.fx, a5.fx⟩
  | some q =>
    obtain ⟨q1, q2⟩ := first_lt hk
    have k1 := wB_1 q2
    have hm1 : ¬ noI (some q) = -1 := nI_m1 (by omega)
    rw [if_neg hm1, if_neg hm1]
    unfold fX8_readPlan_36 fX12_readsAct_30
    rw [m_good h.gd, Option.bind_some, if_neg one0]
    by_cases e6 : a = 6
    · subst e6
      obtain ⟨c1, m1, a1, a2, a3, a4, a5⟩ := h.fail (k := 5) (Or.inr ⟨by omega, by decide, by decide⟩) (K := 5) rfl
      rw [if_pos (show nI 6 = 6 from rfl), if_pos (show nI 6 = 6 from rfl), a1, a2, Option.bind_some, Option.bind_some, b_act48 a3.bad]
      exact Or.inr ⟨c1, m1, rfl, rfl, a3, ⟨_, _, a4.fr (by decide) hF⟩, a4.fx, a5.fx⟩
    · have n6 : ¬ nI a = 6 := fun e => e6 ((nI_eq (b := 6) (by omega) (by decide)).mp e)
      rw [if_neg n6, if_neg n6]
      unfold fX8_readPlan_47 fX12_readsAct_48 fX12_readsAct_59
      obtain ⟨c1, m1, a1, a2, a3, a4, a5⟩ := h.step
      rw [a1, Option.bind_some, m_good h.gd, Option.bind_some, if_neg one0, a2, Option.bind_some, show noI (some q) = nI q from rfl, c_mostOf q1, m_mostOf q1, Option.bind_some, Option.bind_some]
      have hmo := mo_bd (q := q)
      rcases a3.num (lo := 1) (hi := mo q) (by decide) (by omega) (A := 1) rfl rfl with ⟨v, c2, m2, v1, v2, b1, b2, b3, b4, b5⟩ | ⟨x, c2, m2, b1, b2, b3, b4, b5⟩
      · rw [b1, b2, Option.bind_some, Option.bind_some]
        dsimp only
        rw [m_good b3.gd, Option.bind_some, if_neg one0]
        have hF2 := b4.fr (o := 95) (by decide) (a4.fr (by decide) hF)
        have e364 : ldI m2 364 = ldI m 364 := by rw [b5.2.1 364 (by decide), a5.2.1 364 (by decide)]
        have hp2 : ldP m2 362 13 = some 364 := by rw [b5.1, a5.1]; exact hp
        obtain ⟨c3, d1, d2⟩ := c_addAct hF2 hn (nI q) (nI v) h8 (by omega)
        rw [show xb (Sum.inl (nI v), c2) (fun v_13 m_11 => (fX3_addAct (95 + 5 + 3 * n) (nI q) v_13 m_11).bind fun r_14 => nm (nI a + 1) fun v_17 => kb v_17 r_14) = (fX3_addAct (95 + 5 + 3 * n) (nI q) (nI v) c2).bind fun r_14 => nm (nI a + 1) fun v_17 => kb v_17 r_14 from rfl, d1, Option.bind_some, nm_b, nI_1, hp2, Option.bind_some, ixK 100 (C := 100) rfl, ln364, gd_t (inB_nI (by omega) (by decide)), nI_clamp (by omega), nm_b]
        have hp3 : ldP (stI m2 364 (100 + 6 * n + a) (nI q)) 362 13 = some 364 := hp2
        rw [hp3, Option.bind_some, ixK 148 (C := 148) rfl, ln364, gd_t (inB_nI (by omega) (by decide)), nI_clamp (by omega), nm_b]
        obtain ⟨m4, f1, f2, f3, f4, f5⟩ := m_sets' (μ := stI (stI m2 364 (100 + 6 * n + a) (nI q)) 364 (148 + 6 * n + a) (nI v)) hp3 hn (w := 8) (W := 8) (v := nI (a + 1)) (by decide) rfl
        rw [f1, Option.bind_some]
        have f6 : m4 = stI (stI (stI m2 364 (100 + 6 * n + a) (nI q)) 364 (148 + 6 * n + a) (nI v)) 364 (4 + 12 * n + 8) (nI (a + 1)) := by
          have := m_sets (μ := stI (stI m2 364 (100 + 6 * n + a) (nI q)) 364 (148 + 6 * n + a) (nI v)) hp3 hn (w := 8) (W := 8) (v := nI (a + 1)) (by decide) rfl
          rw [f1] at this
          exact Option.some.inj this
        have f7 : ldI m4 364 = actR (ldI m 364) n a q v := by
          rw [f4, ldI_stI_self, ldI_stI_self, e364]; rfl
        refine Or.inl ⟨c3, m4, q, v, rfl, rfl, ?_, k1, by omega, q1, v1, v2, ?_, f7, (a4.fx.tr b4.fx).tr (SE.fx d2.2), ?_, ?_, ?_⟩
        · rw [f6]; exact ((b3.cs d2.2).m364.m364).m364
        · rw [f7]
          unfold actR
          rw [upd_comm (show 148 + 6 * n + a ≠ 4 + 12 * n + 8 by omega), upd_comm (show 100 + 6 * n + a ≠ 4 + 12 * n + 8 by omega)]
          exact d2.1
        · rw [f6]; exact (a5.fx.tr b5.fx).tr ((FXm.s.tr FXm.s).tr FXm.s)
        · rw [f5, ldI_stI_ne (by decide), ldI_stI_ne (by decide), b5.2.2.2 23 (by decide), a5.2.2.2 23 (by decide)]
        · rw [f6]
          show ldJ m2 369 = _
          rw [b5.2.2.1 369 (by decide), a5.2.2.1 369 (by decide)]
      · rw [b1, b2, Option.bind_some, Option.bind_some]
        dsimp only
        rw [m_bad b3.bad, Option.bind_some, if_pos rfl]
        exact Or.inr ⟨c2, m2, rfl, rfl, b3, ⟨_, _, b4.fr (by decide) (a4.fr (by decide) hF)⟩, a4.fx.tr b4.fx, a5.fx.tr b5.fx⟩
end ACT
