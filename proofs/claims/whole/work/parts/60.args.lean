/-! scripts: a command's name, number, act -/
section ARGS
variable {T : Nat → Nat} {L n N : Nat}
/-- the class changes its tokens and the command that is read -/
def GAc (N : Nat) (c c' : Mem) : Prop := ldP c' = ldP c ∧ (∀ a, a ≠ 1 → a ≠ 6 + N → ldI c' a = ldI c a) ∧ (∀ a, a ≠ 1 → ldJ c' a = ldJ c a) ∧ ldI c' 1 1 = ldI c 1 1
theorem GAc.rf {c : Mem} : GAc N c c := ⟨rfl, fun _ _ _ => rfl, fun _ _ => rfl, rfl⟩
theorem GAc.tr {a b c : Mem} (h1 : GAc N a b) (h2 : GAc N b c) : GAc N a c := ⟨h2.1.trans h1.1, fun x p q => (h2.2.1 x p q).trans (h1.2.1 x p q), fun x p => (h2.2.2.1 x p).trans (h1.2.2.1 x p), h2.2.2.2.trans h1.2.2.2⟩
theorem KZ.ga {c c' : Mem} (h : KZ c c') : GAc N c c' := ⟨h.1, fun a p _ => h.2.1 a p, h.2.2.1, h.2.2.2⟩
theorem GAc.s {c : Mem} {k : Nat} {v : Int32} : GAc N c (stI c (6 + N) k v) := ⟨rfl, fun _ _ q => ldI_stI_ne q, fun _ _ => rfl, by rw [ldI_stI_ne (by omega)]⟩
/-- the reference changes its tokens and its rows at the command's place -/
def GAm (N : Nat) (m m' : Mem) : Prop := ldP m' = ldP m ∧ (∀ a, a ≠ 362 → ldJ m' a = ldJ m a) ∧ (∀ a, a ≠ 362 → (a < 374 ∨ 377 < a) → ldI m' a = ldI m a) ∧ (∀ a i, 374 ≤ a → i ≠ N → ldI m' a i = ldI m a i) ∧ ∀ k, k < 4 ∨ 9 < k → ldI m' 362 k = ldI m 362 k
theorem GAm.rf {m : Mem} : GAm N m m := ⟨rfl, fun _ _ => rfl, fun _ _ _ => rfl, fun _ _ _ _ => rfl, fun _ _ => rfl⟩
theorem GAm.tr {a b c : Mem} (h1 : GAm N a b) (h2 : GAm N b c) : GAm N a c := ⟨h2.1.trans h1.1, fun x p => (h2.2.1 x p).trans (h1.2.1 x p), fun x p q => (h2.2.2.1 x p q).trans (h1.2.2.1 x p q), fun x i p q => (h2.2.2.2.1 x i p q).trans (h1.2.2.2.1 x i p q), fun k p => (h2.2.2.2.2 k p).trans (h1.2.2.2.2 k p)⟩
theorem KY.ga {m m' : Mem} (h : KY m m') : GAm N m m' := ⟨h.1, h.2.2.1, fun a p _ => h.2.1 a p, fun a i p _ => by rw [h.2.1 a (by omega)], h.2.2.2⟩
theorem GAm.s {m : Mem} {a : Nat} {v : Int32} (h1 : 374 ≤ a) (h2 : a ≤ 377) : GAm N m (stI m a N v) := ⟨rfl, fun _ _ => rfl, fun x _ q => ldI_stI_ne (by omega), fun x i _ q => by rw [ldI_stI, if_neg (by omega)], fun _ _ => by rw [ldI_stI_ne (by omega)]⟩
theorem GAm.p {m m' : Mem} (h : GAm N m m') {k x : Nat} (hp : ldP m 362 k = some x) : ldP m' 362 k = some x := by rw [h.1]; exact hp
theorem TR.c6 {c m : Mem} {p k : Nat} {v : Int32} (h : TR c m T L p) {o : Nat} (ho : 3 ≤ o) : TR (stI c o k v) m T L p := by
  obtain ⟨⟨a1, a2, a3, a4⟩, h2, h3, ⟨k1, k2, k3, k4, k5, k6⟩, h5, h6⟩ := h
  have g1 : ldI (stI c o k v) 1 = ldI c 1 := ldI_stI_ne (by omega)
  have g2 : ldI (stI c o k v) 2 = ldI c 2 := ldI_stI_ne (by omega)
  exact ⟨⟨a1, a2, by rw [g1]; exact a3, fun i hi => by rw [g2]; exact a4 i hi⟩, h2, h3, ⟨by rw [g1]; exact k1, by rw [g1]; exact k2, by rw [g1]; exact k3, k4, fun e => by rw [g1]; exact k5 e, fun e => by rw [g1]; exact k6 e⟩, h5, h6.1, h6.2.1, by rw [g1]; exact h6.2.2.1, by rw [g1]; exact h6.2.2.2⟩
theorem TR.m37 {c m : Mem} {p k : Nat} {v : Int32} (h : TR c m T L p) {a : Nat} (ha : 364 ≤ a) : TR c (stI m a k v) T L p := h.ms rfl (fun _ _ => by rw [ldI_stI_ne (by omega)]) (ldI_stI_ne (by omega)) rfl
theorem TR.m362 {c m : Mem} {p k : Nat} {v : Int32} (h : TR c m T L p) (hk : 10 ≤ k) : TR c (stI m 362 k v) T L p := h.ms rfl (fun j hj => by rw [ldI_stI, if_neg (by omega)]) (ldI_stI_ne (by decide)) rfl
/-- a number, in both -/
theorem any_bis {c m : Mem} {p : Nat} (h : TR c m T L p) : ON c m T L (tkE T L p) 0 999 (fX9_takeNumber 1 0 999 c) (fX12_any 362 m) := by
  unfold fX12_any
  rcases h.num (lo := 0) (hi := 999) (by decide) (by decide) (A := 0) (B := 999) rfl rfl with ⟨a, c', m', h1, h2, h3, h4, h5⟩ | ⟨x, c', m', h3, h4, h5⟩
  · rw [h3, h4, Option.bind_some]; exact Or.inl ⟨a, c', m', h1, h2, rfl, rfl, h5⟩
  · rw [h3, h4, Option.bind_some]; exact Or.inr ⟨x, c', m', rfl, rfl, h5⟩
/-- a fighter's name -/
theorem told_bis {c m : Mem} {p : Nat} {σ : Sg} {ν : Nat → Int64} (h : TR c m T L p) (hF : FR c 66 σ ν) (h0 : σ 0 = nI n) (h0m : ldI m 364 0 = nI n) (hn : n ≤ 8) (hp : ldP m 362 13 = some 364) (hq : ldP m 362 18 = some 369) (hN : NMS n ν (ldJ m 369)) :
    (∃ f c' m', f < n ∧ fX6_readName 1 66 c = some (.inl (nI f), c') ∧ fX12_told 362 m = some (nI f, m') ∧ TR c' m' T L (tkE T L p) ∧ KZ c c' ∧ KY m m') ∨ (∃ x c' m', fX6_readName 1 66 c = some (.inr 0, c') ∧ fX12_told 362 m = some (x, m') ∧ ER c' m' ∧ KZ c c' ∧ KY m m') := by
  unfold fX6_readName fX12_told fX12_mustBeWord
  rw [h.kc.2.2.1, m_good h.gd, Option.bind_some, if_neg one0, h.km.2.2.1]
  by_cases e1 : tkK T L p = 1
  · rw [if_pos (show nI (tkK T L p) = 1 by rw [e1]; rfl), if_pos (show nI (tkK T L p) = 1 by rw [e1]; rfl), Option.bind_some, m_good h.gd, Option.bind_some, if_neg one0]
    unfold fX6_readName_13
    have hw := tk_vw h.le e1
    rw [c_numberOf hF, h.kc.2.2.2.1 e1, m_named (σ := σ) (ν := ν) hp hq h0m hn hN hw (h.km.2.2.2.1 e1) h0, Option.bind_some, Option.bind_some]
    unfold fX12_told_19
    rw [m_good h.gd, Option.bind_some, if_neg one0]
    cases hno : sp_no σ ν (lN (p8 (wf T (tkQ T L p) (tkE T L p)) 8)) with
    | some f =>
      have hf := no_lt h0 hn hno
      have e2 : ¬ noI (some f) = -1 := nI_m1 (by omega)
      obtain ⟨c1, m1, a1, a2, a3, a4, a5⟩ := h.step
      rw [if_neg e2, if_neg e2, a1, Option.bind_some, Option.bind_some, if_neg one0, a2]
      exact Or.inl ⟨f, c1, m1, hf.1, rfl, rfl, a3, a4, a5⟩
    | none =>
      obtain ⟨c2, m2, b1, b2, b3, b4, b5⟩ := h.fail (k := 4) (Or.inr ⟨by omega, by decide, by decide⟩) (K := 4) rfl
      rw [if_pos (show noI none = -1 from rfl), if_pos (show noI none = -1 from rfl), b1, Option.bind_some, xbr, b2, Option.bind_some, m_bad b3.bad, Option.bind_some, if_pos rfl]
      exact Or.inr ⟨_, c2, m2, rfl, rfl, b3, b4, b5⟩
  · obtain ⟨c2, m2, b1, b2, b3, b4, b5⟩ := h.fail (k := 1) (Or.inl rfl) (K := 1) rfl
    have e2 := kkn (K := 1) (k := 1) rfl (by decide) e1
    unfold fX12_told_19
    rw [if_neg e2, if_neg e2, b1, Option.bind_some, xbr, b2, Option.bind_some, Option.bind_some, m_bad b3.bad, Option.bind_some, if_pos rfl, Option.bind_some, if_pos rfl, Option.bind_some, if_pos rfl]
    exact Or.inr ⟨_, c2, m2, rfl, rfl, b3, b4, b5⟩
theorem b_told {m : Mem} (h : ¬ ldI m 362 8 = 0) : fX12_told 362 m = some (-1, m) := by
  unfold fX12_told fX12_mustBeWord fX12_told_19
  rw [m_bad h, Option.bind_some, if_pos rfl, Option.bind_some, m_bad h, Option.bind_some, if_pos rfl, Option.bind_some, if_pos rfl, Option.bind_some, if_pos rfl]
theorem b_any {m : Mem} (h : ¬ ldI m 362 8 = 0) : fX12_any 362 m = some (ldI m 362 7, m) := by
  unfold fX12_any
  rw [m_badNum h, Option.bind_some]
theorem b_kindTold {m : Mem} (h : ¬ ldI m 362 8 = 0) : fX12_kindTold 362 m = some (-1, m) := by
  unfold fX12_kindTold
  rw [b_kindHere h, Option.bind_some, m_bad h, Option.bind_some, if_pos rfl, Option.bind_some, if_pos rfl]
/-- behind an error: only the rows change, at the command's place -/
def GB (N : Nat) (m m' : Mem) : Prop := GAm N m m' ∧ ldI m' 362 = ldI m 362
theorem GB.rf {m : Mem} : GB N m m := ⟨GAm.rf, rfl⟩
theorem GB.tr {a b c : Mem} (h1 : GB N a b) (h2 : GB N b c) : GB N a c := ⟨h1.1.tr h2.1, h2.2.trans h1.2⟩
theorem GB.s {m : Mem} {a : Nat} {v : Int32} (h1 : 374 ≤ a) (h2 : a ≤ 377) : GB N m (stI m a N v) := ⟨GAm.s h1 h2, ldI_stI_ne (by omega)⟩
theorem GB.bad {m m' : Mem} (h : GB N m m') (e : ¬ ldI m 362 8 = 0) : ¬ ldI m' 362 8 = 0 := by rw [h.2]; exact e
theorem GB.er {c m m' : Mem} (h : GB N m m') (e : ER c m) : ER c m' := by
  obtain ⟨k, q, h1, h2, h3, h4, h5, h6⟩ := e
  exact ⟨k, q, h1, h2, h3, h4, by rw [h.2]; exact h5, by rw [h.2]; exact h6⟩
/-- the rows' pointers -/
def PRw (m : Mem) : Prop := ldP m 362 29 = some 373 ∧ ldP m 362 30 = some 374 ∧ ldP m 362 31 = some 375 ∧ ldP m 362 32 = some 376 ∧ ldP m 362 33 = some 377
theorem PRw.of {m m' : Mem} (h : PRw m) (e : ldP m' = ldP m) : PRw m' := by unfold PRw; rw [e]; exact h
theorem ln37 : Ln 373 = 60 ∧ Ln 374 = 60 ∧ Ln 375 = 60 ∧ Ln 376 = 60 ∧ Ln 377 = 60 := by decide
theorem b_r129 {m : Mem} (hR : PRw m) (hN : N < 60) (h : ¬ ldI m 362 8 = 0) (w : Int32) : ∃ m', fX12_readsNumbers_129 362 (nI N) w m = some m' ∧ GB N m m' := by
  unfold fX12_readsNumbers_129
  by_cases e : w = 8
  · have g : GB N m (stI m 374 N (ldI m 362 7)) := GB.s (by decide) (by decide)
    rw [if_pos e, hR.2.1, Option.bind_some, m_badNum h, Option.bind_some, ln37.2.1, gd_t (inB_nI hN (by decide)), nI_clamp (by omega), nm_b, if_pos e, b_mustSign (g.bad h), Option.bind_some]
    exact ⟨_, rfl, g⟩
  · rw [if_neg e, if_neg e]; exact ⟨m, rfl, GB.rf⟩
theorem b_r113 {m : Mem} (hR : PRw m) (hN : N < 60) (h : ¬ ldI m 362 8 = 0) (w : Int32) : ∃ m', fX12_readsNumbers_113 362 (nI N) w m = some m' ∧ GB N m m' := by
  unfold fX12_readsNumbers_113
  by_cases e : w = 7
  · have g : GB N m (stI m 377 N (ldI m 362 7)) := GB.s (by decide) (by decide)
    obtain ⟨m1, a, b⟩ := b_r129 (m := stI m 377 N (ldI m 362 7)) hR hN (g.bad h) w
    rw [if_pos e, hR.2.2.2.2, Option.bind_some, b_any h, Option.bind_some, ln37.2.2.2.2, gd_t (inB_nI hN (by decide)), nI_clamp (by omega), nm_b]
    exact ⟨m1, a, g.tr b⟩
  · rw [if_neg e]; exact b_r129 hR hN h w
theorem b_r97 {m : Mem} (hR : PRw m) (hN : N < 60) (h : ¬ ldI m 362 8 = 0) (w : Int32) : ∃ m', fX12_readsNumbers_97 362 (nI N) w m = some m' ∧ GB N m m' := by
  unfold fX12_readsNumbers_97
  by_cases e : w = 7
  · have g : GB N m (stI m 376 N (-1)) := GB.s (by decide) (by decide)
    obtain ⟨m1, a, b⟩ := b_r113 (m := stI m 376 N (-1)) hR hN (g.bad h) w
    rw [if_pos e, hR.2.2.2.1, Option.bind_some, b_kindTold h, Option.bind_some, ln37.2.2.2.1, gd_t (inB_nI hN (by decide)), nI_clamp (by omega), nm_b]
    exact ⟨m1, a, g.tr b⟩
  · rw [if_neg e]; exact b_r113 hR hN h w
theorem b_r87 {m : Mem} (hR : PRw m) (hN : N < 60) (h : ¬ ldI m 362 8 = 0) (w : Int32) : ∃ m', fX12_readsNumbers_87 362 (nI N) w m = some m' ∧ GB N m m' := by
  unfold fX12_readsNumbers_87
  have g : GB N m (stI m 375 N (ldI m 362 7)) := GB.s (by decide) (by decide)
  obtain ⟨m1, a, b⟩ := b_r97 (m := stI m 375 N (ldI m 362 7)) hR hN (g.bad h) w
  rw [hR.2.2.1, Option.bind_some, b_any h, Option.bind_some, ln37.2.2.1, gd_t (inB_nI hN (by decide)), nI_clamp (by omega), nm_b]
  exact ⟨m1, a, g.tr b⟩
theorem b_r61 {m : Mem} (hR : PRw m) (hN : N < 60) (h : ¬ ldI m 362 8 = 0) (w : Int32) : ∃ m', fX12_readsNumbers_61 362 (nI N) w m = some m' ∧ GB N m m' := by
  have h1 := b_r87 hR hN h w
  have h2 := b_r97 hR hN h w
  unfold fX12_readsNumbers_61
  split
  · exact h1
  · split
    · exact h1
    · split
      · exact h1
      · split
        · exact h1
        · split
          · exact h1
          · exact h2
/-- the end of a command's arguments: an act, of the command "act" -/
theorem args_45 {c m : Mem} {p w : Nat} (h : TR c m T L p) (hR : PRw m) (hN : N < 60) (hw : w < 8) (hu : ldI c (6 + N) 0 = nI w) :
    (∃ c' m' p', fX6_readArguments_45 (6 + N) 1 c = some (.inl (), c') ∧ fX12_readsNumbers_97 362 (nI N) (nI w) m = some m' ∧ TR c' m' T L p' ∧ p ≤ p' ∧ (w = 7 → ∃ q x : Nat, q < 7 ∧ x ≤ 999 ∧ ldI c' (6 + N) 3 = nI q ∧ ldI m' 376 N = nI q ∧ ldI c' (6 + N) 4 = nI x ∧ ldI m' 377 N = nI x) ∧ (∀ j, j < 3 → ldI c' (6 + N) j = ldI c (6 + N) j) ∧ ldI m' 374 = ldI m 374 ∧ ldI m' 375 = ldI m 375 ∧ GAc N c c' ∧ GAm N m m') ∨
    (∃ c' m', fX6_readArguments_45 (6 + N) 1 c = some (.inr 0, c') ∧ fX12_readsNumbers_97 362 (nI N) (nI w) m = some m' ∧ ER c' m' ∧ GAc N c c' ∧ GAm N m m') := by
  unfold fX6_readArguments_45 fX12_readsNumbers_97
  rw [hu]
  by_cases e7 : w = 7
  · subst e7
    rw [if_pos (show nI 7 = 7 from rfl), if_pos (show nI 7 = 7 from rfl), hR.2.2.2.1, Option.bind_some]
    unfold fX12_kindTold
    rw [c_kindHere h, m_kindHere h, Option.bind_some, Option.bind_some, nm_b, m_good h.gd, Option.bind_some, if_neg one0, ldI_stI_s]
    have hT1 : ∀ v : Int32, TR (stI c (6 + N) 3 v) m T L p := fun v => h.c6 (by omega)
    cases hk : sp_first (fun q => wB T L p (kl q)) 7 with
    | none =>
      obtain ⟨c2, m2, b1, b2, b3, b4, b5⟩ := (hT1 (noI none)).fail (k := 1) (Or.inl rfl) (K := 1) rfl
      rw [if_pos (show noI none = -1 from rfl), if_pos (show noI none = -1 from rfl), b1, b2, Option.bind_some, Option.bind_some, xbr, m_bad b3.bad, Option.bind_some, if_pos rfl, Option.bind_some, ln37.2.2.2.1, gd_t (inB_nI hN (by decide)), nI_clamp (by omega), nm_b]
      have g : GB N m2 (stI m2 376 N (noI none)) := GB.s (by decide) (by decide)
      obtain ⟨m3, d1, d2⟩ := b_r113 (m := stI m2 376 N (noI none)) ((hR.of b5.1).of rfl) hN (g.bad b3.bad) (nI 7)
      exact Or.inr ⟨c2, m3, rfl, d1, (g.tr d2).er b3, GAc.s.tr b4.ga, b5.ga.tr (g.tr d2).1⟩
    | some q =>
      obtain ⟨q1, q2⟩ := first_lt hk
      have e2 : ¬ noI (some q) = -1 := nI_m1 (by omega)
      obtain ⟨c1, m1, a1, a2, a3, a4, a5⟩ := (hT1 (noI (some q))).step
      rw [if_neg e2, if_neg e2, a1, Option.bind_some, Option.bind_some, if_neg one0, a2, Option.bind_some, Option.bind_some, ln37.2.2.2.1, gd_t (inB_nI hN (by decide)), nI_clamp (by omega), nm_b]
      unfold fX12_readsNumbers_113
      have hT2 : TR c1 (stI m1 376 N (noI (some q))) T L (tkE T L p) := a3.m37 (by decide)
      rw [if_pos (show nI 7 = 7 from rfl), show ldP (stI m1 376 N (noI (some q))) 362 33 = some 377 from (hR.of a5.1).2.2.2.2, Option.bind_some]
      have hg1 := tkE_le (T := T) h.le
      have hg2 := tkE_le (T := T) a3.le
      rcases any_bis hT2 with ⟨x, c3, m3, x1, x2, d1, d2, d3, d4, d5⟩ | ⟨x, c3, m3, d1, d2, d3, d4, d5⟩
      · rw [d1, d2, Option.bind_some, Option.bind_some, xbl, nm_b, ln37.2.2.2.2, gd_t (inB_nI hN (by decide)), nI_clamp (by omega), nm_b]
        unfold fX12_readsNumbers_129
        rw [if_neg (show ¬ nI 7 = 8 by decide), if_neg (show ¬ nI 7 = 8 by decide)]
        refine Or.inl ⟨_, _, _, rfl, rfl, (d3.c6 (by omega)).m37 (by decide), by omega, fun _ => ⟨q, x, q1, x2, ?_, ?_, ldI_stI_s, ldI_stI_s⟩, fun j hj => ?_, ?_, ?_, ((GAc.s.tr a4.ga).tr d4.ga).tr GAc.s, ((a5.ga.tr (GAm.s (by decide) (by decide))).tr d5.ga).tr (GAm.s (by decide) (by decide))⟩
        · rw [ldI_stI, if_neg (by omega), d4.2.1 _ (by omega), a4.2.1 _ (by omega), ldI_stI_s]; rfl
        · rw [ldI_stI_ne (by decide), d5.2.1 376 (by decide), ldI_stI_s]; rfl
        · rw [ldI_stI, if_neg (by omega), d4.2.1 _ (by omega), a4.2.1 _ (by omega), ldI_stI, if_neg (by omega)]
        · rw [ldI_stI_ne (by decide), d5.2.1 374 (by decide), ldI_stI_ne (by decide), a5.2.1 374 (by decide)]
        · rw [ldI_stI_ne (by decide), d5.2.1 375 (by decide), ldI_stI_ne (by decide), a5.2.1 375 (by decide)]
      · rw [d1, d2, Option.bind_some, Option.bind_some, xbr, ln37.2.2.2.2, gd_t (inB_nI hN (by decide)), nI_clamp (by omega), nm_b]
        have g : GB N m3 (stI m3 377 N x) := GB.s (by decide) (by decide)
        obtain ⟨m4, f1, f2⟩ := b_r129 (m := stI m3 377 N x) ((hR.of (d5.1.trans (show ldP (stI m1 376 N (noI (some q))) = ldP m from a5.1))).of rfl) hN (g.bad d3.bad) (nI 7)
        exact Or.inr ⟨c3, m4, rfl, f1, (g.tr f2).er d3, (GAc.s.tr a4.ga).tr d4.ga, ((a5.ga.tr (GAm.s (by decide) (by decide))).tr d5.ga).tr (g.tr f2).1⟩
  · have n7 : ¬ nI w = 7 := fun e => e7 ((nI_eq (b := 7) (by omega) (by decide)).mp e)
    have n8 : ¬ nI w = 8 := fun e => by have := (nI_eq (a := w) (b := 8) (by omega) (by decide)).mp e; omega
    unfold fX12_readsNumbers_113 fX12_readsNumbers_129
    rw [if_neg n7, if_neg n7, if_neg n7, if_neg n8, if_neg n8]
    exact Or.inl ⟨c, m, p, rfl, rfl, h, Nat.le_refl _, fun e => absurd e e7, fun _ _ => rfl, rfl, rfl, GAc.rf, GAm.rf⟩
end ARGS
