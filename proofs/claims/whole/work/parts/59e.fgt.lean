/-! texts: a fighter, both sides -/
theorem xbl {α β : Type} {v : α} {μ : Mem} {f : α → Mem → Option ((β ⊕ Nat) × Mem)} : xb (.inl v, μ) f = f v μ := rfl
theorem xbr {α β : Type} {k : Nat} {μ : Mem} {f : α → Mem → Option ((β ⊕ Nat) × Mem)} : xb (.inr k, μ) f = some (.inr k, μ) := rfl
def FOut (T : Nat → Nat) (L n p : Nat) (c m : Mem) (rc : Option ((Unit ⊕ Nat) × Mem)) (rm : Option Mem) : Prop :=
  (∃ c' m' p' ν', rc = some (.inl (), c') ∧ rm = some m' ∧ TR c' m' T L p' ∧ p < p' ∧ sB T L p' 59 = true ∧ okN (n + 1) (ldI m' 364) ∧ FR c' 95 (ldI m' 364) ν' ∧ NMS (n + 1) ν' (ldJ m' 369) ∧ FXc c c' ∧ FXm m m' ∧ ldI m' 362 23 = ldI m 362 23) ∨
  (∃ c' m', rc = some (.inr 0, c') ∧ rm = some m' ∧ ER c' m' ∧ FA c' 95 ∧ FXc c c' ∧ FXm m m') ∨
  (∃ c0 c' m' p', rc = some (.inr 0, c') ∧ fX9_fail 1 1 c0 = some (.inr 0, c') ∧ rm = some m' ∧ TR c0 m' T L p' ∧ sB T L p' 59 = false ∧ FA c0 95 ∧ FXc c c0 ∧ FXm m m')
section FGE
variable {T : Nat → Nat} {L n : Nat}
/-- what stands in the midst of a fighter: the row is ρ, the names are ν -/
def MID (T : Nat → Nat) (L n p : Nat) (ρ : Sg) (ν : Nat → Int64) (c0 m0 c m : Mem) : Prop := TR c m T L p ∧ FR c 95 ρ ν ∧ ldI m 364 = ρ ∧ FXc c0 c ∧ FXm m0 m ∧ ldI m 362 23 = ldI m0 362 23 ∧ NMS (n + 1) ν (ldJ m 369)
theorem MID.ky {p q : Nat} {ρ : Sg} {ν : Nat → Int64} {c0 m0 c m c' m' : Mem} (h : MID T L n p ρ ν c0 m0 c m) (hT : TR c' m' T L q) (k1 : KZ c c') (k2 : KY m m') : MID T L n q ρ ν c0 m0 c' m' := ⟨hT, k1.fr (by decide) h.2.1, by rw [k2.2.1 364 (by decide)]; exact h.2.2.1, h.2.2.2.1.tr k1.fx, h.2.2.2.2.1.tr k2.fx, by rw [k2.2.2.2 23 (by decide)]; exact h.2.2.2.2.2.1, by rw [k2.2.2.1 369 (by decide)]; exact h.2.2.2.2.2.2⟩
theorem rg95 {o : Nat} (h1 : 95 ≤ o) (h2 : o < 124) : RG 95 o := ⟨h1, h2⟩
theorem MID.set {p : Nat} {ρ : Sg} {ν : Nat → Int64} {c0 m0 c m : Mem} (h : MID T L n p ρ ν c0 m0 c m) (hn : n < 8) {w : Nat} (hw : w < 12) (v : Int32) : MID T L n p (upd ρ (4 + 12 * n + w) v) ν c0 m0 (stI c (95 + 5 + 3 * n) (fw w) v) (stI m 364 (4 + 12 * n + w) v) := by
  have hs : SE (RG 95) c (stI c (95 + 5 + 3 * n) (fw w) v) := SE.sI ⟨by omega, by omega⟩
  exact ⟨(h.1.cs hs).m364, h.2.1.set hn hw, by rw [ldI_stI_self, h.2.2.1], h.2.2.2.1.tr (SE.fx hs), h.2.2.2.2.1.tr FXm.s, by rw [ldI_stI_ne (by decide)]; exact h.2.2.2.2.2.1, h.2.2.2.2.2.2⟩
theorem MID.p {p : Nat} {ρ : Sg} {ν : Nat → Int64} {c0 m0 c m : Mem} (h : MID T L n p ρ ν c0 m0 c m) {k x : Nat} (hp : ldP m0 362 k = some x) : ldP m 362 k = some x := h.2.2.2.2.1.p hp
theorem MID.err {p : Nat} {ρ : Sg} {ν : Nat → Int64} {c0 m0 c m c' m' m2 : Mem} {q : Nat} {rc : Option ((Unit ⊕ Nat) × Mem)} {rm : Option Mem} (h : MID T L n p ρ ν c0 m0 c m) (hE : ER c' m') (k1 : KZ c c') (k2 : KY m m') (hrc : rc = some (.inr 0, c')) (hrm : rm = some m2) (hB : BM m' m2) : FOut T L n q c0 m0 rc rm := Or.inr (Or.inl ⟨c', m2, hrc, hrm, hB.er hE, ⟨_, _, k1.fr (by decide) h.2.1⟩, h.2.2.2.1.tr k1.fx, (h.2.2.2.2.1.tr k2.fx).tr hB.fx⟩)
/-- from the plan on -/
theorem fgt_103 {p p0 : Nat} {ρ σ : Sg} {ν : Nat → Int64} {c0 m0 c m : Mem} {s v l k : Nat} (h : MID T L n p ρ ν c0 m0 c m) (hpp : p0 < p) (hn : n < 8) (hp : ldP m0 362 13 = some 364) (hok : okN n σ) (hs : s ≤ 1) (hv1 : 1 ≤ v) (hv : v ≤ 99) (hl : l ≤ 999) (hk : k ≤ 9) (hρ : ρ = newR σ n s v l k) : FOut T L n p0 c0 m0 (fX8_readFighter_103 95 1 (95 + 5 + 3 * n) c) ((fX12_mustWord 362 536622 m).bind fun r_4 => (fX12_readsAct 362 (nI n) r_4).bind fun r_7 => fX12_readsFighter_167 362 (nI n) r_7) := by
  unfold fX8_readFighter_103
  have hg := tkE_le (T := T) h.1.le
  rcases h.1.word (k := 10) (w := 536622) (ls := [112, 108, 97, 110]) (by decide) (W := 536622) rfl with ⟨c1, m1, a1, a2, a3, a4, a5⟩ | ⟨c1, m1, a1, a2, a3, a4, a5⟩
  · have h1 := h.ky a3 a4 a5
    rw [a1, a2, Option.bind_some, Option.bind_some, xbl]
    have hz := hok.2.2.2.2 n (Nat.le_refl _) hn
    have e8 : ldI m1 364 (4 + 12 * n + 8) = 0 := by
      rw [h1.2.2.1, hρ]; unfold newR
      rw [upd_n (by omega), upd_n (by omega), upd_n (by omega), upd_n (by omega)]; exact hz 8 (by decide)
    have e0 : ldI m1 364 0 = nI n := by
      rw [h1.2.2.1, hρ]; unfold newR
      rw [upd_n (by omega), upd_n (by omega), upd_n (by omega), upd_n (by omega)]; exact hok.2.1
    have hF1 : FR c1 95 (ldI m1 364) ν := by rw [h1.2.2.1]; exact h1.2.1
    rcases plan_all hn h1.1 (h1.p hp) hF1 e8 e0 with ⟨c2, m2, p2, a, ρ2, b1, b2, b3, b4, b5, b6, b7, b8, b9, b10, b11, b12, b13, b14⟩ | ⟨c2, m2, b1, b2, b3, b4, b5, b6⟩ | ⟨c9, c2, m2, p2, b1, b2, b3, b4, b5, b6, b7, b8⟩
    · rw [b1, b2, Option.bind_some, xbl, nm_b]
      have ec : ldI c2 95 2 = nI n := by
        rw [b9.cnt, b8.1 0 (by omega) (by omega) (by omega), h1.2.2.1, hρ]; unfold newR
        rw [upd_n (by omega), upd_n (by omega), upd_n (by omega), upd_n (by omega)]; exact hok.2.1
      rw [ec, nI_1]
      have hs3 : SE (RG 95) c2 (stI c2 95 2 (nI (n + 1))) := SE.sI ⟨by omega, by omega⟩
      rw [h1.2.2.1, hρ] at b8
      refine Or.inl ⟨_, m2, p2, ν, rfl, rfl, b3.cs hs3, by omega, b5, ?_, ?_, ?_, (h1.2.2.2.1.tr b11).tr (SE.fx hs3), h1.2.2.2.2.1.tr b12, by rw [b13]; exact h1.2.2.2.2.2.1⟩
      · rw [b10]; exact okN_new hok hn hs hv1 hv hl hk b6 b7 b8
      · rw [b10]; exact b9.hd (j := 0) (by decide)
      · rw [b14]; exact h1.2.2.2.2.2.2
    · rw [b1, b2, Option.bind_some, xbr]
      exact Or.inr (Or.inl ⟨c2, m2, rfl, rfl, b3, b4, h1.2.2.2.1.tr b5, h1.2.2.2.2.1.tr b6⟩)
    · rw [b1, b3, Option.bind_some, xbr]
      exact Or.inr (Or.inr ⟨c9, c2, m2, p2, rfl, b2, rfl, b4, b5, b6, h1.2.2.2.1.tr b7, h1.2.2.2.2.1.tr b8⟩)
  · rw [a1, a2, Option.bind_some, Option.bind_some, xbr, b_readsAct (show ldP m1 362 13 = some 364 by rw [a5.1]; exact h.p hp) a3.bad hn, Option.bind_some]
    unfold fX12_readsFighter_167
    rw [show FU = (FU - 1) + 1 from rfl, b_167 a3.bad]
    exact h.err a3 a4 a5 rfl rfl BM.rf
/-- from the luck on -/
theorem fgt_F {p p0 : Nat} {ρ σ : Sg} {ν : Nat → Int64} {c0 m0 c m : Mem} {s v l : Nat} (h : MID T L n p ρ ν c0 m0 c m) (hpp : p0 < p) (hn : n < 8) (hp : ldP m0 362 13 = some 364) (hok : okN n σ) (hs : s ≤ 1) (hv1 : 1 ≤ v) (hv : v ≤ 99) (hl : l ≤ 999) (hρ : ρ = upd (upd (upd σ (4 + 12 * n) (nI s)) (4 + 12 * n + 1) (nI v)) (4 + 12 * n + 2) (nI l)) : FOut T L n p0 c0 m0 ((fX9_isWord 1 9 c).bind fun r_54 => if r_54 = 0 then fX8_readFighter_103 95 1 (95 + 5 + 3 * n) c else (fX9_step 1 c).bind fun r_58 => (fX9_takeNumber 1 0 9 r_58).bind fun r_61 => xb r_61 fun v_67 m_65 => nm (stI m_65 (95 + 5 + 3 * n) 8 v_67) fun m_68 => fX8_readFighter_103 95 1 (95 + 5 + 3 * n) m_68) (mF n m) := by
  unfold mF fX12_readsFighter_134
  have mL : (9, 414827, [108, 117, 99, 107]) ∈ wTab := by decide
  rw [c_isWord h.1 mL, m_isWord h.1 mL (W := 414827) rfl, Option.bind_some, Option.bind_some]
  by_cases e : wB T L p [108, 117, 99, 107] = true
  · rw [if_pos e, if_neg one0, if_neg one0]
    obtain ⟨c1, m1, a1, a2, a3, a4, a5⟩ := h.1.step
    have hg := tkE_le (T := T) h.1.le
    have h1 := h.ky a3 a4 a5
    rw [a1, a2, Option.bind_some, Option.bind_some, if_neg one0]
    rcases a3.num (lo := 0) (hi := 9) (by decide) (by decide) (A := 0) (B := 9) rfl rfl with ⟨k, c2, m2, k1, k2, b1, b2, b3, b4, b5⟩ | ⟨x, c2, m2, b1, b2, b3, b4, b5⟩
    · have hg2 := tkE_le (T := T) a3.le
      rw [b1, b2, Option.bind_some, Option.bind_some, xbl, nm_b]
      unfold fX12_readsFighter_152
      have h2 := h1.ky b3 b4 b5
      rw [show fX12_sets 362 (nI n) 3 (nI k, m2).1 (nI k, m2).2 = _ from m_sets (h2.p hp) hn (w := 3) (W := 3) (by decide) rfl, Option.bind_some]
      exact fgt_103 (h2.set hn (w := 3) (by decide) (nI k)) (by omega) hn hp hok hs hv1 hv hl k2 (by rw [hρ]; rfl)
    · rw [b1, b2, Option.bind_some, Option.bind_some, xbr]
      obtain ⟨m3, d1, d2⟩ := b_152 (m := m2) hn (by rw [b5.1]; exact h1.p hp) b3.bad x
      exact h1.err b3 b4 b5 rfl d1 d2
  · rw [if_neg e, if_pos rfl, if_pos rfl, if_pos rfl]
    unfold fX12_readsFighter_152
    rw [m_sets (h.p hp) hn (w := 3) (W := 3) (by decide) rfl, Option.bind_some]
    have hz := hok.2.2.2.2 n (Nat.le_refl _) hn
    have e3 : ρ (4 + 12 * n + 3) = 0 := by rw [hρ, upd_n (by omega), upd_n (by omega), upd_n (by omega)]; exact hz 3 (by decide)
    have e4 : upd ρ (4 + 12 * n + 3) 0 = ρ := upd_self e3.symm
    have h2 : MID T L n p (upd ρ (4 + 12 * n + 3) 0) ν c0 m0 c (stI m 364 (4 + 12 * n + 3) 0) := ⟨h.1.m364, by rw [e4]; exact h.2.1, by rw [ldI_stI_self, h.2.2.1], h.2.2.2.1, h.2.2.2.2.1.tr FXm.s, by rw [ldI_stI_ne (by decide)]; exact h.2.2.2.2.2.1, h.2.2.2.2.2.2⟩
    exact fgt_103 (k := 0) h2 hpp hn hp hok hs hv1 hv hl (Nat.zero_le _) (by rw [hρ]; rfl)
/-- from the side on -/
theorem fgt_A {p p0 : Nat} {σ : Sg} {ν : Nat → Int64} {c0 m0 c m : Mem} (h : MID T L n p σ ν c0 m0 c m) (hpp : p0 < p) (hn : n < 8) (hp : ldP m0 362 13 = some 364) (hok : okN n σ) : FOut T L n p0 c0 m0 ((fX8_readSide 1 c).bind fun r_16 => xb r_16 fun v_22 m_20 => nm (stI m_20 (95 + 5 + 3 * n) 5 v_22) fun m_23 => (fX9_takeWord 1 7 m_23).bind fun r_24 => xb r_24 fun _ m_28 => (fX9_takeNumber 1 1 99 m_28).bind fun r_31 => xb r_31 fun v_37 m_35 => nm (stI m_35 (95 + 5 + 3 * n) 6 v_37) fun m_38 => (fX9_takeWord 1 8 m_38).bind fun r_39 => xb r_39 fun _ m_43 => (fX9_takeNumber 1 1 999 m_43).bind fun r_46 => xb r_46 fun v_52 m_50 => nm (stI m_50 (95 + 5 + 3 * n) 7 v_52) fun m_53 => (fX9_isWord 1 9 m_53).bind fun r_54 => if r_54 = 0 then fX8_readFighter_103 95 1 (95 + 5 + 3 * n) m_53 else (fX9_step 1 m_53).bind fun r_58 => (fX9_takeNumber 1 0 9 r_58).bind fun r_61 => xb r_61 fun v_67 m_65 => nm (stI m_65 (95 + 5 + 3 * n) 8 v_67) fun m_68 => fX8_readFighter_103 95 1 (95 + 5 + 3 * n) m_68) ((fX12_side 362 m).bind fun r_13 => mA n r_13) := by
  rcases side_bis h.1 with ⟨s, c1, m1, s1, s2, a1, a2, a3, a4, a5⟩ | ⟨x, c1, m1, a1, a2, a3, a4, a5⟩
  · rw [a1, a2, Option.bind_some, Option.bind_some, xbl, nm_b]
    have hg := tkE_le (T := T) h.1.le
    have h1 := h.ky a3 a4 a5
    unfold mA mB
    rw [show fX12_sets 362 (nI n) 0 (nI s, m1).1 (nI s, m1).2 = _ from m_sets (h1.p hp) hn (w := 0) (W := 0) (by decide) rfl, Option.bind_some]
    have h2 := h1.set hn (w := 0) (by decide) (nI s)
    unfold fX12_after
    rcases h2.1.word (k := 7) (w := 20452516) (ls := [115, 112, 101, 101, 100]) (by decide) (W := 20452516) rfl with ⟨c3, m3, b1, b2, b3, b4, b5⟩ | ⟨c3, m3, b1, b2, b3, b4, b5⟩
    · rw [show fX9_takeWord 1 7 (stI c1 (95 + 5 + 3 * n) 5 (nI s)) = _ from b1, b2, Option.bind_some, Option.bind_some, xbl]
      have hg2 := tkE_le (T := T) h2.1.le
      have h3 := h2.ky b3 b4 b5
      rcases b3.num (lo := 1) (hi := 99) (by decide) (by decide) (A := 1) (B := 99) rfl rfl with ⟨v, c4, m4, v1, v2, d1, d2, d3, d4, d5⟩ | ⟨x, c4, m4, d1, d2, d3, d4, d5⟩
      · rw [d1, d2, Option.bind_some, Option.bind_some, Option.bind_some, xbl, nm_b]
        have hg3 := tkE_le (T := T) b3.le
        have h4 := h3.ky d3 d4 d5
        unfold mC mD
        rw [show fX12_sets 362 (nI n) 1 (nI v, m4).1 (nI v, m4).2 = _ from m_sets (h4.p hp) hn (w := 1) (W := 1) (by decide) rfl, Option.bind_some]
        have h5 := h4.set hn (w := 1) (by decide) (nI v)
        unfold fX12_after
        rcases h5.1.word (k := 8) (w := 402629) (ls := [108, 105, 102, 101]) (by decide) (W := 402629) rfl with ⟨c6, m6, f1, f2, f3, f4, f5⟩ | ⟨c6, m6, f1, f2, f3, f4, f5⟩
        · rw [show fX9_takeWord 1 8 (stI c4 (95 + 5 + 3 * n) 6 (nI v)) = _ from f1, f2, Option.bind_some, Option.bind_some, xbl]
          have hg4 := tkE_le (T := T) h5.1.le
          have h6 := h5.ky f3 f4 f5
          rcases f3.num (lo := 1) (hi := 999) (by decide) (by decide) (A := 1) (B := 999) rfl rfl with ⟨l, c7, m7, l1, l2, i1, i2, i3, i4, i5⟩ | ⟨x, c7, m7, i1, i2, i3, i4, i5⟩
          · rw [i1, i2, Option.bind_some, Option.bind_some, Option.bind_some, xbl, nm_b]
            have hg5 := tkE_le (T := T) f3.le
            have h7 := h6.ky i3 i4 i5
            unfold mE
            rw [show fX12_sets 362 (nI n) 2 (nI l, m7).1 (nI l, m7).2 = _ from m_sets (h7.p hp) hn (w := 2) (W := 2) (by decide) rfl, Option.bind_some]
            exact fgt_F (h7.set hn (w := 2) (by decide) (nI l)) (by omega) hn hp hok s2 v1 v2 l2 rfl
          · rw [i1, i2, Option.bind_some, Option.bind_some, Option.bind_some, xbr]
            obtain ⟨m8, j1, j2⟩ := b_E (m := m7) hn (by rw [i5.1]; exact h6.p hp) i3.bad x
            exact h6.err i3 i4 i5 rfl j1 j2
        · rw [show fX9_takeWord 1 8 (stI c4 (95 + 5 + 3 * n) 6 (nI v)) = _ from f1, f2, Option.bind_some, Option.bind_some, xbr, m_badNum f3.bad, Option.bind_some, Option.bind_some]
          obtain ⟨m8, j1, j2⟩ := b_E (m := m6) hn (by rw [f5.1]; exact h5.p hp) f3.bad (ldI m6 362 7)
          exact h5.err f3 f4 f5 rfl j1 j2
      · rw [d1, d2, Option.bind_some, Option.bind_some, Option.bind_some, xbr]
        obtain ⟨m8, j1, j2⟩ := b_C (m := m4) hn (by rw [d5.1]; exact h3.p hp) d3.bad x
        exact h3.err d3 d4 d5 rfl j1 j2
    · rw [show fX9_takeWord 1 7 (stI c1 (95 + 5 + 3 * n) 5 (nI s)) = _ from b1, b2, Option.bind_some, Option.bind_some, xbr, m_badNum b3.bad, Option.bind_some, Option.bind_some]
      obtain ⟨m8, j1, j2⟩ := b_C (m := m3) hn (by rw [b5.1]; exact h2.p hp) b3.bad (ldI m3 362 7)
      exact h2.err b3 b4 b5 rfl j1 j2
  · rw [a1, a2, Option.bind_some, Option.bind_some, xbr]
    obtain ⟨m8, j1, j2⟩ := b_A (m := m1) hn (by rw [a5.1]; exact h.p hp) a3.bad x
    exact h.err a3 a4 a5 rfl j1 j2
end FGE
