/-! texts: a plan -/
def PLR (n : Nat) (ρ0 ρ : Sg) (a : Nat) : Prop := (∀ i, i ≠ 4 + 12 * n + 8 → (i < 100 + 6 * n ∨ 106 + 6 * n ≤ i) → (i < 148 + 6 * n ∨ 154 + 6 * n ≤ i) → ρ i = ρ0 i) ∧ ρ (4 + 12 * n + 8) = nI a ∧ ∀ k, k < a → ∃ q v : Nat, q < 7 ∧ 1 ≤ v ∧ v ≤ mo q ∧ ρ (100 + 6 * n + k) = nI q ∧ ρ (148 + 6 * n + k) = nI v
theorem PLR.add {n a q v : Nat} {ρ0 ρ : Sg} (h : PLR n ρ0 ρ a) (hn : n < 8) (ha : a < 6) (hq : q < 7) (h1 : 1 ≤ v) (h2 : v ≤ mo q) : PLR n ρ0 (actR ρ n a q v) (a + 1) := by
  obtain ⟨g1, g2, g3⟩ := h
  unfold actR
  refine ⟨fun i i1 i2 i3 => ?_, upd_s, fun k hk => ?_⟩
  · rw [upd_n i1, upd_n (by omega), upd_n (by omega)]; exact g1 i i1 i2 i3
  · by_cases e : k = a
    · subst e
      exact ⟨q, v, hq, h1, h2, by rw [upd_n (by omega), upd_n (by omega), upd_s], by rw [upd_n (by omega), upd_s]⟩
    · obtain ⟨q', v', r1, r2, r3, r4, r5⟩ := g3 k (by omega)
      exact ⟨q', v', r1, r2, r3, by rw [upd_n (by omega), upd_n (by omega), upd_n (by omega)]; exact r4, by rw [upd_n (by omega), upd_n (by omega), upd_n (by omega)]; exact r5⟩
/-- what comes of a plan -/
def PO (T : Nat → Nat) (L n p : Nat) (ρ0 : Sg) (ν : Nat → Int64) (c m : Mem) (rc : Option ((Unit ⊕ Nat) × Mem)) (rm : Option Mem) : Prop :=
  (∃ c' m' p' a ρ, rc = some (.inl (), c') ∧ rm = some m' ∧ TR c' m' T L p' ∧ p ≤ p' ∧ sB T L p' 59 = true ∧ 1 ≤ a ∧ a ≤ 6 ∧ PLR n ρ0 ρ a ∧ FR c' 95 ρ ν ∧ ldI m' 364 = upd ρ 0 (nI (n + 1)) ∧ FXc c c' ∧ FXm m m' ∧ ldI m' 362 23 = ldI m 362 23 ∧ ldJ m' 369 = ldJ m 369) ∨
  (∃ c' m', rc = some (.inr 0, c') ∧ rm = some m' ∧ ER c' m' ∧ FA c' 95 ∧ FXc c c' ∧ FXm m m') ∨
  (∃ c0 c' m' p', rc = some (.inr 0, c') ∧ fX9_fail 1 1 c0 = some (.inr 0, c') ∧ rm = some m' ∧ TR c0 m' T L p' ∧ sB T L p' 59 = false ∧ FA c0 95 ∧ FXc c c0 ∧ FXm m m')
theorem PO.pre {T : Nat → Nat} {L n p q : Nat} {ρ0 : Sg} {ν : Nat → Int64} {c m c1 m1 : Mem} {rc : Option ((Unit ⊕ Nat) × Mem)} {rm : Option Mem} (h : PO T L n q ρ0 ν c1 m1 rc rm) (hpq : p ≤ q) (hc : FXc c c1) (hm : FXm m m1) (h23 : ldI m1 362 23 = ldI m 362 23) (hJ : ldJ m1 369 = ldJ m 369) : PO T L n p ρ0 ν c m rc rm := by
  rcases h with ⟨c', m', p', a, ρ, h1, h2, h3, h3b, h4, h5, h6, h7, h8, h9, h10, h11, h12, h13⟩ | ⟨c', m', h1, h2, h3, h4, h5, h6⟩ | ⟨c0, c', m', p', h1, h2, h3, h4, h5, h6, h7, h8⟩
  · exact Or.inl ⟨c', m', p', a, ρ, h1, h2, h3, Nat.le_trans hpq h3b, h4, h5, h6, h7, h8, h9, hc.tr h10, hm.tr h11, h12.trans h23, h13.trans hJ⟩
  · exact Or.inr (Or.inl ⟨c', m', h1, h2, h3, h4, hc.tr h5, hm.tr h6⟩)
  · exact Or.inr (Or.inr ⟨c0, c', m', p', h1, h2, h3, h4, h5, h6, hc.tr h7, hm.tr h8⟩)
section PLAN
variable {T : Nat → Nat} {L n : Nat} {ρ0 : Sg} {ν : Nat → Int64}
theorem m_190 {m : Mem} (h : ldI m 362 8 = 0) (hp : ldP m 362 13 = some 364) (h0 : ldI m 364 0 = nI n) : fX12_readsFighter_190 362 m = some (stI m 364 0 (nI (n + 1))) := by
  unfold fX12_readsFighter_190
  rw [m_good h, Option.bind_some, if_neg one0, hp, Option.bind_some, ln364, gd_t ib0, gd_t ib0, z0, nm_b, h0, nI_1]
theorem sB_k {T : Nat → Nat} {L p x : Nat} (h : sB T L p x = true) : ¬ tkK T L p = 1 := by rw [sB_3 h]; decide
theorem plan_bis (hn : n < 8) : ∀ (d a : Nat) (c m : Mem) (p k1 k2 : Nat), 7 - a = d → 1 ≤ a → a ≤ 6 → TR c m T L p → ldP m 362 13 = some 364 → FR c 95 (ldI m 364) ν → PLR n ρ0 (ldI m 364) a → ldI m 364 0 = nI n → 7 - a < k1 → 7 - a < k2 → PO T L n p ρ0 ν c m (zl2 (gX8_readPlan_2 (95 + 5 + 3 * n) 1) k1 (nI a) c) (zl1 (gX12_readsFighter_167 362 (nI n)) k2 m) := by
  intro d
  induction d with
  | zero => intro a c m p k1 k2 h1 h2 h3; omega
  | succ d ih =>
    intro a c m p k1 k2 hd ha1 ha6 hT hp hF hL h0 hk1 hk2
    obtain ⟨k1, rfl⟩ : ∃ k, k1 = k + 1 := ⟨k1 - 1, by omega⟩
    obtain ⟨k2, rfl⟩ : ∃ k, k2 = k + 2 := ⟨k2 - 2, by omega⟩
    rw [zl2_s, show k2 + 2 = (k2 + 1) + 1 from rfl, zl1_s]
    generalize hG : zl2 (gX8_readPlan_2 (95 + 5 + 3 * n) 1) k1 = G
    generalize hH : zl1 (gX12_readsFighter_167 362 (nI n)) (k2 + 1) = H
    unfold gX8_readPlan_2 gX12_readsFighter_167
    rw [if_neg (show ¬ (6 : Int32) < nI a from nI_nlt (a := 6) (by omega) (by decide)), if_neg (show ¬ nI a = 0 from nI_ne0 (by omega) (by omega)), show fX9_isSign 1 59 c = _ from c_isSign hT (x := 59) (by decide), Option.bind_some, m_good hT.gd, Option.bind_some, if_neg one0, hT.km.2.2.1]
    by_cases e : sB T L p 59 = true
    · rw [if_pos e, if_neg one0, if_neg (kkn (K := 1) (k := 1) rfl (by decide) (sB_k e)), m_190 hT.gd hp h0]
      exact Or.inl ⟨c, _, p, a, ldI m 364, rfl, rfl, hT.m364, Nat.le_refl _, e, ha1, ha6, hL, hF, ldI_stI_self, FXc.rf, FXm.s, by rw [ldI_stI_ne (by decide)], rfl⟩
    · rw [if_neg e, if_pos rfl]
      by_cases e1 : tkK T L p = 1
      · rw [if_pos (show nI (tkK T L p) = 1 by rw [e1]; rfl)]
        rcases act_bis G hT hp hn ha6 hF hL.2.1 with ⟨c', m', q, v, b1, b2, b3, b4, b5, b6, b7, b8, b9, b10, b11, b12, b13, b14⟩ | ⟨c', m', b1, b2, b3, b4, b5, b6⟩
        · rw [b1, b2, Option.bind_some]
          have hL' : PLR n ρ0 (ldI m' 364) (a + 1) := by rw [b10]; exact hL.add hn b5 b6 b7 b8
          have h0' : ldI m' 364 0 = nI n := by rw [b10]; unfold actR; rw [upd_n (by omega), upd_n (by omega), upd_n (by omega)]; exact h0
          rw [← hG, ← hH]
          exact (ih (a + 1) c' m' _ k1 (k2 + 1) (by omega) (by omega) (by omega) b3 (b12.p hp) b9 hL' h0' (by omega) (by omega)).pre (Nat.le_trans (tkE_le (T := T) hT.le).1 (tkE_le (T := T) (tkE_le (T := T) hT.le).2).1) b11 b12 b13 b14
        · rw [b1, b2, Option.bind_some, show H m' = some m' by rw [← hH]; exact b_167 b3.bad]
          exact Or.inr (Or.inl ⟨c', m', rfl, rfl, b3, b4, b5, b6⟩)
      · rw [if_neg (kkn (K := 1) (k := 1) rfl (by decide) e1), m_190 hT.gd hp h0]
        unfold fX8_readPlan_21
        have hno : sp_first (fun q => wB T L p (kl q)) 7 = none := first_no (fun i _ => by
          cases hb : wB T L p (kl i) with
          | false => rfl
          | true => exact absurd (wB_1 hb) e1)
        rw [c_kindHere hT, Option.bind_some, hno, if_pos (show noI none = -1 from rfl)]
        obtain ⟨c1, m1, f1, f2, f3, f4, f5⟩ := hT.fail (k := 1) (Or.inl rfl) (K := 1) rfl
        rw [f1, Option.bind_some]
        exact Or.inr (Or.inr ⟨c, c1, _, p, rfl, f1, rfl, hT.m364, bf e, ⟨_, _, hF⟩, FXc.rf, FXm.s⟩)
/-- the whole plan: at least one act -/
theorem plan_all (hn : n < 8) {c m : Mem} {p : Nat} (hT : TR c m T L p) (hp : ldP m 362 13 = some 364) (hF : FR c 95 (ldI m 364) ν) (h8 : ldI m 364 (4 + 12 * n + 8) = 0) (h0 : ldI m 364 0 = nI n) : PO T L n p (ldI m 364) ν c m (fX8_readPlan (95 + 5 + 3 * n) 1 c) ((fX12_readsAct 362 (nI n) m).bind fun r => fX12_readsFighter_167 362 (nI n) r) := by
  unfold fX8_readPlan fX8_readPlan_2 fX12_readsFighter_167
  rw [show FU = (FU - 1) + 1 from rfl, zl2_s, show FU - 1 + 1 = FU from rfl]
  generalize hG : zl2 (gX8_readPlan_2 (95 + 5 + 3 * n) 1) (FU - 1) = G
  unfold gX8_readPlan_2
  rw [if_neg (show ¬ (6 : Int32) < 0 by decide), if_pos rfl]
  rcases act_bis G hT hp hn (a := 0) (by decide) hF h8 with ⟨c', m', q, v, b1, b2, b3, b4, b5, b6, b7, b8, b9, b10, b11, b12, b13, b14⟩ | ⟨c', m', b1, b2, b3, b4, b5, b6⟩
  · rw [show fX8_readPlan_21 G (95 + 5 + 3 * n) 1 0 c = _ from b1, b2, Option.bind_some, ← hG]
    have hL' : PLR n (ldI m 364) (ldI m' 364) 1 := by
      rw [b10]
      exact PLR.add (a := 0) ⟨fun _ _ _ _ => rfl, h8, fun k hk => absurd hk (Nat.not_lt_zero _)⟩ hn (by decide) b6 b7 b8
    have h0' : ldI m' 364 0 = nI n := by rw [b10]; unfold actR; rw [upd_n (by omega), upd_n (by omega), upd_n (by omega)]; exact h0
    exact (plan_bis hn 6 1 c' m' _ (FU - 1) FU rfl (by decide) (by decide) b3 (b12.p hp) b9 hL' h0' (by decide) (by decide)).pre (Nat.le_trans (tkE_le (T := T) hT.le).1 (tkE_le (T := T) (tkE_le (T := T) hT.le).2).1) b11 b12 b13 b14
  · rw [show fX8_readPlan_21 G (95 + 5 + 3 * n) 1 0 c = _ from b1, b2, Option.bind_some, show FU = (FU - 1) + 1 from rfl, b_167 b3.bad]
    exact Or.inr (Or.inl ⟨c', m', rfl, rfl, b3, b4, b5, b6⟩)
end PLAN
