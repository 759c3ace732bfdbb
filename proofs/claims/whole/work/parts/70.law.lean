/-! the law: after each call both agree again -/
section LAWG
variable {kb : Int32 → Mem → Option (Int32 × Mem)} {v4 : Int32} {μ : Mem}
theorem ln381 : inB 0 (Ln 381) = true := by decide
theorem gdT {α : Type} {x : Option α} : gd true x = x := rfl
/-- what follows on a call that may throw -/
def lwT (B : Mem → Option (Int32 × Mem)) (T : Int32 × Mem → Option (Int32 × Mem)) (kb : Int32 → Mem → Option (Int32 × Mem)) (v4 : Int32) (r : Int32 × Mem) : Option (Int32 × Mem) := (B r.2).bind fun r6 => (fX12_thrown 362 r6.2).bind fun r9 => if r9 = r.1 then if r.1 = 0 then T r6 else kb (v4 + 6) r6.2 else some (0, r6.2)
theorem law_gen {e : Nat → Int32 → Prop} {A : Mem → Option ((Int32 ⊕ Nat) × Mem)} {B : Mem → Option (Int32 × Mem)} {h : Nat → Mem → Option (Int32 × Mem)} {put : Int32 → Mem → Option (Int32 × Mem)} {S : Int32 → Int64} {T : Int32 × Mem → Option (Int32 × Mem)} {fv : Option (Int32 × Mem)} (op : OP e A B) (hF : fv = (A μ).bind fun r => xc r h put) (hput : ∀ v m, put v m = some (0, stJ m 381 0 (S v))) (hT : ∀ v m, ldJ m 381 0 = S v → T (v, m) = kb (v4 + 6) m) (hh : ∀ k y m, e k y → h k m = some (y, m) ∧ ¬ y = 0) (hI : INV μ μ) : ∃ μ', INV μ' μ' ∧ fv.bind (lwT B T kb v4) = kb (v4 + 6) μ' := by
  obtain ⟨r, c', v0, m0, a1, a2, a3, a4, a5, a6⟩ := op μ μ hI
  have a4' : SE (fun a => a < 362 ∨ 381 ≤ a) μ c' := a4.mono (fun a ha => Or.inl ha)
  have hfr : ∀ c1, SE (fun a => a < 362 ∨ 381 ≤ a) μ c1 → SE (fun a => ¬ a < 362) c' c1 → ∃ v m2, B c1 = some (v, m2) ∧ INV m2 m2 ∧ ldJ m2 381 = ldJ c1 381 ∧ ((r = .inl v ∧ ldI m2 362 0 = 0) ∨ ∃ k, r = .inr k ∧ e k (ldI m2 362 0)) := by
    intro c1 s1 s2
    obtain ⟨r2, c2, v, m2, b1, b2, b3, b4, b5, b6⟩ := op μ c1 (hI.cg SE.rf s1)
    have hr := Option.some.inj (b1.symm.trans a1)
    obtain ⟨hr1, hr2⟩ := Prod.mk.inj hr
    subst hr1 hr2
    exact ⟨v, m2, b2, b3.cg (SE.tr s2 (b5.mono (fun a ha => by omega))) SE.rf, (b5 381 (by decide)).2.1, b6⟩
  cases r with
  | inl v =>
    have hF' : fv = some (0, stJ c' 381 0 (S v)) := by rw [hF, a1, Option.bind_some]; exact hput v c'
    obtain ⟨w, m2, d1, d2, d3, d4⟩ := hfr (stJ c' 381 0 (S v)) (SE.tr a4' (SE.sJ (Or.inr (by decide)))) (SE.sJ (by decide))
    rcases d4 with ⟨e1, e2⟩ | ⟨k, e1, -⟩
    · have hv := Sum.inl.inj e1
      subst hv
      refine ⟨m2, d2, ?_⟩
      rw [hF', Option.bind_some]
      unfold lwT
      dsimp only
      rw [d1, Option.bind_some]
      unfold fX12_thrown
      rw [Option.bind_some, if_pos e2, if_pos rfl]
      exact hT _ _ (by rw [d3, ldJ_stJ]; exact if_pos (And.intro rfl rfl))
    · cases e1
  | inr k =>
    rcases a6 with ⟨e1, -⟩ | ⟨k', e1, e2⟩
    · cases e1
    · have hk := Sum.inr.inj e1
      subst hk
      obtain ⟨t1, t2⟩ := hh k _ c' e2
      have hF' : fv = some (ldI m0 362 0, c') := by rw [hF, a1, Option.bind_some]; exact t1
      obtain ⟨w, m2, d1, d2, d3, d4⟩ := hfr c' a4' SE.rf
      rcases d4 with ⟨e3, -⟩ | ⟨k', e3, e4⟩
      · cases e3
      · have hk := Sum.inr.inj e3
        subst hk
        obtain ⟨t3, t4⟩ := hh k _ c' e4
        have hy : ldI m0 362 0 = ldI m2 362 0 := congrArg Prod.fst (Option.some.inj (t1.symm.trans t3))
        refine ⟨m2, d2, ?_⟩
        rw [hF', Option.bind_some]
        unfold lwT
        dsimp only
        rw [d1, Option.bind_some]
        unfold fX12_thrown
        rw [Option.bind_some, if_pos hy.symm, if_neg t2]
/-- a number is answered -/
def lwI (kb : Int32 → Mem → Option (Int32 × Mem)) (v4 : Int32) (r6 : Int32 × Mem) : Option (Int32 × Mem) := if (lg_cmp (ldJ r6.2 381 (0 : Int32).toNatClampNeg) r6.1.toInt64) = 0 then kb (v4 + 6) r6.2 else some (0, r6.2)
/-- true or false is answered -/
def lwB (kb : Int32 → Mem → Option (Int32 × Mem)) (v4 : Int32) (r6 : Int32 × Mem) : Option (Int32 × Mem) := if r6.1 = 0 then if (lg_cmp (ldJ r6.2 381 (0 : Int32).toNatClampNeg) 0) = 0 then kb (v4 + 6) r6.2 else some (0, r6.2) else if (lg_cmp (ldJ r6.2 381 (0 : Int32).toNatClampNeg) 1) = 0 then kb (v4 + 6) r6.2 else some (0, r6.2)
def ptI (v : Int32) (m : Mem) : Option (Int32 × Mem) := gd (inB 0 (Ln 381)) (nm (stJ m 381 (0 : Int32).toNatClampNeg v.toInt64) fun m_9 => some (0, m_9))
def ptB (v : Int32) (m : Mem) : Option (Int32 × Mem) := if v = 0 then gd (inB 0 (Ln 381)) (nm (stJ m 381 (0 : Int32).toNatClampNeg 0) fun m_9 => some (0, m_9)) else gd (inB 0 (Ln 381)) (nm (stJ m 381 (0 : Int32).toNatClampNeg 1) fun m_9 => some (0, m_9))
theorem ptI_e (v : Int32) (m : Mem) : ptI v m = some (0, stJ m 381 0 v.toInt64) := by
  unfold ptI
  rw [gd_t ln381, nm_b]
  rfl
theorem ptB_e (v : Int32) (m : Mem) : ptB v m = some (0, stJ m 381 0 (if v = 0 then 0 else 1)) := by
  unfold ptB
  by_cases e : v = 0
  · rw [if_pos e, if_pos e, gd_t ln381, nm_b]; rfl
  · rw [if_neg e, if_neg e, gd_t ln381, nm_b]; rfl
theorem law_thr {e : Nat → Int32 → Prop} {A : Mem → Option ((Int32 ⊕ Nat) × Mem)} {B : Mem → Option (Int32 × Mem)} (h : Nat → Mem → Option (Int32 × Mem)) {fv : Option (Int32 × Mem)} (op : OP e A B) (hF : fv = (A μ).bind fun r => xc r h ptI) (hh : ∀ k y m, e k y → h k m = some (y, m) ∧ ¬ y = 0) (hI : INV μ μ) : ∃ μ', INV μ' μ' ∧ fv.bind (lwT B (lwI kb v4) kb v4) = kb (v4 + 6) μ' :=
  law_gen (S := Int32.toInt64) op hF ptI_e (fun v m hv => by
    unfold lwI
    exact if_pos ((lg_cmp_eq _ _).mpr hv)) hh hI
theorem law_thb {e : Nat → Int32 → Prop} {A : Mem → Option ((Int32 ⊕ Nat) × Mem)} {B : Mem → Option (Int32 × Mem)} (h : Nat → Mem → Option (Int32 × Mem)) {fv : Option (Int32 × Mem)} (op : OP e A B) (hF : fv = (A μ).bind fun r => xc r h ptB) (hh : ∀ k y m, e k y → h k m = some (y, m) ∧ ¬ y = 0) (hI : INV μ μ) : ∃ μ', INV μ' μ' ∧ fv.bind (lwT B (lwB kb v4) kb v4) = kb (v4 + 6) μ' :=
  law_gen (S := fun v => if v = 0 then 0 else 1) op hF ptB_e (fun v m hv => by
    unfold lwB
    by_cases q : v = 0
    · rw [if_pos q] at hv
      rw [if_pos (show (v, m).1 = 0 from q)]
      exact if_pos ((lg_cmp_eq _ _).mpr hv)
    · rw [if_neg q] at hv
      rw [if_neg (show ¬ (v, m).1 = 0 from q)]
      exact if_pos ((lg_cmp_eq _ _).mpr hv)) hh hI
/-- a call that doesn't throw -/
def lwN (B : Mem → Option (Int32 × Mem)) (kb : Int32 → Mem → Option (Int32 × Mem)) (v4 : Int32) (r : Int32 × Mem) : Option (Int32 × Mem) := (B r.2).bind fun r4 => if r.1 = r4.1 then kb (v4 + 6) r4.2 else some (0, r4.2)
theorem law_ns {A B : Mem → Option (Int32 × Mem)} (op : OPn A B) (hI : INV μ μ) : ∃ μ', INV μ' μ' ∧ (A μ).bind (lwN B kb v4) = kb (v4 + 6) μ' := by
  obtain ⟨v, c', m', a1, a2, a3, a4, a5⟩ := op μ μ hI
  obtain ⟨v2, c2, m2, b1, b2, b3, b4, b5⟩ := op μ c' (hI.cg SE.rf (a4.mono (fun a ha => Or.inl ha)))
  have hr := Option.some.inj (b1.symm.trans a1)
  obtain ⟨hr1, hr2⟩ := Prod.mk.inj hr
  subst hr1 hr2
  refine ⟨m2, b3.cg (b5.mono (fun a ha => by omega)) SE.rf, ?_⟩
  rw [a1, Option.bind_some]
  unfold lwN
  dsimp only
  rw [b2, Option.bind_some, if_pos rfl]
/-- a call that looks only -/
def lwL (B : Mem → Option (Int32 × Mem)) (kb : Int32 → Mem → Option (Int32 × Mem)) (v4 : Int32) (μ : Mem) (r : Int32) : Option (Int32 × Mem) := (B μ).bind fun r4 => if r = r4.1 then kb (v4 + 6) r4.2 else some (0, r4.2)
theorem law_l {A : Mem → Option Int32} {B : Mem → Option (Int32 × Mem)} (op : OPl A B) (hI : INV μ μ) : ∃ μ', INV μ' μ' ∧ (A μ).bind (lwL B kb v4 μ) = kb (v4 + 6) μ' := by
  obtain ⟨v, m', a1, a2, a3, a5⟩ := op μ μ hI
  refine ⟨m', a3.cg (a5.mono (fun a ha => by omega)) SE.rf, ?_⟩
  rw [a1, Option.bind_some]
  unfold lwL
  rw [a2, Option.bind_some, if_pos rfl]
theorem law_915 {L : Nat} {xs : Nat → Int32} (hI : INV μ μ) : ∃ μ', INV μ' μ' ∧ fL_law_915 L xs 0 362 381 kb v4 μ = kb (v4 + 6) μ' := by
  obtain ⟨v, m', a1, a2, -, a3, a5⟩ := op_meanSpeed μ μ hI
  refine ⟨m', a3.cg (a5.mono (fun a ha => by omega)) SE.rf, ?_⟩
  unfold fL_law_915
  rw [a1, Option.bind_some, a2, Option.bind_some]
  dsimp only
  by_cases e : (Op.cmpValue (FP.dcmp v v) .l) = 0
  · rw [if_pos e, nm_b]
  · rw [if_neg e, if_neg e, if_neg e, nm_b]
theorem law_956 {L : Nat} {xs : Nat → Int32} (hI : INV μ μ) : ∃ μ', INV μ' μ' ∧ fL_law_956 L xs 0 362 381 kb v4 μ = kb (v4 + 6) μ' := by
  obtain ⟨v, m', a1, a2, hv, a3, a5⟩ := op_share μ μ hI
  refine ⟨m', a3.cg (a5.mono (fun a ha => by omega)) SE.rf, ?_⟩
  unfold fL_law_956
  rw [a1, Option.bind_some, gd_t (nn64_f2d hv), nm_b, a2, Option.bind_some]
  dsimp only
  rw [gd_t (nn64_f2d hv), nm_b]
  by_cases e : (Op.cmpValue (FP.dcmp (FP.f2d v) (FP.f2d v)) .l) = 0
  · rw [if_pos e, nm_b]
  · rw [if_neg e, if_neg e, if_neg e, nm_b]
end LAWG
