/-! the law: what is looked up, of a fight and an act -/
section GET2
variable {c c' m m' : Mem} {n : Nat} {ν : Nat → Int64} {σ : Sg}
theorem cnt_lo (h : okN n σ) : ∀ j, j ≤ n → sp_cnt σ j = nI (sp_lo σ 0 j) + nI (sp_lo σ 1 j) := by
  intro j
  induction j with
  | zero => intro _; rfl
  | succ j ih =>
    intro hj
    have e := ih (by omega)
    rw [sp_cnt, sp_lo, sp_lo, e]
    obtain ⟨a, a0, a1, ha⟩ := h.sid (f := j) (by omega)
    by_cases hl : lvN σ j
    · rcases (show a = 0 ∨ a = 1 by omega) with rfl | rfl
      · rw [if_pos hl, if_pos ⟨hl, ha⟩, if_neg (fun q => absurd (ha.symm.trans q.2) (by decide)), nI_add, nI_add, nI_1, show sp_lo σ 0 j + sp_lo σ 1 j + 1 = sp_lo σ 0 j + 1 + sp_lo σ 1 j by omega]
      · rw [if_pos hl, if_neg (fun q => absurd (ha.symm.trans q.2) (by decide)), if_pos ⟨hl, ha⟩, nI_add, nI_add, nI_1, show sp_lo σ 0 j + sp_lo σ 1 j + 1 = sp_lo σ 0 j + (sp_lo σ 1 j + 1) by omega]
    · rw [if_neg hl, if_neg (fun q => hl q.1), if_neg (fun q => hl q.1)]
theorem cnt_lo8 (h : okN n σ) : sp_cnt σ 8 = nI (sp_lo σ 0 n) + nI (sp_lo σ 1 n) := by
  rw [cnt_ext (n := n) 8 h.le (fun f h1 h2 q => absurd (h.liv h2 q) (by omega))]
  exact cnt_lo h n (Nat.le_refl _)
theorem op_setting (x : Int32) : OP (fun k y => k = 0 ∧ y = 1) (fun c => fX11_setting 0 x c) (fun m => fX12_setting 362 x m) := by
  intro c m h
  have h' := h
  obtain ⟨n, ν, h1, h2, h3, h4, h5, ⟨π, u, g1, v1, v2, v3, v4⟩, h7⟩ := h
  have hp : ldP m 362 13 = some 364 := h4.1.2.1
  have hp1 : ldP (stI m 362 0 0) 362 13 = some 364 := hp
  have hr : ldI (stI m 362 0 0) 364 = ldI m 364 := by funext i; rw [ldI_stI_ne (by decide)]
  have h21 : okN n (ldI (stI m 362 0 0) 364) := by rw [hr]; exact h2
  have p2 := h3.1.2.2.1
  rcases w_cases 10 (by decide) x with ⟨w, hw, rfl⟩ | hx
  · have key : ∀ v, fX11_setting 0 (nI w) c = some (.inl v, c) → fX12_setting 362 (nI w) m = some (v, stI m 362 0 0) → ∃ r c' v m', fX11_setting 0 (nI w) c = some (r, c') ∧ fX12_setting 362 (nI w) m = some (v, m') ∧ INV c' m' ∧ CFr c c' ∧ MFr m m' ∧ ((r = .inl v ∧ ldI m' 362 0 = 0) ∨ ∃ k, r = .inr k ∧ (k = 0 ∧ ldI m' 362 0 = 1)) := fun v a b => ⟨.inl v, c, v, stI m 362 0 0, a, b, h'.st0 0, SE.rf, MFr.s, Or.inl ⟨rfl, ldI_stI_s⟩⟩
    have hB0 : ∀ w, w ≤ 9 → fX12_isIn (nI w).toInt64 0 9 m = some 1 := fun w hw => isIn_y (k := 9) (by decide) hw
    rcases (show w = 0 ∨ w = 1 ∨ w = 2 ∨ w = 3 ∨ w = 4 ∨ w = 5 ∨ w = 6 ∨ w = 7 ∨ w = 8 ∨ w = 9 by omega) with rfl | rfl | rfl | rfl | rfl | rfl | rfl | rfl | rfl | rfl
    · refine key (ldI m 364 0) ?_ ?_
      · unfold fX11_setting
        rw [if_pos (show nI 0 = 0 from rfl), p2, Option.bind_some, h1.cnt]
      · unfold fX12_setting
        rw [hB0 0 (by decide), Option.bind_some, m_goes1, Option.bind_some, if_neg one0, if_neg (show ¬ nI 0 = 4 by decide), if_neg (show ¬ nI 0 = 5 by decide), if_neg (show ¬ nI 0 = 6 by decide), if_neg (show ¬ nI 0 = 7 by decide), if_neg (show ¬ nI 0 = 8 by decide), if_neg (show ¬ nI 0 = 9 by decide), hp1, Option.bind_some, ln364, gd_t (by decide), show (nI 0).toNatClampNeg = 0 by decide, ldI_stI_ne (by decide)]
    · refine key (ldI m 364 1) ?_ ?_
      · unfold fX11_setting
        rw [if_neg (show ¬ nI 1 = 0 by decide), if_pos (show nI 1 = 1 from rfl), p2, Option.bind_some, h1.whl]
      · unfold fX12_setting
        rw [hB0 1 (by decide), Option.bind_some, m_goes1, Option.bind_some, if_neg one0, if_neg (show ¬ nI 1 = 4 by decide), if_neg (show ¬ nI 1 = 5 by decide), if_neg (show ¬ nI 1 = 6 by decide), if_neg (show ¬ nI 1 = 7 by decide), if_neg (show ¬ nI 1 = 8 by decide), if_neg (show ¬ nI 1 = 9 by decide), hp1, Option.bind_some, ln364, gd_t (by decide), show (nI 1).toNatClampNeg = 1 by decide, ldI_stI_ne (by decide)]
    · refine key (ldI m 364 2) ?_ ?_
      · unfold fX11_setting
        rw [if_neg (show ¬ nI 2 = 0 by decide), if_neg (show ¬ nI 2 = 1 by decide), if_pos (show nI 2 = 2 from rfl), p2, Option.bind_some, h1.tim]
      · unfold fX12_setting
        rw [hB0 2 (by decide), Option.bind_some, m_goes1, Option.bind_some, if_neg one0, if_neg (show ¬ nI 2 = 4 by decide), if_neg (show ¬ nI 2 = 5 by decide), if_neg (show ¬ nI 2 = 6 by decide), if_neg (show ¬ nI 2 = 7 by decide), if_neg (show ¬ nI 2 = 8 by decide), if_neg (show ¬ nI 2 = 9 by decide), hp1, Option.bind_some, ln364, gd_t (by decide), show (nI 2).toNatClampNeg = 2 by decide, ldI_stI_ne (by decide)]
    · refine key (ldI m 364 3) ?_ ?_
      · unfold fX11_setting
        rw [if_neg (show ¬ nI 3 = 0 by decide), if_neg (show ¬ nI 3 = 1 by decide), if_neg (show ¬ nI 3 = 2 by decide), if_pos (show nI 3 = 3 from rfl), p2, Option.bind_some, h1.trn]
      · unfold fX12_setting
        rw [hB0 3 (by decide), Option.bind_some, m_goes1, Option.bind_some, if_neg one0, if_neg (show ¬ nI 3 = 4 by decide), if_neg (show ¬ nI 3 = 5 by decide), if_neg (show ¬ nI 3 = 6 by decide), if_neg (show ¬ nI 3 = 7 by decide), if_neg (show ¬ nI 3 = 8 by decide), if_neg (show ¬ nI 3 = 9 by decide), hp1, Option.bind_some, ln364, gd_t (by decide), show (nI 3).toNatClampNeg = 3 by decide, ldI_stI_ne (by decide)]
    · refine key (sp_cnt (ldI m 364) 8) ?_ ?_
      · unfold fX11_setting
        rw [if_neg (show ¬ nI 4 = 0 by decide), if_neg (show ¬ nI 4 = 1 by decide), if_neg (show ¬ nI 4 = 2 by decide), if_neg (show ¬ nI 4 = 3 by decide), if_pos (show nI 4 = 4 from rfl), p2, Option.bind_some, c_living h1, Option.bind_some]
      · unfold fX12_setting fX12_living
        rw [hB0 4 (by decide), Option.bind_some, m_goes1, Option.bind_some, if_neg one0, if_pos (show nI 4 = 4 from rfl), m_livingOn hp1 h21, Option.bind_some, m_livingOn hp1 h21, Option.bind_some, Option.bind_some, hr, cnt_lo8 h2]
    · refine key (sp_sl (ldI m 364) 0 8) ?_ ?_
      · unfold fX11_setting
        rw [if_neg (show ¬ nI 5 = 0 by decide), if_neg (show ¬ nI 5 = 1 by decide), if_neg (show ¬ nI 5 = 2 by decide), if_neg (show ¬ nI 5 = 3 by decide), if_neg (show ¬ nI 5 = 4 by decide), if_pos (show nI 5 = 5 from rfl), p2, Option.bind_some, c_sideLife h1, Option.bind_some]
      · unfold fX12_setting
        rw [hB0 5 (by decide), Option.bind_some, m_goes1, Option.bind_some, if_neg one0, if_neg (show ¬ nI 5 = 4 by decide), if_pos (show nI 5 = 5 from rfl), m_lifeOn hp1 h21, Option.bind_some, hr]
    · refine key (sp_sl (ldI m 364) 1 8) ?_ ?_
      · unfold fX11_setting
        rw [if_neg (show ¬ nI 6 = 0 by decide), if_neg (show ¬ nI 6 = 1 by decide), if_neg (show ¬ nI 6 = 2 by decide), if_neg (show ¬ nI 6 = 3 by decide), if_neg (show ¬ nI 6 = 4 by decide), if_neg (show ¬ nI 6 = 5 by decide), if_pos (show nI 6 = 6 from rfl), p2, Option.bind_some, c_sideLife h1, Option.bind_some]
      · unfold fX12_setting
        rw [hB0 6 (by decide), Option.bind_some, m_goes1, Option.bind_some, if_neg one0, if_neg (show ¬ nI 6 = 4 by decide), if_neg (show ¬ nI 6 = 5 by decide), if_pos (show nI 6 = 6 from rfl), m_lifeOn hp1 h21, Option.bind_some, hr]
    · refine key (sp_won (ldI m 364)) ?_ ?_
      · unfold fX11_setting
        rw [if_neg (show ¬ nI 7 = 0 by decide), if_neg (show ¬ nI 7 = 1 by decide), if_neg (show ¬ nI 7 = 2 by decide), if_neg (show ¬ nI 7 = 3 by decide), if_neg (show ¬ nI 7 = 4 by decide), if_neg (show ¬ nI 7 = 5 by decide), if_neg (show ¬ nI 7 = 6 by decide), if_pos (show nI 7 = 7 from rfl), p2, Option.bind_some, c_wonBy h1, Option.bind_some]
      · unfold fX12_setting
        rw [hB0 7 (by decide), Option.bind_some, m_goes1, Option.bind_some, if_neg one0, if_neg (show ¬ nI 7 = 4 by decide), if_neg (show ¬ nI 7 = 5 by decide), if_neg (show ¬ nI 7 = 6 by decide), if_pos (show nI 7 = 7 from rfl), m_won hp1 h21, Option.bind_some, hr]
    · refine key (if sp_over (ldI m 364) = true then 1 else 0) ?_ ?_
      · unfold fX11_setting
        rw [if_neg (show ¬ nI 8 = 0 by decide), if_neg (show ¬ nI 8 = 1 by decide), if_neg (show ¬ nI 8 = 2 by decide), if_neg (show ¬ nI 8 = 3 by decide), if_neg (show ¬ nI 8 = 4 by decide), if_neg (show ¬ nI 8 = 5 by decide), if_neg (show ¬ nI 8 = 6 by decide), if_neg (show ¬ nI 8 = 7 by decide), if_pos (show nI 8 = 8 from rfl), p2, Option.bind_some, c_over h1, Option.bind_some]
        by_cases e : sp_over (ldI m 364) = true
        · rw [if_pos e, if_neg one0]
        · rw [if_neg e, if_pos rfl]
      · unfold fX12_setting
        rw [hB0 8 (by decide), Option.bind_some, m_goes1, Option.bind_some, if_neg one0, if_neg (show ¬ nI 8 = 4 by decide), if_neg (show ¬ nI 8 = 5 by decide), if_neg (show ¬ nI 8 = 6 by decide), if_neg (show ¬ nI 8 = 7 by decide), if_pos (show nI 8 = 8 from rfl), m_isOver hp1 h21, Option.bind_some, hr]
        by_cases e : sp_over (ldI m 364) = true
        · rw [if_pos e, truth1, Option.bind_some]
        · rw [if_neg e, truth0, Option.bind_some]
    · refine key (nI u) ?_ ?_
      · unfold fX11_setting
        rw [if_neg (show ¬ nI 9 = 0 by decide), if_neg (show ¬ nI 9 = 1 by decide), if_neg (show ¬ nI 9 = 2 by decide), if_neg (show ¬ nI 9 = 3 by decide), if_neg (show ¬ nI 9 = 4 by decide), if_neg (show ¬ nI 9 = 5 by decide), if_neg (show ¬ nI 9 = 6 by decide), if_neg (show ¬ nI 9 = 7 by decide), if_neg (show ¬ nI 9 = 8 by decide), if_pos (show nI 9 = 9 from rfl), h3.1.2.2.2.2.2.2.1, Option.bind_some, v2]
      · unfold fX12_setting
        rw [hB0 9 (by decide), Option.bind_some, m_goes1, Option.bind_some, if_neg one0, if_neg (show ¬ nI 9 = 4 by decide), if_neg (show ¬ nI 9 = 5 by decide), if_neg (show ¬ nI 9 = 6 by decide), if_neg (show ¬ nI 9 = 7 by decide), if_neg (show ¬ nI 9 = 8 by decide), if_pos (show nI 9 = 9 from rfl), ldI_stI, if_neg (show ¬ (362 = 362 ∧ 21 = 0) by decide), v3]
  · have hB : fX12_setting 362 x m = some (0, stI m 362 0 1) := by
      unfold fX12_setting
      rw [show (9 : Int64) = (nI 9).toInt64 from rfl, isIn_k (by decide) hx, Option.bind_some, m_goes0, Option.bind_some, if_pos rfl]
    refine OP.r (e := fun k y => k = 0 ∧ y = 1) (A := fun c => fX11_setting 0 x c) (B := fun m => fX12_setting 362 x m) (k := 0) (v := 0) ?_ hB (h'.st0 1) MFr.s ⟨rfl, ldI_stI_s⟩
    show fX11_setting 0 x c = _
    unfold fX11_setting
    rw [if_neg (show ¬ x = 0 from hx 0 (by decide)), if_neg (show ¬ x = 1 from hx 1 (by decide)), if_neg (show ¬ x = 2 from hx 2 (by decide)), if_neg (show ¬ x = 3 from hx 3 (by decide)), if_neg (show ¬ x = 4 from hx 4 (by decide)), if_neg (show ¬ x = 5 from hx 5 (by decide)), if_neg (show ¬ x = 6 from hx 6 (by decide)), if_neg (show ¬ x = 7 from hx 7 (by decide)), if_neg (show ¬ x = 8 from hx 8 (by decide)), if_neg (show ¬ x = 9 from hx 9 (by decide))]
theorem m_isAct_y (hp : ldP m 362 13 = some 364) (h : okN n (ldI m 364)) {f : Nat} (hf : f < n) {x : Int32} (e : sp_has (ldI m 364) f x) : ∃ i, i < 6 ∧ x = nI i ∧ fX12_isAct 362 (nI f) x m = some 1 := by
  have hf8 : f < 8 := by have := h.le; omega
  obtain ⟨p, a, a1, a2, a3, a4, a5⟩ := h.acts hf
  obtain ⟨e1, e2, e3⟩ := e
  obtain ⟨i, i1, rfl⟩ := nI_of (show ¬ x < 0 by rw [i32_lt]; rw [i32_le] at e1; exact Int.not_lt.mpr e1)
  have hi : i < a := by
    by_cases q : i < a
    · exact q
    · rw [a2] at e2; exact absurd e2 (nI_nlt (by omega) i1)
  refine ⟨i, by omega, rfl, ?_⟩
  unfold fX12_isAct
  rw [m_of hp hf8 (w := 8) (W := 8) (by decide) rfl, Option.bind_some, a2, show nI a - 1 = nI (a - 1) from pk_sub (a := a) (b := 1) (by omega), isIn_y (by omega) (by omega), Option.bind_some]
theorem m_isAct_n (hp : ldP m 362 13 = some 364) (h : okN n (ldI m 364)) {f : Nat} (hf : f < n) {x : Int32} (e : ¬ sp_has (ldI m 364) f x) : fX12_isAct 362 (nI f) x m = some 0 := by
  have hf8 : f < 8 := by have := h.le; omega
  obtain ⟨p, a, a1, a2, a3, a4, a5⟩ := h.acts hf
  have hx : ∀ i, i < a - 1 + 1 → ¬ x = nI i := fun i hi q => e ⟨by rw [q]; exact nI_pos' (by omega), by rw [a2, q]; exact nI_lt (by omega) (by omega), by rw [q]; exact nI_lt (a := i) (b := 6) (by omega) (by decide)⟩
  unfold fX12_isAct
  rw [m_of hp hf8 (w := 8) (W := 8) (by decide) rfl, Option.bind_some, a2, show nI a - 1 = nI (a - 1) from pk_sub (a := a) (b := 1) (by omega), isIn_k (by omega) hx, Option.bind_some]
theorem op_actKind (v x : Int32) : OP (fun k y => k = 2 ∧ y = 1) (fun c => fX11_actKind 0 v x c) (fun m => fX12_actKind 362 v x m) := by
  intro c m h
  have h' := h
  obtain ⟨n, ν, h1, h2, h3, h4, -⟩ := h
  have hp : ldP m 362 13 = some 364 := h4.1.2.1
  have hp1 : ldP (stI m 362 0 0) 362 13 = some 364 := hp
  have hr : ldI (stI m 362 0 0) 364 = ldI m 364 := by funext i; rw [ldI_stI_ne (by decide)]
  rcases f_cases n v h2.le with ⟨f, hf, rfl⟩ | hv
  · have hf8 : f < 8 := by have := h2.le; omega
    have hkn := known_y h3.1.2.2.1 h1 h2 hf
    refine ⟨.inl (if sp_has (ldI m 364) f x then ldI m 364 (100 + 6 * f + x.toNatClampNeg) else -1), c, if sp_has (ldI m 364) f x then ldI m 364 (100 + 6 * f + x.toNatClampNeg) else -1, stI m 362 0 0, ?_, ?_, h'.st0 0, SE.rf, MFr.s, Or.inl ⟨rfl, ldI_stI_s⟩⟩
    · show fX11_actKind 0 (nI f) x c = _
      unfold fX11_actKind
      rw [hkn, Option.bind_some, xbl, c_kindAt h1 hf8, Option.bind_some]
    · show fX12_actKind 362 (nI f) x m = _
      unfold fX12_actKind
      rw [isF_y hp h2 hf, Option.bind_some, m_goes1, Option.bind_some, if_neg one0]
      by_cases e : sp_has (ldI m 364) f x
      · obtain ⟨i, i1, rfl, i2⟩ := m_isAct_y hp1 (by rw [hr]; exact h2) hf (by rw [hr]; exact e)
        rw [i2, Option.bind_some, if_neg one0, if_pos e, hp1, Option.bind_some, show (6 : Int32) * nI f = nI (6 * f) from pk_mul 6 f, show (100 : Int32) + nI (6 * f) = nI (100 + 6 * f) from nI_add 100 (6 * f), nI_add, ln364, gd_t (inB_nI (by omega) (by decide)), nI_clamp (by omega), nI_clamp (by omega), hr]
      · rw [m_isAct_n hp1 (by rw [hr]; exact h2) hf (by rw [hr]; exact e), Option.bind_some, if_pos rfl, if_neg e]
  · have hB : fX12_actKind 362 v x m = some (0, stI m 362 0 1) := by
      unfold fX12_actKind
      rw [isF_n hp h2 hv, Option.bind_some, m_goes0, Option.bind_some, if_pos rfl]
    refine OP.r (e := fun k y => k = 2 ∧ y = 1) (A := fun c => fX11_actKind 0 v x c) (B := fun m => fX12_actKind 362 v x m) (k := 2) (v := 0) ?_ hB (h'.st0 1) MFr.s ⟨rfl, ldI_stI_s⟩
    show fX11_actKind 0 v x c = _
    unfold fX11_actKind
    rw [known_n h3.1.2.2.1 h1 h2 hv, Option.bind_some, xbr]
theorem op_actNumber (v x : Int32) : OP (fun k y => k = 2 ∧ y = 1) (fun c => fX11_actNumber 0 v x c) (fun m => fX12_actNumber 362 v x m) := by
  intro c m h
  have h' := h
  obtain ⟨n, ν, h1, h2, h3, h4, -⟩ := h
  have hp : ldP m 362 13 = some 364 := h4.1.2.1
  have hp1 : ldP (stI m 362 0 0) 362 13 = some 364 := hp
  have hr : ldI (stI m 362 0 0) 364 = ldI m 364 := by funext i; rw [ldI_stI_ne (by decide)]
  rcases f_cases n v h2.le with ⟨f, hf, rfl⟩ | hv
  · have hf8 : f < 8 := by have := h2.le; omega
    have hkn := known_y h3.1.2.2.1 h1 h2 hf
    refine ⟨.inl (if sp_has (ldI m 364) f x then ldI m 364 (148 + 6 * f + x.toNatClampNeg) else -1), c, if sp_has (ldI m 364) f x then ldI m 364 (148 + 6 * f + x.toNatClampNeg) else -1, stI m 362 0 0, ?_, ?_, h'.st0 0, SE.rf, MFr.s, Or.inl ⟨rfl, ldI_stI_s⟩⟩
    · show fX11_actNumber 0 (nI f) x c = _
      unfold fX11_actNumber
      rw [hkn, Option.bind_some, xbl, c_amountAt h1 hf8, Option.bind_some]
    · show fX12_actNumber 362 (nI f) x m = _
      unfold fX12_actNumber
      rw [isF_y hp h2 hf, Option.bind_some, m_goes1, Option.bind_some, if_neg one0]
      by_cases e : sp_has (ldI m 364) f x
      · obtain ⟨i, i1, rfl, i2⟩ := m_isAct_y hp1 (by rw [hr]; exact h2) hf (by rw [hr]; exact e)
        rw [i2, Option.bind_some, if_neg one0, if_pos e, hp1, Option.bind_some, show (6 : Int32) * nI f = nI (6 * f) from pk_mul 6 f, show (148 : Int32) + nI (6 * f) = nI (148 + 6 * f) from nI_add 148 (6 * f), nI_add, ln364, gd_t (inB_nI (by omega) (by decide)), nI_clamp (by omega), nI_clamp (by omega), hr]
      · rw [m_isAct_n hp1 (by rw [hr]; exact h2) hf (by rw [hr]; exact e), Option.bind_some, if_pos rfl, if_neg e]
  · have hB : fX12_actNumber 362 v x m = some (0, stI m 362 0 1) := by
      unfold fX12_actNumber
      rw [isF_n hp h2 hv, Option.bind_some, m_goes0, Option.bind_some, if_pos rfl]
    refine OP.r (e := fun k y => k = 2 ∧ y = 1) (A := fun c => fX11_actNumber 0 v x c) (B := fun m => fX12_actNumber 362 v x m) (k := 2) (v := 0) ?_ hB (h'.st0 1) MFr.s ⟨rfl, ldI_stI_s⟩
    show fX11_actNumber 0 v x c = _
    unfold fX11_actNumber
    rw [known_n h3.1.2.2.1 h1 h2 hv, Option.bind_some, xbr]
theorem op_ticksTo (v : Int32) : OP (fun k y => k = 2 ∧ y = 1) (fun c => fX11_ticksTo 0 v c) (fun m => fX12_ticksTo 362 v m) := by
  intro c m h
  have h' := h
  obtain ⟨n, ν, h1, h2, h3, h4, -⟩ := h
  have hp : ldP m 362 13 = some 364 := h4.1.2.1
  have hp1 : ldP (stI m 362 0 0) 362 13 = some 364 := hp
  have hr : ldI (stI m 362 0 0) 364 = ldI m 364 := by funext i; rw [ldI_stI_ne (by decide)]
  rcases f_cases n v h2.le with ⟨f, hf, rfl⟩ | hv
  · have hf8 : f < 8 := by have := h2.le; omega
    have hkn := known_y h3.1.2.2.1 h1 h2 hf
    refine ⟨.inl (if lvN (ldI m 364) f then sp_tk (ldI m 364) f else -1), c, if lvN (ldI m 364) f then sp_tk (ldI m 364) f else -1, stI m 362 0 0, ?_, ?_, h'.st0 0, SE.rf, MFr.s, Or.inl ⟨rfl, ldI_stI_s⟩⟩
    · show fX11_ticksTo 0 (nI f) c = _
      unfold fX11_ticksTo
      rw [hkn, Option.bind_some, xbl, h1.lif hf8]
      by_cases e : lvN (ldI m 364) f
      · rw [if_neg (i32_nle.mpr e), if_pos e, h3.1.2.2.1, Option.bind_some, h1.whl, c_ticksLeft h1 hf8 (h2.sp1 hf8 e), Option.bind_some]
      · rw [if_pos (i32_nlt.mp e), if_neg e]
    · show fX12_ticksTo 362 (nI f) m = _
      unfold fX12_ticksTo
      rw [isF_y hp h2 hf, Option.bind_some, m_goes1, Option.bind_some, if_neg one0, m_lives hp1 hf8, Option.bind_some, hr]
      by_cases e : lvN (ldI m 364) f
      · rw [if_pos e, if_pos e, if_neg one0, m_ticksFor hp1 (by rw [hr]; exact h2) hf, Option.bind_some, hr]
      · rw [if_neg e, if_neg e, if_pos rfl]
  · have hB : fX12_ticksTo 362 v m = some (0, stI m 362 0 1) := by
      unfold fX12_ticksTo
      rw [isF_n hp h2 hv, Option.bind_some, m_goes0, Option.bind_some, if_pos rfl]
    refine OP.r (e := fun k y => k = 2 ∧ y = 1) (A := fun c => fX11_ticksTo 0 v c) (B := fun m => fX12_ticksTo 362 v m) (k := 2) (v := 0) ?_ hB (h'.st0 1) MFr.s ⟨rfl, ldI_stI_s⟩
    show fX11_ticksTo 0 v c = _
    unfold fX11_ticksTo
    rw [known_n h3.1.2.2.1 h1 h2 hv, Option.bind_some, xbr]
end GET2
