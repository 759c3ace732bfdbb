/-! the law: what is looked up -/
section GET
variable {c c' m m' : Mem} {n : Nat} {ν : Nat → Int64} {σ : Sg}
theorem m_isIn0 {x y : Int32} : fX12_isIn x.toInt64 0 y.toInt64 m = some (if x < 0 then 0 else if y < x then 0 else 1) := by
  unfold fX12_isIn
  rw [show (0 : Int64) = (0 : Int32).toInt64 from rfl, ifc (lg_cmp_lt _ _), ifc (lg_cmp_gt _ _), ifc (fa_wide_lt' _ _), ifc (fa_wide_lt' _ _)]
  by_cases e1 : x < 0
  · rw [if_pos e1, if_pos e1]
  · by_cases e2 : y < x
    · rw [if_neg e1, if_neg e1, if_pos e2, if_pos e2]
    · rw [if_neg e1, if_neg e1, if_neg e2, if_neg e2]
theorem m_goesBoth {a b : Int32} : fX12_goesBoth 362 a b m = some (if a = 0 then 0 else if b = 0 then 0 else 1, stI m 362 0 (if a = 0 then 1 else if b = 0 then 2 else 0)) := by
  unfold fX12_goesBoth
  by_cases e1 : a = 0
  · rw [if_pos e1, if_pos e1, if_pos e1, nm_b, ldI_stI_s, if_neg one0]
  · by_cases e2 : b = 0
    · rw [if_neg e1, if_neg e1, if_neg e1, if_pos e2, if_pos e2, if_pos e2, nm_b, ldI_stI_s, if_neg (show ¬ (2 : Int32) = 0 by decide)]
    · rw [if_neg e1, if_neg e1, if_neg e1, if_neg e2, if_neg e2, if_neg e2, nm_b, ldI_stI_s, if_pos rfl]
/-- a fighter's number, or none -/
theorem f_cases (n : Nat) (v : Int32) (hn : n ≤ 8) : (∃ f, f < n ∧ v = nI f) ∨ (v < 0 ∨ nI n ≤ v) := by
  by_cases e : v < 0
  · exact Or.inr (Or.inl e)
  · obtain ⟨f, f1, rfl⟩ := nI_of e
    by_cases q : f < n
    · exact Or.inl ⟨f, q, rfl⟩
    · exact Or.inr (Or.inr (nI_le (by omega) f1))
theorem isF_y (hp : ldP m 362 13 = some 364) (h : okN n (ldI m 364)) {f : Nat} (hf : f < n) : fX12_isFighter 362 (nI f) m = some 1 := by
  have hn := h.le
  unfold fX12_isFighter
  rw [hp, Option.bind_some, ln364, gd_t (by decide), show ((0 : Int32)).toNatClampNeg = 0 from rfl, h.2.1, show nI n - 1 = nI (n - 1) from pk_sub (a := n) (b := 1) (by omega), m_isIn0, if_neg (nI_pos (by omega)), if_neg (nI_nlt (by omega) (by omega)), Option.bind_some]
theorem isF_n (hp : ldP m 362 13 = some 364) (h : okN n (ldI m 364)) {v : Int32} (hv : v < 0 ∨ nI n ≤ v) : fX12_isFighter 362 v m = some 0 := by
  have hn := h.le
  unfold fX12_isFighter
  rw [hp, Option.bind_some, ln364, gd_t (by decide), show ((0 : Int32)).toNatClampNeg = 0 from rfl, h.2.1, m_isIn0]
  by_cases e : v < 0
  · rw [if_pos e, Option.bind_some]
  · rw [if_neg e]
    obtain ⟨f, f1, rfl⟩ := nI_of e
    have hf : nI n ≤ nI f := hv.elim (fun q => absurd q e) id
    by_cases h0 : n = 0
    · subst h0
      rw [if_pos (show nI 0 - 1 < nI f by rw [i32_lt, nI_toInt f1]; have : (nI 0 - 1).toInt = -1 := rfl; omega), Option.bind_some]
    · have hnf : n ≤ f := (nI_leI (by omega) f1).mp hf
      rw [show nI n - 1 = nI (n - 1) from pk_sub (a := n) (b := 1) (by omega), if_pos (nI_lt (by omega) f1), Option.bind_some]
theorem known_y (hp : ldP c 0 2 = some 66) (h : FR c 66 σ ν) (hok : okN n σ) {f : Nat} (hf : f < n) : fX11_known 0 (nI f) c = some (.inl (66 + 5 + 3 * f), c) := by
  have hn := hok.le
  unfold fX11_known
  rw [if_neg (nI_pos (by omega)), hp, Option.bind_some, h.cnt, hok.2.1, if_pos (nI_lt hf (by omega)), Option.bind_some, c_at h, Option.bind_some, sp_at_nI (by omega)]
  rfl
theorem known_n (hp : ldP c 0 2 = some 66) (h : FR c 66 σ ν) (hok : okN n σ) {v : Int32} (hv : v < 0 ∨ nI n ≤ v) : fX11_known 0 v c = some (.inr 2, c) := by
  have hn := hok.le
  unfold fX11_known
  by_cases e : v < 0
  · rw [if_pos e]
  · rw [if_neg e]
    obtain ⟨f, f1, rfl⟩ := nI_of e
    have hf : nI n ≤ nI f := hv.elim (fun q => absurd q e) id
    have hnf : n ≤ f := (nI_leI (by omega) f1).mp hf
    rw [hp, Option.bind_some, h.cnt, hok.2.1, if_neg (nI_nlt hnf f1)]
theorem w_cases (k : Nat) (hk : k < 1000) (x : Int32) : (∃ w, w < k ∧ x = nI w) ∨ (∀ i, i < k → ¬ x = nI i) := by
  by_cases e : ∃ w, w < k ∧ x = nI w
  · exact Or.inl e
  · exact Or.inr (fun i hi q => e ⟨i, hi, q⟩)
theorem isIn_k {k : Nat} (hk : k < 1000) {x : Int32} (hx : ∀ i, i < k + 1 → ¬ x = nI i) : fX12_isIn x.toInt64 0 (nI k).toInt64 m = some 0 := by
  rw [m_isIn0]
  by_cases e : x < 0
  · rw [if_pos e]
  · obtain ⟨f, f1, rfl⟩ := nI_of e
    rw [if_neg e, if_pos]
    have : ¬ f < k + 1 := fun q => hx f q rfl
    exact nI_lt (by omega) f1
theorem isIn_y {k w : Nat} (hk : k < 1000) (hw : w ≤ k) : fX12_isIn (nI w).toInt64 0 (nI k).toInt64 m = some 1 := by
  rw [m_isIn0, if_neg (nI_pos (by omega)), if_neg (nI_nlt hw (by omega))]
theorem c_fighterv (h : FR c 66 σ ν) {f : Nat} (hf : f < 8) (hkn : fX11_known 0 (nI f) c = some (.inl (66 + 5 + 3 * f), c)) {w : Nat} (hw : w < 12) : fX11_fighter 0 (nI f) (nI w) c = some (.inl (σ (4 + 12 * f + w)), c) := by
  unfold fX11_fighter
  rw [hkn, Option.bind_some, xbl]
  rcases (show w = 0 ∨ w = 1 ∨ w = 2 ∨ w = 3 ∨ w = 4 ∨ w = 5 ∨ w = 6 ∨ w = 7 ∨ w = 8 ∨ w = 9 ∨ w = 10 ∨ w = 11 by omega) with rfl | rfl | rfl | rfl | rfl | rfl | rfl | rfl | rfl | rfl | rfl | rfl
  · rw [if_pos (show nI 0 = 0 from rfl)]; exact congrArg (fun z => some ((.inl z : Int32 ⊕ Nat), c)) (h.c hf (w := 0) (by decide))
  · rw [if_neg (show ¬ nI 1 = 0 by decide), if_pos (show nI 1 = 1 from rfl)]; exact congrArg (fun z => some ((.inl z : Int32 ⊕ Nat), c)) (h.c hf (w := 1) (by decide))
  · rw [if_neg (show ¬ nI 2 = 0 by decide), if_neg (show ¬ nI 2 = 1 by decide), if_pos (show nI 2 = 2 from rfl)]; exact congrArg (fun z => some ((.inl z : Int32 ⊕ Nat), c)) (h.c hf (w := 2) (by decide))
  · rw [if_neg (show ¬ nI 3 = 0 by decide), if_neg (show ¬ nI 3 = 1 by decide), if_neg (show ¬ nI 3 = 2 by decide), if_pos (show nI 3 = 3 from rfl)]; exact congrArg (fun z => some ((.inl z : Int32 ⊕ Nat), c)) (h.c hf (w := 3) (by decide))
  · rw [if_neg (show ¬ nI 4 = 0 by decide), if_neg (show ¬ nI 4 = 1 by decide), if_neg (show ¬ nI 4 = 2 by decide), if_neg (show ¬ nI 4 = 3 by decide), if_pos (show nI 4 = 4 from rfl)]; exact congrArg (fun z => some ((.inl z : Int32 ⊕ Nat), c)) (h.c hf (w := 4) (by decide))
  · rw [if_neg (show ¬ nI 5 = 0 by decide), if_neg (show ¬ nI 5 = 1 by decide), if_neg (show ¬ nI 5 = 2 by decide), if_neg (show ¬ nI 5 = 3 by decide), if_neg (show ¬ nI 5 = 4 by decide), if_pos (show nI 5 = 5 from rfl)]; exact congrArg (fun z => some ((.inl z : Int32 ⊕ Nat), c)) (h.c hf (w := 5) (by decide))
  · rw [if_neg (show ¬ nI 6 = 0 by decide), if_neg (show ¬ nI 6 = 1 by decide), if_neg (show ¬ nI 6 = 2 by decide), if_neg (show ¬ nI 6 = 3 by decide), if_neg (show ¬ nI 6 = 4 by decide), if_neg (show ¬ nI 6 = 5 by decide), if_pos (show nI 6 = 6 from rfl)]; exact congrArg (fun z => some ((.inl z : Int32 ⊕ Nat), c)) (h.c hf (w := 6) (by decide))
  · rw [if_neg (show ¬ nI 7 = 0 by decide), if_neg (show ¬ nI 7 = 1 by decide), if_neg (show ¬ nI 7 = 2 by decide), if_neg (show ¬ nI 7 = 3 by decide), if_neg (show ¬ nI 7 = 4 by decide), if_neg (show ¬ nI 7 = 5 by decide), if_neg (show ¬ nI 7 = 6 by decide), if_pos (show nI 7 = 7 from rfl)]; exact congrArg (fun z => some ((.inl z : Int32 ⊕ Nat), c)) (h.c hf (w := 7) (by decide))
  · rw [if_neg (show ¬ nI 8 = 0 by decide), if_neg (show ¬ nI 8 = 1 by decide), if_neg (show ¬ nI 8 = 2 by decide), if_neg (show ¬ nI 8 = 3 by decide), if_neg (show ¬ nI 8 = 4 by decide), if_neg (show ¬ nI 8 = 5 by decide), if_neg (show ¬ nI 8 = 6 by decide), if_neg (show ¬ nI 8 = 7 by decide), if_pos (show nI 8 = 8 from rfl)]; exact congrArg (fun z => some ((.inl z : Int32 ⊕ Nat), c)) (h.c hf (w := 8) (by decide))
  · rw [if_neg (show ¬ nI 9 = 0 by decide), if_neg (show ¬ nI 9 = 1 by decide), if_neg (show ¬ nI 9 = 2 by decide), if_neg (show ¬ nI 9 = 3 by decide), if_neg (show ¬ nI 9 = 4 by decide), if_neg (show ¬ nI 9 = 5 by decide), if_neg (show ¬ nI 9 = 6 by decide), if_neg (show ¬ nI 9 = 7 by decide), if_neg (show ¬ nI 9 = 8 by decide), if_pos (show nI 9 = 9 from rfl)]; exact congrArg (fun z => some ((.inl z : Int32 ⊕ Nat), c)) (h.c hf (w := 9) (by decide))
  · rw [if_neg (show ¬ nI 10 = 0 by decide), if_neg (show ¬ nI 10 = 1 by decide), if_neg (show ¬ nI 10 = 2 by decide), if_neg (show ¬ nI 10 = 3 by decide), if_neg (show ¬ nI 10 = 4 by decide), if_neg (show ¬ nI 10 = 5 by decide), if_neg (show ¬ nI 10 = 6 by decide), if_neg (show ¬ nI 10 = 7 by decide), if_neg (show ¬ nI 10 = 8 by decide), if_neg (show ¬ nI 10 = 9 by decide), if_pos (show nI 10 = 10 from rfl)]; exact congrArg (fun z => some ((.inl z : Int32 ⊕ Nat), c)) (h.c hf (w := 10) (by decide))
  · rw [if_neg (show ¬ nI 11 = 0 by decide), if_neg (show ¬ nI 11 = 1 by decide), if_neg (show ¬ nI 11 = 2 by decide), if_neg (show ¬ nI 11 = 3 by decide), if_neg (show ¬ nI 11 = 4 by decide), if_neg (show ¬ nI 11 = 5 by decide), if_neg (show ¬ nI 11 = 6 by decide), if_neg (show ¬ nI 11 = 7 by decide), if_neg (show ¬ nI 11 = 8 by decide), if_neg (show ¬ nI 11 = 9 by decide), if_neg (show ¬ nI 11 = 10 by decide), if_pos (show nI 11 = 11 from rfl)]; exact congrArg (fun z => some ((.inl z : Int32 ⊕ Nat), c)) (h.c hf (w := 11) (by decide))
theorem c_fighterx {f : Nat} (hkn : fX11_known 0 (nI f) c = some (.inl (66 + 5 + 3 * f), c)) {x : Int32} (hx : ∀ i, i < 12 → ¬ x = nI i) : fX11_fighter 0 (nI f) x c = some (.inr 0, c) := by
  unfold fX11_fighter
  rw [hkn, Option.bind_some, xbl, if_neg (show ¬ x = 0 from hx 0 (by decide)), if_neg (show ¬ x = 1 from hx 1 (by decide)), if_neg (show ¬ x = 2 from hx 2 (by decide)), if_neg (show ¬ x = 3 from hx 3 (by decide)), if_neg (show ¬ x = 4 from hx 4 (by decide)), if_neg (show ¬ x = 5 from hx 5 (by decide)), if_neg (show ¬ x = 6 from hx 6 (by decide)), if_neg (show ¬ x = 7 from hx 7 (by decide)), if_neg (show ¬ x = 8 from hx 8 (by decide)), if_neg (show ¬ x = 9 from hx 9 (by decide)), if_neg (show ¬ x = 10 from hx 10 (by decide)), if_neg (show ¬ x = 11 from hx 11 (by decide))]
theorem op_fighter (v x : Int32) : OP (fun k y => (k = 2 ∧ y = 1) ∨ (k = 0 ∧ y = 2)) (fun c => fX11_fighter 0 v x c) (fun m => fX12_fighter 362 v x m) := by
  intro c m h
  have h' := h
  obtain ⟨n, ν, h1, h2, h3, h4, -⟩ := h
  have hp : ldP m 362 13 = some 364 := h4.1.2.1
  rcases f_cases n v h2.le with ⟨f, hf, rfl⟩ | hv
  · have hkn := known_y h3.1.2.2.1 h1 h2 hf
    rcases w_cases 12 (by decide) x with ⟨w, hw, rfl⟩ | hx
    · refine ⟨.inl (ldI m 364 (4 + 12 * f + w)), c, ldI m 364 (4 + 12 * f + w), stI m 362 0 0, c_fighterv h1 (by have := h2.le; omega) hkn hw, ?_, h'.st0 0, SE.rf, MFr.s, Or.inl ⟨rfl, ldI_stI_s⟩⟩
      show fX12_fighter 362 (nI f) (nI w) m = _
      unfold fX12_fighter
      rw [isF_y hp h2 hf, Option.bind_some, show (11 : Int64) = (nI 11).toInt64 from rfl, isIn_y (by decide) (by omega), Option.bind_some, m_goesBoth, Option.bind_some]
      simp only [if_neg one0]
      rw [m_of (μ := stI m 362 0 0) hp (by have := h2.le; omega) hw rfl, Option.bind_some, ldI_stI_ne (by decide)]
    · have hB : fX12_fighter 362 (nI f) x m = some (0, stI m 362 0 2) := by
        unfold fX12_fighter
        rw [isF_y hp h2 hf, Option.bind_some, show (11 : Int64) = (nI 11).toInt64 from rfl, isIn_k (by decide) hx, Option.bind_some, m_goesBoth, Option.bind_some]
        simp only [if_neg one0, if_pos]
      exact OP.r (e := fun k y => (k = 2 ∧ y = 1) ∨ (k = 0 ∧ y = 2)) (A := fun c => fX11_fighter 0 (nI f) x c) (B := fun m => fX12_fighter 362 (nI f) x m) (k := 0) (v := 0) (c_fighterx hkn hx) hB (h'.st0 2) MFr.s (Or.inr ⟨rfl, ldI_stI_s⟩)
  · have hB : fX12_fighter 362 v x m = some (0, stI m 362 0 1) := by
      unfold fX12_fighter
      rw [isF_n hp h2 hv, Option.bind_some, show (11 : Int64) = (nI 11).toInt64 from rfl, m_isIn0, Option.bind_some, m_goesBoth, Option.bind_some]
      simp only [if_pos]
    refine OP.r (e := fun k y => (k = 2 ∧ y = 1) ∨ (k = 0 ∧ y = 2)) (A := fun c => fX11_fighter 0 v x c) (B := fun m => fX12_fighter 362 v x m) (k := 2) (v := 0) ?_ hB (h'.st0 1) MFr.s (Or.inl ⟨rfl, ldI_stI_s⟩)
    show fX11_fighter 0 v x c = _
    unfold fX11_fighter
    rw [known_n h3.1.2.2.1 h1 h2 hv, Option.bind_some, xbr]
end GET
