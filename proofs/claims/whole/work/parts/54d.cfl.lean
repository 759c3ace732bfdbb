/-! the class's Fight: the copy of a fight; the empty one -/
section CFL
variable {μ μ' : Mem} {o o2 : Nat} {σ σ' σ2 : Sg} {ν ν2 : Nat → Int64}
theorem FR.ft (h : FR μ o σ ν) {f : Nat} (hf : f < 8) : FT μ (o + 5 + 3 * f) (o + 6 + 3 * f) (o + 7 + 3 * f) (fun w => σ (4 + 12 * f + w)) (fun k => σ (100 + 6 * f + k)) (fun k => σ (148 + 6 * f + k)) (ν f) := ⟨h.pk hf, h.pa hf, h.lnk hf, h.lna hf, fun _ hw => h.c hf hw, fun _ hk => h.knd hf hk, fun _ hk => h.amt hf hk, h.nam hf⟩
theorem FR.ftN (h : FR μ o σ ν) : FT μ (o + 2) (o + 3) (o + 4) (fun _ => 0) (fun _ => 0) (fun _ => 0) 0 := ⟨h.2.1.2.2.2.1, h.2.1.2.2.2.2, (h.1.2 0 (by decide)).1, (h.1.2 0 (by decide)).2, fun _ hw => h.nob hw, fun k hk => (h.2.2.1.2.2.2 k hk).1, fun k hk => (h.2.2.1.2.2.2 k hk).2, h.2.2.1.2.2.1⟩
def mixS (σ σ2 : Sg) (j i : Nat) : Int32 := if (4 ≤ i ∧ i < 4 + 12 * j) ∨ (100 ≤ i ∧ i < 100 + 6 * j) ∨ (148 ≤ i ∧ i < 148 + 6 * j) then σ2 i else σ i
def mixN (ν ν2 : Nat → Int64) (j g : Nat) : Int64 := if g < j then ν2 g else ν g
theorem mix_step {j : Nat} (hj : j < 8) (i : Nat) : mixS σ σ2 (j + 1) i = sp_cp (mixS σ σ2 j) j (fun w => σ2 (4 + 12 * j + w)) (fun k => σ2 (100 + 6 * j + k)) (fun k => σ2 (148 + 6 * j + k)) i := by
  unfold sp_cp
  by_cases e1 : 4 + 12 * j ≤ i ∧ i < 4 + 12 * j + 12
  · rw [if_pos e1]
    unfold mixS
    rw [if_pos (Or.inl ⟨by omega, by omega⟩)]
    exact congrArg σ2 (by omega)
  rw [if_neg e1]
  by_cases e2 : 100 + 6 * j ≤ i ∧ i < 100 + 6 * j + 6
  · rw [if_pos e2]
    unfold mixS
    rw [if_pos (Or.inr (Or.inl ⟨by omega, by omega⟩))]
    exact congrArg σ2 (by omega)
  rw [if_neg e2]
  by_cases e3 : 148 + 6 * j ≤ i ∧ i < 148 + 6 * j + 6
  · rw [if_pos e3]
    unfold mixS
    rw [if_pos (Or.inr (Or.inr ⟨by omega, by omega⟩))]
    exact congrArg σ2 (by omega)
  rw [if_neg e3]
  unfold mixS
  by_cases e4 : (4 ≤ i ∧ i < 4 + 12 * j) ∨ (100 ≤ i ∧ i < 100 + 6 * j) ∨ (148 ≤ i ∧ i < 148 + 6 * j)
  · rw [if_pos e4, if_pos (by omega)]
  · rw [if_neg e4, if_neg (by omega)]
theorem mixN_step {j : Nat} (g : Nat) : mixN ν ν2 (j + 1) g = if g = j then ν2 j else mixN ν ν2 j g := by
  unfold mixN
  by_cases e : g = j
  · subst e; rw [if_pos (by omega), if_pos rfl]
  · rw [if_neg e]
    by_cases e2 : g < j
    · rw [if_pos e2, if_pos (by omega)]
    · rw [if_neg e2, if_neg (by omega)]
theorem c_copyS (h : FR μ o σ ν) (h2 : FR μ o2 σ2 ν2) (hd : o + 29 ≤ o2 ∨ o2 + 29 ≤ o) : ∃ μ', fX2_copyFrom o o2 μ = some μ' ∧ CH μ o σ2 ν2 μ' := by
  have hD : ∀ a, RG o2 a → ¬ RG o a := fun a ⟨a1, a2⟩ ⟨b1, b2⟩ => by omega
  unfold fX2_copyFrom fX2_copyFrom_11
  rw [h.p0, Option.bind_some, nm_b, h.ln]
  refine zl2_fob (N := 8) (I := fun j m => CH μ o (mixS σ σ2 j) (mixN ν ν2 j) m) (Qr := fun r => ∃ μ', r = some μ' ∧ CH μ o σ2 ν2 μ') (by decide) ⟨h.cg (fun i _ => if_neg (by omega)) (fun g _ => if_neg (by omega)), SE.rf⟩ (fun j m self hj hI => ?_) (fun m self hI => ?_)
  · have hm2 : FR m o2 σ2 ν2 := h2.out hI.2 hD
    have e1 : ¬ OF o j (o2 + 5 + 3 * j) := fun e => by unfold OF at e; omega
    have e2 : ¬ OF o j (o2 + 6 + 3 * j) := fun e => by unfold OF at e; omega
    have e3 : ¬ OF o j (o2 + 7 + 3 * j) := fun e => by unfold OF at e; omega
    obtain ⟨m2, h3, h4, h5⟩ := c_copyF hI.1 hj (hm2.ft hj) e1 e2 e3
    have q := c_at hm2 (nI j)
    rw [sp_at_nI hj] at q
    simp only [gX2_copyFrom_11, if_neg (n8 hj), gd_t (hI.1.inb hj), cl8 hj, hI.1.pf hj, Option.bind_some, nm_b, nI_1, hI.1.num hj, q, ob, h3]
    refine Or.inl ⟨m2, rfl, h4.cg (fun i _ => mix_step hj i) (fun g _ => mixN_step g), hI.2.tr (h5.mono (fun a ha => ?_))⟩
    unfold OF at ha; unfold RG; omega
  · simp only [gX2_copyFrom_11, if_pos (show nI 8 ≤ nI 8 from nI_le (Nat.le_refl _) (by decide)), nm_b]
    have hm2 : FR m o2 σ2 ν2 := h2.out hI.2 hD
    have no : o2 ≠ o := by omega
    simp only [ldI_stI_ne no]
    rw [hm2.cnt, hm2.whl, hm2.tim, hm2.trn]
    have h6 := (((hI.hd (j := 0) (v := σ2 0) (by decide)).hd (j := 1) (v := σ2 1) (by decide)).hd (j := 2) (v := σ2 2) (by decide)).hd (j := 3) (v := σ2 3) (by decide)
    refine ⟨_, rfl, h6.1.cg (fun i hi => ?_) (fun g hg => ?_), h6.2⟩
    · by_cases e3 : i = 3
      · subst e3; rw [upd_s]
      rw [upd_n e3]
      by_cases e2 : i = 2
      · subst e2; rw [upd_s]
      rw [upd_n e2]
      by_cases e1 : i = 1
      · subst e1; rw [upd_s]
      rw [upd_n e1]
      by_cases e0 : i = 0
      · subst e0; rw [upd_s]
      rw [upd_n e0]
      unfold mixS
      rw [if_pos (by omega)]
    · unfold mixN
      rw [if_pos hg]
def sp_clr (i : Nat) : Int32 := if i = 1 then 300 else 0
theorem c_clear (h : FR μ o σ ν) : ∃ μ', fX2_clear o μ = some μ' ∧ CH μ o sp_clr (fun _ => 0) μ' := by
  unfold fX2_clear fX2_clear_10
  rw [h.p0, Option.bind_some, nm_b, h.ln]
  refine zl2_fob (N := 8) (I := fun j m => CH μ o (mixS σ (fun _ => 0) j) (mixN ν (fun _ => 0) j) m) (Qr := fun r => ∃ μ', r = some μ' ∧ CH μ o sp_clr (fun _ => 0) μ') (by decide) ⟨h.cg (fun i _ => if_neg (by omega)) (fun g _ => if_neg (by omega)), SE.rf⟩ (fun j m self hj hI => ?_) (fun m self hI => ?_)
  · have e1 : ¬ OF o j (o + 2) := fun e => by unfold OF at e; omega
    have e2 : ¬ OF o j (o + 3) := fun e => by unfold OF at e; omega
    have e3 : ¬ OF o j (o + 4) := fun e => by unfold OF at e; omega
    obtain ⟨m2, h3, h4, h5⟩ := c_copyF hI.1 hj hI.1.ftN e1 e2 e3
    simp only [gX2_clear_10, if_neg (n8 hj), gd_t (hI.1.inb hj), cl8 hj, hI.1.pf hj, Option.bind_some, nm_b, nI_1, hI.1.p1, h3]
    refine Or.inl ⟨m2, rfl, h4.cg (fun i _ => mix_step hj i) (fun g _ => mixN_step g), hI.2.tr (h5.mono (fun a ha => ?_))⟩
    unfold OF at ha; unfold RG; omega
  · simp only [gX2_clear_10, if_pos (show nI 8 ≤ nI 8 from nI_le (Nat.le_refl _) (by decide)), nm_b]
    have h6 := (((hI.hd (j := 0) (v := 0) (by decide)).hd (j := 1) (v := 300) (by decide)).hd (j := 2) (v := 0) (by decide)).hd (j := 3) (v := 0) (by decide)
    refine ⟨_, rfl, h6.1.cg (fun i hi => ?_) (fun g hg => ?_), h6.2⟩
    · unfold sp_clr
      by_cases e3 : i = 3
      · subst e3; rw [upd_s]; rfl
      rw [upd_n e3]
      by_cases e2 : i = 2
      · subst e2; rw [upd_s]; rfl
      rw [upd_n e2]
      by_cases e1 : i = 1
      · subst e1; rw [upd_s]; rfl
      rw [upd_n e1, if_neg e1]
      by_cases e0 : i = 0
      · subst e0; rw [upd_s]
      rw [upd_n e0]
      unfold mixS
      rw [if_pos (by omega)]
    · unfold mixN
      rw [if_pos hg]
end CFL
