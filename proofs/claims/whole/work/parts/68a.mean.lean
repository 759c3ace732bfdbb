/-! the law: the mean speed, the share -/
section MEAN
variable {c c' m m' : Mem} {n : Nat} {ν : Nat → Int64} {σ : Sg}
/-- a call that looks only, whatever it answers -/
def OPv {α : Type} (A : Mem → Option α) (B : Mem → Option (α × Mem)) (P : α → Prop) : Prop := ∀ c m, INV c m → ∃ v m', A c = some v ∧ B m = some (v, m') ∧ P v ∧ INV c m' ∧ MFr m m'
theorem spd_bd (h : okN n σ) : ∀ j, j ≤ n → ∃ a, a ≤ 99 * j ∧ sp_spd σ j = nI a := by
  intro j
  induction j with
  | zero => intro _; exact ⟨0, by decide, rfl⟩
  | succ j ih =>
    intro hj
    obtain ⟨a, a1, a2⟩ := ih (by omega)
    obtain ⟨s, -, s1, s2⟩ := h.spd (f := j) (by omega)
    rw [sp_spd]
    by_cases e : lvN σ j
    · rw [if_pos e, a2, s2, nI_add]; exact ⟨a + s, by omega, rfl⟩
    · rw [if_neg e, a2]; exact ⟨a, by omega, rfl⟩
theorem cnt_bd : ∀ j, ∃ a, a ≤ j ∧ sp_cnt σ j = nI a := by
  intro j
  induction j with
  | zero => exact ⟨0, Nat.le_refl _, rfl⟩
  | succ j ih =>
    obtain ⟨a, a1, a2⟩ := ih
    rw [sp_cnt]
    by_cases e : lvN σ j
    · rw [if_pos e, a2, nI_1]; exact ⟨a + 1, by omega, rfl⟩
    · rw [if_neg e, a2]; exact ⟨a, by omega, rfl⟩
theorem m_living (hp : ldP m 362 13 = some 364) (h : okN n (ldI m 364)) : fX12_living 362 m = some (sp_cnt (ldI m 364) 8) := by
  unfold fX12_living
  rw [m_livingOn hp h, Option.bind_some, m_livingOn hp h, Option.bind_some, cnt_lo8 h]
theorem m_speeds (hp : ldP m 362 13 = some 364) (h : okN n (ldI m 364)) {v : UInt64} (hv : (if sp_cnt (ldI m 364) 8 = 0 then some (FP.dconst0, m) else gd (nn64 (FP.ddiv (FP.i2d (sp_spd (ldI m 364) 8)) (FP.i2d (sp_cnt (ldI m 364) 8)))) (some (FP.ddiv (FP.i2d (sp_spd (ldI m 364) 8)) (FP.i2d (sp_cnt (ldI m 364) 8)), m))) = some (v, m)) : fX12_meanSpeed_9 362 0 0 m = some (v, m) := by
  have hn := h.le
  have he : sp_spd (ldI m 364) 8 = sp_spd (ldI m 364) n := spd_ext 8 hn h.dead
  unfold fX12_meanSpeed_9
  refine zl3_fom (N := n) (I := fun j a μ => a = sp_spd (ldI m 364) j ∧ μ = m) (Qr := fun r => r = some (v, m)) (by omega) ⟨rfl, rfl⟩ (fun j a μ self hj hI => ?_) (fun a μ self hI => ?_)
  · obtain ⟨h1, h2⟩ := hI
    subst h1 h2
    left
    unfold gX12_meanSpeed_9
    rw [hp, Option.bind_some, ln364, gd_t (by decide), show ((0 : Int32)).toNatClampNeg = 0 from rfl, h.2.1, if_neg (nI_ge hj (by omega)), m_lives hp (by omega), Option.bind_some]
    by_cases e : lvN (ldI μ 364) j
    · refine ⟨_, _, ?_, by rw [sp_spd, if_pos e], rfl⟩
      rw [if_pos e, if_neg one0, m_of hp (by omega) (w := 1) (W := 1) (by decide) rfl, Option.bind_some, nm_b, nm_b, nI_1]
    · refine ⟨_, _, ?_, by rw [sp_spd, if_neg e], rfl⟩
      rw [if_neg e, if_pos rfl, nm_b, nm_b, nI_1, Int32.add_zero]
  · obtain ⟨h1, h2⟩ := hI
    subst h1 h2
    unfold gX12_meanSpeed_9
    rw [hp, Option.bind_some, ln364, gd_t (by decide), show ((0 : Int32)).toNatClampNeg = 0 from rfl, h.2.1, if_pos (nI_le (Nat.le_refl _) (by omega)), m_living hp h, Option.bind_some, Option.bind_some, ← he]
    exact hv
theorem op_meanSpeed : OPv (fX11_meanSpeed 0) (fX12_meanSpeed 362) (fun _ => True) := by
  intro c m h
  have h' := h
  obtain ⟨n, ν, h1, h2, h3, h4, -⟩ := h
  have hp : ldP m 362 13 = some 364 := h4.1.2.1
  obtain ⟨b, b1, b2⟩ := cnt_bd (σ := ldI m 364) 8
  obtain ⟨a, a1, a2⟩ := spd_bd h2 n (Nat.le_refl _)
  rw [← spd_ext 8 h2.le h2.dead] at a2
  have hn := h2.le
  have key : ∀ v, (b = 0 → v = FP.dconst0) → (¬ b = 0 → nn64 (FP.ddiv (FP.i2d (nI a)) (FP.i2d (nI b))) = true ∧ v = FP.ddiv (FP.i2d (nI a)) (FP.i2d (nI b))) → ∃ v m', fX11_meanSpeed 0 c = some v ∧ fX12_meanSpeed 362 m = some (v, m') ∧ True ∧ INV c m' ∧ MFr m m' := by
    intro v v0 v1
    refine ⟨v, stI m 362 0 0, ?_, ?_, trivial, h'.st0 0, MFr.s⟩
    · unfold fX11_meanSpeed
      rw [h3.1.2.2.1, Option.bind_some, c_living h1, Option.bind_some, b2]
      by_cases e : b = 0
      · rw [e, if_pos (show nI 0 ≤ 0 by decide), v0 e]
      · rw [if_neg (nI_nle (by omega) (by omega)), Option.bind_some, c_speeds h1, Option.bind_some, a2, gd_t (v1 e).1, (v1 e).2]
    · unfold fX12_meanSpeed
      rw [nm_b]
      refine m_speeds (m := stI m 362 0 0) hp (by rw [r0]; exact h2) ?_
      rw [r0, b2, a2]
      by_cases e : b = 0
      · rw [e, if_pos (show nI 0 = 0 from rfl), v0 e]
      · rw [if_neg (nI_ne0 (by omega) (by omega)), gd_t (v1 e).1, (v1 e).2]
  by_cases e : b = 0
  · exact key _ (fun _ => rfl) (fun q => absurd e q)
  · exact key _ (fun q => absurd q e) (fun _ => ⟨nn64_div (d_num a (by omega)) ((d_den b (by omega)).resolve_left e), rfl⟩)
theorem op_share : OPv (fX11_share 0) (fX12_share 362) (fun v => nn32 v = true) := by
  intro c m h
  have h' := h
  obtain ⟨n, ν, h1, h2, h3, h4, -⟩ := h
  have hp : ldP m 362 13 = some 364 := h4.1.2.1
  obtain ⟨a, a1, a2⟩ := sl_bd h2 (sd := 0) 8 (Nat.le_refl _)
  obtain ⟨b, b1, b2⟩ := sl_bd h2 (sd := 1) 8 (Nat.le_refl _)
  have key : ∀ v, nn32 v = true → (a + b = 0 → v = FP.fconst0) → (¬ a + b = 0 → nn32 (FP.fdiv (FP.i2f (nI a)) (FP.i2f (nI (a + b)))) = true ∧ v = FP.fdiv (FP.i2f (nI a)) (FP.i2f (nI (a + b)))) → ∃ v m', fX11_share 0 c = some v ∧ fX12_share 362 m = some (v, m') ∧ nn32 v = true ∧ INV c m' ∧ MFr m m' := by
    intro v hv v0 v1
    refine ⟨v, stI m 362 0 0, ?_, ?_, hv, h'.st0 0, MFr.s⟩
    · unfold fX11_share
      rw [h3.1.2.2.1, Option.bind_some, c_sideLife h1, Option.bind_some, Option.bind_some, c_sideLife h1, Option.bind_some, nm_b, a2, b2, nI_add]
      by_cases e : a + b = 0
      · rw [e, if_pos (show nI 0 ≤ 0 by decide), v0 e]
      · rw [if_neg (nI_nle (by omega) (by omega)), gd_t (v1 e).1, (v1 e).2]
    · unfold fX12_share
      have hl : ∀ sd, fX12_lifeOn 362 sd (stI m 362 0 0) = some (sp_sl (ldI m 364) sd 8) := fun sd => by
        rw [m_lifeOn (μ := stI m 362 0 0) hp (by rw [r0]; exact h2), r0]
      rw [nm_b, hl, Option.bind_some, hl, Option.bind_some, nm_b, Option.bind_some, a2, b2, nI_add]
      by_cases e : a + b = 0
      · rw [e, if_pos (show nI 0 = 0 from rfl), v0 e]
      · rw [if_neg (nI_ne0 (by omega) (by omega)), gd_t (v1 e).1, (v1 e).2]
  by_cases e : a + b = 0
  · exact key _ (show nn32 FP.fconst0 = true by decide) (fun _ => rfl) (fun q => absurd e q)
  · have hd := nn32_div (f_num (a := a) (by omega)) (f_den (a := a + b) (by omega) e)
    exact key _ hd (fun q => absurd q e) (fun _ => ⟨hd, rfl⟩)
end MEAN
