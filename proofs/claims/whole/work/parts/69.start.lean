/-! the start: what the constructors leave -/
def zs1 : Option (Mem × Nat × Nat × Nat) := fX11_init 0 1 0 0 (clr muZ 0)
def zA : Mem := match zs1 with | some r => r.1 | none => muZ
def zs2 : Option (Mem × Nat × Nat × Nat) := fX12_init 362 363 0 0 (clr zA 362)
def zB : Mem := match zs2 with | some r => r.1 | none => muZ
def zC : Mem := clr zB 381
theorem zs1_k : zs1.map (fun r => r.2) = some (362, 361, 5496) := by decide +kernel
theorem zs2_k : zs2.map (fun r => r.2) = some (381, 18, 12736) := by decide +kernel
theorem zA_e : fX11_init 0 1 0 0 (clr muZ 0) = some (zA, 362, 361, 5496) := by
  have h := zs1_k
  unfold zA
  show zs1 = _
  cases e : zs1 with
  | none => rw [e] at h; cases h
  | some r =>
    rw [e] at h
    have h2 : r.2 = (362, 361, 5496) := Option.some.inj h
    show some r = some (r.1, 362, 361, 5496)
    rw [← h2]
theorem zB_e : fX12_init 362 363 0 0 (clr zA 362) = some (zB, 381, 18, 12736) := by
  have h := zs2_k
  unfold zB
  show zs2 = _
  cases e : zs2 with
  | none => rw [e] at h; cases h
  | some r =>
    rw [e] at h
    have h2 : r.2 = (381, 18, 12736) := Option.some.inj h
    show some r = some (r.1, 381, 18, 12736)
    rw [← h2]
theorem z_row : ∀ i, i < 196 → ldI zC 364 i = sp_clr i := by decide +kernel
theorem z_mp : MPt zC := by
  unfold MPt PRw
  decide +kernel
theorem z_m : ldI zC 362 2 = 0 ∧ ldI zC 362 21 = 0 ∧ ldI zC 362 22 = 0 ∧ ldI zC 362 41 = 0 := by decide +kernel
theorem z_c : ldI zC 0 8 = 0 ∧ ldI zC 184 1 = 0 ∧ ldI zC 1 1 = 0 ∧ ldI zC 360 1 = 0 ∧ ldI zC 1 2 = ldI zC 362 10 ∧ ldI zC 1 3 = ldI zC 362 11 := by decide +kernel
theorem z_cp : (ldP zC 0 0 = some 1 ∧ ldP zC 0 1 = some 3 ∧ ldP zC 0 2 = some 66 ∧ ldP zC 0 3 = some 95 ∧ ldP zC 0 4 = some 124 ∧ ldP zC 0 5 = some 153 ∧ ldP zC 0 6 = some 184 ∧ ldP zC 0 7 = some 360) ∧ ldP zC 1 0 = some 2 ∧ PC zC ∧ (ldP zC 153 0 = some 154 ∧ ldP zC 153 1 = some 183) ∧ ldP zC 184 0 = some 185 ∧ ldP zC 360 0 = some 361 := by
  unfold PC
  decide +kernel
theorem z_hp : ∀ i, i < 6 → ldP zC 185 i = some (186 + 29 * i) := by decide +kernel
