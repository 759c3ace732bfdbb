/-! what would be best: what is asked, and the class's -/
def sp_least (c : Nat → Bool) : Nat → Nat → Option Nat
  | 0, _ => none
  | k + 1, v => if c v = true then some v else sp_least c k (v + 1)
/-- the first of the greatest above a base, of those for which c holds -/
def sp_mx (c : Nat → Bool) (val : Nat → Int32) (base : Int32) : Nat → Option Nat × Int32
  | 0 => (none, base)
  | j + 1 => if c j = true ∧ (sp_mx c val base j).2 < val j then (some j, val j) else sp_mx c val base j
theorem mx_take {c : Nat → Bool} {val : Nat → Int32} {base : Int32} {j : Nat} (h : c j = true) (h2 : (sp_mx c val base j).2 < val j) : sp_mx c val base (j + 1) = (some j, val j) := by
  rw [sp_mx, if_pos ⟨h, h2⟩]
theorem mx_skip {c : Nat → Bool} {val : Nat → Int32} {base : Int32} {j : Nat} (h : ¬ (c j = true ∧ (sp_mx c val base j).2 < val j)) : sp_mx c val base (j + 1) = sp_mx c val base j := by
  rw [sp_mx, if_neg h]
theorem mx_lt {c : Nat → Bool} {val : Nat → Int32} {base : Int32} : ∀ {j f : Nat}, (sp_mx c val base j).1 = some f → f < j ∧ c f = true ∧ (sp_mx c val base j).2 = val f := by
  intro j
  induction j with
  | zero => intro f h; cases h
  | succ j ih =>
    intro f h
    by_cases e : c j = true ∧ (sp_mx c val base j).2 < val j
    · rw [mx_take e.1 e.2] at h ⊢; cases h; exact ⟨by omega, e.1, rfl⟩
    · rw [mx_skip e] at h ⊢; have := ih h; exact ⟨by omega, this.2⟩
theorem mx_none {c : Nat → Bool} {val : Nat → Int32} {base : Int32} : ∀ {j : Nat}, (sp_mx c val base j).1 = none → (sp_mx c val base j).2 = base := by
  intro j
  induction j with
  | zero => intro _; rfl
  | succ j ih =>
    intro h
    by_cases e : c j = true ∧ (sp_mx c val base j).2 < val j
    · rw [mx_take e.1 e.2] at h; cases h
    · rw [mx_skip e] at h ⊢; exact ih h
theorem mx_ext {c : Nat → Bool} {val : Nat → Int32} {base : Int32} {n : Nat} : ∀ m, n ≤ m → (∀ f, n ≤ f → f < m → c f = false) → sp_mx c val base m = sp_mx c val base n := by
  intro m
  induction m with
  | zero => intro h _; rw [show n = 0 by omega]
  | succ m ih =>
    intro h h2
    by_cases e : n = m + 1
    · rw [e]
    · rw [← ih (by omega) (fun f h3 h4 => h2 f h3 (by omega))]
      exact mx_skip (fun h3 => by rw [h2 m (by omega) (by omega)] at h3; exact absurd h3.1 (by decide))
/-- with a speed, the side wins -/
def ls_c (σ : Sg) (f v : Nat) : Bool := decide (sp_won (sp_play 200 (upd σ (4 + 12 * f + 1) (nI v))).2 = σ (4 + 12 * f))
def sp_ls (σ : Sg) (f : Nat) : Option Nat := sp_least (ls_c σ f) 99 1
def vPush (σ : Sg) (sd by' : Int32) (j : Nat) : Int32 := sp_sl (sp_play 20 (sp_lower σ j by')).2 sd 8
def cPush (σ : Sg) (sd : Int32) (j : Nat) : Bool := decide (lvN σ j) && !decide (σ (4 + 12 * j) = sd)
def swp (σ : Sg) (f j : Nat) : Sg := upd (upd σ (4 + 12 * f + 4) (σ (4 + 12 * j + 4))) (4 + 12 * j + 4) (σ (4 + 12 * f + 4))
def vSwap (σ : Sg) (f j : Nat) : Int32 := sp_sl (sp_play 20 (swp σ f j)).2 (σ (4 + 12 * f)) 8
def cSwap (σ : Sg) (f j : Nat) : Bool := decide (j ≠ f) && sd_c σ (σ (4 + 12 * f)) j
def vPlace (σ : Sg) (f i : Nat) : Int32 := sp_sl (sp_play 20 (upd σ (4 + 12 * f + 7) (nI i))).2 (σ (4 + 12 * f)) 8
def sp_bp (σ : Sg) (sd by' : Int32) : Option Nat := (sp_mx (cPush σ sd) (vPush σ sd by') (-1) 8).1
def sp_bs (σ : Sg) (f : Nat) : Option Nat := (sp_mx (cSwap σ f) (vSwap σ f) (sp_sl (sp_play 20 σ).2 (σ (4 + 12 * f)) 8) 8).1
def sp_bl (σ : Sg) (f a : Nat) : Option Nat := (sp_mx (fun _ => true) (vPlace σ f) (-1) a).1
theorem sl_bd {σ : Sg} {n : Nat} (h : okN n σ) {sd : Int32} : ∀ j, j ≤ 8 → ∃ a : Nat, a ≤ 999 * j ∧ sp_sl σ sd j = nI a := by
  intro j
  induction j with
  | zero => intro _; exact ⟨0, by decide, rfl⟩
  | succ j ih =>
    intro hj
    obtain ⟨a, h1, h2⟩ := ih (by omega)
    by_cases e : σ (4 + 12 * j) = sd
    · obtain ⟨x, y, z, u, v, w, q1, -, -, -, -, -, b1, -⟩ := h.lks (f := j) (by omega)
      exact ⟨a + x, by omega, by rw [sp_sl, if_pos e, h2, q1, nI_add]⟩
    · exact ⟨a, by omega, by rw [sp_sl, if_neg e, h2]⟩
theorem sl_pos {σ : Sg} {n : Nat} (h : okN n σ) {sd : Int32} : (-1 : Int32) < sp_sl σ sd 8 := by
  obtain ⟨a, h1, h2⟩ := sl_bd h (sd := sd) 8 (Nat.le_refl _)
  rw [h2, i32_lt, nI_toInt (by omega)]
  have : ((-1 : Int32)).toInt = -1 := rfl
  omega
theorem okC_spd {v : Nat} (h1 : 1 ≤ v) (h2 : v ≤ 99) : okC 1 (nI v) := fun _ => ⟨v, h1, h2, rfl⟩
theorem okN.ls {σ : Sg} {n f v : Nat} (h : okN n σ) (hf : f < n) (h1 : 1 ≤ v) (h2 : v ≤ 99) : okN n (upd σ (4 + 12 * f + 1) (nI v)) := h.set hf (w := 1) (by decide) (by decide) (by decide) (okC_spd h1 h2)
theorem okC_gau {g : Nat} (h2 : g ≤ 9999) : okC 4 (nI g) := fun _ => ⟨g, Nat.zero_le _, h2, rfl⟩
theorem okN.swq {σ : Sg} {n f j : Nat} (h : okN n σ) (hf : f < n) (hj : j < n) : okN n (swp σ f j) := by
  obtain ⟨a, -, a2, a3⟩ := h.gau hf
  obtain ⟨b, -, b2, b3⟩ := h.gau hj
  unfold swp
  rw [a3, b3]
  exact (h.set hf (w := 4) (by decide) (by decide) (by decide) (okC_gau b2)).set hj (w := 4) (by decide) (by decide) (by decide) (okC_gau a2)
theorem okN.pl {σ : Sg} {n f i a : Nat} (h : okN n σ) (hf : f < n) (ha : σ (4 + 12 * f + 8) = nI a) (ha6 : a ≤ 6) (hi : i < a) : okN n (upd σ (4 + 12 * f + 7) (nI i)) := h.plc hf ha ha6 hi
theorem swp_self {σ : Sg} {f : Nat} : swp σ f f = σ := by
  unfold swp
  rw [upd_self (f := σ) rfl, upd_self rfl]
