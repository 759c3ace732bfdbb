/-! a fight as a row of 196 numbers: what its questions answer and its changes do -/
abbrev Sg : Type := Nat → Int32
abbrev lvN (σ : Sg) (f : Nat) : Prop := 0 < σ (4 + 12 * f + 2)
def sp_cnt (σ : Sg) : Nat → Int32
  | 0 => 0
  | j + 1 => if lvN σ j then sp_cnt σ j + 1 else sp_cnt σ j
def sp_spd (σ : Sg) : Nat → Int32
  | 0 => 0
  | j + 1 => if lvN σ j then sp_spd σ j + σ (4 + 12 * j + 1) else sp_spd σ j
def sp_sl (σ : Sg) (sd : Int32) : Nat → Int32
  | 0 => 0
  | j + 1 => if σ (4 + 12 * j) = sd then sp_sl σ sd j + σ (4 + 12 * j + 2) else sp_sl σ sd j
def sp_any (σ : Sg) (sd : Int32) : Nat → Bool
  | 0 => false
  | j + 1 => sp_any σ sd j || (decide (lvN σ j) && decide (σ (4 + 12 * j) = sd))
def sp_over (σ : Sg) : Bool := !(sp_any σ 0 8) || !(sp_any σ 1 8)
def sp_won (σ : Sg) : Int32 := if sp_any σ 0 8 = sp_any σ 1 8 then -1 else if sp_any σ 0 8 = true then 0 else 1
/-- the first for which c holds -/
def sp_first (c : Nat → Bool) : Nat → Option Nat
  | 0 => none
  | j + 1 => match sp_first c j with
    | some f => some f
    | none => if c j then some j else none
/-- the best for which c holds, t: the newer is better -/
def sp_best (c : Nat → Bool) (t : Nat → Nat → Bool) : Nat → Option Nat
  | 0 => none
  | j + 1 => if c j && (match sp_best c t j with
    | none => true
    | some b => t j b) then some j else sp_best c t j
def fx_c (σ : Sg) (f : Nat) : Bool := decide (lvN σ f) && decide (0 < σ (4 + 12 * f + 6))
def sp_fx (σ : Sg) : Option Nat := sp_first (fx_c σ) 8
def rd_c (σ : Sg) (f : Nat) : Bool := decide (lvN σ f) && decide (σ 1 ≤ σ (4 + 12 * f + 4))
def rd_t (σ : Sg) (f b : Nat) : Bool := decide (σ (4 + 12 * b + 4) < σ (4 + 12 * f + 4)) || (decide (σ (4 + 12 * f + 4) = σ (4 + 12 * b + 4)) && decide (σ (4 + 12 * b + 3) < σ (4 + 12 * f + 3)))
def sp_rd (σ : Sg) : Option Nat := sp_best (rd_c σ) (rd_t σ) 8
def sd_c (σ : Sg) (sd : Int32) (f : Nat) : Bool := decide (lvN σ f) && decide (σ (4 + 12 * f) = sd)
def sp_weak (σ : Sg) (sd : Int32) : Option Nat := sp_best (sd_c σ sd) (fun f b => decide (σ (4 + 12 * f + 2) < σ (4 + 12 * b + 2))) 8
def sp_full (σ : Sg) (sd : Int32) : Option Nat := sp_best (sd_c σ sd) (fun f b => decide (σ (4 + 12 * b + 4) < σ (4 + 12 * f + 4))) 8
def sp_lift (σ : Sg) (who : Nat) : Option Nat := sp_best (fun f => decide (f ≠ who) && sd_c σ (σ (4 + 12 * who)) f) (fun f b => decide (σ (4 + 12 * f + 4) < σ (4 + 12 * b + 4))) 8
def sp_tk (σ : Sg) (f : Nat) : Int32 := if σ 1 ≤ σ (4 + 12 * f + 4) then 0 else (σ 1 - σ (4 + 12 * f + 4) + σ (4 + 12 * f + 1) - 1) / σ (4 + 12 * f + 1)
def sp_lt (σ : Sg) : Nat → Int32
  | 0 => 999
  | j + 1 => if lvN σ j then jmin (sp_lt σ j) (sp_tk σ j) else sp_lt σ j
def sp_pass (σ : Sg) (t : Int32) : Nat → Sg
  | 0 => upd σ 2 (σ 2 + t)
  | j + 1 => if lvN (sp_pass σ t j) j then upd (sp_pass σ t j) (4 + 12 * j + 4) (sp_pass σ t j (4 + 12 * j + 4) + t * sp_pass σ t j (4 + 12 * j + 1)) else sp_pass σ t j
/-- who is next, and what is behind the ticks that it takes -/
def sp_next (σ : Sg) : Option Nat × Sg := if sp_over σ then (none, σ) else match sp_fx σ with
  | some f => (some f, σ)
  | none => (sp_rd (sp_pass σ (sp_lt σ 8) 8), sp_pass σ (sp_lt σ 8) 8)
def sp_hit (σ : Sg) (w f : Nat) (n : Int32) : Sg :=
  let loss := jmin (jmax (n - σ (4 + 12 * f + 5)) 0) (σ (4 + 12 * f + 2))
  let σ1 := upd σ (4 + 12 * f + 2) (σ (4 + 12 * f + 2) - loss)
  let σ2 := if σ1 (4 + 12 * f + 2) = 0 then upd (upd (upd σ1 (4 + 12 * f + 4) 0) (4 + 12 * f + 5) 0) (4 + 12 * f + 6) 0 else σ1
  upd σ2 (4 + 12 * w + 11) (σ (4 + 12 * w + 11) + loss)
def sp_lower (σ : Sg) (f : Nat) (n : Int32) : Sg := upd σ (4 + 12 * f + 4) (jmax (σ (4 + 12 * f + 4) - n) 0)
def sp_raise (σ : Sg) (f : Nat) (n : Int32) : Sg := upd σ (4 + 12 * f + 4) (jmin (σ (4 + 12 * f + 4) + n) 9999)
def sp_heal (σ : Sg) (f : Nat) (n : Int32) : Sg := upd σ (4 + 12 * f + 2) (jmin (σ (4 + 12 * f + 2) + n) 999)
def sp_xtr (σ : Sg) (f : Nat) (n : Int32) : Sg := upd σ (4 + 12 * f + 6) (jmin (σ (4 + 12 * f + 6) + n) 3)
/-- the act of kind k with the number n; w does it -/
def sp_act (σ : Sg) (w : Nat) (k n : Int32) : Sg :=
  if k = 0 then (match sp_weak σ (1 - σ (4 + 12 * w)) with
    | some f => sp_hit σ w f n
    | none => σ)
  else if k = 1 then (match sp_full σ (1 - σ (4 + 12 * w)) with
    | some f => sp_lower σ f n
    | none => σ)
  else if k = 2 then (match sp_lift σ w with
    | some f => sp_raise σ f n
    | none => σ)
  else if k = 3 then upd σ (4 + 12 * w + 5) n
  else if k = 4 then sp_xtr σ w n
  else if k = 5 then upd σ (4 + 12 * w + 1) n
  else if k = 6 then sp_heal σ w n
  else σ
/-- ahead of the act -/
def sp_pre (σ : Sg) (w : Nat) : Sg :=
  let σ1 := upd σ 3 (σ 3 + 1)
  let σ2 := upd σ1 (4 + 12 * w + 9) (σ (4 + 12 * w + 9) + 1)
  let σ3 := if 0 < σ (4 + 12 * w + 6) then upd (upd σ2 (4 + 12 * w + 6) (σ (4 + 12 * w + 6) - 1)) (4 + 12 * w + 10) (σ (4 + 12 * w + 10) + 1) else upd σ2 (4 + 12 * w + 4) (σ (4 + 12 * w + 4) - σ 1)
  upd σ3 (4 + 12 * w + 5) 0
def sp_kind (σ : Sg) (w : Nat) : Int32 := σ (100 + 6 * w + (σ (4 + 12 * w + 7)).toNatClampNeg)
def sp_num (σ : Sg) (w : Nat) : Int32 := σ (148 + 6 * w + (σ (4 + 12 * w + 7)).toNatClampNeg)
def sp_take (σ : Sg) (w : Nat) : Sg :=
  let σ4 := sp_act (sp_pre σ w) w (sp_kind σ w) (sp_num σ w)
  upd σ4 (4 + 12 * w + 7) (if σ (4 + 12 * w + 7) + 1 < σ (4 + 12 * w + 8) then σ (4 + 12 * w + 7) + 1 else 0)
/-- so many turns, or as many as there are: how many, and what is then -/
def sp_play : Nat → Sg → Nat × Sg
  | 0, σ => (0, σ)
  | k + 1, σ => match sp_next σ with
    | (none, σ1) => (0, σ1)
    | (some w, σ1) => ((sp_play k (sp_take σ1 w)).1 + 1, (sp_play k (sp_take σ1 w)).2)
/-- what a fight's numbers keep to -/
def bd (lo hi : Nat) (x : Int32) : Prop := ∃ a : Nat, lo ≤ a ∧ a ≤ hi ∧ x = nI a
def okC (w : Nat) (x : Int32) : Prop := w < 7 → bd (if w = 1 then 1 else 0) ([1, 99, 999, 9, 9999, 99, 3].getD w 0) x
def okP (σ : Sg) (f : Nat) : Prop := ∃ p a : Nat, σ (4 + 12 * f + 7) = nI p ∧ σ (4 + 12 * f + 8) = nI a ∧ p < a ∧ a ≤ 6 ∧ ∀ k, k < a → ∃ q m : Nat, σ (100 + 6 * f + k) = nI q ∧ σ (148 + 6 * f + k) = nI m ∧ q ≤ 6 ∧ 1 ≤ m ∧ m ≤ 999 ∧ (q = 3 ∨ q = 5 → m ≤ 99)
def okF (σ : Sg) (f : Nat) : Prop := (∀ w, w < 12 → okC w (σ (4 + 12 * f + w))) ∧ okP σ f
def okN (n : Nat) (σ : Sg) : Prop := n ≤ 8 ∧ σ 0 = nI n ∧ bd 100 999 (σ 1) ∧ (∀ f, f < n → okF σ f) ∧ ∀ f, n ≤ f → f < 8 → ∀ w, w < 12 → σ (4 + 12 * f + w) = 0
def okS (σ : Sg) : Prop := ∃ n, okN n σ
