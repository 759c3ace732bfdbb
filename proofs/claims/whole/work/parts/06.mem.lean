/-! THE MEMORY: ints, longs and references by the object's place and the field (or element); what the heap holds of it -/
abbrev Mem : Type := (Nat → Nat → Int32) × (Nat → Nat → Int64) × (Nat → Nat → Option Nat)
def ldI (μ : Mem) (o k : Nat) : Int32 := μ.1 o k
def ldJ (μ : Mem) (o k : Nat) : Int64 := μ.2.1 o k
def ldP (μ : Mem) (o k : Nat) : Option Nat := μ.2.2 o k
def stI (μ : Mem) (o k : Nat) (v : Int32) : Mem := (fun a b => if a = o ∧ b = k then v else μ.1 a b, μ.2.1, μ.2.2)
def stJ (μ : Mem) (o k : Nat) (v : Int64) : Mem := (μ.1, fun a b => if a = o ∧ b = k then v else μ.2.1 a b, μ.2.2)
def stP (μ : Mem) (o k : Nat) (v : Option Nat) : Mem := (μ.1, μ.2.1, fun a b => if a = o ∧ b = k then v else μ.2.2 a b)
def zb (v : Int32) : Prop := v = 0 ∨ v = 1
-- kinds: 0 Command 1 Fight 2 Fighter 3 Forecast 4 History 5 Script 6 Sheet 7 Tokens 8 TurnWheel 9 TurnWheelModel 10 byte[] 11 int[] 12 long[] 13 Command[] 14 Fight[] 15 Fighter[]
def FL (c : Nat) : Nat := [6, 6, 16, 4, 2, 5, 2, 11, 9, 42].getD c 0
def FTt : List (List Nat) := [[0, 0, 0, 0, 0, 0], [2, 2, 0, 0, 0, 0], [0, 2, 2, 0, 1, 0, 0, 0, 0, 0, 0, 0, 0, 0, 0, 0], [2, 2, 0, 0], [2, 0], [2, 2, 0, 0, 0], [2, 0], [2, 0, 0, 0, 0, 0, 0, 0, 1, 0, 0], [2, 2, 2, 2, 2, 2, 2, 2, 3], [0, 2, 0, 0, 0, 0, 0, 0, 0, 0, 0, 0, 1, 2, 2, 2, 2, 2, 2, 2, 2, 0, 3, 3, 0, 0, 2, 0, 0, 2, 2, 2, 2, 2, 2, 2, 0, 0, 0, 2, 0, 3]]
def FTy (c k : Nat) : Nat := (FTt.getD c []).getD k 0
def tgt : List (List Nat) := [[0, 0, 0, 0, 0, 0], [15, 2, 0, 0, 0, 0], [0, 11, 11, 0, 0, 0, 0, 0, 0, 0, 0, 0, 0, 0, 0, 0], [1, 12, 0, 0], [14, 0], [13, 11, 0, 0, 0], [10, 0], [10, 0, 0, 0, 0, 0, 0, 0, 0, 0, 0], [7, 5, 1, 1, 1, 3, 4, 6, 0], [0, 11, 0, 0, 0, 0, 0, 0, 0, 0, 0, 0, 0, 11, 11, 11, 11, 11, 12, 12, 12, 0, 0, 0, 0, 0, 11, 0, 0, 11, 11, 11, 11, 11, 11, 11, 0, 0, 0, 11, 0, 0]]
def tg (c k : Nat) : Nat := match c with
  | 13 => 0
  | 14 => 1
  | 15 => 2
  | _ => (tgt.getD c []).getD k 0
def kdL : List Nat := [8, 7, 10, 5, 13, 11, 0, 0, 0, 0, 0, 0, 0, 0, 0, 0, 0, 0, 0, 0, 0, 0, 0, 0, 0, 0, 0, 0, 0, 0, 0, 0, 0, 0, 0, 0, 0, 0, 0, 0, 0, 0, 0, 0, 0, 0, 0, 0, 0, 0, 0, 0, 0, 0, 0, 0, 0, 0, 0, 0, 0, 0, 0, 0, 0, 0, 1, 15, 2, 11, 11, 2, 11, 11, 2, 11, 11, 2, 11, 11, 2, 11, 11, 2, 11, 11, 2, 11, 11, 2, 11, 11, 2, 11, 11, 1, 15, 2, 11, 11, 2, 11, 11, 2, 11, 11, 2, 11, 11, 2, 11, 11, 2, 11, 11, 2, 11, 11, 2, 11, 11, 2, 11, 11, 1, 15, 2, 11, 11, 2, 11, 11, 2, 11, 11, 2, 11, 11, 2, 11, 11, 2, 11, 11, 2, 11, 11, 2, 11, 11, 2, 11, 11, 3, 1, 15, 2, 11, 11, 2, 11, 11, 2, 11, 11, 2, 11, 11, 2, 11, 11, 2, 11, 11, 2, 11, 11, 2, 11, 11, 2, 11, 11, 12, 4, 14, 1, 15, 2, 11, 11, 2, 11, 11, 2, 11, 11, 2, 11, 11, 2, 11, 11, 2, 11, 11, 2, 11, 11, 2, 11, 11, 2, 11, 11, 1, 15, 2, 11, 11, 2, 11, 11, 2, 11, 11, 2, 11, 11, 2, 11, 11, 2, 11, 11, 2, 11, 11, 2, 11, 11, 2, 11, 11, 1, 15, 2, 11, 11, 2, 11, 11, 2, 11, 11, 2, 11, 11, 2, 11, 11, 2, 11, 11, 2, 11, 11, 2, 11, 11, 2, 11, 11, 1, 15, 2, 11, 11, 2, 11, 11, 2, 11, 11, 2, 11, 11, 2, 11, 11, 2, 11, 11, 2, 11, 11, 2, 11, 11, 2, 11, 11, 1, 15, 2, 11, 11, 2, 11, 11, 2, 11, 11, 2, 11, 11, 2, 11, 11, 2, 11, 11, 2, 11, 11, 2, 11, 11, 2, 11, 11, 1, 15, 2, 11, 11, 2, 11, 11, 2, 11, 11, 2, 11, 11, 2, 11, 11, 2, 11, 11, 2, 11, 11, 2, 11, 11, 2, 11, 11, 6, 10, 9, 11, 11, 11, 11, 11, 11, 12, 12, 12, 11, 11, 11, 11, 11, 11, 11, 11, 11, 12]
def lnL : List Nat := [0, 0, 600, 0, 60, 2, 0, 0, 0, 0, 0, 0, 0, 0, 0, 0, 0, 0, 0, 0, 0, 0, 0, 0, 0, 0, 0, 0, 0, 0, 0, 0, 0, 0, 0, 0, 0, 0, 0, 0, 0, 0, 0, 0, 0, 0, 0, 0, 0, 0, 0, 0, 0, 0, 0, 0, 0, 0, 0, 0, 0, 0, 0, 0, 0, 0, 0, 8, 0, 6, 6, 0, 6, 6, 0, 6, 6, 0, 6, 6, 0, 6, 6, 0, 6, 6, 0, 6, 6, 0, 6, 6, 0, 6, 6, 0, 8, 0, 6, 6, 0, 6, 6, 0, 6, 6, 0, 6, 6, 0, 6, 6, 0, 6, 6, 0, 6, 6, 0, 6, 6, 0, 6, 6, 0, 8, 0, 6, 6, 0, 6, 6, 0, 6, 6, 0, 6, 6, 0, 6, 6, 0, 6, 6, 0, 6, 6, 0, 6, 6, 0, 6, 6, 0, 0, 8, 0, 6, 6, 0, 6, 6, 0, 6, 6, 0, 6, 6, 0, 6, 6, 0, 6, 6, 0, 6, 6, 0, 6, 6, 0, 6, 6, 1608, 0, 6, 0, 8, 0, 6, 6, 0, 6, 6, 0, 6, 6, 0, 6, 6, 0, 6, 6, 0, 6, 6, 0, 6, 6, 0, 6, 6, 0, 6, 6, 0, 8, 0, 6, 6, 0, 6, 6, 0, 6, 6, 0, 6, 6, 0, 6, 6, 0, 6, 6, 0, 6, 6, 0, 6, 6, 0, 6, 6, 0, 8, 0, 6, 6, 0, 6, 6, 0, 6, 6, 0, 6, 6, 0, 6, 6, 0, 6, 6, 0, 6, 6, 0, 6, 6, 0, 6, 6, 0, 8, 0, 6, 6, 0, 6, 6, 0, 6, 6, 0, 6, 6, 0, 6, 6, 0, 6, 6, 0, 6, 6, 0, 6, 6, 0, 6, 6, 0, 8, 0, 6, 6, 0, 6, 6, 0, 6, 6, 0, 6, 6, 0, 6, 6, 0, 6, 6, 0, 6, 6, 0, 6, 6, 0, 6, 6, 0, 8, 0, 6, 6, 0, 6, 6, 0, 6, 6, 0, 6, 6, 0, 6, 6, 0, 6, 6, 0, 6, 6, 0, 6, 6, 0, 6, 6, 0, 176, 0, 600, 196, 196, 196, 196, 1176, 8, 8, 8, 9648, 60, 60, 60, 60, 60, 2, 2, 200, 1]
def Kd (o : Nat) : Nat := kdL.getD o 99
def Ln (o : Nat) : Nat := lnL.getD o 0
abbrev NT : Nat := 382
abbrev vwK : List vw_C := [(RX1, TX1, 6), (RX2, TX2, 6), (RX3, TX3, 16), (RX4, TX4, 4), (RX5, TX5, 2), (RX6, TX6, 5), (RX7, TX7, 2), (RX9, TX9, 11), (RX11, TX11, 9), (RX12, TX12, 42)]
def isK (n o c : Nat) : Prop := o < n ∧ Kd o = c
def WT (n : Nat) (μ : Mem) : Prop := (∀ o k q, o < n → ldP μ o k = some q → isK n q (tg (Kd o) k)) ∧ ∀ o k, o < n → FTy (Kd o) k = 3 → zb (ldI μ o k)
def fv (B t : Nat) (iI : Nat → Int32) (iJ : Nat → Int64) (iP : Nat → Option Nat) (k : Nat) : Value := match t with
  | 1 => .long (iJ k)
  | 2 => va_rf ((iP k).map (fun q => B + q))
  | _ => .int (iI k)
def fs (B c : Nat) (iI : Nat → Int32) (iJ : Nat → Int64) (iP : Nat → Option Nat) : List Value := (List.range (FL c)).map (fun k => fv B (FTy c k) iI iJ iP k)
def ent (B : Nat) (cT : Nat → ClassId) (iI : Nat → Int32) (iJ : Nat → Int64) (iP : Nat → Option Nat) (n c : Nat) : va_E := match c with
  | 10 => .inl (cT 0, n, .inl iI)
  | 11 => .inl (cT 1, n, .inl iI)
  | 12 => .inl (cT 2, n, .inr (.inl iJ))
  | 13 => .inl (cT 3, n, .inr (.inr (.inr (.inr (fun i => (iP i).map (fun q => B + q))))))
  | 14 => .inl (cT 4, n, .inr (.inr (.inr (.inr (fun i => (iP i).map (fun q => B + q))))))
  | 15 => .inl (cT 5, n, .inr (.inr (.inr (.inr (fun i => (iP i).map (fun q => B + q))))))
  | c => .inr (c, fs B c iI iJ iP)
def entM (B : Nat) (cT : Nat → ClassId) (μ : Mem) (o : Nat) : va_E := ent B cT (ldI μ o) (ldJ μ o) (ldP μ o) (Ln o) (Kd o)
def wl (B : Nat) (cT : Nat → ClassId) (n : Nat) (μ : Mem) : va_W := (List.range n).map (fun o => (B + o, entM B cT μ o))
def tyT (cT : Nat → ClassId) : List (ClassId × FieldType) := [(cT 0, .byte), (cT 1, .int), (cT 2, .long), (cT 3, .object RX1), (cT 4, .object RX2), (cT 5, .object RX3)]
theorem wl_at {B : Nat} {cT : Nat → ClassId} {n : Nat} {μ : Mem} {o : Nat} (h : o < n) : (wl B cT n μ)[o]? = some (B + o, entM B cT μ o) := by simp [wl, h]
theorem wl_len {B : Nat} {cT : Nat → ClassId} {n : Nat} {μ : Mem} : (wl B cT n μ).length = n := by simp [wl]
theorem wl_ent {B : Nat} {cT : Nat → ClassId} {n : Nat} {μ : Mem} {o c : Nat} (h : isK n o c) : (wl B cT n μ)[o]? = some (B + o, ent B cT (ldI μ o) (ldJ μ o) (ldP μ o) (Ln o) c) := by
  rw [wl_at h.1, entM, h.2]
theorem wl_D {B : Nat} {cT : Nat → ClassId} {n : Nat} {μ : Mem} : va_D (fun q => B ≤ q) (wl B cT n μ) := by
  have key : ∀ (k : Nat) (q : Nat × va_E), (wl B cT n μ)[k]? = some q → q.1 = B + k := by
    intro k q h
    have hl : k < n := by
      have := (List.getElem?_eq_some_iff.mp h).1
      rwa [wl_len] at this
    rw [wl_at hl] at h
    cases h; rfl
  refine ⟨fun i j p q hi hj hpq => ?_, fun k q hk => ?_⟩
  · have h1 := key i p hi
    have h2 := key j q hj
    omega
  · have h1 := key k q hk
    show B ≤ q.1
    omega
/-- one object's cell anew -/
theorem wl_set {B : Nat} {cT : Nat → ClassId} {n : Nat} {μ μ' : Mem} {o : Nat} {v : va_E} (hn : o < n) (hv : v = entM B cT μ' o) (ho : ∀ j, j ≠ o → entM B cT μ' j = entM B cT μ j) : (wl B cT n μ).set o (B + o, v) = wl B cT n μ' := by
  apply List.ext_getElem?
  intro j
  by_cases hj : j = o
  · subst hj
    rw [List.getElem?_set_self (by rw [wl_len]; exact hn), wl_at hn, hv]
  · rw [List.getElem?_set_ne (fun h => hj h.symm)]
    by_cases hl : j < n
    · rw [wl_at hl, wl_at hl, ho j hj]
    · simp [wl, hl]
theorem ldI_stI_ne {μ : Mem} {o k j : Nat} {v : Int32} (h : j ≠ o) : ldI (stI μ o k v) j = ldI μ j := by
  funext b; simp [ldI, stI, h]
theorem ldI_stI_self {μ : Mem} {o k : Nat} {v : Int32} : ldI (stI μ o k v) o = upd (ldI μ o) k v := by
  funext b; simp [ldI, stI, upd]
theorem ldJ_stJ_ne {μ : Mem} {o k j : Nat} {v : Int64} (h : j ≠ o) : ldJ (stJ μ o k v) j = ldJ μ j := by
  funext b; simp [ldJ, stJ, h]
theorem ldJ_stJ_self {μ : Mem} {o k : Nat} {v : Int64} : ldJ (stJ μ o k v) o = vp_updL (ldJ μ o) k v := by
  funext b; simp [ldJ, stJ, vp_updL]
theorem ldP_stP_ne {μ : Mem} {o k j : Nat} {v : Option Nat} (h : j ≠ o) : ldP (stP μ o k v) j = ldP μ j := by
  funext b; simp [ldP, stP, h]
theorem ldP_stP_self {μ : Mem} {o k : Nat} {v : Option Nat} : ldP (stP μ o k v) o = fun b => if b = k then v else ldP μ o b := by
  funext b; simp [ldP, stP]
theorem fs_get {B c k : Nat} {iI : Nat → Int32} {iJ : Nat → Int64} {iP : Nat → Option Nat} (hk : k < FL c) : (fs B c iI iJ iP)[k]? = some (fv B (FTy c k) iI iJ iP k) := by simp [fs, hk]
theorem fs_len {B c : Nat} {iI : Nat → Int32} {iJ : Nat → Int64} {iP : Nat → Option Nat} : (fs B c iI iJ iP).length = FL c := by simp [fs]
theorem fs_set {B c k : Nat} {iI iI' : Nat → Int32} {iJ iJ' : Nat → Int64} {iP iP' : Nat → Option Nat} {v : Value} (hk : k < FL c) (hv : v = fv B (FTy c k) iI' iJ' iP' k) (ho : ∀ j, j ≠ k → fv B (FTy c j) iI' iJ' iP' j = fv B (FTy c j) iI iJ iP j) : (fs B c iI iJ iP).set k v = fs B c iI' iJ' iP' := by
  apply List.ext_getElem?
  intro j
  by_cases hj : j = k
  · subst hj
    rw [List.getElem?_set_self (by rw [fs_len]; exact hk), fs_get hk, hv]
  · rw [List.getElem?_set_ne (fun h => hj h.symm)]
    by_cases hl : j < FL c
    · rw [fs_get hl, fs_get hl, ho j hj]
    · simp [fs, hl]
theorem ent_cls {B : Nat} {cT : Nat → ClassId} {iI : Nat → Int32} {iJ : Nat → Int64} {iP : Nat → Option Nat} {n c : Nat} (h : c < 10) : ent B cT iI iJ iP n c = .inr (c, fs B c iI iJ iP) := by
  rcases (show c = 0 ∨ c = 1 ∨ c = 2 ∨ c = 3 ∨ c = 4 ∨ c = 5 ∨ c = 6 ∨ c = 7 ∨ c = 8 ∨ c = 9 by omega) with rfl | rfl | rfl | rfl | rfl | rfl | rfl | rfl | rfl | rfl <;> rfl
theorem WT_stI {n : Nat} {μ : Mem} {o k : Nat} {v : Int32} (h : WT n μ) (hz : o < n → FTy (Kd o) k = 3 → zb v) : WT n (stI μ o k v) := by
  refine ⟨h.1, fun a b ha hb => ?_⟩
  by_cases hab : a = o ∧ b = k
  · obtain ⟨rfl, rfl⟩ := hab
    simp only [ldI, stI, and_self, if_true]
    exact hz ha hb
  · simp only [ldI, stI, if_neg hab]
    exact h.2 a b ha hb
theorem WT_stJ {n : Nat} {μ : Mem} {o k : Nat} {v : Int64} (h : WT n μ) : WT n (stJ μ o k v) := h
theorem WT_stP {n : Nat} {μ : Mem} {o k q : Nat} (h : WT n μ) (hq : o < n → isK n q (tg (Kd o) k)) : WT n (stP μ o k (some q)) := by
  refine ⟨fun a b x ha hb => ?_, h.2⟩
  by_cases hab : a = o ∧ b = k
  · obtain ⟨rfl, rfl⟩ := hab
    simp only [ldP, stP, and_self, if_true, Option.some.injEq] at hb
    subst hb
    exact hq ha
  · simp only [ldP, stP, if_neg hab] at hb
    exact h.1 a b x ha hb
