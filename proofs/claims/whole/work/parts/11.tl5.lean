/-! loops, results' forms, the wanting instructions -/
def FU : Nat := 4000000
def zl0 {β : Type} (g : Option β → Option β) : Nat → Option β
  | 0 => none
  | n + 1 => g (zl0 g n)
def zl1 {A0 β : Type} (g : (A0 → Option β) → A0 → Option β) : Nat → A0 → Option β
  | 0, _ => none
  | n + 1, a0 => g (zl1 g n) a0
theorem zl1_s {A0 β : Type} {g : (A0 → Option β) → A0 → Option β} {n : Nat} {a0 : A0} : zl1 g (n + 1) a0 = g (zl1 g n) a0 := rfl
def zl2 {A0 A1 β : Type} (g : (A0 → A1 → Option β) → A0 → A1 → Option β) : Nat → A0 → A1 → Option β
  | 0, _, _ => none
  | n + 1, a0, a1 => g (zl2 g n) a0 a1
theorem zl2_s {A0 A1 β : Type} {g : (A0 → A1 → Option β) → A0 → A1 → Option β} {n : Nat} {a0 : A0} {a1 : A1} : zl2 g (n + 1) a0 a1 = g (zl2 g n) a0 a1 := rfl
def zl3 {A0 A1 A2 β : Type} (g : (A0 → A1 → A2 → Option β) → A0 → A1 → A2 → Option β) : Nat → A0 → A1 → A2 → Option β
  | 0, _, _, _ => none
  | n + 1, a0, a1, a2 => g (zl3 g n) a0 a1 a2
theorem zl3_s {A0 A1 A2 β : Type} {g : (A0 → A1 → A2 → Option β) → A0 → A1 → A2 → Option β} {n : Nat} {a0 : A0} {a1 : A1} {a2 : A2} : zl3 g (n + 1) a0 a1 a2 = g (zl3 g n) a0 a1 a2 := rfl
def zl4 {A0 A1 A2 A3 β : Type} (g : (A0 → A1 → A2 → A3 → Option β) → A0 → A1 → A2 → A3 → Option β) : Nat → A0 → A1 → A2 → A3 → Option β
  | 0, _, _, _, _ => none
  | n + 1, a0, a1, a2, a3 => g (zl4 g n) a0 a1 a2 a3
theorem zl4_s {A0 A1 A2 A3 β : Type} {g : (A0 → A1 → A2 → A3 → Option β) → A0 → A1 → A2 → A3 → Option β} {n : Nat} {a0 : A0} {a1 : A1} {a2 : A2} {a3 : A3} : zl4 g (n + 1) a0 a1 a2 a3 = g (zl4 g n) a0 a1 a2 a3 := rfl
def zl5 {A0 A1 A2 A3 A4 β : Type} (g : (A0 → A1 → A2 → A3 → A4 → Option β) → A0 → A1 → A2 → A3 → A4 → Option β) : Nat → A0 → A1 → A2 → A3 → A4 → Option β
  | 0, _, _, _, _, _ => none
  | n + 1, a0, a1, a2, a3, a4 => g (zl5 g n) a0 a1 a2 a3 a4
theorem zl5_s {A0 A1 A2 A3 A4 β : Type} {g : (A0 → A1 → A2 → A3 → A4 → Option β) → A0 → A1 → A2 → A3 → A4 → Option β} {n : Nat} {a0 : A0} {a1 : A1} {a2 : A2} {a3 : A3} {a4 : A4} : zl5 g (n + 1) a0 a1 a2 a3 a4 = g (zl5 g n) a0 a1 a2 a3 a4 := rfl
def zl6 {A0 A1 A2 A3 A4 A5 β : Type} (g : (A0 → A1 → A2 → A3 → A4 → A5 → Option β) → A0 → A1 → A2 → A3 → A4 → A5 → Option β) : Nat → A0 → A1 → A2 → A3 → A4 → A5 → Option β
  | 0, _, _, _, _, _, _ => none
  | n + 1, a0, a1, a2, a3, a4, a5 => g (zl6 g n) a0 a1 a2 a3 a4 a5
theorem zl6_s {A0 A1 A2 A3 A4 A5 β : Type} {g : (A0 → A1 → A2 → A3 → A4 → A5 → Option β) → A0 → A1 → A2 → A3 → A4 → A5 → Option β} {n : Nat} {a0 : A0} {a1 : A1} {a2 : A2} {a3 : A3} {a4 : A4} {a5 : A5} : zl6 g (n + 1) a0 a1 a2 a3 a4 a5 = g (zl6 g n) a0 a1 a2 a3 a4 a5 := rfl
def zl7 {A0 A1 A2 A3 A4 A5 A6 β : Type} (g : (A0 → A1 → A2 → A3 → A4 → A5 → A6 → Option β) → A0 → A1 → A2 → A3 → A4 → A5 → A6 → Option β) : Nat → A0 → A1 → A2 → A3 → A4 → A5 → A6 → Option β
  | 0, _, _, _, _, _, _, _ => none
  | n + 1, a0, a1, a2, a3, a4, a5, a6 => g (zl7 g n) a0 a1 a2 a3 a4 a5 a6
theorem zl7_s {A0 A1 A2 A3 A4 A5 A6 β : Type} {g : (A0 → A1 → A2 → A3 → A4 → A5 → A6 → Option β) → A0 → A1 → A2 → A3 → A4 → A5 → A6 → Option β} {n : Nat} {a0 : A0} {a1 : A1} {a2 : A2} {a3 : A3} {a4 : A4} {a5 : A5} {a6 : A6} : zl7 g (n + 1) a0 a1 a2 a3 a4 a5 a6 = g (zl7 g n) a0 a1 a2 a3 a4 a5 a6 := rfl
def zl8 {A0 A1 A2 A3 A4 A5 A6 A7 β : Type} (g : (A0 → A1 → A2 → A3 → A4 → A5 → A6 → A7 → Option β) → A0 → A1 → A2 → A3 → A4 → A5 → A6 → A7 → Option β) : Nat → A0 → A1 → A2 → A3 → A4 → A5 → A6 → A7 → Option β
  | 0, _, _, _, _, _, _, _, _ => none
  | n + 1, a0, a1, a2, a3, a4, a5, a6, a7 => g (zl8 g n) a0 a1 a2 a3 a4 a5 a6 a7
theorem zl8_s {A0 A1 A2 A3 A4 A5 A6 A7 β : Type} {g : (A0 → A1 → A2 → A3 → A4 → A5 → A6 → A7 → Option β) → A0 → A1 → A2 → A3 → A4 → A5 → A6 → A7 → Option β} {n : Nat} {a0 : A0} {a1 : A1} {a2 : A2} {a3 : A3} {a4 : A4} {a5 : A5} {a6 : A6} {a7 : A7} : zl8 g (n + 1) a0 a1 a2 a3 a4 a5 a6 a7 = g (zl8 g n) a0 a1 a2 a3 a4 a5 a6 a7 := rfl
def xb {α β : Type} (r : (α ⊕ Nat) × Mem) (f : α → Mem → Option ((β ⊕ Nat) × Mem)) : Option ((β ⊕ Nat) × Mem) := match r with
  | (.inl v, μ) => f v μ
  | (.inr k, μ) => some (.inr k, μ)
theorem xb_l {α β : Type} {v : α} {μ : Mem} {f : α → Mem → Option ((β ⊕ Nat) × Mem)} {r : (β ⊕ Nat) × Mem} (h : xb (.inl v, μ) f = some r) : f v μ = some r := h
theorem xb_r {α β : Type} {k : Nat} {μ : Mem} {f : α → Mem → Option ((β ⊕ Nat) × Mem)} {r : (β ⊕ Nat) × Mem} (h : xb (.inr k, μ) f = some r) : some (.inr k, μ) = some r := h
theorem pv {α : Type} {v r : α} {μ : Mem} (h : some v = some r) : some (v, μ) = some (r, μ) := by cases h; rfl
def nz (x : Int32) : Bool := !decide (x = 0)
theorem nz_ne {x : Int32} (h : nz x = true) : ¬ x = 0 := by simpa [nz] using h
def nn32 (r : UInt32) : Bool := decide (r &&& 0x7fffffff ≤ 0x7f800000)
def nn64 (r : UInt64) : Bool := decide (r &&& 0x7fffffffffffffff ≤ 0x7ff0000000000000)
theorem nn32_ok {r : UInt32} (h : nn32 r = true) : vf_n32 r := by simpa [nn32, vf_n32] using h
theorem nn64_ok {r : UInt64} (h : nn64 r = true) : vf_n64 r := by simpa [nn64, vf_n64] using h
def jmax (x y : Int32) : Int32 := if x < y then y else x
def jmin (x y : Int32) : Int32 := if y < x then y else x
theorem sw_out {x : Int32} {N : Nat} {lo hi : Int} (h : ∀ j : Nat, j < N → ¬ x = Int32.ofInt (lo + j)) (hN : hi < lo + N := by decide) : x.toInt < lo ∨ hi < x.toInt := by
  rcases Int.lt_or_le x.toInt lo with h1 | h1
  · exact Or.inl h1
  · rcases Int.lt_or_le hi x.toInt with h2 | h2
    · exact Or.inr h2
    · exfalso
      refine h (x.toInt - lo).toNat (by omega) ?_
      rw [show lo + ((x.toInt - lo).toNat : Int) = x.toInt by omega, Int32.ofInt_toInt]
abbrev QI (B : Nat) (D : va_G) (cT : Nat → ClassId) (n : Nat) (below : List Frame) (args : Array Value) (s : State) (res : Int32 × Mem) : State → Prop := MQ below (va_Qi (fun r μ' => r = res.1 ∧ μ' = res.2) (Wq B D cT n) (fr B)) args s 0 0 (fr B)
abbrev QZ (B : Nat) (D : va_G) (cT : Nat → ClassId) (n : Nat) (below : List Frame) (args : Array Value) (s : State) (res : Int32 × Mem) : State → Prop := MQ below (va_Qi (fun r μ' => (r = res.1 ∧ μ' = res.2) ∧ zb res.1) (Wq B D cT n) (fr B)) args s 0 0 (fr B)
abbrev QJ (B : Nat) (D : va_G) (cT : Nat → ClassId) (n : Nat) (below : List Frame) (args : Array Value) (s : State) (res : Int64 × Mem) : State → Prop := MQ below (va_Ql (fun r μ' => r = res.1 ∧ μ' = res.2) (Wq B D cT n) (fr B)) args s 0 0 (fr B)
abbrev QV (B : Nat) (D : va_G) (cT : Nat → ClassId) (n : Nat) (below : List Frame) (args : Array Value) (s : State) (res : Mem) : State → Prop := MQ below (va_Qv (fun μ' => μ' = res) (Wq B D cT n) (fr B)) args s 0 0 (fr B)
abbrev QD (B : Nat) (D : va_G) (cT : Nat → ClassId) (n : Nat) (below : List Frame) (args : Array Value) (s : State) (res : UInt64 × Mem) : State → Prop := MQ below (va_Qd (fun r μ' => r = res.1 ∧ μ' = res.2) (Wq B D cT n) (fr B)) args s 0 0 (fr B)
abbrev QF (B : Nat) (D : va_G) (cT : Nat → ClassId) (n : Nat) (below : List Frame) (args : Array Value) (s : State) (res : UInt32 × Mem) : State → Prop := MQ below (va_Qf (fun r μ' => r = res.1 ∧ μ' = res.2) (Wq B D cT n) (fr B)) args s 0 0 (fr B)
abbrev QP (t : Nat) (B : Nat) (D : va_G) (cT : Nat → ClassId) (n : Nat) (below : List Frame) (args : Array Value) (s : State) (res : Nat × Mem) : State → Prop := MQ below (va_Qr (fun μ' => μ' = res.2 ∧ isK n res.1 t) (fun μ' a u => a = B + res.1 ∧ Wq B D cT n μ' u) (fr B)) args s 0 0 (fr B)
abbrev QS (adK : Nat → Nat) (B : Nat) (D : va_G) (cT : Nat → ClassId) (n : Nat) (below : List Frame) (args : Array Value) (s : State) (res : Nat × Mem) : State → Prop := MQ below (va_Qr (fun μ' => μ' = res.2) (fun μ' a u => a = adK res.1 ∧ Wq B D cT n μ' u) (fr B)) args s 0 0 (fr B)
abbrev XQI (B : Nat) (D : va_G) (cT : Nat → ClassId) (n : Nat) (below : List Frame) (args : Array Value) (s : State) (res : (Int32 ⊕ Nat) × Mem) : State → Prop := vx_MQ below (va_Qi (fun r μ' => res = (.inl r, μ')) (Wqz B D cT n s.heap.size) (fr B)) (XCx B D cT n res) args s 1 6 (fr B)
abbrev XQZ (B : Nat) (D : va_G) (cT : Nat → ClassId) (n : Nat) (below : List Frame) (args : Array Value) (s : State) (res : (Int32 ⊕ Nat) × Mem) : State → Prop := vx_MQ below (va_Qi (fun r μ' => res = (.inl r, μ') ∧ zb r) (Wqz B D cT n s.heap.size) (fr B)) (XCx B D cT n res) args s 1 6 (fr B)
abbrev XQJ (B : Nat) (D : va_G) (cT : Nat → ClassId) (n : Nat) (below : List Frame) (args : Array Value) (s : State) (res : (Int64 ⊕ Nat) × Mem) : State → Prop := vx_MQ below (va_Ql (fun r μ' => res = (.inl r, μ')) (Wqz B D cT n s.heap.size) (fr B)) (XCx B D cT n res) args s 1 6 (fr B)
abbrev XQV (B : Nat) (D : va_G) (cT : Nat → ClassId) (n : Nat) (below : List Frame) (args : Array Value) (s : State) (res : (Unit ⊕ Nat) × Mem) : State → Prop := vx_MQ below (va_Qv (fun μ' => res = (.inl (), μ')) (Wqz B D cT n s.heap.size) (fr B)) (XCx B D cT n res) args s 1 6 (fr B)
abbrev XQP (t : Nat) (B : Nat) (D : va_G) (cT : Nat → ClassId) (n : Nat) (below : List Frame) (args : Array Value) (s : State) (res : (Nat ⊕ Nat) × Mem) : State → Prop := vx_MQ below (va_Qq (fun r μ' => ∃ x, r = some (B + x) ∧ res = (.inl x, μ') ∧ isK n x t) (Wqz B D cT n s.heap.size) (fr B)) (XCx B D cT n res) args s 1 6 (fr B)
def MD (l : Launch) (y : MethodName) (b : ByteArray) (mL : Nat) (ret : Option FieldType) (rm : Room) (B : Nat) (D : va_G) (cT : Nat → ClassId) (XS : State → Heap → Prop) (n : Nat) (av : List Value) (μ : Mem) (res : UInt64 × Mem) : Prop :=
  Met l y (Cond.code y b mL ret :: gw) rm (va_Pc av (Wd B D cT XS n μ)) (va_Qd (fun r μ' => r = res.1 ∧ μ' = res.2) (Wq B D cT n) (fr B)) rm.cells rm.slots (fr B)
def MF (l : Launch) (y : MethodName) (b : ByteArray) (mL : Nat) (ret : Option FieldType) (rm : Room) (B : Nat) (D : va_G) (cT : Nat → ClassId) (XS : State → Heap → Prop) (n : Nat) (av : List Value) (μ : Mem) (res : UInt32 × Mem) : Prop :=
  Met l y (Cond.code y b mL ret :: gw) rm (va_Pc av (Wd B D cT XS n μ)) (va_Qf (fun r μ' => r = res.1 ∧ μ' = res.2) (Wq B D cT n) (fr B)) rm.cells rm.slots (fr B)
theorem mj_ini : Cond.initialized "java/lang/Math" ∈ gw := (gw_mem (mt1 (at_l 23 rfl)) rfl)
theorem mj_max_s : Cond.static Lib.Math.max.name ∈ gw := (gw_mem (mt3 (at_l 14 rfl)) rfl)
theorem mj_max_c : Cond.code Lib.Math.max.name Lib.Math.max.code 2 (some .int) ∈ gw := (gw_mem (mt3 (at_l 15 rfl)) rfl)
theorem mj_min_s : Cond.static Lib.Math.min.name ∈ gw := (gw_mem (mt2 (at_l 215 rfl)) rfl)
theorem mj_min_c : Cond.code Lib.Math.min.name Lib.Math.min.code 2 (some .int) ∈ gw := (gw_mem (mt2 (at_l 216 rfl)) rfl)
section TMORE
variable {p : Program} {l : Launch} {e : Env} {R : Room} {s : State} {m : MethodId} {args : Array Value} {below : List Frame} {meth : Method} {c : Code} {Q : State → Prop} {nL B : Nat} {D : va_G} {cT : Nat → ClassId} {n kc ks : Nat} {μ : Mem} {pc : Nat} {lv : List (Nat × Value)} {st rest : List Value} {cc : ByteArray} {own : String} {XS : State → Heap → Prop} {adK adV : Nat → Nat}
theorem tt_getZ (E : EE p s m args c cc nL own B D cT XS) {idx cl k o : Nat} {fin : Bool} (hL : LF own idx cl k fin) (hf : FTy cl k = 3) (ho : isK n o cl) (hdg : decode cc pc = .ok (.getfield idx, 3)) (kk : zb (ldI μ o k) → TT p l e R s m args below meth c Q nL B D cT n kc ks μ (pc + 3) lv (.int (ldI μ o k) :: st)) : TT p l e R s m args below meth c Q nL B D cT n kc ks μ pc lv (.ref (B + o) :: st) := by
  intro H locs ls hP hW hS hl
  exact tt_getI E hL (by rw [hf]; rfl) ho hdg (kk (hW.2 o k ho.1 (by rw [ho.2]; exact hf))) H locs ls hP hW hS hl
theorem tt_nmZ {α : Type} {X : Int32} {F : Int32 → Option α} {res : α} (hz : zb X) (hf : nm X F = some res) (kk : ∀ y, zb y → F y = some res → TT p l e R s m args below meth c Q nL B D cT n kc ks μ pc lv (.int y :: st)) : TT p l e R s m args below meth c Q nL B D cT n kc ks μ pc lv (.int X :: st) := kk X hz hf
theorem tt_ldcS (E : EE p s m args c cc nL own B D cT (XW B adK adV)) {i idx : Nat} {text : String} {bs : List Int32} (hi : strT[i]? = some (own, idx, text, bs)) (hdg : decode cc pc = .ok (.ldc idx, 2)) (kk : TT p l e R s m args below meth c Q nL B D cT n kc ks μ (pc + 2) lv (.ref (adK i) :: st)) : TT p l e R s m args below meth c Q nL B D cT n kc ks μ pc lv st :=
  fun H locs ls hP hW hS hl => va_ldcS E.1.1 E.1.2.1 E.1.2.2.2.1 ((E.2.2.1.2.2.2.2.1 i _ hi).1) hdg (kk H locs ls hP hW hS hl)
theorem tt_mmax (E : EE p s m args c cc nL own B D cT XS) {idx : Nat} (hL : LM own idx Lib.Math.max.name) (hframes : 1 ≤ R.frames) (hlocals : (st.map fun v => v.category).sum + 13 ≤ R.locals) (hcs : kc ≤ R.cells ∧ ks ≤ R.slots) {x y : Int32} (hdg : decode cc pc = .ok (.invokestatic idx, 3)) (kk : TT p l e R s m args below meth c Q nL B D cT n kc ks μ (pc + 3) lv (.int (jmax x y) :: st)) : TT p l e R s m args below meth c Q nL B D cT n kc ks μ pc lv (.int y :: .int x :: st) :=
  fun H locs ls hP hW hS hl => va_mmax E.1.1 E.1.2.1 (E.1.2.2.1.trans hl.1.symm) E.1.2.2.2.1 (E.1.2.2.2.2 _ hL) (E.1.2.2.2.2 _ mj_max_s) (E.1.2.2.2.2 _ mj_ini) (E.1.2.2.2.2 _ mj_max_c) hframes hlocals hcs.1 hcs.2 hdg (kk H locs ls hP hW hS hl)
theorem tt_mmin (E : EE p s m args c cc nL own B D cT XS) {idx : Nat} (hL : LM own idx Lib.Math.min.name) (hframes : 1 ≤ R.frames) (hlocals : (st.map fun v => v.category).sum + 13 ≤ R.locals) (hcs : kc ≤ R.cells ∧ ks ≤ R.slots) {x y : Int32} (hdg : decode cc pc = .ok (.invokestatic idx, 3)) (kk : TT p l e R s m args below meth c Q nL B D cT n kc ks μ (pc + 3) lv (.int (jmin x y) :: st)) : TT p l e R s m args below meth c Q nL B D cT n kc ks μ pc lv (.int y :: .int x :: st) :=
  fun H locs ls hP hW hS hl => va_mmin E.1.1 E.1.2.1 (E.1.2.2.1.trans hl.1.symm) E.1.2.2.2.1 (E.1.2.2.2.2 _ hL) (E.1.2.2.2.2 _ mj_min_s) (E.1.2.2.2.2 _ mj_ini) (E.1.2.2.2.2 _ mj_min_c) hframes hlocals hcs.1 hcs.2 hdg (kk H locs ls hP hW hS hl)
theorem tt_dconst0 (E : EE p s m args c cc nL own B D cT XS) (hdg : decode cc pc = .ok (.dconst 0, 1)) (kk : TT p l e R s m args below meth c Q nL B D cT n kc ks μ (pc + 1) lv (.double FP.dconst0 :: st)) : TT p l e R s m args below meth c Q nL B D cT n kc ks μ pc lv st :=
  fun H locs ls hP hW hS hl => lv_dconst0 E.1.1 E.1.2.1 hdg (kk H locs ls hP hW hS hl)
theorem tt_fconst0 (E : EE p s m args c cc nL own B D cT XS) (hdg : decode cc pc = .ok (.fconst 0, 1)) (kk : TT p l e R s m args below meth c Q nL B D cT n kc ks μ (pc + 1) lv (.float FP.fconst0 :: st)) : TT p l e R s m args below meth c Q nL B D cT n kc ks μ pc lv st :=
  fun H locs ls hP hW hS hl => lv_fconst0 E.1.1 E.1.2.1 hdg (kk H locs ls hP hW hS hl)
theorem tt_i2d (E : EE p s m args c cc nL own B D cT XS) {x : Int32} (hdg : decode cc pc = .ok (.i2d, 1)) (kk : TT p l e R s m args below meth c Q nL B D cT n kc ks μ (pc + 1) lv (.double (FP.i2d x) :: st)) : TT p l e R s m args below meth c Q nL B D cT n kc ks μ pc lv (.int x :: st) :=
  fun H locs ls hP hW hS hl => lv_i2d E.1.1 E.1.2.1 hdg (kk H locs ls hP hW hS hl)
theorem tt_i2f (E : EE p s m args c cc nL own B D cT XS) {x : Int32} (hdg : decode cc pc = .ok (.i2f, 1)) (kk : TT p l e R s m args below meth c Q nL B D cT n kc ks μ (pc + 1) lv (.float (FP.i2f x) :: st)) : TT p l e R s m args below meth c Q nL B D cT n kc ks μ pc lv (.int x :: st) :=
  fun H locs ls hP hW hS hl => lv_i2f E.1.1 E.1.2.1 hdg (kk H locs ls hP hW hS hl)
theorem tt_ddiv (E : EE p s m args c cc nL own B D cT XS) {x y : UInt64} (hdg : decode cc pc = .ok (.ddiv, 1)) (hne : vf_n64 (FP.ddiv x y)) (kk : TT p l e R s m args below meth c Q nL B D cT n kc ks μ (pc + 1) lv (.double (FP.ddiv x y) :: st)) : TT p l e R s m args below meth c Q nL B D cT n kc ks μ pc lv (.double y :: .double x :: st) :=
  fun H locs ls hP hW hS hl => lv_ddiv E.1.1 E.1.2.1 hdg hne (kk H locs ls hP hW hS hl)
theorem tt_fdiv (E : EE p s m args c cc nL own B D cT XS) {x y : UInt32} (hdg : decode cc pc = .ok (.fdiv, 1)) (hne : vf_n32 (FP.fdiv x y)) (kk : TT p l e R s m args below meth c Q nL B D cT n kc ks μ (pc + 1) lv (.float (FP.fdiv x y) :: st)) : TT p l e R s m args below meth c Q nL B D cT n kc ks μ pc lv (.float y :: .float x :: st) :=
  fun H locs ls hP hW hS hl => lv_fdiv E.1.1 E.1.2.1 hdg hne (kk H locs ls hP hW hS hl)
theorem tt_dret (E : EE p s m args c cc nL own B D cT XS) {mc ms : Nat} {res : UInt64 × Mem} {v : UInt64} (hr : meth.sig.returnType = some .double) (hlk : meth.locks = false) (hdg : decode cc pc = .ok (.dreturn, 1)) (h1 : kc ≤ mc) (h2 : ks ≤ ms) (hf : some (v, μ) = some res) : TT p l e R s m args below meth c (MQ below (va_Qd (fun r μ' => r = res.1 ∧ μ' = res.2) (Wq B D cT n) (fr B)) args s mc ms (fr B)) nL B D cT n kc ks μ pc lv [.double v] := by
  intro H locs ls hP hW hS hl
  cases hf
  refine W.widen (k := mc) (n := ms) h1 h2 ?_
  exact W.dret E.1.1 E.1.2.1 hr (fun t ht hv => ⟨⟨v, μ, rfl, ⟨rfl, rfl⟩, E_Wq hP hW ht⟩, hS.F ht⟩) hS.2.2 hdg hlk
theorem tt_fret (E : EE p s m args c cc nL own B D cT XS) {mc ms : Nat} {res : UInt32 × Mem} {v : UInt32} (hr : meth.sig.returnType = some .float) (hlk : meth.locks = false) (hdg : decode cc pc = .ok (.freturn, 1)) (h1 : kc ≤ mc) (h2 : ks ≤ ms) (hf : some (v, μ) = some res) : TT p l e R s m args below meth c (MQ below (va_Qf (fun r μ' => r = res.1 ∧ μ' = res.2) (Wq B D cT n) (fr B)) args s mc ms (fr B)) nL B D cT n kc ks μ pc lv [.float v] := by
  intro H locs ls hP hW hS hl
  cases hf
  refine W.widen (k := mc) (n := ms) h1 h2 ?_
  exact W.fret E.1.1 E.1.2.1 hr (fun t ht hv => ⟨⟨v, μ, rfl, ⟨rfl, rfl⟩, E_Wq hP hW ht⟩, hS.F ht⟩) hS.2.2 hdg hlk
end TMORE
