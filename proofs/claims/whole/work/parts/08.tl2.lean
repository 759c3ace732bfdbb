/-! the plain instructions -/
def inB (i : Int32) (n : Nat) : Bool := !decide (i < 0) && decide (i.toNatClampNeg < n)
theorem inB_in {i : Int32} {n : Nat} (h : inB i n = true) : vp_in i n := by
  simp only [inB, Bool.and_eq_true, Bool.not_eq_true', decide_eq_false_iff_not, decide_eq_true_eq] at h
  intro hh
  rcases hh with hh | hh
  · exact h.1 hh
  · omega
/-- a guard -/
def gd {α : Type} (b : Bool) (x : Option α) : Option α := match b with
  | true => x
  | false => none
theorem gd_some {α : Type} {b : Bool} {x : Option α} {y : α} (h : gd b x = some y) : b = true ∧ x = some y := by
  cases b with
  | false => cases h
  | true => exact ⟨rfl, h⟩
/-- a named value -/
def nm {α β : Type} (x : α) (f : α → β) : β := f x
theorem nm_ex {α β : Type} {x : α} {f : α → β} {r : β} (h : nm x f = r) : ∃ y, y = x ∧ f y = r := ⟨x, rfl, h⟩
theorem bd_some {α β : Type} {x : Option α} {f : α → Option β} {r : β} (h : x.bind f = some r) : ∃ y, x = some y ∧ f y = some r := Option.bind_eq_some_iff.mp h
theorem ip {α : Type} {c : Prop} {d : Decidable c} {a b : α} {r : α} (hc : c) (h : (@ite α c d a b) = r) : a = r := by rwa [if_pos hc] at h
theorem ine {α : Type} {c : Prop} {d : Decidable c} {a b : α} {r : α} (hc : ¬ c) (h : (@ite α c d a b) = r) : b = r := by rwa [if_neg hc] at h
section TPLAIN
variable {p : Program} {l : Launch} {e : Env} {R : Room} {s : State} {m : MethodId} {args : Array Value} {below : List Frame} {meth : Method} {c : Code} {Q : State → Prop} {nL B : Nat} {D : va_G} {cT : Nat → ClassId} {n kc ks : Nat} {μ : Mem} {pc : Nat} {lv : List (Nat × Value)} {st : List Value} {cc : ByteArray} {own : String} {XS : State → Heap → Prop}
theorem tt_iconst (E : EE p s m args c cc nL own B D cT XS) {k : Int} {v : Int32} (hdg : decode cc pc = .ok (.iconst k, 1)) (hv : Int32.ofInt k = v) (kk : TT p l e R s m args below meth c Q nL B D cT n kc ks μ (pc + 1) lv (.int v :: st)) : TT p l e R s m args below meth c Q nL B D cT n kc ks μ pc lv st :=
  fun H locs ls hP hW hS hl => lv_iconst E.1.1 E.1.2.1 hdg hv (kk H locs ls hP hW hS hl)
theorem tt_bipush (E : EE p s m args c cc nL own B D cT XS) {k : Int} {v : Int32} (hdg : decode cc pc = .ok (.bipush k, 2)) (hv : (Int8.ofInt k).toInt32 = v) (kk : TT p l e R s m args below meth c Q nL B D cT n kc ks μ (pc + 2) lv (.int v :: st)) : TT p l e R s m args below meth c Q nL B D cT n kc ks μ pc lv st :=
  fun H locs ls hP hW hS hl => lv_bipush E.1.1 E.1.2.1 hdg hv (kk H locs ls hP hW hS hl)
theorem tt_sipush (E : EE p s m args c cc nL own B D cT XS) {k : Int} {v : Int32} (hdg : decode cc pc = .ok (.sipush k, 3)) (hv : (Int16.ofInt k).toInt32 = v) (kk : TT p l e R s m args below meth c Q nL B D cT n kc ks μ (pc + 3) lv (.int v :: st)) : TT p l e R s m args below meth c Q nL B D cT n kc ks μ pc lv st :=
  fun H locs ls hP hW hS hl => lv_sipush E.1.1 E.1.2.1 hdg hv (kk H locs ls hP hW hS hl)
theorem tt_lconst (E : EE p s m args c cc nL own B D cT XS) {k : Fin 2} {v : Int64} (hdg : decode cc pc = .ok (.lconst k, 1)) (hv : Int64.ofNat (k : Nat) = v) (kk : TT p l e R s m args below meth c Q nL B D cT n kc ks μ (pc + 1) lv (.long v :: st)) : TT p l e R s m args below meth c Q nL B D cT n kc ks μ pc lv st :=
  fun H locs ls hP hW hS hl => lv_lconst E.1.1 E.1.2.1 hdg hv (kk H locs ls hP hW hS hl)
theorem tt_ldc (E : EE p s m args c cc nL own B D cT XS) {idx : Nat} {v : Int32} (hdg : decode cc pc = .ok (.ldc idx, 2)) (hw : Jvm.Cond.constant own idx v ∈ gw) (kk : TT p l e R s m args below meth c Q nL B D cT n kc ks μ (pc + 2) lv (.int v :: st)) : TT p l e R s m args below meth c Q nL B D cT n kc ks μ pc lv st :=
  fun H locs ls hP hW hS hl => lv_ldc E.1.1 E.1.2.1 E.1.2.2.2.1 (E.1.2.2.2.2 _ hw) hdg (kk H locs ls hP hW hS hl)
theorem tt_ldc2 (E : EE p s m args c cc nL own B D cT XS) {idx : Nat} {v : Int64} (hdg : decode cc pc = .ok (.ldc2_w idx, 3)) (hw : Jvm.Cond.constantLong own idx v ∈ gw) (kk : TT p l e R s m args below meth c Q nL B D cT n kc ks μ (pc + 3) lv (.long v :: st)) : TT p l e R s m args below meth c Q nL B D cT n kc ks μ pc lv st :=
  fun H locs ls hP hW hS hl => lv_ldc2 E.1.1 E.1.2.1 E.1.2.2.2.1 (E.1.2.2.2.2 _ hw) hdg (kk H locs ls hP hW hS hl)
theorem tt_iload_n (E : EE p s m args c cc nL own B D cT XS) {k : Fin 4} {i j : Nat} {x : Int32} (hdg : decode cc pc = .ok (.iload_n k, 1)) (hi : (k : Nat) = i) (hj : lv[j]? = some (i, .int x)) (kk : TT p l e R s m args below meth c Q nL B D cT n kc ks μ (pc + 1) lv (.int x :: st)) : TT p l e R s m args below meth c Q nL B D cT n kc ks μ pc lv st :=
  fun H locs ls hP hW hS hl => lv_iload_n E.1.1 E.1.2.1 hdg hi (lv_at hl j hj) (kk H locs ls hP hW hS hl)
theorem tt_iload (E : EE p s m args c cc nL own B D cT XS) {i j : Nat} {x : Int32} (hdg : decode cc pc = .ok (.iload i, 2)) (hj : lv[j]? = some (i, .int x)) (kk : TT p l e R s m args below meth c Q nL B D cT n kc ks μ (pc + 2) lv (.int x :: st)) : TT p l e R s m args below meth c Q nL B D cT n kc ks μ pc lv st :=
  fun H locs ls hP hW hS hl => lv_iload E.1.1 E.1.2.1 hdg (lv_at hl j hj) (kk H locs ls hP hW hS hl)
theorem tt_lload_n (E : EE p s m args c cc nL own B D cT XS) {k : Fin 4} {i j : Nat} {x : Int64} (hdg : decode cc pc = .ok (.lload_n k, 1)) (hi : (k : Nat) = i) (hj : lv[j]? = some (i, .long x)) (kk : TT p l e R s m args below meth c Q nL B D cT n kc ks μ (pc + 1) lv (.long x :: st)) : TT p l e R s m args below meth c Q nL B D cT n kc ks μ pc lv st :=
  fun H locs ls hP hW hS hl => lv_lload_n E.1.1 E.1.2.1 hdg hi (lv_at hl j hj) (kk H locs ls hP hW hS hl)
theorem tt_lload (E : EE p s m args c cc nL own B D cT XS) {i j : Nat} {x : Int64} (hdg : decode cc pc = .ok (.lload i, 2)) (hj : lv[j]? = some (i, .long x)) (kk : TT p l e R s m args below meth c Q nL B D cT n kc ks μ (pc + 2) lv (.long x :: st)) : TT p l e R s m args below meth c Q nL B D cT n kc ks μ pc lv st :=
  fun H locs ls hP hW hS hl => lv_lload E.1.1 E.1.2.1 hdg (lv_at hl j hj) (kk H locs ls hP hW hS hl)
theorem tt_aload_n (E : EE p s m args c cc nL own B D cT XS) {k : Fin 4} {i j : Nat} {x : Nat} (hdg : decode cc pc = .ok (.aload_n k, 1)) (hi : (k : Nat) = i) (hj : lv[j]? = some (i, .ref x)) (kk : TT p l e R s m args below meth c Q nL B D cT n kc ks μ (pc + 1) lv (.ref x :: st)) : TT p l e R s m args below meth c Q nL B D cT n kc ks μ pc lv st :=
  fun H locs ls hP hW hS hl => lv_aload_n E.1.1 E.1.2.1 hdg hi (lv_at hl j hj) (kk H locs ls hP hW hS hl)
theorem tt_aload (E : EE p s m args c cc nL own B D cT XS) {i j : Nat} {x : Nat} (hdg : decode cc pc = .ok (.aload i, 2)) (hj : lv[j]? = some (i, .ref x)) (kk : TT p l e R s m args below meth c Q nL B D cT n kc ks μ (pc + 2) lv (.ref x :: st)) : TT p l e R s m args below meth c Q nL B D cT n kc ks μ pc lv st :=
  fun H locs ls hP hW hS hl => lv_aload E.1.1 E.1.2.1 hdg (lv_at hl j hj) (kk H locs ls hP hW hS hl)
theorem tt_dload (E : EE p s m args c cc nL own B D cT XS) {i j : Nat} {x : UInt64} (hdg : decode cc pc = .ok (.dload i, 2)) (hj : lv[j]? = some (i, .double x)) (kk : TT p l e R s m args below meth c Q nL B D cT n kc ks μ (pc + 2) lv (.double x :: st)) : TT p l e R s m args below meth c Q nL B D cT n kc ks μ pc lv st :=
  fun H locs ls hP hW hS hl => lv_dload E.1.1 E.1.2.1 hdg (lv_at hl j hj) (kk H locs ls hP hW hS hl)
theorem tt_istore_n (E : EE p s m args c cc nL own B D cT XS) {k : Fin 4} {i : Nat} {x : Int32} {lv' : List (Nat × Value)} (hdg : decode cc pc = .ok (.istore_n k, 1)) (hi : (k : Nat) = i) (hn : i < nL) (hl' : (i, Value.int x) :: lv.filter (fun q => !(q.1 == i) && !(q.1 + 1 == i && q.2.category == 2)) = lv') (kk : TT p l e R s m args below meth c Q nL B D cT n kc ks μ (pc + 1) lv' st) : TT p l e R s m args below meth c Q nL B D cT n kc ks μ pc lv (Value.int x :: st) :=
  fun H locs ls hP hW hS hl => lv_istore_n E.1.1 E.1.2.1 hdg hi hl hn hl' (fun ls' hl' => kk H locs ls' hP hW hS hl')
theorem tt_istore (E : EE p s m args c cc nL own B D cT XS) {i : Nat} {x : Int32} {lv' : List (Nat × Value)} (hdg : decode cc pc = .ok (.istore i, 2)) (hn : i < nL) (hl' : (i, Value.int x) :: lv.filter (fun q => !(q.1 == i) && !(q.1 + 1 == i && q.2.category == 2)) = lv') (kk : TT p l e R s m args below meth c Q nL B D cT n kc ks μ (pc + 2) lv' st) : TT p l e R s m args below meth c Q nL B D cT n kc ks μ pc lv (Value.int x :: st) :=
  fun H locs ls hP hW hS hl => lv_istore E.1.1 E.1.2.1 hdg hl hn hl' (fun ls' hl' => kk H locs ls' hP hW hS hl')
theorem tt_astore_n (E : EE p s m args c cc nL own B D cT XS) {k : Fin 4} {i : Nat} {x : Nat} {lv' : List (Nat × Value)} (hdg : decode cc pc = .ok (.astore_n k, 1)) (hi : (k : Nat) = i) (hn : i < nL) (hl' : (i, Value.ref x) :: lv.filter (fun q => !(q.1 == i) && !(q.1 + 1 == i && q.2.category == 2)) = lv') (kk : TT p l e R s m args below meth c Q nL B D cT n kc ks μ (pc + 1) lv' st) : TT p l e R s m args below meth c Q nL B D cT n kc ks μ pc lv (Value.ref x :: st) :=
  fun H locs ls hP hW hS hl => lv_astore_n E.1.1 E.1.2.1 hdg hi hl hn hl' (fun ls' hl' => kk H locs ls' hP hW hS hl')
theorem tt_astore (E : EE p s m args c cc nL own B D cT XS) {i : Nat} {x : Nat} {lv' : List (Nat × Value)} (hdg : decode cc pc = .ok (.astore i, 2)) (hn : i < nL) (hl' : (i, Value.ref x) :: lv.filter (fun q => !(q.1 == i) && !(q.1 + 1 == i && q.2.category == 2)) = lv') (kk : TT p l e R s m args below meth c Q nL B D cT n kc ks μ (pc + 2) lv' st) : TT p l e R s m args below meth c Q nL B D cT n kc ks μ pc lv (Value.ref x :: st) :=
  fun H locs ls hP hW hS hl => lv_astore E.1.1 E.1.2.1 hdg hl hn hl' (fun ls' hl' => kk H locs ls' hP hW hS hl')
theorem tt_lstore_n (E : EE p s m args c cc nL own B D cT XS) {k : Fin 4} {i : Nat} {x : Int64} {lv' : List (Nat × Value)} (hdg : decode cc pc = .ok (.lstore_n k, 1)) (hi : (k : Nat) = i) (hn : i + 1 < nL) (hl' : (i, Value.long x) :: lv.filter (fun q => !(q.1 == i) && (!(q.1 == i + 1) && !(q.1 + 1 == i && q.2.category == 2))) = lv') (kk : TT p l e R s m args below meth c Q nL B D cT n kc ks μ (pc + 1) lv' st) : TT p l e R s m args below meth c Q nL B D cT n kc ks μ pc lv (Value.long x :: st) :=
  fun H locs ls hP hW hS hl => lv_lstore_n E.1.1 E.1.2.1 hdg hi hl hn hl' (fun ls' hl' => kk H locs ls' hP hW hS hl')
theorem tt_lstore (E : EE p s m args c cc nL own B D cT XS) {i : Nat} {x : Int64} {lv' : List (Nat × Value)} (hdg : decode cc pc = .ok (.lstore i, 2)) (hn : i + 1 < nL) (hl' : (i, Value.long x) :: lv.filter (fun q => !(q.1 == i) && (!(q.1 == i + 1) && !(q.1 + 1 == i && q.2.category == 2))) = lv') (kk : TT p l e R s m args below meth c Q nL B D cT n kc ks μ (pc + 2) lv' st) : TT p l e R s m args below meth c Q nL B D cT n kc ks μ pc lv (Value.long x :: st) :=
  fun H locs ls hP hW hS hl => lv_lstore E.1.1 E.1.2.1 hdg hl hn hl' (fun ls' hl' => kk H locs ls' hP hW hS hl')
theorem tt_iinc (E : EE p s m args c cc nL own B D cT XS) {i j : Nat} {k : Int} {x v : Int32} {lv' : List (Nat × Value)} (hdg : decode cc pc = .ok (.iinc i k, 3)) (hj : lv[j]? = some (i, .int x)) (hv : x + Int32.ofInt k = v) (hn : i < nL) (hl' : (i, Value.int v) :: lv.filter (fun q => !(q.1 == i) && !(q.1 + 1 == i && q.2.category == 2)) = lv') (kk : TT p l e R s m args below meth c Q nL B D cT n kc ks μ (pc + 3) lv' st) : TT p l e R s m args below meth c Q nL B D cT n kc ks μ pc lv st :=
  fun H locs ls hP hW hS hl => lv_iinc E.1.1 E.1.2.1 hdg hl hj hv hn hl' (fun ls' hl' => kk H locs ls' hP hW hS hl')
theorem tt_iadd (E : EE p s m args c cc nL own B D cT XS) {x y : Int32} (hdg : decode cc pc = .ok (.iadd, 1)) (kk : TT p l e R s m args below meth c Q nL B D cT n kc ks μ (pc + 1) lv (.int (x + y) :: st)) : TT p l e R s m args below meth c Q nL B D cT n kc ks μ pc lv (.int y :: .int x :: st) :=
  fun H locs ls hP hW hS hl => lv_iadd E.1.1 E.1.2.1 hdg (kk H locs ls hP hW hS hl)
theorem tt_isub (E : EE p s m args c cc nL own B D cT XS) {x y : Int32} (hdg : decode cc pc = .ok (.isub, 1)) (kk : TT p l e R s m args below meth c Q nL B D cT n kc ks μ (pc + 1) lv (.int (x - y) :: st)) : TT p l e R s m args below meth c Q nL B D cT n kc ks μ pc lv (.int y :: .int x :: st) :=
  fun H locs ls hP hW hS hl => lv_isub E.1.1 E.1.2.1 hdg (kk H locs ls hP hW hS hl)
theorem tt_imul (E : EE p s m args c cc nL own B D cT XS) {x y : Int32} (hdg : decode cc pc = .ok (.imul, 1)) (kk : TT p l e R s m args below meth c Q nL B D cT n kc ks μ (pc + 1) lv (.int (x * y) :: st)) : TT p l e R s m args below meth c Q nL B D cT n kc ks μ pc lv (.int y :: .int x :: st) :=
  fun H locs ls hP hW hS hl => lv_imul E.1.1 E.1.2.1 hdg (kk H locs ls hP hW hS hl)
theorem tt_iand (E : EE p s m args c cc nL own B D cT XS) {x y : Int32} (hdg : decode cc pc = .ok (.iand, 1)) (kk : TT p l e R s m args below meth c Q nL B D cT n kc ks μ (pc + 1) lv (.int (x &&& y) :: st)) : TT p l e R s m args below meth c Q nL B D cT n kc ks μ pc lv (.int y :: .int x :: st) :=
  fun H locs ls hP hW hS hl => lv_iand E.1.1 E.1.2.1 hdg (kk H locs ls hP hW hS hl)
theorem tt_idiv (E : EE p s m args c cc nL own B D cT XS) {x y : Int32} (hdg : decode cc pc = .ok (.idiv, 1)) (hne : ¬ y = 0) (kk : TT p l e R s m args below meth c Q nL B D cT n kc ks μ (pc + 1) lv (.int (x / y) :: st)) : TT p l e R s m args below meth c Q nL B D cT n kc ks μ pc lv (.int y :: .int x :: st) :=
  fun H locs ls hP hW hS hl => lv_idiv E.1.1 E.1.2.1 hdg hne (kk H locs ls hP hW hS hl)
theorem tt_irem (E : EE p s m args c cc nL own B D cT XS) {x y : Int32} (hdg : decode cc pc = .ok (.irem, 1)) (hne : ¬ y = 0) (kk : TT p l e R s m args below meth c Q nL B D cT n kc ks μ (pc + 1) lv (.int (x - x / y * y) :: st)) : TT p l e R s m args below meth c Q nL B D cT n kc ks μ pc lv (.int y :: .int x :: st) :=
  fun H locs ls hP hW hS hl => lv_irem E.1.1 E.1.2.1 hdg hne (kk H locs ls hP hW hS hl)
theorem tt_ishr (E : EE p s m args c cc nL own B D cT XS) {x y : Int32} (hdg : decode cc pc = .ok (.ishr, 1)) (kk : TT p l e R s m args below meth c Q nL B D cT n kc ks μ (pc + 1) lv (.int (x >>> (y &&& 31)) :: st)) : TT p l e R s m args below meth c Q nL B D cT n kc ks μ pc lv (.int y :: .int x :: st) :=
  fun H locs ls hP hW hS hl => lv_ishr E.1.1 E.1.2.1 hdg (kk H locs ls hP hW hS hl)
theorem tt_lor (E : EE p s m args c cc nL own B D cT XS) {x y : Int64} (hdg : decode cc pc = .ok (.lor, 1)) (kk : TT p l e R s m args below meth c Q nL B D cT n kc ks μ (pc + 1) lv (.long (x ||| y) :: st)) : TT p l e R s m args below meth c Q nL B D cT n kc ks μ pc lv (.long y :: .long x :: st) :=
  fun H locs ls hP hW hS hl => lv_lor E.1.1 E.1.2.1 hdg (kk H locs ls hP hW hS hl)
theorem tt_land (E : EE p s m args c cc nL own B D cT XS) {x y : Int64} (hdg : decode cc pc = .ok (.land, 1)) (kk : TT p l e R s m args below meth c Q nL B D cT n kc ks μ (pc + 1) lv (.long (x &&& y) :: st)) : TT p l e R s m args below meth c Q nL B D cT n kc ks μ pc lv (.long y :: .long x :: st) :=
  fun H locs ls hP hW hS hl => lv_land E.1.1 E.1.2.1 hdg (kk H locs ls hP hW hS hl)
theorem tt_iushr (E : EE p s m args c cc nL own B D cT XS) {x y : Int32} (hdg : decode cc pc = .ok (.iushr, 1)) (kk : TT p l e R s m args below meth c Q nL B D cT n kc ks μ (pc + 1) lv (.int ((x.toUInt32 >>> (y.toUInt32 &&& Int32.toUInt32 31)).toInt32) :: st)) : TT p l e R s m args below meth c Q nL B D cT n kc ks μ pc lv (.int y :: .int x :: st) :=
  fun H locs ls hP hW hS hl => lv_iushr E.1.1 E.1.2.1 hdg rfl (kk H locs ls hP hW hS hl)
theorem tt_lshl (E : EE p s m args c cc nL own B D cT XS) {x : Int64} {y : Int32} (hdg : decode cc pc = .ok (.lshl, 1)) (kk : TT p l e R s m args below meth c Q nL B D cT n kc ks μ (pc + 1) lv (.long (x <<< (y.toInt64 &&& 63)) :: st)) : TT p l e R s m args below meth c Q nL B D cT n kc ks μ pc lv (.int y :: .long x :: st) :=
  fun H locs ls hP hW hS hl => lv_lshl E.1.1 E.1.2.1 hdg rfl (kk H locs ls hP hW hS hl)
theorem tt_lshr (E : EE p s m args c cc nL own B D cT XS) {x : Int64} {y : Int32} (hdg : decode cc pc = .ok (.lshr, 1)) (kk : TT p l e R s m args below meth c Q nL B D cT n kc ks μ (pc + 1) lv (.long (x >>> (y.toInt64 &&& 63)) :: st)) : TT p l e R s m args below meth c Q nL B D cT n kc ks μ pc lv (.int y :: .long x :: st) :=
  fun H locs ls hP hW hS hl => lv_lshr E.1.1 E.1.2.1 hdg rfl (kk H locs ls hP hW hS hl)
theorem tt_lushr (E : EE p s m args c cc nL own B D cT XS) {x : Int64} {y : Int32} (hdg : decode cc pc = .ok (.lushr, 1)) (kk : TT p l e R s m args below meth c Q nL B D cT n kc ks μ (pc + 1) lv (.long ((x.toUInt64 >>> (y.toInt64.toUInt64 &&& Int64.toUInt64 63)).toInt64) :: st)) : TT p l e R s m args below meth c Q nL B D cT n kc ks μ pc lv (.int y :: .long x :: st) :=
  fun H locs ls hP hW hS hl => lv_lushr E.1.1 E.1.2.1 hdg rfl (kk H locs ls hP hW hS hl)
theorem tt_i2l (E : EE p s m args c cc nL own B D cT XS) {x : Int32} (hdg : decode cc pc = .ok (.i2l, 1)) (kk : TT p l e R s m args below meth c Q nL B D cT n kc ks μ (pc + 1) lv (.long (x.toInt64) :: st)) : TT p l e R s m args below meth c Q nL B D cT n kc ks μ pc lv (.int x :: st) :=
  fun H locs ls hP hW hS hl => lv_i2l E.1.1 E.1.2.1 hdg rfl (kk H locs ls hP hW hS hl)
theorem tt_l2i (E : EE p s m args c cc nL own B D cT XS) {x : Int64} (hdg : decode cc pc = .ok (.l2i, 1)) (kk : TT p l e R s m args below meth c Q nL B D cT n kc ks μ (pc + 1) lv (.int (x.toInt32) :: st)) : TT p l e R s m args below meth c Q nL B D cT n kc ks μ pc lv (.long x :: st) :=
  fun H locs ls hP hW hS hl => lv_l2i E.1.1 E.1.2.1 hdg rfl (kk H locs ls hP hW hS hl)
theorem tt_i2b (E : EE p s m args c cc nL own B D cT XS) {x : Int32} (hdg : decode cc pc = .ok (.i2b, 1)) (kk : TT p l e R s m args below meth c Q nL B D cT n kc ks μ (pc + 1) lv (.int (x.toInt8.toInt32) :: st)) : TT p l e R s m args below meth c Q nL B D cT n kc ks μ pc lv (.int x :: st) :=
  fun H locs ls hP hW hS hl => lv_i2b E.1.1 E.1.2.1 hdg rfl (kk H locs ls hP hW hS hl)
theorem tt_lcmp (E : EE p s m args c cc nL own B D cT XS) {x y : Int64} (hdg : decode cc pc = .ok (.lcmp, 1)) (kk : TT p l e R s m args below meth c Q nL B D cT n kc ks μ (pc + 1) lv (.int (lg_cmp x y) :: st)) : TT p l e R s m args below meth c Q nL B D cT n kc ks μ pc lv (.long y :: .long x :: st) :=
  fun H locs ls hP hW hS hl => W.lcmp E.1.1 E.1.2.1 hdg (kk H locs ls hP hW hS hl)
theorem tt_if_eq (E : EE p s m args c cc nL own B D cT XS) {x : Int32} {off : Int} {tgt : Nat} (hdg : decode cc pc = .ok (.ifCond .eq off, 3)) (ht : (pc : Int) + off = (tgt : Int)) (kt : x = 0 → TT p l e R s m args below meth c Q nL B D cT n kc ks μ tgt lv st) (kf : ¬ x = 0 → TT p l e R s m args below meth c Q nL B D cT n kc ks μ (pc + 3) lv st) : TT p l e R s m args below meth c Q nL B D cT n kc ks μ pc lv (.int x :: st) :=
  fun H locs ls hP hW hS hl => lv_if_eq E.1.1 E.1.2.1 hdg ht (fun h => kt h H locs ls hP hW hS hl) (fun h => kf h H locs ls hP hW hS hl)
theorem tt_icmp_eq (E : EE p s m args c cc nL own B D cT XS) {x y : Int32} {off : Int} {tgt : Nat} (hdg : decode cc pc = .ok (.if_icmp .eq off, 3)) (ht : (pc : Int) + off = (tgt : Int)) (kt : x = y → TT p l e R s m args below meth c Q nL B D cT n kc ks μ tgt lv st) (kf : ¬ x = y → TT p l e R s m args below meth c Q nL B D cT n kc ks μ (pc + 3) lv st) : TT p l e R s m args below meth c Q nL B D cT n kc ks μ pc lv (.int y :: .int x :: st) :=
  fun H locs ls hP hW hS hl => lv_icmp_eq E.1.1 E.1.2.1 hdg ht (fun h => kt h H locs ls hP hW hS hl) (fun h => kf h H locs ls hP hW hS hl)
theorem tt_if_ne (E : EE p s m args c cc nL own B D cT XS) {x : Int32} {off : Int} {tgt : Nat} (hdg : decode cc pc = .ok (.ifCond .ne off, 3)) (ht : (pc : Int) + off = (tgt : Int)) (kt : ¬ x = 0 → TT p l e R s m args below meth c Q nL B D cT n kc ks μ tgt lv st) (kf : x = 0 → TT p l e R s m args below meth c Q nL B D cT n kc ks μ (pc + 3) lv st) : TT p l e R s m args below meth c Q nL B D cT n kc ks μ pc lv (.int x :: st) :=
  fun H locs ls hP hW hS hl => lv_if_ne E.1.1 E.1.2.1 hdg ht (fun h => kt h H locs ls hP hW hS hl) (fun h => kf h H locs ls hP hW hS hl)
theorem tt_icmp_ne (E : EE p s m args c cc nL own B D cT XS) {x y : Int32} {off : Int} {tgt : Nat} (hdg : decode cc pc = .ok (.if_icmp .ne off, 3)) (ht : (pc : Int) + off = (tgt : Int)) (kt : ¬ x = y → TT p l e R s m args below meth c Q nL B D cT n kc ks μ tgt lv st) (kf : x = y → TT p l e R s m args below meth c Q nL B D cT n kc ks μ (pc + 3) lv st) : TT p l e R s m args below meth c Q nL B D cT n kc ks μ pc lv (.int y :: .int x :: st) :=
  fun H locs ls hP hW hS hl => lv_icmp_ne E.1.1 E.1.2.1 hdg ht (fun h => kt h H locs ls hP hW hS hl) (fun h => kf h H locs ls hP hW hS hl)
theorem tt_if_lt (E : EE p s m args c cc nL own B D cT XS) {x : Int32} {off : Int} {tgt : Nat} (hdg : decode cc pc = .ok (.ifCond .lt off, 3)) (ht : (pc : Int) + off = (tgt : Int)) (kt : x < 0 → TT p l e R s m args below meth c Q nL B D cT n kc ks μ tgt lv st) (kf : ¬ x < 0 → TT p l e R s m args below meth c Q nL B D cT n kc ks μ (pc + 3) lv st) : TT p l e R s m args below meth c Q nL B D cT n kc ks μ pc lv (.int x :: st) :=
  fun H locs ls hP hW hS hl => lv_if_lt E.1.1 E.1.2.1 hdg ht (fun h => kt h H locs ls hP hW hS hl) (fun h => kf h H locs ls hP hW hS hl)
theorem tt_icmp_lt (E : EE p s m args c cc nL own B D cT XS) {x y : Int32} {off : Int} {tgt : Nat} (hdg : decode cc pc = .ok (.if_icmp .lt off, 3)) (ht : (pc : Int) + off = (tgt : Int)) (kt : x < y → TT p l e R s m args below meth c Q nL B D cT n kc ks μ tgt lv st) (kf : ¬ x < y → TT p l e R s m args below meth c Q nL B D cT n kc ks μ (pc + 3) lv st) : TT p l e R s m args below meth c Q nL B D cT n kc ks μ pc lv (.int y :: .int x :: st) :=
  fun H locs ls hP hW hS hl => lv_icmp_lt E.1.1 E.1.2.1 hdg ht (fun h => kt h H locs ls hP hW hS hl) (fun h => kf h H locs ls hP hW hS hl)
theorem tt_if_ge (E : EE p s m args c cc nL own B D cT XS) {x : Int32} {off : Int} {tgt : Nat} (hdg : decode cc pc = .ok (.ifCond .ge off, 3)) (ht : (pc : Int) + off = (tgt : Int)) (kt : 0 ≤ x → TT p l e R s m args below meth c Q nL B D cT n kc ks μ tgt lv st) (kf : ¬ 0 ≤ x → TT p l e R s m args below meth c Q nL B D cT n kc ks μ (pc + 3) lv st) : TT p l e R s m args below meth c Q nL B D cT n kc ks μ pc lv (.int x :: st) :=
  fun H locs ls hP hW hS hl => lv_if_ge E.1.1 E.1.2.1 hdg ht (fun h => kt h H locs ls hP hW hS hl) (fun h => kf h H locs ls hP hW hS hl)
theorem tt_icmp_ge (E : EE p s m args c cc nL own B D cT XS) {x y : Int32} {off : Int} {tgt : Nat} (hdg : decode cc pc = .ok (.if_icmp .ge off, 3)) (ht : (pc : Int) + off = (tgt : Int)) (kt : y ≤ x → TT p l e R s m args below meth c Q nL B D cT n kc ks μ tgt lv st) (kf : ¬ y ≤ x → TT p l e R s m args below meth c Q nL B D cT n kc ks μ (pc + 3) lv st) : TT p l e R s m args below meth c Q nL B D cT n kc ks μ pc lv (.int y :: .int x :: st) :=
  fun H locs ls hP hW hS hl => lv_icmp_ge E.1.1 E.1.2.1 hdg ht (fun h => kt h H locs ls hP hW hS hl) (fun h => kf h H locs ls hP hW hS hl)
theorem tt_if_gt (E : EE p s m args c cc nL own B D cT XS) {x : Int32} {off : Int} {tgt : Nat} (hdg : decode cc pc = .ok (.ifCond .gt off, 3)) (ht : (pc : Int) + off = (tgt : Int)) (kt : 0 < x → TT p l e R s m args below meth c Q nL B D cT n kc ks μ tgt lv st) (kf : ¬ 0 < x → TT p l e R s m args below meth c Q nL B D cT n kc ks μ (pc + 3) lv st) : TT p l e R s m args below meth c Q nL B D cT n kc ks μ pc lv (.int x :: st) :=
  fun H locs ls hP hW hS hl => lv_if_gt E.1.1 E.1.2.1 hdg ht (fun h => kt h H locs ls hP hW hS hl) (fun h => kf h H locs ls hP hW hS hl)
theorem tt_icmp_gt (E : EE p s m args c cc nL own B D cT XS) {x y : Int32} {off : Int} {tgt : Nat} (hdg : decode cc pc = .ok (.if_icmp .gt off, 3)) (ht : (pc : Int) + off = (tgt : Int)) (kt : y < x → TT p l e R s m args below meth c Q nL B D cT n kc ks μ tgt lv st) (kf : ¬ y < x → TT p l e R s m args below meth c Q nL B D cT n kc ks μ (pc + 3) lv st) : TT p l e R s m args below meth c Q nL B D cT n kc ks μ pc lv (.int y :: .int x :: st) :=
  fun H locs ls hP hW hS hl => lv_icmp_gt E.1.1 E.1.2.1 hdg ht (fun h => kt h H locs ls hP hW hS hl) (fun h => kf h H locs ls hP hW hS hl)
theorem tt_if_le (E : EE p s m args c cc nL own B D cT XS) {x : Int32} {off : Int} {tgt : Nat} (hdg : decode cc pc = .ok (.ifCond .le off, 3)) (ht : (pc : Int) + off = (tgt : Int)) (kt : x ≤ 0 → TT p l e R s m args below meth c Q nL B D cT n kc ks μ tgt lv st) (kf : ¬ x ≤ 0 → TT p l e R s m args below meth c Q nL B D cT n kc ks μ (pc + 3) lv st) : TT p l e R s m args below meth c Q nL B D cT n kc ks μ pc lv (.int x :: st) :=
  fun H locs ls hP hW hS hl => lv_if_le E.1.1 E.1.2.1 hdg ht (fun h => kt h H locs ls hP hW hS hl) (fun h => kf h H locs ls hP hW hS hl)
theorem tt_icmp_le (E : EE p s m args c cc nL own B D cT XS) {x y : Int32} {off : Int} {tgt : Nat} (hdg : decode cc pc = .ok (.if_icmp .le off, 3)) (ht : (pc : Int) + off = (tgt : Int)) (kt : x ≤ y → TT p l e R s m args below meth c Q nL B D cT n kc ks μ tgt lv st) (kf : ¬ x ≤ y → TT p l e R s m args below meth c Q nL B D cT n kc ks μ (pc + 3) lv st) : TT p l e R s m args below meth c Q nL B D cT n kc ks μ pc lv (.int y :: .int x :: st) :=
  fun H locs ls hP hW hS hl => lv_icmp_le E.1.1 E.1.2.1 hdg ht (fun h => kt h H locs ls hP hW hS hl) (fun h => kf h H locs ls hP hW hS hl)
theorem tt_acmp_eq (E : EE p s m args c cc nL own B D cT XS) {x y : Nat} {off : Int} {tgt : Nat} (hdg : decode cc pc = .ok (.if_acmp .eq off, 3)) (ht : (pc : Int) + off = (tgt : Int)) (kt : x = y → TT p l e R s m args below meth c Q nL B D cT n kc ks μ tgt lv st) (kf : ¬ x = y → TT p l e R s m args below meth c Q nL B D cT n kc ks μ (pc + 3) lv st) : TT p l e R s m args below meth c Q nL B D cT n kc ks μ pc lv (.ref (B + y) :: .ref (B + x) :: st) :=
  fun H locs ls hP hW hS hl => lv_acmp_eq (rx := some (B + x)) (ry := some (B + y)) E.1.1 E.1.2.1 hdg ht (fun h => kt (by simpa using h) H locs ls hP hW hS hl) (fun h => kf (by simpa using h) H locs ls hP hW hS hl)
theorem tt_acmp_ne (E : EE p s m args c cc nL own B D cT XS) {x y : Nat} {off : Int} {tgt : Nat} (hdg : decode cc pc = .ok (.if_acmp .ne off, 3)) (ht : (pc : Int) + off = (tgt : Int)) (kt : ¬ x = y → TT p l e R s m args below meth c Q nL B D cT n kc ks μ tgt lv st) (kf : x = y → TT p l e R s m args below meth c Q nL B D cT n kc ks μ (pc + 3) lv st) : TT p l e R s m args below meth c Q nL B D cT n kc ks μ pc lv (.ref (B + y) :: .ref (B + x) :: st) :=
  fun H locs ls hP hW hS hl => lv_acmp_ne (rx := some (B + x)) (ry := some (B + y)) E.1.1 E.1.2.1 hdg ht (fun h => kt (by simpa using h) H locs ls hP hW hS hl) (fun h => kf (by simpa using h) H locs ls hP hW hS hl)
theorem tt_goto (E : EE p s m args c cc nL own B D cT XS) {off : Int} {tgt : Nat} (hdg : decode cc pc = .ok (.goto off, 3)) (ht : (pc : Int) + off = (tgt : Int)) (kk : TT p l e R s m args below meth c Q nL B D cT n kc ks μ tgt lv st) : TT p l e R s m args below meth c Q nL B D cT n kc ks μ pc lv st :=
  fun H locs ls hP hW hS hl => lv_goto E.1.1 E.1.2.1 hdg ht (kk H locs ls hP hW hS hl)
theorem tt_dup (E : EE p s m args c cc nL own B D cT XS) {v : Value} (hdg : decode cc pc = .ok (.dup, 1)) (hv : v.category = 1) (kk : TT p l e R s m args below meth c Q nL B D cT n kc ks μ (pc + 1) lv (v :: v :: st)) : TT p l e R s m args below meth c Q nL B D cT n kc ks μ pc lv (v :: st) :=
  fun H locs ls hP hW hS hl => lv_dup E.1.1 E.1.2.1 hdg hv (kk H locs ls hP hW hS hl)
theorem tt_dup2 (E : EE p s m args c cc nL own B D cT XS) {v w : Value} (hdg : decode cc pc = .ok (.dup2, 1)) (hv : v.category = 1) (hw : w.category = 1) (kk : TT p l e R s m args below meth c Q nL B D cT n kc ks μ (pc + 1) lv (v :: w :: v :: w :: st)) : TT p l e R s m args below meth c Q nL B D cT n kc ks μ pc lv (v :: w :: st) :=
  fun H locs ls hP hW hS hl => lv_dup2_11 E.1.1 E.1.2.1 hdg hv hw (kk H locs ls hP hW hS hl)
theorem tt_pop (E : EE p s m args c cc nL own B D cT XS) {v : Value} (hdg : decode cc pc = .ok (.pop, 1)) (hv : v.category = 1) (kk : TT p l e R s m args below meth c Q nL B D cT n kc ks μ (pc + 1) lv st) : TT p l e R s m args below meth c Q nL B D cT n kc ks μ pc lv (v :: st) :=
  fun H locs ls hP hW hS hl => lv_pop E.1.1 E.1.2.1 hdg hv (kk H locs ls hP hW hS hl)
theorem tt_swIn (E : EE p s m args c cc nL own B D cT XS) {dflt lo hi : Int} {offs : Array Int} {len : Nat} {x : Int32} {off : Int} {tgt : Nat} (hdg : decode cc pc = .ok (.tableswitch dflt lo hi offs, len)) (h1 : ¬ x.toInt < lo) (h2 : ¬ hi < x.toInt) (ho : offs[(x.toInt - lo).toNat]? = some off) (ht : (pc : Int) + off = (tgt : Int)) (kk : TT p l e R s m args below meth c Q nL B D cT n kc ks μ tgt lv st) : TT p l e R s m args below meth c Q nL B D cT n kc ks μ pc lv (.int x :: st) :=
  fun H locs ls hP hW hS hl => lv_tableIn E.1.1 E.1.2.1 hdg h1 h2 ho ht (kk H locs ls hP hW hS hl)
theorem tt_swOut (E : EE p s m args c cc nL own B D cT XS) {dflt lo hi : Int} {offs : Array Int} {len : Nat} {x : Int32} {tgt : Nat} (hdg : decode cc pc = .ok (.tableswitch dflt lo hi offs, len)) (h : x.toInt < lo ∨ hi < x.toInt) (ht : (pc : Int) + dflt = (tgt : Int)) (kk : TT p l e R s m args below meth c Q nL B D cT n kc ks μ tgt lv st) : TT p l e R s m args below meth c Q nL B D cT n kc ks μ pc lv (.int x :: st) :=
  fun H locs ls hP hW hS hl => lv_tableOut E.1.1 E.1.2.1 hdg h ht (kk H locs ls hP hW hS hl)
theorem tt_nmM {α : Type} {X : Mem} {F : Mem → Option α} {res : α} (hf : nm X F = some res) (kk : ∀ y, F y = some res → TT p l e R s m args below meth c Q nL B D cT n kc ks y pc lv st) : TT p l e R s m args below meth c Q nL B D cT n kc ks X pc lv st := kk X hf
theorem tt_nmI {α : Type} {X : Int32} {F : Int32 → Option α} {res : α} (hf : nm X F = some res) (kk : ∀ y, F y = some res → TT p l e R s m args below meth c Q nL B D cT n kc ks μ pc lv (.int y :: st)) : TT p l e R s m args below meth c Q nL B D cT n kc ks μ pc lv (.int X :: st) := kk X hf
theorem tt_nmJ {α : Type} {X : Int64} {F : Int64 → Option α} {res : α} (hf : nm X F = some res) (kk : ∀ y, F y = some res → TT p l e R s m args below meth c Q nL B D cT n kc ks μ pc lv (.long y :: st)) : TT p l e R s m args below meth c Q nL B D cT n kc ks μ pc lv (.long X :: st) := kk X hf
theorem tt_sub {lv' : List (Nat × Value)} (ks' : List Nat) (hl' : lv_pick lv ks' = lv') (kk : TT p l e R s m args below meth c Q nL B D cT n kc ks μ pc lv' st) : TT p l e R s m args below meth c Q nL B D cT n kc ks μ pc lv st := fun H locs ls hP hW hS hl => kk H locs ls hP hW hS (lv_sub hl ks' hl')
theorem tt_eq {pc1 pc2 : Nat} (h : pc1 = pc2) (kk : TT p l e R s m args below meth c Q nL B D cT n kc ks μ pc2 lv st) : TT p l e R s m args below meth c Q nL B D cT n kc ks μ pc1 lv st := h ▸ kk
theorem tt_alen (E : EE p s m args c cc nL own B D cT XS) {o k : Nat} {v : Int32} (hk : 10 ≤ k ∧ k ≤ 15) (ho : isK n o k) (hv : Int32.ofNat (Ln o) = v) (hdg : decode cc pc = .ok (.arraylength, 1)) (kk : TT p l e R s m args below meth c Q nL B D cT n kc ks μ (pc + 1) lv (.int v :: st)) : TT p l e R s m args below meth c Q nL B D cT n kc ks μ pc lv (.ref (B + o) :: st) := by
  intro H locs ls hP hW hS hl
  have he := wl_ent (B := B) (cT := cT) (μ := μ) ho
  rcases (show k = 10 ∨ k = 11 ∨ k = 12 ∨ k = 13 ∨ k = 14 ∨ k = 15 by omega) with rfl | rfl | rfl | rfl | rfl | rfl
  · exact va_alen E.1.1 E.1.2.1 E.2.1 hP o 0 he rfl hv hdg (kk H locs ls hP hW hS hl)
  · exact va_alen E.1.1 E.1.2.1 E.2.1 hP o 1 he rfl hv hdg (kk H locs ls hP hW hS hl)
  · exact va_alen E.1.1 E.1.2.1 E.2.1 hP o 2 he rfl hv hdg (kk H locs ls hP hW hS hl)
  · exact va_alen E.1.1 E.1.2.1 E.2.1 hP o 3 he rfl hv hdg (kk H locs ls hP hW hS hl)
  · exact va_alen E.1.1 E.1.2.1 E.2.1 hP o 4 he rfl hv hdg (kk H locs ls hP hW hS hl)
  · exact va_alen E.1.1 E.1.2.1 E.2.1 hP o 5 he rfl hv hdg (kk H locs ls hP hW hS hl)
theorem tt_iald (E : EE p s m args c cc nL own B D cT XS) {o : Nat} {i : Int32} (ho : isK n o 11) (hin : inB i (Ln o) = true) (hdg : decode cc pc = .ok (.iaload, 1)) (kk : TT p l e R s m args below meth c Q nL B D cT n kc ks μ (pc + 1) lv (.int (ldI μ o i.toNatClampNeg) :: st)) : TT p l e R s m args below meth c Q nL B D cT n kc ks μ pc lv (.int i :: .ref (B + o) :: st) :=
  fun H locs ls hP hW hS hl => va_iald E.1.1 E.1.2.1 E.2.1 hP o 1 (wl_ent ho) rfl (inB_in hin) hdg (kk H locs ls hP hW hS hl)
theorem tt_bald (E : EE p s m args c cc nL own B D cT XS) {o : Nat} {i : Int32} (ho : isK n o 10) (hin : inB i (Ln o) = true) (hdg : decode cc pc = .ok (.baload, 1)) (kk : TT p l e R s m args below meth c Q nL B D cT n kc ks μ (pc + 1) lv (.int (ldI μ o i.toNatClampNeg) :: st)) : TT p l e R s m args below meth c Q nL B D cT n kc ks μ pc lv (.int i :: .ref (B + o) :: st) :=
  fun H locs ls hP hW hS hl => va_bald E.1.1 E.1.2.1 E.2.1 hP o 0 (wl_ent ho) rfl (inB_in hin) hdg (kk H locs ls hP hW hS hl)
theorem tt_lald (E : EE p s m args c cc nL own B D cT XS) {o : Nat} {i : Int32} (ho : isK n o 12) (hin : inB i (Ln o) = true) (hdg : decode cc pc = .ok (.laload, 1)) (kk : TT p l e R s m args below meth c Q nL B D cT n kc ks μ (pc + 1) lv (.long (ldJ μ o i.toNatClampNeg) :: st)) : TT p l e R s m args below meth c Q nL B D cT n kc ks μ pc lv (.int i :: .ref (B + o) :: st) :=
  fun H locs ls hP hW hS hl => va_lald E.1.1 E.1.2.1 E.2.1 hP o 2 (wl_ent ho) rfl (inB_in hin) hdg (kk H locs ls hP hW hS hl)
theorem tt_iast (E : EE p s m args c cc nL own B D cT XS) {o : Nat} {i : Int32} {x : Int32} (ho : isK n o 11) (hin : inB i (Ln o) = true) (hdg : decode cc pc = .ok (.iastore, 1)) (kk : TT p l e R s m args below meth c Q nL B D cT n kc ks (stI μ o i.toNatClampNeg x) (pc + 1) lv st) : TT p l e R s m args below meth c Q nL B D cT n kc ks μ pc lv (.int x :: .int i :: .ref (B + o) :: st) := by
  intro H locs ls hP hW hS hl
  refine va_iast E.1.1 E.1.2.1 E.2.1 hP wl_D hS o 1 (wl_ent ho) rfl (inB_in hin) hdg (fun H1 locs1 hP1 hD1 hS1 => ?_)
  rw [wl_set ho.1 (μ' := stI μ o i.toNatClampNeg x) (by rw [entM, ho.2, ldI_stI_self]; rfl) (fun j hj => by rw [entM, entM, ldI_stI_ne hj]; rfl)] at hP1
  exact kk H1 locs1 ls hP1 (WT_stI hW (fun _ h => by rw [ho.2] at h; cases h)) hS1 hl
theorem tt_bast (E : EE p s m args c cc nL own B D cT XS) {o : Nat} {i : Int32} {x : Int32} (ho : isK n o 10) (hin : inB i (Ln o) = true) (hdg : decode cc pc = .ok (.bastore, 1)) (kk : TT p l e R s m args below meth c Q nL B D cT n kc ks (stI μ o i.toNatClampNeg (vp_nar .byte x)) (pc + 1) lv st) : TT p l e R s m args below meth c Q nL B D cT n kc ks μ pc lv (.int x :: .int i :: .ref (B + o) :: st) := by
  intro H locs ls hP hW hS hl
  refine va_bast E.1.1 E.1.2.1 E.2.1 hP wl_D hS o 0 (wl_ent ho) rfl (inB_in hin) hdg (fun H1 locs1 hP1 hD1 hS1 => ?_)
  rw [wl_set ho.1 (μ' := stI μ o i.toNatClampNeg (vp_nar .byte x)) (by rw [entM, ho.2, ldI_stI_self]; rfl) (fun j hj => by rw [entM, entM, ldI_stI_ne hj]; rfl)] at hP1
  exact kk H1 locs1 ls hP1 (WT_stI hW (fun _ h => by rw [ho.2] at h; cases h)) hS1 hl
theorem tt_last (E : EE p s m args c cc nL own B D cT XS) {o : Nat} {i : Int32} {x : Int64} (ho : isK n o 12) (hin : inB i (Ln o) = true) (hdg : decode cc pc = .ok (.lastore, 1)) (kk : TT p l e R s m args below meth c Q nL B D cT n kc ks (stJ μ o i.toNatClampNeg x) (pc + 1) lv st) : TT p l e R s m args below meth c Q nL B D cT n kc ks μ pc lv (.long x :: .int i :: .ref (B + o) :: st) := by
  intro H locs ls hP hW hS hl
  refine va_last E.1.1 E.1.2.1 E.2.1 hP wl_D hS o 2 (wl_ent ho) rfl (inB_in hin) hdg (fun H1 locs1 hP1 hD1 hS1 => ?_)
  rw [wl_set ho.1 (μ' := stJ μ o i.toNatClampNeg x) (by rw [entM, ho.2, ldJ_stJ_self]; rfl) (fun j hj => by rw [entM, entM, ldJ_stJ_ne hj]; rfl)] at hP1
  exact kk H1 locs1 ls hP1 (WT_stJ hW) hS1 hl
theorem tt_aald13 (E : EE p s m args c cc nL own B D cT XS) {o q : Nat} {i : Int32} (ho : isK n o 13) (hin : inB i (Ln o) = true) (hdg : decode cc pc = .ok (.aaload, 1)) (hq : ldP μ o i.toNatClampNeg = some q) (kk : isK n q 0 → TT p l e R s m args below meth c Q nL B D cT n kc ks μ (pc + 1) lv (.ref (B + q) :: st)) : TT p l e R s m args below meth c Q nL B D cT n kc ks μ pc lv (.int i :: .ref (B + o) :: st) := by
  intro H locs ls hP hW hS hl
  have hq2 := hW.1 o _ q ho.1 hq
  rw [ho.2] at hq2
  refine va_aldq E.1.1 E.1.2.1 E.2.1 hP o 3 (wl_ent ho) rfl (inB_in hin) hdg ?_
  have := kk hq2 H locs ls hP hW hS hl
  rw [hq]; exact this
theorem tt_aast13 (E : EE p s m args c cc nL own B D cT XS) {o q : Nat} {i : Int32} (ho : isK n o 13) (hin : inB i (Ln o) = true) (hq : isK n q 0) (hdg : decode cc pc = .ok (.aastore, 1)) (kk : TT p l e R s m args below meth c Q nL B D cT n kc ks (stP μ o i.toNatClampNeg (some q)) (pc + 1) lv st) : TT p l e R s m args below meth c Q nL B D cT n kc ks μ pc lv (.ref (B + q) :: .int i :: .ref (B + o) :: st) := by
  intro H locs ls hP hW hS hl
  have he := wl_ent (B := B) (cT := cT) (μ := μ) hq
  refine va_astq E.1.1 E.1.2.1 E.2.1 hP wl_D hS o 3 q 0 (wl_ent ho) rfl he rfl (inB_in hin) hdg (fun H1 locs1 hP1 hD1 hS1 => ?_)
  rw [wl_set ho.1 (μ' := stP μ o i.toNatClampNeg (some q)) (by
    rw [entM, ho.2, ldP_stP_self]
    show _ = Sum.inl (_, _, Sum.inr (Sum.inr (Sum.inr (Sum.inr _))))
    congr 7
    funext b
    by_cases hb : b = i.toNatClampNeg <;> simp [va_up, hb]) (fun j hj => by rw [entM, entM, ldP_stP_ne hj]; rfl)] at hP1
  exact kk H1 locs1 ls hP1 (WT_stP hW (fun _ => by rw [ho.2]; exact hq)) hS1 hl
theorem tt_aald14 (E : EE p s m args c cc nL own B D cT XS) {o q : Nat} {i : Int32} (ho : isK n o 14) (hin : inB i (Ln o) = true) (hdg : decode cc pc = .ok (.aaload, 1)) (hq : ldP μ o i.toNatClampNeg = some q) (kk : isK n q 1 → TT p l e R s m args below meth c Q nL B D cT n kc ks μ (pc + 1) lv (.ref (B + q) :: st)) : TT p l e R s m args below meth c Q nL B D cT n kc ks μ pc lv (.int i :: .ref (B + o) :: st) := by
  intro H locs ls hP hW hS hl
  have hq2 := hW.1 o _ q ho.1 hq
  rw [ho.2] at hq2
  refine va_aldq E.1.1 E.1.2.1 E.2.1 hP o 4 (wl_ent ho) rfl (inB_in hin) hdg ?_
  have := kk hq2 H locs ls hP hW hS hl
  rw [hq]; exact this
theorem tt_aast14 (E : EE p s m args c cc nL own B D cT XS) {o q : Nat} {i : Int32} (ho : isK n o 14) (hin : inB i (Ln o) = true) (hq : isK n q 1) (hdg : decode cc pc = .ok (.aastore, 1)) (kk : TT p l e R s m args below meth c Q nL B D cT n kc ks (stP μ o i.toNatClampNeg (some q)) (pc + 1) lv st) : TT p l e R s m args below meth c Q nL B D cT n kc ks μ pc lv (.ref (B + q) :: .int i :: .ref (B + o) :: st) := by
  intro H locs ls hP hW hS hl
  have he := wl_ent (B := B) (cT := cT) (μ := μ) hq
  refine va_astq E.1.1 E.1.2.1 E.2.1 hP wl_D hS o 4 q 1 (wl_ent ho) rfl he rfl (inB_in hin) hdg (fun H1 locs1 hP1 hD1 hS1 => ?_)
  rw [wl_set ho.1 (μ' := stP μ o i.toNatClampNeg (some q)) (by
    rw [entM, ho.2, ldP_stP_self]
    show _ = Sum.inl (_, _, Sum.inr (Sum.inr (Sum.inr (Sum.inr _))))
    congr 7
    funext b
    by_cases hb : b = i.toNatClampNeg <;> simp [va_up, hb]) (fun j hj => by rw [entM, entM, ldP_stP_ne hj]; rfl)] at hP1
  exact kk H1 locs1 ls hP1 (WT_stP hW (fun _ => by rw [ho.2]; exact hq)) hS1 hl
theorem tt_aald15 (E : EE p s m args c cc nL own B D cT XS) {o q : Nat} {i : Int32} (ho : isK n o 15) (hin : inB i (Ln o) = true) (hdg : decode cc pc = .ok (.aaload, 1)) (hq : ldP μ o i.toNatClampNeg = some q) (kk : isK n q 2 → TT p l e R s m args below meth c Q nL B D cT n kc ks μ (pc + 1) lv (.ref (B + q) :: st)) : TT p l e R s m args below meth c Q nL B D cT n kc ks μ pc lv (.int i :: .ref (B + o) :: st) := by
  intro H locs ls hP hW hS hl
  have hq2 := hW.1 o _ q ho.1 hq
  rw [ho.2] at hq2
  refine va_aldq E.1.1 E.1.2.1 E.2.1 hP o 5 (wl_ent ho) rfl (inB_in hin) hdg ?_
  have := kk hq2 H locs ls hP hW hS hl
  rw [hq]; exact this
theorem tt_aast15 (E : EE p s m args c cc nL own B D cT XS) {o q : Nat} {i : Int32} (ho : isK n o 15) (hin : inB i (Ln o) = true) (hq : isK n q 2) (hdg : decode cc pc = .ok (.aastore, 1)) (kk : TT p l e R s m args below meth c Q nL B D cT n kc ks (stP μ o i.toNatClampNeg (some q)) (pc + 1) lv st) : TT p l e R s m args below meth c Q nL B D cT n kc ks μ pc lv (.ref (B + q) :: .int i :: .ref (B + o) :: st) := by
  intro H locs ls hP hW hS hl
  have he := wl_ent (B := B) (cT := cT) (μ := μ) hq
  refine va_astq E.1.1 E.1.2.1 E.2.1 hP wl_D hS o 5 q 2 (wl_ent ho) rfl he rfl (inB_in hin) hdg (fun H1 locs1 hP1 hD1 hS1 => ?_)
  rw [wl_set ho.1 (μ' := stP μ o i.toNatClampNeg (some q)) (by
    rw [entM, ho.2, ldP_stP_self]
    show _ = Sum.inl (_, _, Sum.inr (Sum.inr (Sum.inr (Sum.inr _))))
    congr 7
    funext b
    by_cases hb : b = i.toNatClampNeg <;> simp [va_up, hb]) (fun j hj => by rw [entM, entM, ldP_stP_ne hj]; rfl)] at hP1
  exact kk H1 locs1 ls hP1 (WT_stP hW (fun _ => by rw [ho.2]; exact hq)) hS1 hl
end TPLAIN
