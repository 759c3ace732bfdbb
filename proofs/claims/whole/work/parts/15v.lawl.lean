/-! what the law's methods need -/
/-- a static method with a table -/
def MTw (y : MethodName) (b : ByteArray) (mL : Nat) (ret : Option FieldType) (hh : List (Nat × Nat × Nat × Nat)) (k : Nat) : Prop :=
  Cond.initialized y.cls ∈ gw ∧ Cond.codeWith y b mL ret hh ∈ gw ∧ (y.cls ≠ "java/lang/invoke/MethodHandle" ∧ y.cls ≠ "java/lang/invoke/VarHandle" ∧ (parseMethodDescriptor y.desc).map (fun d => d.parameters.length) = some k) ∧ plainName y.cls = true ∧ Cond.static y ∈ gw
def MIw (l : Launch) (y : MethodName) (b : ByteArray) (mL : Nat) (ret : Option FieldType) (hh : List (Nat × Nat × Nat × Nat)) (rm : Room) (B : Nat) (D : va_G) (cT : Nat → ClassId) (XS : State → Heap → Prop) (n : Nat) (av : List Value) (μ : Mem) (res : Int32 × Mem) : Prop :=
  Met l y (Cond.codeWith y b mL ret hh :: gw) rm (va_Pc av (Wd B D cT XS n μ)) (va_Qi (fun r μ' => r = res.1 ∧ μ' = res.2) (Wq B D cT n) (fr B)) rm.cells rm.slots (fr B)
abbrev QW (B : Nat) (D : va_G) (cT : Nat → ClassId) (n : Nat) (below : List Frame) (args : Array Value) (s : State) (res : Int32 × Mem) : State → Prop := MQ below (va_Qi (fun r μ' => r = res.1 ∧ μ' = res.2) (Wq B D cT n) (fr B)) args s 1 6 (fr B)
def cvL (hh : List (Nat × Nat × Nat × Nat)) (pc : Nat) : Bool := hh.all fun q => decide (q.1 ≤ pc) && decide (pc < q.2.1) && decide (q.2.2.2 ≠ 0)
theorem ret0 {α : Type} {μ μr : α} (h : some ((0 : Int32), μ) = some (1, μr)) : False := absurd (show (0 : Int32) = 1 from congrArg Prod.fst (Option.some.inj h)) (by decide)
theorem sw1 {x c : Int32} {lo : Int} (h : x = c) (hd : ¬ c.toInt < lo) : ¬ x.toInt < lo := h ▸ hd
theorem sw2 {x c : Int32} {hi : Int} (h : x = c) (hd : ¬ hi < c.toInt) : ¬ hi < x.toInt := h ▸ hd
theorem sw3 {x c : Int32} {lo : Int} {offs : Array Int} {off : Int} (h : x = c) (hd : offs[(c.toInt - lo).toNat]? = some off) : offs[(x.toInt - lo).toNat]? = some off := h ▸ hd
section TLAW
variable {p : Program} {l : Launch} {e : Env} {R : Room} {s : State} {m : MethodId} {args : Array Value} {below : List Frame} {meth : Method} {c : Code} {Q : State → Prop} {nL B : Nat} {D : va_G} {cT : Nat → ClassId} {n kc ks : Nat} {μ : Mem} {pc : Nat} {lv : List (Nat × Value)} {st rest : List Value} {cc : ByteArray} {own : String} {XS : State → Heap → Prop} {adK adV : Nat → Nat}
theorem tt_ofWL {y : MethodName} {b : ByteArray} {mL : Nat} {ret : Option FieldType} {hh : List (Nat × Nat × Nat × Nat)} {rm : Room} {av : List Value} {Qc : Array Value → State → Outcome → State → Prop} {lv0 : List (Nat × Value)} {k : Nat} (hM : MTw y b mL ret hh k) (hlen : (lg_sl av).length ≤ mL) (hlv : lv_args 0 av = lv0)
    (body : ∀ (p : Program) (e : Env) (s : State) (m : MethodId) (below : List Frame) (meth : Method) (c : Code), EE p s m av.toArray c b mL y.cls B D cT XS → meth.sig.returnType = ret → meth.locks = false → c.exceptionTable.toList = tableOf hh → TT p l e rm s m av.toArray below meth c (MQ below Qc av.toArray s rm.cells rm.slots (fr B)) mL B D cT n 0 0 μ 0 lv0 []) :
    Met l y (Cond.codeWith y b mL ret hh :: gw) rm (va_Pc av (Wd B D cT XS n μ)) Qc rm.cells rm.slots (fr B) := by
  refine va_MetW (cc := b) (maxL := mL) (ret := ret) (hh := hh) hM.2.2.2.1 rfl ?_
  intro p e s m args below meth c s₁ B0 hml hv
  obtain ⟨rfl, hP, hWT, hK, hX, hXM⟩ := hv
  have hts := atoms_spec (ws := Cond.codeWith y b mL ret hh :: gw) B0.pre
  have hl := lv_entry av (n := mL) hlen
  rw [hlv] at hl
  rw [lg_entry_eq]
  exact body p e s m below meth c ⟨⟨B0.exec, B0.bytes, hml, findClass_of_methodNamed B0.named, fun w hw => hts w (List.mem_cons_of_mem _ hw)⟩, hK, hX, hXM⟩ B0.returns B0.notSynchronized (vx_table (x := y) B0 (hts _ List.mem_cons_self)) s.heap [] _ hP hWT va_S.rf hl
theorem tt_siW (E : EE p s m args c cc nL own B D cT XS) {idx mL k : Nat} {y : MethodName} {b : ByteArray} {ret : Option FieldType} {hh : List (Nat × Nat × Nat × Nat)} {rm : Room} {As : List Value} {Qc : Array Value → State → Outcome → State → Prop} (hL : LM own idx y) (hV : MTw y b mL ret hh k) (hM : Met l y (Cond.codeWith y b mL ret hh :: gw) rm (va_Pc As (Wd B D cT XS n μ)) Qc rm.cells rm.slots (fr B)) (hn : As.length = k) (hst : As.reverse ++ rest = st) (hW8 : (rest.map fun v => v.category).sum ≤ 8) (hR : rm.frames + 1 ≤ R.frames ∧ 8 + (mL + 11) + rm.locals ≤ R.locals) (hcs : kc + rm.cells ≤ R.cells ∧ ks + rm.slots ≤ R.slots) (hdg : decode cc pc = .ok (.invokestatic idx, 3)) :
    RN p l e R s m args below meth c nL B D cT n kc ks rm.cells rm.slots μ pc lv st rest (Qc As.toArray) := by
  intro H locs ls hP hW hS hl
  obtain ⟨h1, h2, h3, h4, h5⟩ := hV
  refine vx_runSW E.1 hM (vx_cwSW k E.1.2.2.2.2 (gw_in fun w hw => ?_) rfl rfl rfl h3 hR) ⟨Wd_blind, fun U hU hv => ⟨rfl, E_Wd E hP hW hS hU hv⟩⟩ rfl hn hl.1 hst.symm (lv_room hW8) hdg hcs
  rcases List.mem_append.mp hw with hw | hw
  · simp only [List.mem_cons, List.not_mem_nil, or_false] at hw
    rcases hw with rfl | rfl | rfl
    · exact hL
    · exact h5
    · exact h1
  · rcases List.mem_cons.mp hw with rfl | hw
    · exact h2
    · exact hw
/-- caught: the rows of the table ahead name other classes -/
theorem tx_catch (E : EE p s m args c cc nL own B D cT (XW B adK adV)) {hh : List (Nat × Nat × Nat × Nat)} {k i a0 a1 hp ct : Nat} (htab : c.exceptionTable.toList = tableOf hh) (hk3 : k < 3) (hi : hh[i]? = some (a0, a1, hp, ct)) (hcv : decide (a0 ≤ pc ∧ pc < a1 ∧ ct ≠ 0) = true) (hlink : Cond.classLink own ct (exN k) ∈ gw)
    (hpass : ∀ j : Nat, j < i → ∀ q : Nat × Nat × Nat × Nat, hh[j]? = some q → q.2.2.2 ≠ 0 ∧ ∃ k2, k2 < 3 ∧ k ≠ k2 ∧ Cond.classLink own q.2.2.2 (exN k2) ∈ gw)
    (kk : ∀ q : Nat, TT p l e R s m args below meth c Q nL B D cT n kc ks μ hp lv [.ref q]) : TX p l e R s m args below meth c Q nL B D cT n kc ks (exN k) μ pc lv rest := by
  intro H locs ls q ce hP hW hS hl hce hcv2 hcl
  obtain ⟨h1, h2, h3⟩ := of_decide_eq_true hcv
  have hlt : i < hh.length := (List.getElem?_eq_some_iff.mp hi).1
  have hget : hh[i] = (a0, a1, hp, ct) := (List.getElem?_eq_some_iff.mp hi).2
  have hsplit : tableOf hh = tableOf (hh.take i) ++ (⟨a0, a1, hp, ct⟩ : ExceptionTableEntry) :: tableOf (hh.drop (i + 1)) := by
    have h0 : hh = hh.take i ++ hh[i] :: hh.drop (i + 1) := by rw [List.getElem_cons_drop, List.take_append_drop]
    rw [hget] at h0
    conv => lhs; rw [h0]
    simp [tableOf]
  refine vx_catch (name := exN k) (E := exN k) E.1.2.2.2.1 (tableOf (hh.take i)) ⟨a0, a1, hp, ct⟩ (tableOf (hh.drop (i + 1))) (htab.trans hsplit) (fun z hz => ?_) ?_ h3 (E.1.2.2.2.2 _ hlink) ?_ hce hcv2 hcl (kk q H locs ls hP hW hS hl)
  · obtain ⟨w, hw, rfl⟩ := List.mem_map.mp hz
    obtain ⟨j, hj⟩ := List.getElem?_of_mem hw
    have hjl : j < i := by
      have := (List.getElem?_eq_some_iff.mp hj).1
      rw [List.length_take] at this
      omega
    rw [List.getElem?_take_of_lt hjl] at hj
    obtain ⟨h5, k2, h6, h7, h8⟩ := hpass j hjl w hj
    exact Or.inr ⟨h5, exN k2, E.1.2.2.2.2 _ h8, E.2.2.1.2.2.2.2.2.2.2.2 k k2 hk3 h6 h7⟩
  · simp [covers, h1, h2]
  · have h9 : Cond.castable (exN k) (exN k) ∈ xNg := by
      match k, hk3 with
      | 0, _ => exact List.mem_cons_self
      | 1, _ => exact List.mem_cons_of_mem _ List.mem_cons_self
      | 2, _ => exact List.mem_cons_of_mem _ (List.mem_cons_of_mem _ List.mem_cons_self)
      | k + 3, h => exact absurd h (by omega)
    exact va_Nw.use rfl (E.2.2.1.2.2.2.2.2.1 _ h9)
theorem tt_wide {kc' ks' : Nat} (h1 : kc ≤ kc') (h2 : ks ≤ ks') (kk : TT p l e R s m args below meth c Q nL B D cT n kc' ks' μ pc lv st) : TT p l e R s m args below meth c Q nL B D cT n kc ks μ pc lv st := fun H locs ls hP hW hS hl => W.widen (k := kc') (n := ks') h1 h2 (kk H locs ls hP hW hS hl)
theorem tt_scL (E : EE p s m args c cc nL own B D cT XS) {b L : Nat} {xs : Nat → Int32} (hX : va_X b L xs s s.heap) (hbB : b < B) (hbl : b < s.heap.size) (hdg : decode cc pc = .ok (.arraylength, 1)) (kk : TT p l e R s m args below meth c Q nL B D cT n kc ks μ (pc + 1) lv (.int (Int32.ofNat L) :: st)) : TT p l e R s m args below meth c Q nL B D cT n kc ks μ pc lv (.ref b :: st) :=
  fun H locs ls hP hW hS hl => va_slen E.1.1 E.1.2.1 hX hbl (by omega) hS hdg (kk H locs ls hP hW hS hl)
theorem tt_scA (E : EE p s m args c cc nL own B D cT XS) {b L : Nat} {xs : Nat → Int32} {i : Int32} (hX : va_X b L xs s s.heap) (hbB : b < B) (hbl : b < s.heap.size) (hin : inB i L = true) (hdg : decode cc pc = .ok (.iaload, 1)) (kk : TT p l e R s m args below meth c Q nL B D cT n kc ks μ (pc + 1) lv (.int (xs i.toNatClampNeg) :: st)) : TT p l e R s m args below meth c Q nL B D cT n kc ks μ pc lv (.int i :: .ref b :: st) :=
  fun H locs ls hP hW hS hl => va_sld E.1.1 E.1.2.1 hX hbl (by omega) hS (inB_in hin) hdg (kk H locs ls hP hW hS hl)
theorem tt_dstore (E : EE p s m args c cc nL own B D cT XS) {i : Nat} {x : UInt64} {lv' : List (Nat × Value)} (hdg : decode cc pc = .ok (.dstore i, 2)) (hn : i + 1 < nL) (hl' : (i, Value.double x) :: lv.filter (fun q => !(q.1 == i) && (!(q.1 == i + 1) && !(q.1 + 1 == i && q.2.category == 2))) = lv') (kk : TT p l e R s m args below meth c Q nL B D cT n kc ks μ (pc + 2) lv' st) : TT p l e R s m args below meth c Q nL B D cT n kc ks μ pc lv (Value.double x :: st) :=
  fun H locs ls hP hW hS hl => lv_dstore E.1.1 E.1.2.1 hdg hl hn hl' (fun ls' hl' => kk H locs ls' hP hW hS hl')
theorem tt_f2d (E : EE p s m args c cc nL own B D cT XS) {x : UInt32} (hdg : decode cc pc = .ok (.f2d, 1)) (hne : vf_n64 (FP.f2d x)) (kk : TT p l e R s m args below meth c Q nL B D cT n kc ks μ (pc + 1) lv (.double (FP.f2d x) :: st)) : TT p l e R s m args below meth c Q nL B D cT n kc ks μ pc lv (.float x :: st) :=
  fun H locs ls hP hW hS hl => lv_f2d E.1.1 E.1.2.1 hdg hne (kk H locs ls hP hW hS hl)
theorem tt_dcmp (E : EE p s m args c cc nL own B D cT XS) {x y : UInt64} {op : CmpOp} (hdg : decode cc pc = .ok (.dcmp op, 1)) (kk : TT p l e R s m args below meth c Q nL B D cT n kc ks μ (pc + 1) lv (.int (Op.cmpValue (FP.dcmp x y) op) :: st)) : TT p l e R s m args below meth c Q nL B D cT n kc ks μ pc lv (.double y :: .double x :: st) :=
  fun H locs ls hP hW hS hl => lv_dcmp E.1.1 E.1.2.1 hdg (kk H locs ls hP hW hS hl)
theorem tt_cD {mc ms : Nat} {a : Array Value} {res : UInt64 × Mem} (hr : RN p l e R s m args below meth c nL B D cT n kc ks mc ms μ pc lv st rest (va_Qd (fun r μ' => r = res.1 ∧ μ' = res.2) (Wq B D cT n) (fr B) a)) (kk : TT p l e R s m args below meth c Q nL B D cT n (kc + mc) (ks + ms) res.2 (pc + 3) lv (.double res.1 :: rest)) : TT p l e R s m args below meth c Q nL B D cT n kc ks μ pc lv st := by
  intro H locs ls hP hW hS hl
  refine va_calld (hr H locs ls hP hW hS hl) hS (fun q _ h => h) (fun q h => h) (fun r u t H1 locs1 ht hvm hpost hB hz hk hS1 => ?_)
  obtain ⟨rfl, rfl⟩ := hpost
  exact kk H1 locs1 ls (by rw [← ht]; exact hB.1) hB.2 hS1 hl
theorem tt_cF {mc ms : Nat} {a : Array Value} {res : UInt32 × Mem} (hr : RN p l e R s m args below meth c nL B D cT n kc ks mc ms μ pc lv st rest (va_Qf (fun r μ' => r = res.1 ∧ μ' = res.2) (Wq B D cT n) (fr B) a)) (kk : TT p l e R s m args below meth c Q nL B D cT n (kc + mc) (ks + ms) res.2 (pc + 3) lv (.float res.1 :: rest)) : TT p l e R s m args below meth c Q nL B D cT n kc ks μ pc lv st := by
  intro H locs ls hP hW hS hl
  refine va_callf (hr H locs ls hP hW hS hl) hS (fun q _ h => h) (fun q h => h) (fun r u t H1 locs1 ht hvm hpost hB hz hk hS1 => ?_)
  obtain ⟨rfl, rfl⟩ := hpost
  exact kk H1 locs1 ls (by rw [← ht]; exact hB.1) hB.2 hS1 hl
theorem tt_nmD {α : Type} {X : UInt64} {F : UInt64 → Option α} {res : α} (hf : nm X F = some res) (kk : ∀ y, F y = some res → TT p l e R s m args below meth c Q nL B D cT n kc ks μ pc lv (.double y :: st)) : TT p l e R s m args below meth c Q nL B D cT n kc ks μ pc lv (.double X :: st) := kk X hf
end TLAW
