/-! contracts over the memory: a method's start and end, calls, ends -/
def Wd (B : Nat) (D : va_G) (cT : Nat → ClassId) (XS : State → Heap → Prop) (n : Nat) (μ : Mem) (U : State) : Prop := va_P D vwK (wl B cT n μ) U.heap ∧ WT n μ ∧ va_K D vwK (tyT cT) U ∧ XS U U.heap ∧ XM B XS
def Wq (B : Nat) (D : va_G) (cT : Nat → ClassId) (n : Nat) (μ : Mem) (U : State) : Prop := va_P D vwK (wl B cT n μ) U.heap ∧ WT n μ
def fr (B : Nat) : Nat → Prop := fun q => B ≤ q
theorem Wd_blind {B : Nat} {D : va_G} {cT : Nat → ClassId} {XS : State → Heap → Prop} {n : Nat} {μ : Mem} {av : List Value} : FrameBlind (va_Pc av (Wd B D cT XS n μ)) := by
  intro a U g mk h
  obtain ⟨h1, h2, h3, h4, h5, h6⟩ := h
  exact ⟨h1, h2, h3, va_K.moved (u := U) (U := U.calling g mk a) (Vm.Alike.refl U.vm) h4, h6 U (U.calling g mk a) U.heap U.heap (State.WarmedH.refl U) h5 (fun _ _ _ => rfl), h6⟩
def MTx (y : MethodName) (b : ByteArray) (mL : Nat) (ret : Option FieldType) (k : Nat) : Prop :=
  Cond.initialized y.cls ∈ gw ∧ Cond.code y b mL ret ∈ gw ∧ (y.cls ≠ "java/lang/invoke/MethodHandle" ∧ y.cls ≠ "java/lang/invoke/VarHandle" ∧ (parseMethodDescriptor y.desc).map (fun d => d.parameters.length) = some k) ∧ plainName y.cls = true
/-- an object's method -/
def MTv (y : MethodName) (b : ByteArray) (mL : Nat) (ret : Option FieldType) (k ci : Nat) : Prop :=
  MTx y b mL ret k ∧ Cond.instanceMethod y ∈ gw ∧ Cond.selects y.cls y y ∈ gw ∧ ∃ (T : u_T) (N : Nat), vwK[ci]? = some (y.cls, T, N) ∧ ci < 10
/-- a static one -/
def MTs (y : MethodName) (b : ByteArray) (mL : Nat) (ret : Option FieldType) (k : Nat) : Prop := MTx y b mL ret k ∧ Cond.static y ∈ gw
def LM (own : String) (idx : Nat) (y : MethodName) : Prop := Cond.methodLink own idx y ∈ gw
def MI (l : Launch) (y : MethodName) (b : ByteArray) (mL : Nat) (ret : Option FieldType) (rm : Room) (B : Nat) (D : va_G) (cT : Nat → ClassId) (XS : State → Heap → Prop) (n : Nat) (av : List Value) (μ : Mem) (res : Int32 × Mem) : Prop :=
  Met l y (Cond.code y b mL ret :: gw) rm (va_Pc av (Wd B D cT XS n μ)) (va_Qi (fun r μ' => r = res.1 ∧ μ' = res.2) (Wq B D cT n) (fr B)) rm.cells rm.slots (fr B)
def MZ (l : Launch) (y : MethodName) (b : ByteArray) (mL : Nat) (ret : Option FieldType) (rm : Room) (B : Nat) (D : va_G) (cT : Nat → ClassId) (XS : State → Heap → Prop) (n : Nat) (av : List Value) (μ : Mem) (res : Int32 × Mem) : Prop :=
  Met l y (Cond.code y b mL ret :: gw) rm (va_Pc av (Wd B D cT XS n μ)) (va_Qi (fun r μ' => (r = res.1 ∧ μ' = res.2) ∧ zb res.1) (Wq B D cT n) (fr B)) rm.cells rm.slots (fr B)
def MJ (l : Launch) (y : MethodName) (b : ByteArray) (mL : Nat) (ret : Option FieldType) (rm : Room) (B : Nat) (D : va_G) (cT : Nat → ClassId) (XS : State → Heap → Prop) (n : Nat) (av : List Value) (μ : Mem) (res : Int64 × Mem) : Prop :=
  Met l y (Cond.code y b mL ret :: gw) rm (va_Pc av (Wd B D cT XS n μ)) (va_Ql (fun r μ' => r = res.1 ∧ μ' = res.2) (Wq B D cT n) (fr B)) rm.cells rm.slots (fr B)
def MV (l : Launch) (y : MethodName) (b : ByteArray) (mL : Nat) (ret : Option FieldType) (rm : Room) (B : Nat) (D : va_G) (cT : Nat → ClassId) (XS : State → Heap → Prop) (n : Nat) (av : List Value) (μ : Mem) (res : Mem) : Prop :=
  Met l y (Cond.code y b mL ret :: gw) rm (va_Pc av (Wd B D cT XS n μ)) (va_Qv (fun μ' => μ' = res) (Wq B D cT n) (fr B)) rm.cells rm.slots (fr B)
/-- an answer that is an object of kind t -/
def MP (t : Nat) (l : Launch) (y : MethodName) (b : ByteArray) (mL : Nat) (ret : Option FieldType) (rm : Room) (B : Nat) (D : va_G) (cT : Nat → ClassId) (XS : State → Heap → Prop) (n : Nat) (av : List Value) (μ : Mem) (res : Nat × Mem) : Prop :=
  Met l y (Cond.code y b mL ret :: gw) rm (va_Pc av (Wd B D cT XS n μ)) (va_Qr (fun μ' => μ' = res.2 ∧ isK n res.1 t) (fun μ' a u => a = B + res.1 ∧ Wq B D cT n μ' u) (fr B)) rm.cells rm.slots (fr B)
/-- an answer that is a text, by its place -/
def MS (adK : Nat → Nat) (l : Launch) (y : MethodName) (b : ByteArray) (mL : Nat) (ret : Option FieldType) (rm : Room) (B : Nat) (D : va_G) (cT : Nat → ClassId) (XS : State → Heap → Prop) (n : Nat) (av : List Value) (μ : Mem) (res : Nat × Mem) : Prop :=
  Met l y (Cond.code y b mL ret :: gw) rm (va_Pc av (Wd B D cT XS n μ)) (va_Qr (fun μ' => μ' = res.2) (fun μ' a u => a = adK res.1 ∧ Wq B D cT n μ' u) (fr B)) rm.cells rm.slots (fr B)
section TCALL
variable {p : Program} {l : Launch} {e : Env} {R : Room} {s : State} {m : MethodId} {args : Array Value} {below : List Frame} {meth : Method} {c : Code} {Q : State → Prop} {nL B : Nat} {D : va_G} {cT : Nat → ClassId} {n kc ks : Nat} {μ : Mem} {pc : Nat} {lv : List (Nat × Value)} {st rest : List Value} {cc : ByteArray} {own : String} {XS : State → Heap → Prop}
theorem E_Wd (E : EE p s m args c cc nL own B D cT XS) {U : State} {H : Heap} {locs : List Loc} (hP : va_P D vwK (wl B cT n μ) H) (hW : WT n μ) (hS : va_S (fun q => B ≤ q) s.heap H locs) (hU : U.heap = H) (hv : s.WarmedH U.vm) : Wd B D cT XS n μ U :=
  ⟨by rw [hU]; exact hP, hW, va_K.moved hv.alike E.2.1, by rw [hU]; exact E.2.2.2 s U s.heap H hv E.2.2.1 hS.2.1, E.2.2.2⟩
theorem E_Wq {U : State} {H : Heap} (hP : va_P D vwK (wl B cT n μ) H) (hW : WT n μ) (hU : U.heap = H) : Wq B D cT n μ U := ⟨by rw [hU]; exact hP, hW⟩
theorem tt_ofW {y : MethodName} {b : ByteArray} {mL : Nat} {ret : Option FieldType} {rm : Room} {av : List Value} {Qc : Array Value → State → Outcome → State → Prop} {lv0 : List (Nat × Value)} {k : Nat} (hM : MTx y b mL ret k) (hlen : (lg_sl av).length ≤ mL) (hlv : lv_args 0 av = lv0)
    (body : ∀ (p : Program) (e : Env) (s : State) (m : MethodId) (below : List Frame) (meth : Method) (c : Code), EE p s m av.toArray c b mL y.cls B D cT XS → meth.sig.returnType = ret → meth.locks = false → TT p l e rm s m av.toArray below meth c (MQ below Qc av.toArray s rm.cells rm.slots (fr B)) mL B D cT n 0 0 μ 0 lv0 []) :
    Met l y (Cond.code y b mL ret :: gw) rm (va_Pc av (Wd B D cT XS n μ)) Qc rm.cells rm.slots (fr B) := by
  refine Met.ofW (cc := b) (maxL := mL) (ret := ret) hM.2.2.2 rfl ?_
  intro p e s m args below meth c s₁ B0 hml hv
  obtain ⟨rfl, hP, hWT, hK, hX, hXM⟩ := hv
  have hts := atoms_spec (ws := Cond.code y b mL ret :: gw) B0.pre
  have hl := lv_entry av (n := mL) hlen
  rw [hlv] at hl
  rw [lg_entry_eq]
  exact body p e s m below meth c ⟨⟨B0.exec, B0.bytes, hml, findClass_of_methodNamed B0.named, fun w hw => hts w (List.mem_cons_of_mem _ hw)⟩, hK, hX, hXM⟩ B0.returns B0.notSynchronized s.heap [] _ hP hWT va_S.rf hl
/-- a call is made: what comes of it -/
def RN (p : Program) (l : Launch) (e : Env) (R : Room) (s : State) (m : MethodId) (args : Array Value) (below : List Frame) (meth : Method) (c : Code) (nL B : Nat) (D : va_G) (cT : Nat → ClassId) (n kc ks mc ms : Nat) (μ : Mem) (pc : Nat) (lv : List (Nat × Value)) (st rest : List Value) (Qa : State → Outcome → State → Prop) : Prop :=
  ∀ (H : Heap) (locs : List Loc) (ls : Array Slot), va_P D vwK (wl B cT n μ) H → WT n μ → va_S (fun q => B ≤ q) s.heap H locs → lv_has ls nL lv → va_Run p l e R s m args below meth c H locs kc ks mc ms (F0 m pc ls st) rest Qa (fr B)
theorem tt_vi (E : EE p s m args c cc nL own B D cT XS) {idx mL k ci o : Nat} {y : MethodName} {b : ByteArray} {ret : Option FieldType} {rm : Room} {As : List Value} {Qc : Array Value → State → Outcome → State → Prop} (hL : LM own idx y) (hV : MTv y b mL ret k ci) (hM : Met l y (Cond.code y b mL ret :: gw) rm (va_Pc (.ref (B + o) :: As) (Wd B D cT XS n μ)) Qc rm.cells rm.slots (fr B)) (ho : isK n o ci) (hn : As.length = k) (hst : As.reverse ++ .ref (B + o) :: rest = st) (hW8 : (rest.map fun v => v.category).sum ≤ 8) (hR : rm.frames + 1 ≤ R.frames ∧ 8 + (mL + 11) + rm.locals ≤ R.locals) (hcs : kc + rm.cells ≤ R.cells ∧ ks + rm.slots ≤ R.slots) (hdg : decode cc pc = .ok (.invokevirtual idx, 3)) :
    RN p l e R s m args below meth c nL B D cT n kc ks rm.cells rm.slots μ pc lv st rest (Qc (Value.ref (B + o) :: As).toArray) := by
  intro H locs ls hP hW hS hl
  obtain ⟨⟨h1, h2, h3, h4⟩, h5, h6, T, N, h7, h8⟩ := hV
  have he := wl_ent (B := B) (cT := cT) (μ := μ) ho
  rw [ent_cls h8] at he
  refine va_runV E.1 hM (cwV k E.1.2.2.2.2 (gw_in fun w hw => ?_) rfl rfl rfl ⟨rfl, h3⟩ hR) ⟨Wd_blind, va_recv E.2.1 hP h7 he, fun U hU hv => ⟨rfl, E_Wd E hP hW hS hU hv⟩⟩ rfl hn hl.1 hst.symm (lv_room hW8) hdg hcs
  rcases List.mem_append.mp hw with hw | hw
  · simp only [List.mem_cons, List.not_mem_nil, or_false] at hw
    rcases hw with rfl | rfl | rfl | rfl
    · exact hL
    · exact h5
    · exact h6
    · exact h1
  · rcases List.mem_cons.mp hw with rfl | hw
    · exact h2
    · exact hw
theorem tt_si (E : EE p s m args c cc nL own B D cT XS) {idx mL k : Nat} {y : MethodName} {b : ByteArray} {ret : Option FieldType} {rm : Room} {As : List Value} {Qc : Array Value → State → Outcome → State → Prop} (hL : LM own idx y) (hV : MTs y b mL ret k) (hM : Met l y (Cond.code y b mL ret :: gw) rm (va_Pc As (Wd B D cT XS n μ)) Qc rm.cells rm.slots (fr B)) (hn : As.length = k) (hst : As.reverse ++ rest = st) (hW8 : (rest.map fun v => v.category).sum ≤ 8) (hR : rm.frames + 1 ≤ R.frames ∧ 8 + (mL + 11) + rm.locals ≤ R.locals) (hcs : kc + rm.cells ≤ R.cells ∧ ks + rm.slots ≤ R.slots) (hdg : decode cc pc = .ok (.invokestatic idx, 3)) :
    RN p l e R s m args below meth c nL B D cT n kc ks rm.cells rm.slots μ pc lv st rest (Qc As.toArray) := by
  intro H locs ls hP hW hS hl
  obtain ⟨⟨h1, h2, h3, h4⟩, h5⟩ := hV
  refine va_runS E.1 hM (va_cwS k E.1.2.2.2.2 (gw_in fun w hw => ?_) rfl rfl rfl h3 hR) ⟨Wd_blind, fun U hU hv => ⟨rfl, E_Wd E hP hW hS hU hv⟩⟩ rfl hn hl.1 hst.symm (lv_room hW8) hdg hcs
  rcases List.mem_append.mp hw with hw | hw
  · simp only [List.mem_cons, List.not_mem_nil, or_false] at hw
    rcases hw with rfl | rfl | rfl
    · exact hL
    · exact h5
    · exact h1
  · rcases List.mem_cons.mp hw with rfl | hw
    · exact h2
    · exact hw
theorem tt_cI {mc ms : Nat} {a : Array Value} {res : Int32 × Mem} (hr : RN p l e R s m args below meth c nL B D cT n kc ks mc ms μ pc lv st rest (va_Qi (fun r μ' => r = res.1 ∧ μ' = res.2) (Wq B D cT n) (fr B) a)) (kk : TT p l e R s m args below meth c Q nL B D cT n (kc + mc) (ks + ms) res.2 (pc + 3) lv (.int res.1 :: rest)) : TT p l e R s m args below meth c Q nL B D cT n kc ks μ pc lv st := by
  intro H locs ls hP hW hS hl
  refine va_calli (hr H locs ls hP hW hS hl) hS (fun q _ h => h) (fun q h => h) (fun r u t H1 locs1 ht hvm hpost hB hz hk hS1 => ?_)
  obtain ⟨rfl, rfl⟩ := hpost
  exact kk H1 locs1 ls (by rw [← ht]; exact hB.1) hB.2 hS1 hl
theorem tt_cZ {mc ms : Nat} {a : Array Value} {res : Int32 × Mem} (hr : RN p l e R s m args below meth c nL B D cT n kc ks mc ms μ pc lv st rest (va_Qi (fun r μ' => (r = res.1 ∧ μ' = res.2) ∧ zb res.1) (Wq B D cT n) (fr B) a)) (kk : zb res.1 → TT p l e R s m args below meth c Q nL B D cT n (kc + mc) (ks + ms) res.2 (pc + 3) lv (.int res.1 :: rest)) : TT p l e R s m args below meth c Q nL B D cT n kc ks μ pc lv st := by
  intro H locs ls hP hW hS hl
  refine va_calli (hr H locs ls hP hW hS hl) hS (fun q _ h => h) (fun q h => h) (fun r u t H1 locs1 ht hvm hpost hB hz hk hS1 => ?_)
  obtain ⟨⟨rfl, rfl⟩, hzb⟩ := hpost
  exact kk hzb H1 locs1 ls (by rw [← ht]; exact hB.1) hB.2 hS1 hl
theorem tt_cJ {mc ms : Nat} {a : Array Value} {res : Int64 × Mem} (hr : RN p l e R s m args below meth c nL B D cT n kc ks mc ms μ pc lv st rest (va_Ql (fun r μ' => r = res.1 ∧ μ' = res.2) (Wq B D cT n) (fr B) a)) (kk : TT p l e R s m args below meth c Q nL B D cT n (kc + mc) (ks + ms) res.2 (pc + 3) lv (.long res.1 :: rest)) : TT p l e R s m args below meth c Q nL B D cT n kc ks μ pc lv st := by
  intro H locs ls hP hW hS hl
  refine va_calll (hr H locs ls hP hW hS hl) hS (fun q _ h => h) (fun q h => h) (fun r u t H1 locs1 ht hvm hpost hB hz hk hS1 => ?_)
  obtain ⟨rfl, rfl⟩ := hpost
  exact kk H1 locs1 ls (by rw [← ht]; exact hB.1) hB.2 hS1 hl
theorem tt_cV {mc ms : Nat} {a : Array Value} {res : Mem} (hr : RN p l e R s m args below meth c nL B D cT n kc ks mc ms μ pc lv st rest (va_Qv (fun μ' => μ' = res) (Wq B D cT n) (fr B) a)) (kk : TT p l e R s m args below meth c Q nL B D cT n (kc + mc) (ks + ms) res (pc + 3) lv rest) : TT p l e R s m args below meth c Q nL B D cT n kc ks μ pc lv st := by
  intro H locs ls hP hW hS hl
  refine va_callv (hr H locs ls hP hW hS hl) hS (fun q _ h => h) (fun q h => h) (fun u t H1 locs1 ht hvm hpost hB hz hk hS1 => ?_)
  obtain rfl := hpost
  exact kk H1 locs1 ls (by rw [← ht]; exact hB.1) hB.2 hS1 hl
theorem tt_cP {tk : Nat} {mc ms : Nat} {a : Array Value} {res : Nat × Mem} (hr : RN p l e R s m args below meth c nL B D cT n kc ks mc ms μ pc lv st rest (va_Qr (fun μ' => μ' = res.2 ∧ isK n res.1 tk) (fun μ' a u => a = B + res.1 ∧ Wq B D cT n μ' u) (fr B) a)) (kk : isK n res.1 tk → TT p l e R s m args below meth c Q nL B D cT n (kc + mc) (ks + ms) res.2 (pc + 3) lv (.ref (B + res.1) :: rest)) : TT p l e R s m args below meth c Q nL B D cT n kc ks μ pc lv st := by
  intro H locs ls hP hW hS hl
  refine va_callr (hr H locs ls hP hW hS hl) hS (fun q _ h => h) (fun q h => h) (fun u ra t H1 locs1 ht hvm hpost hB hz hk hS1 => ?_)
  obtain ⟨rfl, hkk⟩ := hpost
  obtain ⟨rfl, hB⟩ := hB
  exact kk hkk H1 locs1 ls (by rw [← ht]; exact hB.1) hB.2 hS1 hl
theorem tt_cS {adK : Nat → Nat} {mc ms : Nat} {a : Array Value} {res : Nat × Mem} (hr : RN p l e R s m args below meth c nL B D cT n kc ks mc ms μ pc lv st rest (va_Qr (fun μ' => μ' = res.2) (fun μ' a u => a = adK res.1 ∧ Wq B D cT n μ' u) (fr B) a)) (kk : TT p l e R s m args below meth c Q nL B D cT n (kc + mc) (ks + ms) res.2 (pc + 3) lv (.ref (adK res.1) :: rest)) : TT p l e R s m args below meth c Q nL B D cT n kc ks μ pc lv st := by
  intro H locs ls hP hW hS hl
  refine va_callr (hr H locs ls hP hW hS hl) hS (fun q _ h => h) (fun q h => h) (fun u ra t H1 locs1 ht hvm hpost hB hz hk hS1 => ?_)
  obtain rfl := hpost
  obtain ⟨rfl, hB⟩ := hB
  exact kk H1 locs1 ls (by rw [← ht]; exact hB.1) hB.2 hS1 hl
theorem tt_iret (E : EE p s m args c cc nL own B D cT XS) {mc ms : Nat} {res : Int32 × Mem} {v : Int32} (hr : meth.sig.returnType = some .int) (hlk : meth.locks = false) (hdg : decode cc pc = .ok (.ireturn, 1)) (h1 : kc ≤ mc) (h2 : ks ≤ ms) (hf : some (v, μ) = some res) : TT p l e R s m args below meth c (MQ below (va_Qi (fun r μ' => r = res.1 ∧ μ' = res.2) (Wq B D cT n) (fr B)) args s mc ms (fr B)) nL B D cT n kc ks μ pc lv [.int v] := by
  intro H locs ls hP hW hS hl
  cases hf
  refine W.widen (k := mc) (n := ms) h1 h2 ?_
  exact W.iret E.1.1 E.1.2.1 hr (fun t ht hv => ⟨⟨v, μ, rfl, ⟨rfl, rfl⟩, E_Wq hP hW ht⟩, hS.F ht⟩) hS.2.2 hdg hlk
theorem tt_zret (E : EE p s m args c cc nL own B D cT XS) {mc ms : Nat} {res : Int32 × Mem} {v : Int32} (hzb : zb v) (hr : meth.sig.returnType = some .boolean) (hlk : meth.locks = false) (hdg : decode cc pc = .ok (.ireturn, 1)) (h1 : kc ≤ mc) (h2 : ks ≤ ms) (hf : some (v, μ) = some res) : TT p l e R s m args below meth c (MQ below (va_Qi (fun r μ' => (r = res.1 ∧ μ' = res.2) ∧ zb res.1) (Wq B D cT n) (fr B)) args s mc ms (fr B)) nL B D cT n kc ks μ pc lv [.int v] := by
  intro H locs ls hP hW hS hl
  cases hf
  refine W.widen (k := mc) (n := ms) h1 h2 ?_
  exact W.zret E.1.1 E.1.2.1 hr (zb_narrow hzb) (fun t ht hv => ⟨⟨v, μ, rfl, ⟨⟨rfl, rfl⟩, hzb⟩, E_Wq hP hW ht⟩, hS.F ht⟩) hS.2.2 hdg hlk
theorem tt_lret (E : EE p s m args c cc nL own B D cT XS) {mc ms : Nat} {res : Int64 × Mem} {v : Int64} (hr : meth.sig.returnType = some .long) (hlk : meth.locks = false) (hdg : decode cc pc = .ok (.lreturn, 1)) (h1 : kc ≤ mc) (h2 : ks ≤ ms) (hf : some (v, μ) = some res) : TT p l e R s m args below meth c (MQ below (va_Ql (fun r μ' => r = res.1 ∧ μ' = res.2) (Wq B D cT n) (fr B)) args s mc ms (fr B)) nL B D cT n kc ks μ pc lv [.long v] := by
  intro H locs ls hP hW hS hl
  cases hf
  refine W.widen (k := mc) (n := ms) h1 h2 ?_
  exact W.lret E.1.1 E.1.2.1 hr (fun t ht hv => ⟨⟨v, μ, rfl, ⟨rfl, rfl⟩, E_Wq hP hW ht⟩, hS.F ht⟩) hS.2.2 hdg hlk
theorem tt_vret (E : EE p s m args c cc nL own B D cT XS) {mc ms : Nat} {res : Mem} (hr : meth.sig.returnType = none) (hlk : meth.locks = false) (hdg : decode cc pc = .ok (.return_, 1)) (h1 : kc ≤ mc) (h2 : ks ≤ ms) (hf : some μ = some res) : TT p l e R s m args below meth c (MQ below (va_Qv (fun μ' => μ' = res) (Wq B D cT n) (fr B)) args s mc ms (fr B)) nL B D cT n kc ks μ pc lv [] := by
  intro H locs ls hP hW hS hl
  cases hf
  refine W.widen (k := mc) (n := ms) h1 h2 ?_
  exact W.vret E.1.1 E.1.2.1 hr (fun t ht hv => ⟨⟨μ, rfl, rfl, E_Wq hP hW ht⟩, hS.F ht⟩) hS.2.2 hdg hlk
theorem tt_aret (E : EE p s m args c cc nL own B D cT XS) {mc ms : Nat} {res : Nat × Mem} {o tk : Nat} {CN : String} (ho : isK n o tk) (hr : meth.sig.returnType = some (.object CN)) (hlk : meth.locks = false) (hdg : decode cc pc = .ok (.areturn, 1)) (h1 : kc ≤ mc) (h2 : ks ≤ ms) (hf : some (o, μ) = some res) : TT p l e R s m args below meth c (MQ below (va_Qr (fun μ' => μ' = res.2 ∧ isK n res.1 tk) (fun μ' a u => a = B + res.1 ∧ Wq B D cT n μ' u) (fr B)) args s mc ms (fr B)) nL B D cT n kc ks μ pc lv [.ref (B + o)] := by
  intro H locs ls hP hW hS hl
  cases hf
  refine W.widen (k := mc) (n := ms) h1 h2 ?_
  exact W.aret E.1.1 E.1.2.1 hr (Or.inl ⟨_, rfl⟩) (Or.inr ⟨_, rfl⟩) (fun t ht hv => ⟨⟨μ, B + o, rfl, ⟨rfl, ho⟩, rfl, E_Wq hP hW ht⟩, hS.F ht⟩) hS.2.2 hdg hlk
theorem tt_sret (E : EE p s m args c cc nL own B D cT XS) {mc ms : Nat} {res : Nat × Mem} {o : Nat} {CN : String} {adK : Nat → Nat} (hr : meth.sig.returnType = some (.object CN)) (hlk : meth.locks = false) (hdg : decode cc pc = .ok (.areturn, 1)) (h1 : kc ≤ mc) (h2 : ks ≤ ms) (hf : some (o, μ) = some res) : TT p l e R s m args below meth c (MQ below (va_Qr (fun μ' => μ' = res.2) (fun μ' a u => a = adK res.1 ∧ Wq B D cT n μ' u) (fr B)) args s mc ms (fr B)) nL B D cT n kc ks μ pc lv [.ref (adK o)] := by
  intro H locs ls hP hW hS hl
  cases hf
  refine W.widen (k := mc) (n := ms) h1 h2 ?_
  exact W.aret E.1.1 E.1.2.1 hr (Or.inl ⟨_, rfl⟩) (Or.inr ⟨_, rfl⟩) (fun t ht hv => ⟨⟨μ, adK o, rfl, rfl, rfl, E_Wq hP hW ht⟩, hS.F ht⟩) hS.2.2 hdg hlk
end TCALL
