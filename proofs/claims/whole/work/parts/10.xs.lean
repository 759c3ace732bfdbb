/-! beside the memory: two statics of Throwable's, two that texts need, the text constants -/
def strT : List (String × Nat × String × List Int32) := [("TurnWheel", 67, "the buffer is full", [116, 104, 101, 32, 98, 117, 102, 102, 101, 114, 32, 105, 115, 32, 102, 117, 108, 108]), ("TurnWheel", 336, "an argument is out of range", [97, 110, 32, 97, 114, 103, 117, 109, 101, 110, 116, 32, 105, 115, 32, 111, 117, 116, 32, 111, 102, 32, 114, 97, 110, 103, 101]), ("TurnWheel$TextReader", 20, "wheel", [119, 104, 101, 101, 108]), ("TurnWheel$Tokens", 52, "the text has an error", [116, 104, 101, 32, 116, 101, 120, 116, 32, 104, 97, 115, 32, 97, 110, 32, 101, 114, 114, 111, 114]), ("TurnWheel$TextReader", 39, "fighter", [102, 105, 103, 104, 116, 101, 114]), ("TurnWheel$TextReader", 104, "left", [108, 101, 102, 116]), ("TurnWheel$TextReader", 106, "right", [114, 105, 103, 104, 116]), ("TurnWheel$TextReader", 75, "speed", [115, 112, 101, 101, 100]), ("TurnWheel$TextReader", 83, "life", [108, 105, 102, 101]), ("TurnWheel$TextReader", 87, "luck", [108, 117, 99, 107]), ("TurnWheel$TextReader", 91, "plan", [112, 108, 97, 110]), ("TurnWheel$Acts", 9, "hit", [104, 105, 116]), ("TurnWheel$Acts", 11, "push", [112, 117, 115, 104]), ("TurnWheel$Acts", 13, "lift", [108, 105, 102, 116]), ("TurnWheel$Acts", 15, "guard", [103, 117, 97, 114, 100]), ("TurnWheel$Acts", 17, "again", [97, 103, 97, 105, 110]), ("TurnWheel$Acts", 19, "speed", [115, 112, 101, 101, 100]), ("TurnWheel$Acts", 21, "rest", [114, 101, 115, 116]), ("TurnWheel$Acts", 23, "", []), ("TurnWheel$Command", 30, "turn", [116, 117, 114, 110]), ("TurnWheel$Command", 32, "push", [112, 117, 115, 104]), ("TurnWheel$Command", 34, "lift", [108, 105, 102, 116]), ("TurnWheel$Command", 36, "extra", [101, 120, 116, 114, 97]), ("TurnWheel$Command", 38, "speed", [115, 112, 101, 101, 100]), ("TurnWheel$Command", 40, "heal", [104, 101, 97, 108]), ("TurnWheel$Command", 42, "wheel", [119, 104, 101, 101, 108]), ("TurnWheel$Command", 44, "act", [97, 99, 116]), ("TurnWheel$Command", 46, "repeat", [114, 101, 112, 101, 97, 116]), ("TurnWheel$Command", 48, "", []), ("TurnWheel", 149, "no such setting", [110, 111, 32, 115, 117, 99, 104, 32, 115, 101, 116, 116, 105, 110, 103]), ("TurnWheel", 340, "no such fighter", [110, 111, 32, 115, 117, 99, 104, 32, 102, 105, 103, 104, 116, 101, 114]), ("TurnWheel", 192, "no such number of a fighter", [110, 111, 32, 115, 117, 99, 104, 32, 110, 117, 109, 98, 101, 114, 32, 111, 102, 32, 97, 32, 102, 105, 103, 104, 116, 101, 114]), ("TurnWheel", 338, "this can't be done now", [116, 104, 105, 115, 32, 99, 97, 110, 39, 116, 32, 98, 101, 32, 100, 111, 110, 101, 32, 110, 111, 119]), ("TurnWheel", 324, "no such byte of a report", [110, 111, 32, 115, 117, 99, 104, 32, 98, 121, 116, 101, 32, 111, 102, 32, 97, 32, 114, 101, 112, 111, 114, 116]), ("TurnWheel", 334, "nothing was saved", [110, 111, 116, 104, 105, 110, 103, 32, 119, 97, 115, 32, 115, 97, 118, 101, 100])]
def XSt (B : Nat) (adK adV : Nat → Nat) (i : Nat) (x : String × Nat × String × List Int32) (U : State) (H : Heap) : Prop :=
  vk_R x.1 x.2.1 x.2.2.1 (adK i) U ∧ vk_S 1 [x.2.2.2.length] [x.2.2.2] (fun _ => adK i) (fun _ => adV i) (fr B) U H
def exN (k : Nat) : String := match k with
  | 0 => "java/lang/IllegalArgumentException"
  | 1 => "java/lang/IllegalStateException"
  | _ => "java/lang/IndexOutOfBoundsException"
/-- the words of a throw that the tables alone decide -/
def xNg : List Cond := [.castable (exN 0) (exN 0), .castable (exN 1) (exN 1), .castable (exN 2) (exN 2), .declares ⟨"java/lang/RuntimeException", "<init>", "(Ljava/lang/String;)V"⟩, .declares ⟨"java/lang/Exception", "<init>", "(Ljava/lang/String;)V"⟩, .declares ⟨"java/lang/Throwable", "<init>", "(Ljava/lang/String;)V"⟩]
theorem nw_decl {y : MethodName} {s U : State} (hW : s.WarmedH U.vm) (hZ : va_Nw (.declares y) s) : va_Nw (.declares y) U := va_tabs rfl (rfl : (s.setVm U.vm).vm = U.vm) (by rw [Cond.declares_setVm hW.alike]; exact hZ)
/-- a row of objects of a class can be made; a nest mate's constructor can be called -/
def xAO : List String := ["TurnWheel$Command", "TurnWheel$Fighter", "TurnWheel$Fight"]
def xNl : List Cond := [.methodLinkNest "TurnWheel" 9 ⟨"TurnWheel$Tokens", "<init>", "()V"⟩ "TurnWheel", .methodLinkNest "TurnWheel$Script" 31 ⟨"TurnWheel$Command", "<init>", "()V"⟩ "TurnWheel", .methodLinkNest "TurnWheel" 38 ⟨"TurnWheel$Forecast", "<init>", "()V"⟩ "TurnWheel", .methodLinkNest "TurnWheel" 52 ⟨"TurnWheel$Sheet", "<init>", "()V"⟩ "TurnWheel"]
def XW (B : Nat) (adK adV : Nat → Nat) (U : State) (H : Heap) : Prop :=
  vx_Zq Bundle.tN "UNASSIGNED_STACK" Bundle.steD (fr B) U H ∧ vx_Zq Bundle.tN "SUPPRESSED_SENTINEL" Bundle.listD (fr B) U H ∧ va_Z "java/lang/String" "COMPACT_STRINGS" "Z" (.int 1) (fr B) U H ∧ va_Zq "jdk/internal/util/Preconditions" "SIOOBE_FORMATTER" "Ljava/util/function/BiFunction;" (fr B) U H ∧ (∀ (i : Nat) (x : String × Nat × String × List Int32), strT[i]? = some x → XSt B adK adV i x U H) ∧ (∀ w ∈ xNg, va_Nw w U) ∧ (∀ w ∈ xNl, va_Nw w U) ∧ (∀ C ∈ xAO, va_AO C U) ∧ ∀ i j : Nat, i < 3 → j < 3 → i ≠ j → va_Nc (exN i) (exN j) U
theorem XM_XS {B : Nat} {adK adV : Nat → Nat} : XM B (XW B adK adV) := by
  intro u U H H1 hv h hq
  obtain ⟨h1, h2, h3, h4, h5, h6, h8, h9, h11⟩ := h
  have h7 : ∀ w ∈ xNg, va_Nw w U := by
    simp only [xNg, List.forall_mem_cons] at h6 ⊢
    exact ⟨va_Nw.warmC hv h6.1, va_Nw.warmC hv h6.2.1, va_Nw.warmC hv h6.2.2.1, nw_decl hv h6.2.2.2.1, nw_decl hv h6.2.2.2.2.1, nw_decl hv h6.2.2.2.2.2.1, fun _ h => absurd h List.not_mem_nil⟩
  have h10 : ∀ w ∈ xNl, va_Nw w U := by
    simp only [xNl, List.forall_mem_cons] at h8 ⊢
    exact ⟨va_Nw.warmM hv h8.1, va_Nw.warmM hv h8.2.1, va_Nw.warmM hv h8.2.2.1, va_Nw.warmM hv h8.2.2.2.1, fun _ h => absurd h List.not_mem_nil⟩
  exact ⟨vx_Zq.moved hv.alike (h1.kept hq), vx_Zq.moved hv.alike (h2.kept hq), va_Z.moved hv.alike (h3.kept hq), va_Zq.moved hv.alike (h4.kept hq), fun i x hx => ⟨(h5 i x hx).1.warm hv, vk_S.moved hv.alike ((h5 i x hx).2.kept hq)⟩, h7, h10, fun C hC => va_AO.moved hv.alike (h9 C hC), fun i j hi hj hij => va_Nc.moved hv.alike (h11 i j hi hj hij)⟩
/-! exceptions: 0 IllegalArgumentException, 1 IllegalStateException, 2 IndexOutOfBoundsException -/
def Wz (B : Nat) (D : va_G) (cT : Nat → ClassId) (XS : State → Heap → Prop) (n : Nat) (μ : Mem) (z : Nat) (U : State) : Prop := Wd B D cT XS n μ U ∧ U.heap.size = z
def Wqz (B : Nat) (D : va_G) (cT : Nat → ClassId) (n z : Nat) (μ : Mem) (U : State) : Prop := Wq B D cT n μ U ∧ U.heap.size = z
theorem Wz_blind {B : Nat} {D : va_G} {cT : Nat → ClassId} {XS : State → Heap → Prop} {n z : Nat} {μ : Mem} {av : List Value} : FrameBlind (va_Pc av (Wz B D cT XS n μ z)) := by
  intro a U g mk h
  obtain ⟨h0, h1, h2⟩ := h
  exact ⟨h0, (Wd_blind (av := a.toList) a U g mk ⟨by simp, h1⟩).2, h2⟩
def XCx (B : Nat) (D : va_G) (cT : Nat → ClassId) (n : Nat) {α : Type} (res : (α ⊕ Nat) × Mem) : String → State → State → Prop := vx_X (fun (u : Nat × Mem) => res = (.inr u.1, u.2)) (fun E (u : Nat × Mem) t => E = exN u.1 ∧ Wq B D cT n u.2 t) (fr B)
def XI (l : Launch) (y : MethodName) (b : ByteArray) (mL : Nat) (ret : Option FieldType) (rm : Room) (B : Nat) (D : va_G) (cT : Nat → ClassId) (XS : State → Heap → Prop) (n : Nat) (av : List Value) (μ : Mem) (res : (Int32 ⊕ Nat) × Mem) : Prop :=
  ∀ z : Nat, vx_Met l y (Cond.code y b mL ret :: gw) rm (va_Pc av (Wz B D cT XS n μ z)) (va_Qi (fun r μ' => res = (.inl r, μ')) (Wqz B D cT n z) (fr B)) (XCx B D cT n res) rm.cells rm.slots (fr B)
def XZ (l : Launch) (y : MethodName) (b : ByteArray) (mL : Nat) (ret : Option FieldType) (rm : Room) (B : Nat) (D : va_G) (cT : Nat → ClassId) (XS : State → Heap → Prop) (n : Nat) (av : List Value) (μ : Mem) (res : (Int32 ⊕ Nat) × Mem) : Prop :=
  ∀ z : Nat, vx_Met l y (Cond.code y b mL ret :: gw) rm (va_Pc av (Wz B D cT XS n μ z)) (va_Qi (fun r μ' => res = (.inl r, μ') ∧ zb r) (Wqz B D cT n z) (fr B)) (XCx B D cT n res) rm.cells rm.slots (fr B)
def XJ (l : Launch) (y : MethodName) (b : ByteArray) (mL : Nat) (ret : Option FieldType) (rm : Room) (B : Nat) (D : va_G) (cT : Nat → ClassId) (XS : State → Heap → Prop) (n : Nat) (av : List Value) (μ : Mem) (res : (Int64 ⊕ Nat) × Mem) : Prop :=
  ∀ z : Nat, vx_Met l y (Cond.code y b mL ret :: gw) rm (va_Pc av (Wz B D cT XS n μ z)) (va_Ql (fun r μ' => res = (.inl r, μ')) (Wqz B D cT n z) (fr B)) (XCx B D cT n res) rm.cells rm.slots (fr B)
def XV (l : Launch) (y : MethodName) (b : ByteArray) (mL : Nat) (ret : Option FieldType) (rm : Room) (B : Nat) (D : va_G) (cT : Nat → ClassId) (XS : State → Heap → Prop) (n : Nat) (av : List Value) (μ : Mem) (res : (Unit ⊕ Nat) × Mem) : Prop :=
  ∀ z : Nat, vx_Met l y (Cond.code y b mL ret :: gw) rm (va_Pc av (Wz B D cT XS n μ z)) (va_Qv (fun μ' => res = (.inl (), μ')) (Wqz B D cT n z) (fr B)) (XCx B D cT n res) rm.cells rm.slots (fr B)
def XP (t : Nat) (l : Launch) (y : MethodName) (b : ByteArray) (mL : Nat) (ret : Option FieldType) (rm : Room) (B : Nat) (D : va_G) (cT : Nat → ClassId) (XS : State → Heap → Prop) (n : Nat) (av : List Value) (μ : Mem) (res : (Nat ⊕ Nat) × Mem) : Prop :=
  ∀ z : Nat, vx_Met l y (Cond.code y b mL ret :: gw) rm (va_Pc av (Wz B D cT XS n μ z)) (va_Qq (fun r μ' => ∃ x, r = some (B + x) ∧ res = (.inl x, μ') ∧ isK n x t) (Wqz B D cT n z) (fr B)) (XCx B D cT n res) rm.cells rm.slots (fr B)
/-- q, an exception of class E, is thrown at pc -/
def TX (p : Program) (l : Launch) (e : Env) (R : Room) (s : State) (m : MethodId) (args : Array Value) (below : List Frame) (meth : Method) (c : Code) (Q : State → Prop) (nL B : Nat) (D : va_G) (cT : Nat → ClassId) (n kc ks : Nat) (E : String) (μ : Mem) (pc : Nat) (lv : List (Nat × Value)) (rest : List Value) : Prop :=
  ∀ (H : Heap) (locs : List Loc) (ls : Array Slot) (q : Addr) (ce : Cell), va_P D vwK (wl B cT n μ) H → WT n μ → va_S (fun q => B ≤ q) s.heap H locs → lv_has ls nL lv → H[q]? = some ce → ce.vm = .none → s.vm.findClass E = some ce.cls → vx_W p l e R s m args below meth c H locs kc ks Q (F0 m pc ls rest) q
def RX (p : Program) (l : Launch) (e : Env) (R : Room) (s : State) (m : MethodId) (args : Array Value) (below : List Frame) (meth : Method) (c : Code) (nL B : Nat) (D : va_G) (cT : Nat → ClassId) (n kc ks mc ms : Nat) (μ : Mem) (pc : Nat) (lv : List (Nat × Value)) (st rest : List Value) (Qa : Nat → State → Outcome → State → Prop) (XC : String → State → State → Prop) : Prop :=
  ∀ (H : Heap) (locs : List Loc) (ls : Array Slot), va_P D vwK (wl B cT n μ) H → WT n μ → va_S (fun q => B ≤ q) s.heap H locs → lv_has ls nL lv → vx_Run p l e R s m args below meth c H locs kc ks mc ms (F0 m pc ls st) rest (Qa H.size) XC (fr B)
/-- what a throw needs of the tables -/
def xNM : List String := ["java/lang/RuntimeException", "java/lang/Exception"]
def vx_atR (X : String) (names : List String) : List Cond := List.filter vx_no (Bundle.throwableAtoms ++ Bundle.throwableSAtoms ++ Bundle.chainSAtoms X names ++
  ([.instantiable X 6, .castable X X, .selects X Bundle.tFill0 Bundle.tFill0, .selects X Bundle.tFill Bundle.tFill,
   .lays X Bundle.tN "cause" "Ljava/lang/Throwable;", .lays X Bundle.tN "stackTrace" Bundle.steD, .lays X Bundle.tN "suppressedExceptions" Bundle.listD, .lays X Bundle.tN "detailMessage" "Ljava/lang/String;",
   .isRef (.static Bundle.tN "UNASSIGNED_STACK" Bundle.steD), .isRef (.static Bundle.tN "SUPPRESSED_SENTINEL" Bundle.listD),
   .fieldLink Bundle.tN 198 Bundle.tN "backtrace" "Ljava/lang/Object;", .lays Bundle.tN Bundle.tN "backtrace" "Ljava/lang/Object;", Cond.lays X Bundle.tN "backtrace" "Ljava/lang/Object;"] : List Cond))
theorem atS_split {own X : String} {ic : Nat} {names : List String} {w : Cond} (h : w ∈ vx_atS own ic X names) : w = .methodLink own ic (Bundle.initS X) ∨ w ∈ vx_atR X names := by
  obtain ⟨h1, h2⟩ := List.mem_filter.mp h
  rw [Bundle.ownAtoms] at h1
  rcases List.mem_append.mp h1 with h1 | h1
  · exact Or.inr (List.mem_filter.mpr ⟨List.mem_append_left _ h1, h2⟩)
  · rcases List.mem_cons.mp h1 with h1 | h1
    · exact Or.inl h1
    · exact Or.inr (List.mem_filter.mpr ⟨List.mem_append_right _ h1, h2⟩)
def TKk (k : Nat) : Prop := (∀ w ∈ Cond.initialized (exN k) :: vx_atR (exN k) xNM, (goodWord w = true ∧ w ∈ lw_tbl) ∨ w ∈ xNg) ∧ Bundle.fit (exN k) = true
set_option maxRecDepth 100000 in
theorem tk0 : TKk 0 := by unfold TKk; decide +kernel
set_option maxRecDepth 100000 in
theorem tk1 : TKk 1 := by unfold TKk; decide +kernel
set_option maxRecDepth 100000 in
theorem tk2 : TKk 2 := by unfold TKk; decide +kernel
theorem ng_ot : ∀ w ∈ xNg, vx_ot w = true := by decide +kernel
theorem nm_fit : ∀ n ∈ xNM, Bundle.fit n = true := by decide +kernel
theorem TKk_all {k : Nat} (h : k < 3) : TKk k := match k, h with
  | 0, _ => tk0
  | 1, _ => tk1
  | 2, _ => tk2
  | k + 3, h => absurd h (by omega)
def TW (own : String) (ik is ic k : Nat) : Prop := Cond.classLink own ik (exN k) ∈ gw ∧ Cond.methodLink own ic (Bundle.initS (exN k)) ∈ gw ∧ k < 3
section TEXC
variable {p : Program} {l : Launch} {e : Env} {R : Room} {s : State} {m : MethodId} {args : Array Value} {below : List Frame} {meth : Method} {c : Code} {Q : State → Prop} {nL B : Nat} {D : va_G} {cT : Nat → ClassId} {n kc ks : Nat} {μ : Mem} {pc : Nat} {lv : List (Nat × Value)} {st rest : List Value} {cc : ByteArray} {own : String} {XS : State → Heap → Prop}
theorem W_size {locs : List Loc} {H : Heap} {g : JFrame} (kk : H.size ≤ s.heap.size + kc → W p l e R s m args below meth c H locs kc ks Q g) : W p l e R s m args below meth c H locs kc ks Q g :=
  fun T hT X => kk (by have h := X.same.2.2.1; simpa [State.setVm, hT] using h) T hT X
theorem W_tight {locs : List Loc} {H : Heap} {g : JFrame} (hz : H.size ≤ s.heap.size) (kk : W p l e R s m args below meth c H locs 0 0 Q g) : W p l e R s m args below meth c H locs kc ks Q g := by
  intro T hT X
  refine kk T hT { X with same := ?_ }
  obtain ⟨h1, h2, h3, h4, h5, h6⟩ := X.same
  have hs : (T.setVm s.vm).heap.size ≤ s.heap.size := by simpa [State.setVm, hT] using hz
  have h0 : List.drop s.heap.size (T.setVm s.vm).heap.toList = [] := List.drop_eq_nil_iff.mpr (by simpa using hs)
  exact ⟨h1, h2, by omega, h4, by rw [h0]; simp, h6⟩
theorem tx_ofW {y : MethodName} {b : ByteArray} {mL : Nat} {ret : Option FieldType} {rm : Room} {av : List Value} {Qc : Nat → Array Value → State → Outcome → State → Prop} {XC : String → State → State → Prop} {lv0 : List (Nat × Value)} {k : Nat} (hM : MTx y b mL ret k) (hlen : (lg_sl av).length ≤ mL) (hlv : lv_args 0 av = lv0)
    (body : ∀ (p : Program) (e : Env) (s : State) (m : MethodId) (below : List Frame) (meth : Method) (c : Code), EE p s m av.toArray c b mL y.cls B D cT XS → meth.sig.returnType = ret → meth.locks = false → (∀ x ∈ c.exceptionTable.toList, False) → TT p l e rm s m av.toArray below meth c (vx_MQ below (Qc s.heap.size) XC av.toArray s rm.cells rm.slots (fr B)) mL B D cT n 0 0 μ 0 lv0 []) :
    ∀ z : Nat, vx_Met l y (Cond.code y b mL ret :: gw) rm (va_Pc av (Wz B D cT XS n μ z)) (Qc z) XC rm.cells rm.slots (fr B) := by
  intro z
  refine vx_ofW (cc := b) (maxL := mL) (ret := ret) hM.2.2.2 rfl ?_
  intro p e s m args below meth c s₁ B0 hml hno hv
  obtain ⟨rfl, ⟨hP, hWT, hK, hX, hXM⟩, rfl⟩ := hv
  have hts := atoms_spec (ws := Cond.code y b mL ret :: gw) B0.pre
  have hl := lv_entry av (n := mL) hlen
  rw [hlv] at hl
  rw [lg_entry_eq]
  exact body p e s m below meth c ⟨⟨B0.exec, B0.bytes, hml, findClass_of_methodNamed B0.named, fun w hw => hts w (List.mem_cons_of_mem _ hw)⟩, hK, hX, hXM⟩ B0.returns B0.notSynchronized hno s.heap [] _ hP hWT va_S.rf hl
theorem tx_vi (E : EE p s m args c cc nL own B D cT XS) {idx mL k ci o : Nat} {y : MethodName} {b : ByteArray} {ret : Option FieldType} {rm : Room} {As : List Value} {Qc : Nat → Array Value → State → Outcome → State → Prop} {XC : String → State → State → Prop} (hL : LM own idx y) (hV : MTv y b mL ret k ci) (hM : ∀ z : Nat, vx_Met l y (Cond.code y b mL ret :: gw) rm (va_Pc (.ref (B + o) :: As) (Wz B D cT XS n μ z)) (Qc z) XC rm.cells rm.slots (fr B)) (ho : isK n o ci) (hn : As.length = k) (hst : As.reverse ++ .ref (B + o) :: rest = st) (hW8 : (rest.map fun v => v.category).sum ≤ 8) (hR : rm.frames + 1 ≤ R.frames ∧ 8 + (mL + 11) + rm.locals ≤ R.locals) (hcs : kc + rm.cells ≤ R.cells ∧ ks + rm.slots ≤ R.slots) (hdg : decode cc pc = .ok (.invokevirtual idx, 3)) :
    RX p l e R s m args below meth c nL B D cT n kc ks rm.cells rm.slots μ pc lv st rest (fun z => Qc z (Value.ref (B + o) :: As).toArray) XC := by
  intro H locs ls hP hW hS hl
  obtain ⟨⟨h1, h2, h3, h4⟩, h5, h6, T, N, h7, h8⟩ := hV
  have he := wl_ent (B := B) (cT := cT) (μ := μ) ho
  rw [ent_cls h8] at he
  refine vx_runV E.1 (hM H.size) (cwV k E.1.2.2.2.2 (gw_in fun w hw => ?_) rfl rfl rfl ⟨rfl, h3⟩ hR) ⟨Wz_blind, va_recv E.2.1 hP h7 he, fun U hU hv => ⟨rfl, E_Wd E hP hW hS hU hv, by rw [hU]⟩⟩ rfl hn hl.1 hst.symm (lv_room hW8) hdg hcs
  rcases List.mem_append.mp hw with hw | hw
  · simp only [List.mem_cons, List.not_mem_nil, or_false] at hw
    rcases hw with rfl | rfl | rfl | rfl
    · exact hL
    · exact h5
    · exact h6
    · exact h1
  · rcases List.mem_cons.mp hw with rfl | hw
    · exact h2
    · exact hw
theorem tx_si (E : EE p s m args c cc nL own B D cT XS) {idx mL k : Nat} {y : MethodName} {b : ByteArray} {ret : Option FieldType} {rm : Room} {As : List Value} {Qc : Nat → Array Value → State → Outcome → State → Prop} {XC : String → State → State → Prop} (hL : LM own idx y) (hV : MTs y b mL ret k) (hM : ∀ z : Nat, vx_Met l y (Cond.code y b mL ret :: gw) rm (va_Pc As (Wz B D cT XS n μ z)) (Qc z) XC rm.cells rm.slots (fr B)) (hn : As.length = k) (hst : As.reverse ++ rest = st) (hW8 : (rest.map fun v => v.category).sum ≤ 8) (hR : rm.frames + 1 ≤ R.frames ∧ 8 + (mL + 11) + rm.locals ≤ R.locals) (hcs : kc + rm.cells ≤ R.cells ∧ ks + rm.slots ≤ R.slots) (hdg : decode cc pc = .ok (.invokestatic idx, 3)) :
    RX p l e R s m args below meth c nL B D cT n kc ks rm.cells rm.slots μ pc lv st rest (fun z => Qc z As.toArray) XC := by
  intro H locs ls hP hW hS hl
  obtain ⟨⟨h1, h2, h3, h4⟩, h5⟩ := hV
  refine vx_runS E.1 (hM H.size) (va_cwS k E.1.2.2.2.2 (gw_in fun w hw => ?_) rfl rfl rfl h3 hR) ⟨Wz_blind, fun U hU hv => ⟨rfl, E_Wd E hP hW hS hU hv, by rw [hU]⟩⟩ rfl hn hl.1 hst.symm (lv_room hW8) hdg hcs
  rcases List.mem_append.mp hw with hw | hw
  · simp only [List.mem_cons, List.not_mem_nil, or_false] at hw
    rcases hw with rfl | rfl | rfl
    · exact hL
    · exact h5
    · exact h1
  · rcases List.mem_cons.mp hw with rfl | hw
    · exact h2
    · exact hw
theorem tx_cI {mc ms : Nat} {a : Array Value} {res : (Int32 ⊕ Nat) × Mem} (hr : RX p l e R s m args below meth c nL B D cT n 0 0 mc ms μ pc lv st rest (fun z => va_Qi (fun r μ' => res = (.inl r, μ')) (Wqz B D cT n z) (fr B) a) (XCx B D cT n res)) (kx : ∀ (k : Nat) (μ' : Mem), res = (.inr k, μ') → TX p l e R s m args below meth c Q nL B D cT n mc ms (exN k) μ' pc lv rest) (kk : ∀ (r : Int32) (μ' : Mem), res = (.inl r, μ') → TT p l e R s m args below meth c Q nL B D cT n 0 0 μ' (pc + 3) lv (.int r :: rest)) : TT p l e R s m args below meth c Q nL B D cT n 0 0 μ pc lv st := by
  intro H locs ls hP hW hS hl
  refine W_size (fun hsz => ?_)
  refine vx_calli (hr H locs ls hP hW hS hl) hS (fun q _ h => h) (fun q h => h) (fun q _ h => h) (fun E ce q9 u t H1 locs1 ht hvm hp hB hz hk hS1 hce hcv hcl => ?_) (fun r u t H1 locs1 ht hvm hpost hB hz hk hS1 => ?_)
  · obtain ⟨rfl, hB⟩ := hB
    (have := kx u.1 u.2 hp H1 locs1 ls q9 ce (by rw [← ht]; exact hB.1) hB.2 hS1 hl hce hcv hcl; rw [Nat.zero_add, Nat.zero_add]; exact this)
  · exact W_tight (by rw [← ht, hB.2]; omega) (kk r u hpost H1 locs1 ls (by rw [← ht]; exact hB.1.1) hB.1.2 hS1 hl)
theorem tx_cZ {mc ms : Nat} {a : Array Value} {res : (Int32 ⊕ Nat) × Mem} (hr : RX p l e R s m args below meth c nL B D cT n 0 0 mc ms μ pc lv st rest (fun z => va_Qi (fun r μ' => res = (.inl r, μ') ∧ zb r) (Wqz B D cT n z) (fr B) a) (XCx B D cT n res)) (kx : ∀ (k : Nat) (μ' : Mem), res = (.inr k, μ') → TX p l e R s m args below meth c Q nL B D cT n mc ms (exN k) μ' pc lv rest) (kk : ∀ (r : Int32) (μ' : Mem), res = (.inl r, μ') ∧ zb r → TT p l e R s m args below meth c Q nL B D cT n 0 0 μ' (pc + 3) lv (.int r :: rest)) : TT p l e R s m args below meth c Q nL B D cT n 0 0 μ pc lv st := by
  intro H locs ls hP hW hS hl
  refine W_size (fun hsz => ?_)
  refine vx_calli (hr H locs ls hP hW hS hl) hS (fun q _ h => h) (fun q h => h) (fun q _ h => h) (fun E ce q9 u t H1 locs1 ht hvm hp hB hz hk hS1 hce hcv hcl => ?_) (fun r u t H1 locs1 ht hvm hpost hB hz hk hS1 => ?_)
  · obtain ⟨rfl, hB⟩ := hB
    (have := kx u.1 u.2 hp H1 locs1 ls q9 ce (by rw [← ht]; exact hB.1) hB.2 hS1 hl hce hcv hcl; rw [Nat.zero_add, Nat.zero_add]; exact this)
  · exact W_tight (by rw [← ht, hB.2]; omega) (kk r u hpost H1 locs1 ls (by rw [← ht]; exact hB.1.1) hB.1.2 hS1 hl)
theorem tx_cJ {mc ms : Nat} {a : Array Value} {res : (Int64 ⊕ Nat) × Mem} (hr : RX p l e R s m args below meth c nL B D cT n 0 0 mc ms μ pc lv st rest (fun z => va_Ql (fun r μ' => res = (.inl r, μ')) (Wqz B D cT n z) (fr B) a) (XCx B D cT n res)) (kx : ∀ (k : Nat) (μ' : Mem), res = (.inr k, μ') → TX p l e R s m args below meth c Q nL B D cT n mc ms (exN k) μ' pc lv rest) (kk : ∀ (r : Int64) (μ' : Mem), res = (.inl r, μ') → TT p l e R s m args below meth c Q nL B D cT n 0 0 μ' (pc + 3) lv (.long r :: rest)) : TT p l e R s m args below meth c Q nL B D cT n 0 0 μ pc lv st := by
  intro H locs ls hP hW hS hl
  refine W_size (fun hsz => ?_)
  refine vx_calll (hr H locs ls hP hW hS hl) hS (fun q _ h => h) (fun q h => h) (fun q _ h => h) (fun E ce q9 u t H1 locs1 ht hvm hp hB hz hk hS1 hce hcv hcl => ?_) (fun r u t H1 locs1 ht hvm hpost hB hz hk hS1 => ?_)
  · obtain ⟨rfl, hB⟩ := hB
    (have := kx u.1 u.2 hp H1 locs1 ls q9 ce (by rw [← ht]; exact hB.1) hB.2 hS1 hl hce hcv hcl; rw [Nat.zero_add, Nat.zero_add]; exact this)
  · exact W_tight (by rw [← ht, hB.2]; omega) (kk r u hpost H1 locs1 ls (by rw [← ht]; exact hB.1.1) hB.1.2 hS1 hl)
theorem tx_cV {mc ms : Nat} {a : Array Value} {res : (Unit ⊕ Nat) × Mem} (hr : RX p l e R s m args below meth c nL B D cT n 0 0 mc ms μ pc lv st rest (fun z => va_Qv (fun μ' => res = (.inl (), μ')) (Wqz B D cT n z) (fr B) a) (XCx B D cT n res)) (kx : ∀ (k : Nat) (μ' : Mem), res = (.inr k, μ') → TX p l e R s m args below meth c Q nL B D cT n mc ms (exN k) μ' pc lv rest) (kk : ∀ (μ' : Mem), res = (.inl (), μ') → TT p l e R s m args below meth c Q nL B D cT n 0 0 μ' (pc + 3) lv rest) : TT p l e R s m args below meth c Q nL B D cT n 0 0 μ pc lv st := by
  intro H locs ls hP hW hS hl
  refine W_size (fun hsz => ?_)
  refine vx_callv (hr H locs ls hP hW hS hl) hS (fun q _ h => h) (fun q h => h) (fun q _ h => h) (fun E ce q9 u t H1 locs1 ht hvm hp hB hz hk hS1 hce hcv hcl => ?_) (fun u t H1 locs1 ht hvm hpost hB hz hk hS1 => ?_)
  · obtain ⟨rfl, hB⟩ := hB
    (have := kx u.1 u.2 hp H1 locs1 ls q9 ce (by rw [← ht]; exact hB.1) hB.2 hS1 hl hce hcv hcl; rw [Nat.zero_add, Nat.zero_add]; exact this)
  · exact W_tight (by rw [← ht, hB.2]; omega) (kk u hpost H1 locs1 ls (by rw [← ht]; exact hB.1.1) hB.1.2 hS1 hl)
theorem tx_cP {tk : Nat} {mc ms : Nat} {a : Array Value} {res : (Nat ⊕ Nat) × Mem} (hr : RX p l e R s m args below meth c nL B D cT n 0 0 mc ms μ pc lv st rest (fun z => va_Qq (fun r μ' => ∃ x, r = some (B + x) ∧ res = (.inl x, μ') ∧ isK n x tk) (Wqz B D cT n z) (fr B) a) (XCx B D cT n res)) (kx : ∀ (k : Nat) (μ' : Mem), res = (.inr k, μ') → TX p l e R s m args below meth c Q nL B D cT n mc ms (exN k) μ' pc lv rest) (kk : ∀ (r : Nat) (μ' : Mem), res = (.inl r, μ') ∧ isK n r tk → TT p l e R s m args below meth c Q nL B D cT n 0 0 μ' (pc + 3) lv (.ref (B + r) :: rest)) : TT p l e R s m args below meth c Q nL B D cT n 0 0 μ pc lv st := by
  intro H locs ls hP hW hS hl
  refine W_size (fun hsz => ?_)
  refine vx_callq (hr H locs ls hP hW hS hl) hS (fun q _ h => h) (fun q h => h) (fun q _ h => h) (fun E ce q9 u t H1 locs1 ht hvm hp hB hz hk hS1 hce hcv hcl => ?_) (fun r u t H1 locs1 ht hvm hpost hB hz hk hS1 => ?_)
  · obtain ⟨rfl, hB⟩ := hB
    (have := kx u.1 u.2 hp H1 locs1 ls q9 ce (by rw [← ht]; exact hB.1) hB.2 hS1 hl hce hcv hcl; rw [Nat.zero_add, Nat.zero_add]; exact this)
  · obtain ⟨x, rfl, hpost⟩ := hpost
    exact W_tight (by rw [← ht, hB.2]; omega) (kk x u hpost H1 locs1 ls (by rw [← ht]; exact hB.1.1) hB.1.2 hS1 hl)

theorem tx_iret (E : EE p s m args c cc nL own B D cT XS) {mc ms : Nat} {res : (Int32 ⊕ Nat) × Mem} {XC : String → State → State → Prop} {v : Int32} (hr : meth.sig.returnType = some .int) (hlk : meth.locks = false) (hdg : decode cc pc = .ok (.ireturn, 1)) (hf : some (Sum.inl v, μ) = some res) : TT p l e R s m args below meth c (vx_MQ below (va_Qi (fun r μ' => res = (.inl r, μ')) (Wqz B D cT n s.heap.size) (fr B)) XC args s mc ms (fr B)) nL B D cT n 0 0 μ pc lv [.int v] := by
  intro H locs ls hP hW hS hl
  cases hf
  refine vx_ret (W_size (fun hsz => W.widen (k := mc) (n := ms) (Nat.zero_le _) (Nat.zero_le _) ?_))
  exact W.iret E.1.1 E.1.2.1 hr (fun t ht hv => ⟨⟨v, μ, rfl, rfl, ⟨E_Wq hP hW ht, by rw [ht]; have := hS.1; omega⟩⟩, hS.F ht⟩) hS.2.2 hdg hlk
theorem tx_zret (E : EE p s m args c cc nL own B D cT XS) {mc ms : Nat} {res : (Int32 ⊕ Nat) × Mem} {XC : String → State → State → Prop} {v : Int32} (hzb : zb v) (hr : meth.sig.returnType = some .boolean) (hlk : meth.locks = false) (hdg : decode cc pc = .ok (.ireturn, 1)) (hf : some (Sum.inl v, μ) = some res) : TT p l e R s m args below meth c (vx_MQ below (va_Qi (fun r μ' => res = (.inl r, μ') ∧ zb r) (Wqz B D cT n s.heap.size) (fr B)) XC args s mc ms (fr B)) nL B D cT n 0 0 μ pc lv [.int v] := by
  intro H locs ls hP hW hS hl
  cases hf
  refine vx_ret (W_size (fun hsz => W.widen (k := mc) (n := ms) (Nat.zero_le _) (Nat.zero_le _) ?_))
  exact W.zret E.1.1 E.1.2.1 hr (zb_narrow hzb) (fun t ht hv => ⟨⟨v, μ, rfl, ⟨rfl, hzb⟩, ⟨E_Wq hP hW ht, by rw [ht]; have := hS.1; omega⟩⟩, hS.F ht⟩) hS.2.2 hdg hlk
theorem tx_lret (E : EE p s m args c cc nL own B D cT XS) {mc ms : Nat} {res : (Int64 ⊕ Nat) × Mem} {XC : String → State → State → Prop} {v : Int64} (hr : meth.sig.returnType = some .long) (hlk : meth.locks = false) (hdg : decode cc pc = .ok (.lreturn, 1)) (hf : some (Sum.inl v, μ) = some res) : TT p l e R s m args below meth c (vx_MQ below (va_Ql (fun r μ' => res = (.inl r, μ')) (Wqz B D cT n s.heap.size) (fr B)) XC args s mc ms (fr B)) nL B D cT n 0 0 μ pc lv [.long v] := by
  intro H locs ls hP hW hS hl
  cases hf
  refine vx_ret (W_size (fun hsz => W.widen (k := mc) (n := ms) (Nat.zero_le _) (Nat.zero_le _) ?_))
  exact W.lret E.1.1 E.1.2.1 hr (fun t ht hv => ⟨⟨v, μ, rfl, rfl, ⟨E_Wq hP hW ht, by rw [ht]; have := hS.1; omega⟩⟩, hS.F ht⟩) hS.2.2 hdg hlk
theorem tx_vret (E : EE p s m args c cc nL own B D cT XS) {mc ms : Nat} {res : (Unit ⊕ Nat) × Mem} {XC : String → State → State → Prop} (hr : meth.sig.returnType = none) (hlk : meth.locks = false) (hdg : decode cc pc = .ok (.return_, 1)) (hf : some (Sum.inl (), μ) = some res) : TT p l e R s m args below meth c (vx_MQ below (va_Qv (fun μ' => res = (.inl (), μ')) (Wqz B D cT n s.heap.size) (fr B)) XC args s mc ms (fr B)) nL B D cT n 0 0 μ pc lv [] := by
  intro H locs ls hP hW hS hl
  cases hf
  refine vx_ret (W_size (fun hsz => W.widen (k := mc) (n := ms) (Nat.zero_le _) (Nat.zero_le _) ?_))
  exact W.vret E.1.1 E.1.2.1 hr (fun t ht hv => ⟨⟨μ, rfl, rfl, ⟨E_Wq hP hW ht, by rw [ht]; have := hS.1; omega⟩⟩, hS.F ht⟩) hS.2.2 hdg hlk
theorem tx_aret (E : EE p s m args c cc nL own B D cT XS) {mc ms : Nat} {res : (Nat ⊕ Nat) × Mem} {XC : String → State → State → Prop} {o tk : Nat} {CN : String} (ho : isK n o tk) (hr : meth.sig.returnType = some (.object CN)) (hlk : meth.locks = false) (hdg : decode cc pc = .ok (.areturn, 1)) (hf : some (Sum.inl o, μ) = some res) : TT p l e R s m args below meth c (vx_MQ below (va_Qq (fun r μ' => ∃ x, r = some (B + x) ∧ res = (.inl x, μ') ∧ isK n x tk) (Wqz B D cT n s.heap.size) (fr B)) XC args s mc ms (fr B)) nL B D cT n 0 0 μ pc lv [.ref (B + o)] := by
  intro H locs ls hP hW hS hl
  cases hf
  refine vx_ret (W_size (fun hsz => W.widen (k := mc) (n := ms) (Nat.zero_le _) (Nat.zero_le _) ?_))
  exact W.aret E.1.1 E.1.2.1 hr (Or.inl ⟨_, rfl⟩) (Or.inr ⟨_, rfl⟩) (fun t ht hv => ⟨⟨some (B + o), μ, rfl, ⟨o, rfl, rfl, ho⟩, ⟨E_Wq hP hW ht, by rw [ht]; have := hS.1; omega⟩⟩, hS.F ht⟩) hS.2.2 hdg hlk
theorem tx_throw {α : Type} {adK adV : Nat → Nat} (E : EE p s m args c cc nL own B D cT (XW B adK adV)) (hl0 : l.stackTraces = false) {Qc : Array Value → State → Outcome → State → Prop} {ik is ic k i mc ms : Nat} {text : String} {bs : List Int32} {res : (α ⊕ Nat) × Mem} (hT : TW own ik is ic k) (hi : strT[i]? = some (own, is, text, bs)) (hno : ∀ x ∈ c.exceptionTable.toList, False) (hlk : meth.locks = false)
    (d0 : decode cc pc = .ok (.new ik, 3)) (d3 : decode cc (pc + 3) = .ok (.dup, 1)) (d4 : decode cc (pc + 4) = .ok (.ldc is, 2)) (d6 : decode cc (pc + 6) = .ok (.invokespecial ic, 3)) (d9 : decode cc (pc + 9) = .ok (.athrow, 1)) (hRf : 5 < R.frames) (hRl : (st.map fun v => v.category).sum + 82 ≤ R.locals) (hRc : kc + 1 ≤ R.cells) (hRs : ks + 6 ≤ R.slots) (h1 : kc + 1 ≤ mc) (h2 : ks + 6 ≤ ms) (hf : some (Sum.inr k, μ) = some res) :
    TT p l e R s m args below meth c (vx_MQ below Qc (XCx B D cT n res) args s mc ms (fr B)) nL B D cT n kc ks μ pc lv st := by
  intro H locs ls hP hW hS hl
  cases hf
  obtain ⟨hT1, hT2, hk3⟩ := hT
  obtain ⟨hT3, hT4⟩ := TKk_all hk3
  have key : ∀ w, (goodWord w = true ∧ w ∈ lw_tbl) ∨ w ∈ xNg → w.before args s = true ∧ vx_ot w = true := by
    intro w hw
    rcases hw with ⟨h1, h2⟩ | h1
    · exact ⟨E.1.2.2.2.2 _ (gw_mem h2 h1), by simp only [vx_ot, h1, Bool.or_true]⟩
    · have h3 := E.2.2.1.2.2.2.2.2.1 w h1
      refine ⟨va_Nw.use ?_ h3, ng_ot w h1⟩
      have h4 : ∀ w ∈ xNg, w.onTables = true := by decide +kernel
      exact h4 w h1
  have hwa : ∀ w ∈ vx_atS own ic (exN k) xNM, w.before args s = true ∧ vx_ot w = true := fun w hw => by
    rcases atS_split hw with rfl | h
    · exact ⟨E.1.2.2.2.2 _ hT2, rfl⟩
    · exact key w (hT3 w (List.mem_cons_of_mem _ h))
  have hin := key _ (hT3 _ List.mem_cons_self)
  refine vx_throwS E.1.1 E.1.2.1 hl0 (own := own) (cls := exN k) (text := text) (names := xNM) (sa := adK i) E.1.2.2.2.1 hT4 nm_fit (E.1.2.2.2.2 _ hT1) hin.1 ((E.2.2.1.2.2.2.2.1 i _ hi).1) (fun w hw => (hwa w hw).1) (fun w hw => ?_) E.2.2.1.1 E.2.2.1.2.1 hS (hl.1.trans E.1.2.2.1.symm) d0 d3 d4 d6 d9 (fun x hx => (hno x hx).elim) hRf hRl hRc hRs hlk (fun t hv hz hq => ?_) hS.2.2 h1 h2
  · rcases List.mem_cons.mp hw with rfl | hw
    · rfl
    · rcases List.mem_cons.mp hw with rfl | hw
      · rfl
      · exact (hwa w hw).2
  · refine ⟨(k, μ), rfl, ⟨rfl, hP.kept (fun k q hk => hq _ ((hP k q hk).lt)), hW⟩, ?_⟩
    exact ⟨Nat.le_trans hS.1 hz, fun q h1 h2 => (hq q (Nat.lt_of_lt_of_le h1 hS.1)).trans (hS.2.1 q h1 h2)⟩
theorem tx_throwW {α : Type} {adK adV : Nat → Nat} (E : EE p s m args c cc nL own B D cT (XW B adK adV)) (hl0 : l.stackTraces = false) {Qc : Array Value → State → Outcome → State → Prop} {ik is ic k i mc ms : Nat} {text : String} {bs : List Int32} {res : (α ⊕ Nat) × Mem} (hT : TW own ik is ic k) (hi : strT[i]? = some (own, is, text, bs)) (hno : ∀ x ∈ c.exceptionTable.toList, False) (hlk : meth.locks = false)
    (d0 : decode cc pc = .ok (.new ik, 3)) (d3 : decode cc (pc + 3) = .ok (.dup, 1)) (d4 : decode cc (pc + 4) = .ok (.ldc_w is, 3)) (d6 : decode cc (pc + 7) = .ok (.invokespecial ic, 3)) (d9 : decode cc (pc + 10) = .ok (.athrow, 1)) (hRf : 5 < R.frames) (hRl : (st.map fun v => v.category).sum + 82 ≤ R.locals) (hRc : kc + 1 ≤ R.cells) (hRs : ks + 6 ≤ R.slots) (h1 : kc + 1 ≤ mc) (h2 : ks + 6 ≤ ms) (hf : some (Sum.inr k, μ) = some res) :
    TT p l e R s m args below meth c (vx_MQ below Qc (XCx B D cT n res) args s mc ms (fr B)) nL B D cT n kc ks μ pc lv st := by
  intro H locs ls hP hW hS hl
  cases hf
  obtain ⟨hT1, hT2, hk3⟩ := hT
  obtain ⟨hT3, hT4⟩ := TKk_all hk3
  have key : ∀ w, (goodWord w = true ∧ w ∈ lw_tbl) ∨ w ∈ xNg → w.before args s = true ∧ vx_ot w = true := by
    intro w hw
    rcases hw with ⟨h1, h2⟩ | h1
    · exact ⟨E.1.2.2.2.2 _ (gw_mem h2 h1), by simp only [vx_ot, h1, Bool.or_true]⟩
    · have h3 := E.2.2.1.2.2.2.2.2.1 w h1
      refine ⟨va_Nw.use ?_ h3, ng_ot w h1⟩
      have h4 : ∀ w ∈ xNg, w.onTables = true := by decide +kernel
      exact h4 w h1
  have hwa : ∀ w ∈ vx_atS own ic (exN k) xNM, w.before args s = true ∧ vx_ot w = true := fun w hw => by
    rcases atS_split hw with rfl | h
    · exact ⟨E.1.2.2.2.2 _ hT2, rfl⟩
    · exact key w (hT3 w (List.mem_cons_of_mem _ h))
  have hin := key _ (hT3 _ List.mem_cons_self)
  refine vx_throwSW E.1.1 E.1.2.1 hl0 (own := own) (cls := exN k) (text := text) (names := xNM) (sa := adK i) E.1.2.2.2.1 hT4 nm_fit (E.1.2.2.2.2 _ hT1) hin.1 ((E.2.2.1.2.2.2.2.1 i _ hi).1) (fun w hw => (hwa w hw).1) (fun w hw => ?_) E.2.2.1.1 E.2.2.1.2.1 hS (hl.1.trans E.1.2.2.1.symm) d0 d3 d4 d6 d9 (fun x hx => (hno x hx).elim) hRf hRl hRc hRs hlk (fun t hv hz hq => ?_) hS.2.2 h1 h2
  · rcases List.mem_cons.mp hw with rfl | hw
    · rfl
    · rcases List.mem_cons.mp hw with rfl | hw
      · rfl
      · exact (hwa w hw).2
  · refine ⟨(k, μ), rfl, ⟨rfl, hP.kept (fun k q hk => hq _ ((hP k q hk).lt)), hW⟩, ?_⟩
    exact ⟨Nat.le_trans hS.1 hz, fun q h1 h2 => (hq q (Nat.lt_of_lt_of_le h1 hS.1)).trans (hS.2.1 q h1 h2)⟩

/-- not caught: it goes on to the caller -/
theorem tx_out {α : Type} {Qc : Array Value → State → Outcome → State → Prop} {mc ms k : Nat} {res : (α ⊕ Nat) × Mem} (hno : ∀ x ∈ c.exceptionTable.toList, False) (hlk : meth.locks = false) (h1 : kc ≤ mc) (h2 : ks ≤ ms) (hf : some (Sum.inr k, μ) = some res) :
    TX p l e R s m args below meth c (vx_MQ below Qc (XCx B D cT n res) args s mc ms (fr B)) nL B D cT n kc ks (exN k) μ pc lv st := by
  intro H locs ls q ce hP hW hS hl hce hcv hcl
  cases hf
  exact vx_out (fun x hx => (hno x hx).elim) hlk hce hcv hcl (fun t ht hv => ⟨(k, μ), rfl, ⟨rfl, E_Wq hP hW ht⟩, hS.F ht⟩) hS.2.2 h1 h2
end TEXC
