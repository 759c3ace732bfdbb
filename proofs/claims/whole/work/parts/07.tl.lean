/-! THE WALK OVER THE MEMORY: TT is the machine at a place of a method, over any heap that holds the memory μ -/
def gw : List Cond := lw_tbl.filter goodWord
theorem gw_mem {w : Cond} (h : w ∈ lw_tbl) (hg : goodWord w = true) : w ∈ gw := List.mem_filter.mpr ⟨h, hg⟩
theorem gw_lw {w : Cond} (h : w ∈ gw) : w ∈ lw_tbl := (List.mem_filter.mp h).1
theorem gw_good {w : Cond} (h : w ∈ gw) : (w.onTables && w.keeps) = true ∨ ∃ ty, w = .arrayClass ty := good_of_word (List.mem_filter.mp h).2
theorem gw_in {ws : List Cond} (h : ∀ w ∈ ws, w ∈ gw) : GoodIn gw ws := fun w hw => ⟨h w hw, gw_good (h w hw)⟩
theorem gw_self {w : Cond} (hw : w ∈ gw) : GoodIn gw (w :: gw) := gw_in fun v hv => (List.mem_cons.mp hv).elim (fun e => by rw [e]; exact hw) id
theorem mt0 {w : Cond} (h : w ∈ k2_sels lw_privs) : w ∈ lw_tbl := List.mem_append_left _ h
theorem mt {w : Cond} (h : w ∈ tables_1) : w ∈ lw_tbl := List.mem_append_right _ h
theorem mt1 {w : Cond} (h : w ∈ tables_1_1) : w ∈ lw_tbl := mt (List.mem_append_left _ h)
theorem mt2 {w : Cond} (h : w ∈ tables_1_2) : w ∈ lw_tbl := mt (List.mem_append_right _ (List.mem_append_left _ h))
theorem mt3 {w : Cond} (h : w ∈ tables_1_3) : w ∈ lw_tbl := mt (List.mem_append_right _ (List.mem_append_right _ (List.mem_append_left _ h)))
theorem mt4 {w : Cond} (h : w ∈ tables_1_4) : w ∈ lw_tbl := mt (List.mem_append_right _ (List.mem_append_right _ (List.mem_append_right _ (List.mem_append_left _ h))))
theorem mt5 {w : Cond} (h : w ∈ tables_1_5) : w ∈ lw_tbl := mt (List.mem_append_right _ (List.mem_append_right _ (List.mem_append_right _ (List.mem_append_right _ (List.mem_append_left _ h)))))
theorem mt6 {w : Cond} (h : w ∈ tables_1_6) : w ∈ lw_tbl := mt (List.mem_append_right _ (List.mem_append_right _ (List.mem_append_right _ (List.mem_append_right _ (List.mem_append_right _ (List.mem_append_left _ h))))))
theorem mt7 {w : Cond} (h : w ∈ tables_1_7) : w ∈ lw_tbl := mt (List.mem_append_right _ (List.mem_append_right _ (List.mem_append_right _ (List.mem_append_right _ (List.mem_append_right _ (List.mem_append_right _ (List.mem_append_left _ h)))))))
theorem mt8 {w : Cond} (h : w ∈ tables_1_8) : w ∈ lw_tbl := mt (List.mem_append_right _ (List.mem_append_right _ (List.mem_append_right _ (List.mem_append_right _ (List.mem_append_right _ (List.mem_append_right _ (List.mem_append_right _ (List.mem_append_left _ h))))))))
theorem mt9 {w : Cond} (h : w ∈ tables_1_9) : w ∈ lw_tbl := mt (List.mem_append_right _ (List.mem_append_right _ (List.mem_append_right _ (List.mem_append_right _ (List.mem_append_right _ (List.mem_append_right _ (List.mem_append_right _ (List.mem_append_right _ h))))))))
theorem at_l {α : Type} {l : List α} {w : α} (k : Nat) (h : l[k]? = some w) : w ∈ l := List.mem_of_getElem? h
def refTy : FieldType → Bool
  | .object _ => true
  | .array _ => true
  | _ => false
def okTy (t : Nat) (ty : FieldType) : Bool := match t with
  | 0 => decide (ty = .int)
  | 1 => decide (ty = .long)
  | 2 => refTy ty
  | 3 => decide (ty = .boolean)
  | _ => false
/-- what is known of kind c: its class, its fields -/
def CF (c : Nat) (C : String) (T : u_T) (N : Nat) (ty : Nat → FieldType) : Prop :=
  vwK[c]? = some (C, T, N) ∧ c < 10 ∧ FL c = N ∧ (∀ w ∈ u_ws C T N, w ∈ gw) ∧ (∀ k, k < N → parseFieldDescriptor (T k).2.2.1 = some (ty k)) ∧ (∀ a, a < N → ∀ b, b < N → a ≠ b → (T a).2.1 ≠ (T b).2.1) ∧ ∀ k, k < N → okTy (FTy c k) (ty k) = true
/-- what a link of a field says -/
def LF (own : String) (idx c k : Nat) (fin : Bool) : Prop := ∃ (C : String) (T : u_T) (N : Nat) (ty : Nat → FieldType), CF c C T N ty ∧ k < N ∧ Cond.fieldLink own idx (T k).1 (T k).2.1 (T k).2.2.1 ∈ gw ∧ (T k).2.2.2 = fin
/-- what the world holds beside the memory stays while only the memory's cells change -/
def XM (B : Nat) (XS : State → Heap → Prop) : Prop := ∀ (u U : State) (H H1 : Heap), u.WarmedH U.vm → XS u H → (∀ a : Nat, a < H.size → ¬ B ≤ a → H1[a]? = H[a]?) → XS U H1
def EE (p : Program) (s : State) (m : MethodId) (args : Array Value) (c : Code) (cc : ByteArray) (nL : Nat) (own : String) (B : Nat) (D : va_G) (cT : Nat → ClassId) (XS : State → Heap → Prop) : Prop :=
  CallFix p m c cc nL s args gw own ∧ va_K D vwK (tyT cT) s ∧ XS s s.heap ∧ XM B XS
def TT (p : Program) (l : Launch) (e : Env) (R : Room) (s : State) (m : MethodId) (args : Array Value) (below : List Frame) (meth : Method) (c : Code) (Q : State → Prop) (nL B : Nat) (D : va_G) (cT : Nat → ClassId) (n kc ks : Nat) (μ : Mem) (pc : Nat) (lv : List (Nat × Value)) (st : List Value) : Prop :=
  ∀ (H : Heap) (locs : List Loc) (ls : Array Slot), va_P D vwK (wl B cT n μ) H → WT n μ → va_S (fun q => B ≤ q) s.heap H locs → lv_has ls nL lv → W p l e R s m args below meth c H locs kc ks Q (F0 m pc ls st)
theorem fv_int {B t : Nat} {iI : Nat → Int32} {iJ : Nat → Int64} {iP : Nat → Option Nat} {k : Nat} (h : (t == 0 || t == 3) = true) : fv B t iI iJ iP k = .int (iI k) := by
  simp only [Bool.or_eq_true, beq_iff_eq] at h
  rcases h with rfl | rfl <;> rfl
theorem zb_narrow {v : Int32} (h : zb v) : narrow .boolean (.int v) = .int v := by rcases h with rfl | rfl <;> rfl
theorem zb_fits {v : Int32} (h : zb v) : fits .boolean (.int v) = true := by rcases h with rfl | rfl <;> rfl
theorem okTy0 {ty : FieldType} (h : okTy 0 ty = true) : ty = .int := of_decide_eq_true h
theorem okTy1 {ty : FieldType} (h : okTy 1 ty = true) : ty = .long := of_decide_eq_true h
theorem okTy3 {ty : FieldType} (h : okTy 3 ty = true) : ty = .boolean := of_decide_eq_true h
section TLAYER
variable {p : Program} {l : Launch} {e : Env} {R : Room} {s : State} {m : MethodId} {args : Array Value} {below : List Frame} {meth : Method} {c : Code} {Q : State → Prop} {nL B : Nat} {D : va_G} {cT : Nat → ClassId} {n kc ks : Nat} {μ : Mem} {pc : Nat} {lv : List (Nat × Value)} {st : List Value} {cc : ByteArray} {own : String} {XS : State → Heap → Prop}
theorem tt_getI (E : EE p s m args c cc nL own B D cT XS) {idx cl k o : Nat} {fin : Bool} (hL : LF own idx cl k fin) (hf : (FTy cl k == 0 || FTy cl k == 3) = true) (ho : isK n o cl) (hdg : decode cc pc = .ok (.getfield idx, 3)) (kk : TT p l e R s m args below meth c Q nL B D cT n kc ks μ (pc + 3) lv (.int (ldI μ o k) :: st)) : TT p l e R s m args below meth c Q nL B D cT n kc ks μ pc lv (.ref (B + o) :: st) := by
  obtain ⟨C, T, N, ty, ⟨hc, h10, hN, hin, hty, hnm, hft⟩, hk, hlk, hfin⟩ := hL
  intro H locs ls hP hW hS hl
  have he := wl_ent (B := B) (cT := cT) (μ := μ) ho
  rw [ent_cls h10] at he
  refine va_get E.1.1 E.1.2.1 E.1.2.2.2.2 hin E.1.2.2.2.1 E.2.1 hP o he hc k hk (E.1.2.2.2.2 _ hlk) (fun _ h => h) (v := .int (ldI μ o k)) ?_ hdg (kk H locs ls hP hW hS hl)
  rw [fs_get (by omega), fv_int hf]
theorem tt_getJ (E : EE p s m args c cc nL own B D cT XS) {idx cl k o : Nat} {fin : Bool} (hL : LF own idx cl k fin) (hf : FTy cl k = 1) (ho : isK n o cl) (hdg : decode cc pc = .ok (.getfield idx, 3)) (kk : TT p l e R s m args below meth c Q nL B D cT n kc ks μ (pc + 3) lv (.long (ldJ μ o k) :: st)) : TT p l e R s m args below meth c Q nL B D cT n kc ks μ pc lv (.ref (B + o) :: st) := by
  obtain ⟨C, T, N, ty, ⟨hc, h10, hN, hin, hty, hnm, hft⟩, hk, hlk, hfin⟩ := hL
  intro H locs ls hP hW hS hl
  have he := wl_ent (B := B) (cT := cT) (μ := μ) ho
  rw [ent_cls h10] at he
  refine va_get E.1.1 E.1.2.1 E.1.2.2.2.2 hin E.1.2.2.2.1 E.2.1 hP o he hc k hk (E.1.2.2.2.2 _ hlk) (fun _ h => h) (v := .long (ldJ μ o k)) ?_ hdg (kk H locs ls hP hW hS hl)
  rw [fs_get (by omega), hf]; rfl
theorem tt_getP (E : EE p s m args c cc nL own B D cT XS) {idx cl k o t : Nat} {fin : Bool} (hL : LF own idx cl k fin) (hf : FTy cl k = 2) (ht : tg cl k = t) (ho : isK n o cl) (hdg : decode cc pc = .ok (.getfield idx, 3)) {q : Nat} (hq : ldP μ o k = some q) (kk : isK n q t → TT p l e R s m args below meth c Q nL B D cT n kc ks μ (pc + 3) lv (.ref (B + q) :: st)) : TT p l e R s m args below meth c Q nL B D cT n kc ks μ pc lv (.ref (B + o) :: st) := by
  obtain ⟨C, T, N, ty, ⟨hc, h10, hN, hin, hty, hnm, hft⟩, hk, hlk, hfin⟩ := hL
  intro H locs ls hP hW hS hl
  have he := wl_ent (B := B) (cT := cT) (μ := μ) ho
  rw [ent_cls h10] at he
  have hq2 := hW.1 o k q ho.1 hq
  rw [ho.2, ht] at hq2
  refine va_get E.1.1 E.1.2.1 E.1.2.2.2.2 hin E.1.2.2.2.1 E.2.1 hP o he hc k hk (E.1.2.2.2.2 _ hlk) (fun _ h => h) (v := .ref (B + q)) ?_ hdg (kk hq2 H locs ls hP hW hS hl)
  rw [fs_get (by omega), hf]
  show some (va_rf ((ldP μ o k).map _)) = _
  rw [hq]; rfl
theorem tt_putI (E : EE p s m args c cc nL own B D cT XS) {idx cl k o : Nat} {v : Int32} (hL : LF own idx cl k false) (hf : FTy cl k = 0) (ho : isK n o cl) (hdg : decode cc pc = .ok (.putfield idx, 3)) (kk : TT p l e R s m args below meth c Q nL B D cT n kc ks (stI μ o k v) (pc + 3) lv st) : TT p l e R s m args below meth c Q nL B D cT n kc ks μ pc lv (.int v :: .ref (B + o) :: st) := by
  obtain ⟨C, T, N, ty, ⟨hc, h10, hN, hin, hty, hnm, hft⟩, hk, hlk, hfin⟩ := hL
  intro H locs ls hP hW hS hl
  have he := wl_ent (B := B) (cT := cT) (μ := μ) ho
  rw [ent_cls h10] at he
  have h0 : ty k = .int := okTy0 (by have := hft k hk; rwa [hf] at this)
  refine va_put E.1.1 E.1.2.1 E.1.2.2.2.2 hin ty hty hnm E.1.2.2.2.1 E.2.1 hP wl_D hS o he hc k hk (E.1.2.2.2.2 _ hlk) (fun _ h => h) hfin (hty k hk) (by rw [h0]; rfl) (by rw [h0]; rfl) (by rw [fs_len]; omega) hdg (fun H1 locs1 hP1 hD1 hS1 => ?_)
  have hw : (wl B cT n μ).set o (B + o, .inr (cl, (fs B cl (ldI μ o) (ldJ μ o) (ldP μ o)).set k (.int v))) = wl B cT n (stI μ o k v) := by
    refine wl_set ho.1 ?_ (fun j hj => by rw [entM, entM, ldI_stI_ne hj]; rfl)
    rw [entM, ho.2, ent_cls h10, ldI_stI_self]
    exact congrArg (fun z => Sum.inr (cl, z)) (fs_set (by omega) (by rw [hf]; show _ = Value.int _; simp [upd]) (fun j hj => by unfold fv; split <;> first | rfl | simp [upd, hj]))
  rw [hw] at hP1
  exact kk H1 locs1 ls hP1 (WT_stI hW (fun _ h => by rw [ho.2, hf] at h; cases h)) hS1 hl
theorem tt_putZ (E : EE p s m args c cc nL own B D cT XS) {idx cl k o : Nat} {v : Int32} (hz : zb v) (hL : LF own idx cl k false) (hf : FTy cl k = 3) (ho : isK n o cl) (hdg : decode cc pc = .ok (.putfield idx, 3)) (kk : TT p l e R s m args below meth c Q nL B D cT n kc ks (stI μ o k v) (pc + 3) lv st) : TT p l e R s m args below meth c Q nL B D cT n kc ks μ pc lv (.int v :: .ref (B + o) :: st) := by
  obtain ⟨C, T, N, ty, ⟨hc, h10, hN, hin, hty, hnm, hft⟩, hk, hlk, hfin⟩ := hL
  intro H locs ls hP hW hS hl
  have he := wl_ent (B := B) (cT := cT) (μ := μ) ho
  rw [ent_cls h10] at he
  have h0 : ty k = .boolean := okTy3 (by have := hft k hk; rwa [hf] at this)
  refine va_put E.1.1 E.1.2.1 E.1.2.2.2.2 hin ty hty hnm E.1.2.2.2.1 E.2.1 hP wl_D hS o he hc k hk (E.1.2.2.2.2 _ hlk) (fun _ h => h) hfin (hty k hk) (by rw [h0]; exact zb_narrow hz) (by rw [h0]; exact zb_fits hz) (by rw [fs_len]; omega) hdg (fun H1 locs1 hP1 hD1 hS1 => ?_)
  have hw : (wl B cT n μ).set o (B + o, .inr (cl, (fs B cl (ldI μ o) (ldJ μ o) (ldP μ o)).set k (.int v))) = wl B cT n (stI μ o k v) := by
    refine wl_set ho.1 ?_ (fun j hj => by rw [entM, entM, ldI_stI_ne hj]; rfl)
    rw [entM, ho.2, ent_cls h10, ldI_stI_self]
    exact congrArg (fun z => Sum.inr (cl, z)) (fs_set (by omega) (by rw [hf]; show _ = Value.int _; simp [upd]) (fun j hj => by unfold fv; split <;> first | rfl | simp [upd, hj]))
  rw [hw] at hP1
  exact kk H1 locs1 ls hP1 (WT_stI hW (fun _ _ => hz)) hS1 hl
theorem tt_putJ (E : EE p s m args c cc nL own B D cT XS) {idx cl k o : Nat} {v : Int64} (hL : LF own idx cl k false) (hf : FTy cl k = 1) (ho : isK n o cl) (hdg : decode cc pc = .ok (.putfield idx, 3)) (kk : TT p l e R s m args below meth c Q nL B D cT n kc ks (stJ μ o k v) (pc + 3) lv st) : TT p l e R s m args below meth c Q nL B D cT n kc ks μ pc lv (.long v :: .ref (B + o) :: st) := by
  obtain ⟨C, T, N, ty, ⟨hc, h10, hN, hin, hty, hnm, hft⟩, hk, hlk, hfin⟩ := hL
  intro H locs ls hP hW hS hl
  have he := wl_ent (B := B) (cT := cT) (μ := μ) ho
  rw [ent_cls h10] at he
  have h0 : ty k = .long := okTy1 (by have := hft k hk; rwa [hf] at this)
  refine va_put E.1.1 E.1.2.1 E.1.2.2.2.2 hin ty hty hnm E.1.2.2.2.1 E.2.1 hP wl_D hS o he hc k hk (E.1.2.2.2.2 _ hlk) (fun _ h => h) hfin (hty k hk) (by rw [h0]; rfl) (by rw [h0]; rfl) (by rw [fs_len]; omega) hdg (fun H1 locs1 hP1 hD1 hS1 => ?_)
  have hw : (wl B cT n μ).set o (B + o, .inr (cl, (fs B cl (ldI μ o) (ldJ μ o) (ldP μ o)).set k (.long v))) = wl B cT n (stJ μ o k v) := by
    refine wl_set ho.1 ?_ (fun j hj => by rw [entM, entM, ldJ_stJ_ne hj]; rfl)
    rw [entM, ho.2, ent_cls h10, ldJ_stJ_self]
    exact congrArg (fun z => Sum.inr (cl, z)) (fs_set (by omega) (by rw [hf]; show _ = Value.long _; simp [vp_updL]) (fun j hj => by unfold fv; split <;> first | rfl | simp [vp_updL, hj]))
  rw [hw] at hP1
  exact kk H1 locs1 ls hP1 (WT_stJ hW) hS1 hl
end TLAYER
