/-! the texts -/
def RJ0 : String := "java/lang/String"
abbrev cJ0_length_8abf5 : ByteArray := prog_21_method_54_code
def yJ0_length_8abf5 : MethodName := ⟨RJ0, "length", "()I"⟩
abbrev cJ0_charAt_5068e : ByteArray := prog_21_method_56_code
def yJ0_charAt_5068e : MethodName := ⟨RJ0, "charAt", "(I)C"⟩
abbrev cJ0_coder_7d493 : ByteArray := prog_21_method_152_code
def yJ0_coder_7d493 : MethodName := ⟨RJ0, "coder", "()B"⟩
abbrev cJ0_isLatin1_aae02 : ByteArray := prog_21_method_154_code
def yJ0_isLatin1_aae02 : MethodName := ⟨RJ0, "isLatin1", "()Z"⟩
abbrev cJ0_checkIndex_df160 : ByteArray := prog_21_method_155_code
def yJ0_checkIndex_df160 : MethodName := ⟨RJ0, "checkIndex", "(II)V"⟩
def RJ1 : String := "java/lang/StringLatin1"
abbrev cJ1_charAt_3b067 : ByteArray := prog_22_method_2_code
def yJ1_charAt_3b067 : MethodName := ⟨RJ1, "charAt", "([BI)C"⟩
def RJ3 : String := "jdk/internal/util/Preconditions"
abbrev cJ3_checkIndex_8e157 : ByteArray := prog_25_method_11_code
def yJ3_checkIndex_8e157 : MethodName := ⟨RJ3, "checkIndex", "(IILjava/util/function/BiFunction;)I"⟩
theorem dJ0_length_8abf5_0 : decode cJ0_length_8abf5 0 = .ok (.aload_n 0, 1) := by decide +kernel
theorem dJ0_length_8abf5_1 : decode cJ0_length_8abf5 1 = .ok (.getfield 9, 3) := by decide +kernel
theorem dJ0_length_8abf5_4 : decode cJ0_length_8abf5 4 = .ok (.arraylength, 1) := by decide +kernel
theorem dJ0_length_8abf5_5 : decode cJ0_length_8abf5 5 = .ok (.aload_n 0, 1) := by decide +kernel
theorem dJ0_length_8abf5_6 : decode cJ0_length_8abf5 6 = .ok (.invokevirtual 335, 3) := by decide +kernel
theorem dJ0_length_8abf5_9 : decode cJ0_length_8abf5 9 = .ok (.ishr, 1) := by decide +kernel
theorem dJ0_length_8abf5_10 : decode cJ0_length_8abf5 10 = .ok (.ireturn, 1) := by decide +kernel
theorem dJ0_charAt_5068e_0 : decode cJ0_charAt_5068e 0 = .ok (.aload_n 0, 1) := by decide +kernel
theorem dJ0_charAt_5068e_1 : decode cJ0_charAt_5068e 1 = .ok (.invokevirtual 492, 3) := by decide +kernel
theorem dJ0_charAt_5068e_4 : decode cJ0_charAt_5068e 4 = .ok (.ifCond .eq 12, 3) := by decide +kernel
theorem dJ0_charAt_5068e_7 : decode cJ0_charAt_5068e 7 = .ok (.aload_n 0, 1) := by decide +kernel
theorem dJ0_charAt_5068e_8 : decode cJ0_charAt_5068e 8 = .ok (.getfield 9, 3) := by decide +kernel
theorem dJ0_charAt_5068e_11 : decode cJ0_charAt_5068e 11 = .ok (.iload_n 1, 1) := by decide +kernel
theorem dJ0_charAt_5068e_12 : decode cJ0_charAt_5068e 12 = .ok (.invokestatic 495, 3) := by decide +kernel
theorem dJ0_charAt_5068e_15 : decode cJ0_charAt_5068e 15 = .ok (.ireturn, 1) := by decide +kernel
theorem dJ0_charAt_5068e_16 : decode cJ0_charAt_5068e 16 = .ok (.aload_n 0, 1) := by decide +kernel
theorem dJ0_charAt_5068e_17 : decode cJ0_charAt_5068e 17 = .ok (.getfield 9, 3) := by decide +kernel
theorem dJ0_charAt_5068e_20 : decode cJ0_charAt_5068e 20 = .ok (.iload_n 1, 1) := by decide +kernel
theorem dJ0_charAt_5068e_21 : decode cJ0_charAt_5068e 21 = .ok (.invokestatic 498, 3) := by decide +kernel
theorem dJ0_charAt_5068e_24 : decode cJ0_charAt_5068e 24 = .ok (.ireturn, 1) := by decide +kernel
theorem dJ0_coder_7d493_0 : decode cJ0_coder_7d493 0 = .ok (.getstatic 38, 3) := by decide +kernel
theorem dJ0_coder_7d493_3 : decode cJ0_coder_7d493 3 = .ok (.ifCond .eq 10, 3) := by decide +kernel
theorem dJ0_coder_7d493_6 : decode cJ0_coder_7d493 6 = .ok (.aload_n 0, 1) := by decide +kernel
theorem dJ0_coder_7d493_7 : decode cJ0_coder_7d493 7 = .ok (.getfield 15, 3) := by decide +kernel
theorem dJ0_coder_7d493_10 : decode cJ0_coder_7d493 10 = .ok (.goto 4, 3) := by decide +kernel
theorem dJ0_coder_7d493_13 : decode cJ0_coder_7d493 13 = .ok (.iconst 1, 1) := by decide +kernel
theorem dJ0_coder_7d493_14 : decode cJ0_coder_7d493 14 = .ok (.ireturn, 1) := by decide +kernel
theorem dJ0_isLatin1_aae02_0 : decode cJ0_isLatin1_aae02 0 = .ok (.getstatic 38, 3) := by decide +kernel
theorem dJ0_isLatin1_aae02_3 : decode cJ0_isLatin1_aae02 3 = .ok (.ifCond .eq 14, 3) := by decide +kernel
theorem dJ0_isLatin1_aae02_6 : decode cJ0_isLatin1_aae02 6 = .ok (.aload_n 0, 1) := by decide +kernel
theorem dJ0_isLatin1_aae02_7 : decode cJ0_isLatin1_aae02 7 = .ok (.getfield 15, 3) := by decide +kernel
theorem dJ0_isLatin1_aae02_10 : decode cJ0_isLatin1_aae02 10 = .ok (.ifCond .ne 7, 3) := by decide +kernel
theorem dJ0_isLatin1_aae02_13 : decode cJ0_isLatin1_aae02 13 = .ok (.iconst 1, 1) := by decide +kernel
theorem dJ0_isLatin1_aae02_14 : decode cJ0_isLatin1_aae02 14 = .ok (.goto 4, 3) := by decide +kernel
theorem dJ0_isLatin1_aae02_17 : decode cJ0_isLatin1_aae02 17 = .ok (.iconst 0, 1) := by decide +kernel
theorem dJ0_isLatin1_aae02_18 : decode cJ0_isLatin1_aae02 18 = .ok (.ireturn, 1) := by decide +kernel
theorem dJ0_checkIndex_df160_0 : decode cJ0_checkIndex_df160 0 = .ok (.iload_n 0, 1) := by decide +kernel
theorem dJ0_checkIndex_df160_1 : decode cJ0_checkIndex_df160 1 = .ok (.iload_n 1, 1) := by decide +kernel
theorem dJ0_checkIndex_df160_2 : decode cJ0_checkIndex_df160 2 = .ok (.getstatic 1053, 3) := by decide +kernel
theorem dJ0_checkIndex_df160_5 : decode cJ0_checkIndex_df160 5 = .ok (.invokestatic 1059, 3) := by decide +kernel
theorem dJ0_checkIndex_df160_8 : decode cJ0_checkIndex_df160 8 = .ok (.pop, 1) := by decide +kernel
theorem dJ0_checkIndex_df160_9 : decode cJ0_checkIndex_df160 9 = .ok (.return_, 1) := by decide +kernel
theorem dJ1_charAt_3b067_0 : decode cJ1_charAt_3b067 0 = .ok (.iload_n 1, 1) := by decide +kernel
theorem dJ1_charAt_3b067_1 : decode cJ1_charAt_3b067 1 = .ok (.aload_n 0, 1) := by decide +kernel
theorem dJ1_charAt_3b067_2 : decode cJ1_charAt_3b067 2 = .ok (.arraylength, 1) := by decide +kernel
theorem dJ1_charAt_3b067_3 : decode cJ1_charAt_3b067 3 = .ok (.invokestatic 9, 3) := by decide +kernel
theorem dJ1_charAt_3b067_6 : decode cJ1_charAt_3b067 6 = .ok (.aload_n 0, 1) := by decide +kernel
theorem dJ1_charAt_3b067_7 : decode cJ1_charAt_3b067 7 = .ok (.iload_n 1, 1) := by decide +kernel
theorem dJ1_charAt_3b067_8 : decode cJ1_charAt_3b067 8 = .ok (.baload, 1) := by decide +kernel
theorem dJ1_charAt_3b067_9 : decode cJ1_charAt_3b067 9 = .ok (.sipush 255, 3) := by decide +kernel
theorem dJ1_charAt_3b067_12 : decode cJ1_charAt_3b067 12 = .ok (.iand, 1) := by decide +kernel
theorem dJ1_charAt_3b067_13 : decode cJ1_charAt_3b067 13 = .ok (.i2c, 1) := by decide +kernel
theorem dJ1_charAt_3b067_14 : decode cJ1_charAt_3b067 14 = .ok (.ireturn, 1) := by decide +kernel
theorem dJ3_checkIndex_8e157_0 : decode cJ3_checkIndex_8e157 0 = .ok (.iload_n 0, 1) := by decide +kernel
theorem dJ3_checkIndex_8e157_1 : decode cJ3_checkIndex_8e157 1 = .ok (.ifCond .lt 8, 3) := by decide +kernel
theorem dJ3_checkIndex_8e157_4 : decode cJ3_checkIndex_8e157 4 = .ok (.iload_n 0, 1) := by decide +kernel
theorem dJ3_checkIndex_8e157_5 : decode cJ3_checkIndex_8e157 5 = .ok (.iload_n 1, 1) := by decide +kernel
theorem dJ3_checkIndex_8e157_6 : decode cJ3_checkIndex_8e157 6 = .ok (.if_icmp .lt 10, 3) := by decide +kernel
theorem dJ3_checkIndex_8e157_9 : decode cJ3_checkIndex_8e157 9 = .ok (.aload_n 2, 1) := by decide +kernel
theorem dJ3_checkIndex_8e157_10 : decode cJ3_checkIndex_8e157 10 = .ok (.iload_n 0, 1) := by decide +kernel
theorem dJ3_checkIndex_8e157_11 : decode cJ3_checkIndex_8e157 11 = .ok (.iload_n 1, 1) := by decide +kernel
theorem dJ3_checkIndex_8e157_12 : decode cJ3_checkIndex_8e157 12 = .ok (.invokestatic 95, 3) := by decide +kernel
theorem dJ3_checkIndex_8e157_15 : decode cJ3_checkIndex_8e157 15 = .ok (.athrow, 1) := by decide +kernel
theorem dJ3_checkIndex_8e157_16 : decode cJ3_checkIndex_8e157 16 = .ok (.iload_n 0, 1) := by decide +kernel
theorem dJ3_checkIndex_8e157_17 : decode cJ3_checkIndex_8e157 17 = .ok (.ireturn, 1) := by decide +kernel
def sTx (k : Nat) : List Int32 := (strT.getD k ("", 0, "", [])).2.2.2
def sLn (k : Nat) : Nat := (sTx k).length
def sBy (k j : Nat) : Int32 := (sTx k).getD j 0
def sLen (k : Nat) : Int32 := Int32.ofNat (sLn k)
def sCh (k : Nat) (i : Int32) : Int32 := sBy k i.toNatClampNeg
theorem sby_ok : ∀ k, k < 35 → ∀ j, j < sLn k → ((sBy k j &&& 255).toUInt32 % 65536).toInt32 = sBy k j ∧ (sBy k j).toUInt32.toUInt16.toUInt32.toInt32 = sBy k j := by decide +kernel
theorem strT_at {k : Nat} (hk : k < 35) : strT[k]? = some (strT.getD k ("", 0, "", [])) := by
  rw [List.getD_eq_getElem?_getD, List.getElem?_eq_getElem (show k < strT.length from hk)]; rfl
theorem xs_of {B k : Nat} {adK adV : Nat → Nat} {U : State} {H : Heap} (hk : decide (k < 35) = true) (h : XW B adK adV U H) : vk_S 1 [sLn k] [sTx k] (fun _ => adK k) (fun _ => adV k) (fr B) U H :=
  (h.2.2.2.2.1 k _ (strT_at (of_decide_eq_true hk))).2
section TSTR
variable {p : Program} {l : Launch} {e : Env} {R : Room} {s : State} {m : MethodId} {args : Array Value} {below : List Frame} {meth : Method} {c : Code} {Q : State → Prop} {nL B : Nat} {D : va_G} {cT : Nat → ClassId} {n kc ks : Nat} {μ : Mem} {pc : Nat} {lv : List (Nat × Value)} {st rest : List Value} {cc : ByteArray} {own : String} {XS : State → Heap → Prop} {adK adV : Nat → Nat}
theorem tt_nret (E : EE p s m args c cc nL own B D cT XS) {mc ms : Nat} {res : Int32 × Mem} {v : Int32} {ty : FieldType} (hn : narrow ty (.int v) = .int v) (hr : meth.sig.returnType = some ty) (hlk : meth.locks = false) (hdg : decode cc pc = .ok (.ireturn, 1)) (h1 : kc ≤ mc) (h2 : ks ≤ ms) (hf : some (v, μ) = some res) : TT p l e R s m args below meth c (MQ below (va_Qi (fun r μ' => r = res.1 ∧ μ' = res.2) (Wq B D cT n) (fr B)) args s mc ms (fr B)) nL B D cT n kc ks μ pc lv [.int v] := by
  intro H locs ls hP hW hS hl
  cases hf
  refine W.widen (k := mc) (n := ms) h1 h2 ?_
  exact W.zret E.1.1 E.1.2.1 hr hn (fun t ht hv => ⟨⟨v, μ, rfl, ⟨rfl, rfl⟩, E_Wq hP hW ht⟩, hS.F ht⟩) hS.2.2 hdg hlk
theorem tt_strV (E : EE p s m args c cc nL own B D cT (XW B adK adV)) {k idx : Nat} (hk : decide (k < 35) = true) (hL : Cond.fieldLink own idx "java/lang/String" "value" "[B" ∈ gw) (hdg : decode cc pc = .ok (.getfield idx, 3)) (kk : TT p l e R s m args below meth c Q nL B D cT n kc ks μ (pc + 3) lv (.ref (adV k) :: st)) : TT p l e R s m args below meth c Q nL B D cT n kc ks μ pc lv (.ref (adK k) :: st) :=
  fun H locs ls hP hW hS hl => vk_getf E.1.1 E.1.2.1 (((xs_of hk E.2.2.1).1 0 (by decide)).2.2.1) hS E.1.2.2.2.1 (E.1.2.2.2.2 _ hL) (fun _ h => h) hdg (kk H locs ls hP hW hS hl)
theorem tt_strC (E : EE p s m args c cc nL own B D cT (XW B adK adV)) {k idx : Nat} (hk : decide (k < 35) = true) (hL : Cond.fieldLink own idx "java/lang/String" "coder" "B" ∈ gw) (hdg : decode cc pc = .ok (.getfield idx, 3)) (kk : TT p l e R s m args below meth c Q nL B D cT n kc ks μ (pc + 3) lv (.int 0 :: st)) : TT p l e R s m args below meth c Q nL B D cT n kc ks μ pc lv (.ref (adK k) :: st) :=
  fun H locs ls hP hW hS hl => vk_getf E.1.1 E.1.2.1 (((xs_of hk E.2.2.1).1 0 (by decide)).2.1) hS E.1.2.2.2.1 (E.1.2.2.2.2 _ hL) (fun _ h => h) hdg (kk H locs ls hP hW hS hl)
theorem tt_getCS (E : EE p s m args c cc nL own B D cT (XW B adK adV)) {idx : Nat} (hL : Cond.fieldLink own idx "java/lang/String" "COMPACT_STRINGS" "Z" ∈ gw) (hdg : decode cc pc = .ok (.getstatic idx, 3)) (kk : TT p l e R s m args below meth c Q nL B D cT n kc ks μ (pc + 3) lv (.int 1 :: st)) : TT p l e R s m args below meth c Q nL B D cT n kc ks μ pc lv st :=
  fun H locs ls hP hW hS hl => va_gets E.1.1 E.1.2.1 E.2.2.1.2.2.1 hS E.1.2.2.2.1 (E.1.2.2.2.2 _ hL) (fun _ h => h) hdg (kk H locs ls hP hW hS hl)
theorem tt_getFM (E : EE p s m args c cc nL own B D cT (XW B adK adV)) {idx : Nat} (hL : Cond.fieldLink own idx "jdk/internal/util/Preconditions" "SIOOBE_FORMATTER" "Ljava/util/function/BiFunction;" ∈ gw) (hdg : decode cc pc = .ok (.getstatic idx, 3)) (kk : ∀ r : Value, (r = .null ∨ ∃ a, r = .ref a) → TT p l e R s m args below meth c Q nL B D cT n kc ks μ (pc + 3) lv (r :: st)) : TT p l e R s m args below meth c Q nL B D cT n kc ks μ pc lv st := by
  intro H locs ls hP hW hS hl
  rcases E.2.2.1.2.2.2.1 with h | ⟨t, h⟩
  · exact va_gets E.1.1 E.1.2.1 h hS E.1.2.2.2.1 (E.1.2.2.2.2 _ hL) (fun _ h => h) hdg (kk _ (Or.inl rfl) H locs ls hP hW hS hl)
  · exact va_gets E.1.1 E.1.2.1 h hS E.1.2.2.2.1 (E.1.2.2.2.2 _ hL) (fun _ h => h) hdg (kk _ (Or.inr ⟨_, rfl⟩) H locs ls hP hW hS hl)
theorem tt_strL (E : EE p s m args c cc nL own B D cT (XW B adK adV)) {k : Nat} (hk : decide (k < 35) = true) (hdg : decode cc pc = .ok (.arraylength, 1)) (kk : TT p l e R s m args below meth c Q nL B D cT n kc ks μ (pc + 1) lv (.int (sLen k) :: st)) : TT p l e R s m args below meth c Q nL B D cT n kc ks μ pc lv (.ref (adV k) :: st) :=
  fun H locs ls hP hW hS hl => va_tlen E.1.1 E.1.2.1 (((xs_of hk E.2.2.1).1 0 (by decide)).2.2.2) hS rfl hdg (kk H locs ls hP hW hS hl)
theorem tt_strB (E : EE p s m args c cc nL own B D cT (XW B adK adV)) {k : Nat} {i : Int32} (hk : decide (k < 35) = true) (hin : inB i (sLn k) = true) (hdg : decode cc pc = .ok (.baload, 1)) (kk : TT p l e R s m args below meth c Q nL B D cT n kc ks μ (pc + 1) lv (.int (sCh k i) :: st)) : TT p l e R s m args below meth c Q nL B D cT n kc ks μ pc lv (.int i :: .ref (adV k) :: st) :=
  fun H locs ls hP hW hS hl => va_tb E.1.1 E.1.2.1 (((xs_of hk E.2.2.1).1 0 (by decide)).2.2.2) hS (inB_in hin) rfl hdg (kk H locs ls hP hW hS hl)
theorem tt_i2c (E : EE p s m args c cc nL own B D cT XS) {x v : Int32} (hdg : decode cc pc = .ok (.i2c, 1)) (hv : (x.toUInt32 % 65536).toInt32 = v) (kk : TT p l e R s m args below meth c Q nL B D cT n kc ks μ (pc + 1) lv (.int v :: st)) : TT p l e R s m args below meth c Q nL B D cT n kc ks μ pc lv (.int x :: st) :=
  fun H locs ls hP hW hS hl => lv_i2c E.1.1 E.1.2.1 hdg hv (kk H locs ls hP hW hS hl)
theorem tt_viS (E : EE p s m args c cc nL own B D cT (XW B adK adV)) {idx mL k i : Nat} {y : MethodName} {b : ByteArray} {ret : Option FieldType} {rm : Room} {As : List Value} {Qc : Array Value → State → Outcome → State → Prop} (hi : decide (i < 35) = true) (hL : LM own idx y) (hV : MTx y b mL ret k ∧ Cond.instanceMethod y ∈ gw ∧ Cond.selects "java/lang/String" y y ∈ gw) (hM : Met l y (Cond.code y b mL ret :: gw) rm (va_Pc (.ref (adK i) :: As) (Wd B D cT (XW B adK adV) n μ)) Qc rm.cells rm.slots (fr B)) (hn : As.length = k) (hst : As.reverse ++ .ref (adK i) :: rest = st) (hW8 : (rest.map fun v => v.category).sum ≤ 8) (hR : rm.frames + 1 ≤ R.frames ∧ 8 + (mL + 11) + rm.locals ≤ R.locals) (hcs : kc + rm.cells ≤ R.cells ∧ ks + rm.slots ≤ R.slots) (hdg : decode cc pc = .ok (.invokevirtual idx, 3)) (hy : y.cls = "java/lang/String" := by rfl) :
    RN p l e R s m args below meth c nL B D cT n kc ks rm.cells rm.slots μ pc lv st rest (Qc (Value.ref (adK i) :: As).toArray) := by
  intro H locs ls hP hW hS hl
  obtain ⟨⟨h1, h2, h3, h4⟩, h5, h6⟩ := hV
  refine va_runV (C := "java/lang/String") E.1 hM (cwV k E.1.2.2.2.2 (gw_in fun w hw => ?_) rfl rfl rfl ⟨hy, h3⟩ hR) ⟨Wd_blind, vk_recv (i := 0) (xs_of hi E.2.2.1) (by decide) hS, fun U hU hv => ⟨rfl, E_Wd E hP hW hS hU hv⟩⟩ rfl hn hl.1 hst.symm (lv_room hW8) hdg hcs
  rcases List.mem_append.mp hw with hw | hw
  · simp only [List.mem_cons, List.not_mem_nil, or_false] at hw
    rcases hw with rfl | rfl | rfl | rfl
    · exact hL
    · exact h5
    · exact h6
    · exact hy ▸ h1
  · rcases List.mem_cons.mp hw with rfl | hw
    · exact h2
    · exact hw
end TSTR
theorem mxJ0_length_8abf5 : MTx yJ0_length_8abf5 cJ0_length_8abf5 1 (some .int) 0 := ⟨(gw_mem (mt1 (at_l 18 rfl)) rfl), (gw_mem (mt4 (at_l 46 rfl)) rfl), (by decide +kernel), (by decide +kernel)⟩
theorem mtJ0_length_8abf5 : MTx yJ0_length_8abf5 cJ0_length_8abf5 1 (some .int) 0 ∧ Cond.instanceMethod yJ0_length_8abf5 ∈ gw ∧ Cond.selects "java/lang/String" yJ0_length_8abf5 yJ0_length_8abf5 ∈ gw := ⟨mxJ0_length_8abf5, (gw_mem (mt4 (at_l 44 rfl)) rfl), (gw_mem (mt4 (at_l 45 rfl)) rfl)⟩
theorem mxJ0_charAt_5068e : MTx yJ0_charAt_5068e cJ0_charAt_5068e 2 (some .char) 1 := ⟨(gw_mem (mt1 (at_l 18 rfl)) rfl), (gw_mem (mt4 (at_l 56 rfl)) rfl), (by decide +kernel), (by decide +kernel)⟩
theorem mtJ0_charAt_5068e : MTx yJ0_charAt_5068e cJ0_charAt_5068e 2 (some .char) 1 ∧ Cond.instanceMethod yJ0_charAt_5068e ∈ gw ∧ Cond.selects "java/lang/String" yJ0_charAt_5068e yJ0_charAt_5068e ∈ gw := ⟨mxJ0_charAt_5068e, (gw_mem (mt4 (at_l 54 rfl)) rfl), (gw_mem (mt4 (at_l 55 rfl)) rfl)⟩
theorem mxJ0_coder_7d493 : MTx yJ0_coder_7d493 cJ0_coder_7d493 1 (some .byte) 0 := ⟨(gw_mem (mt1 (at_l 18 rfl)) rfl), (gw_mem (mt4 (at_l 50 rfl)) rfl), (by decide +kernel), (by decide +kernel)⟩
theorem mtJ0_coder_7d493 : MTx yJ0_coder_7d493 cJ0_coder_7d493 1 (some .byte) 0 ∧ Cond.instanceMethod yJ0_coder_7d493 ∈ gw ∧ Cond.selects "java/lang/String" yJ0_coder_7d493 yJ0_coder_7d493 ∈ gw := ⟨mxJ0_coder_7d493, (gw_mem (mt4 (at_l 48 rfl)) rfl), (gw_mem (mt4 (at_l 49 rfl)) rfl)⟩
theorem mxJ0_isLatin1_aae02 : MTx yJ0_isLatin1_aae02 cJ0_isLatin1_aae02 1 (some .boolean) 0 := ⟨(gw_mem (mt1 (at_l 18 rfl)) rfl), (gw_mem (mt4 (at_l 60 rfl)) rfl), (by decide +kernel), (by decide +kernel)⟩
theorem mtJ0_isLatin1_aae02 : MTx yJ0_isLatin1_aae02 cJ0_isLatin1_aae02 1 (some .boolean) 0 ∧ Cond.instanceMethod yJ0_isLatin1_aae02 ∈ gw ∧ Cond.selects "java/lang/String" yJ0_isLatin1_aae02 yJ0_isLatin1_aae02 ∈ gw := ⟨mxJ0_isLatin1_aae02, (gw_mem (mt4 (at_l 58 rfl)) rfl), (gw_mem (mt4 (at_l 59 rfl)) rfl)⟩
theorem mxJ0_checkIndex_df160 : MTx yJ0_checkIndex_df160 cJ0_checkIndex_df160 2 (none) 2 := ⟨(gw_mem (mt1 (at_l 18 rfl)) rfl), (gw_mem (mt4 (at_l 66 rfl)) rfl), (by decide +kernel), (by decide +kernel)⟩
theorem mtJ0_checkIndex_df160 : MTs yJ0_checkIndex_df160 cJ0_checkIndex_df160 2 (none) 2 := ⟨mxJ0_checkIndex_df160, (gw_mem (mt4 (at_l 65 rfl)) rfl)⟩
theorem mxJ1_charAt_3b067 : MTx yJ1_charAt_3b067 cJ1_charAt_3b067 2 (some .char) 2 := ⟨(gw_mem (mt1 (at_l 19 rfl)) rfl), (gw_mem (mt4 (at_l 63 rfl)) rfl), (by decide +kernel), (by decide +kernel)⟩
theorem mtJ1_charAt_3b067 : MTs yJ1_charAt_3b067 cJ1_charAt_3b067 2 (some .char) 2 := ⟨mxJ1_charAt_3b067, (gw_mem (mt4 (at_l 62 rfl)) rfl)⟩
theorem mxJ3_checkIndex_8e157 : MTx yJ3_checkIndex_8e157 cJ3_checkIndex_8e157 3 (some .int) 3 := ⟨(gw_mem (mt1 (at_l 20 rfl)) rfl), (gw_mem (mt4 (at_l 71 rfl)) rfl), (by decide +kernel), (by decide +kernel)⟩
theorem mtJ3_checkIndex_8e157 : MTs yJ3_checkIndex_8e157 cJ3_checkIndex_8e157 3 (some .int) 3 := ⟨mxJ3_checkIndex_8e157, (gw_mem (mt4 (at_l 70 rfl)) rfl)⟩
def rmJ0_coder_7d493 : Room := { frames := 0, cells := 0, slots := 0, locals := 0 }
set_option maxHeartbeats 4000000 in
theorem cJ0_coder_7d493_ok {l : Launch} {B : Nat} {D : va_G} {cT : Nat → ClassId} {n : Nat} {adK adV : Nat → Nat} {μ : Mem} {k : Nat} (hk : decide (k < 35) = true) : MI l yJ0_coder_7d493 cJ0_coder_7d493 1 (some .byte) rmJ0_coder_7d493 B D cT (XW B adK adV) n [.ref (adK k)] μ ((0 : Int32), μ) := by
  refine tt_ofW mxJ0_coder_7d493 (Nat.le_of_ble_eq_true rfl) rfl ?_
  intro p e s m below meth c E0 hr hlk
  have E : EE p s m _ c cJ0_coder_7d493 1 RJ0 B D cT (XW B adK adV) := E0
  refine tt_getCS (pc := 0) E (gw_mem (mt4 (at_l 51 rfl)) rfl) dJ0_coder_7d493_0 ?_
  refine tt_if_eq (pc := 3) (tgt := 13) E dJ0_coder_7d493_3 rfl (fun h => absurd h (by decide)) (fun _ => ?_)
  refine tt_aload_n (pc := 6) (i := 0) (j := 0) (x := adK k) E dJ0_coder_7d493_6 rfl rfl ?_
  refine tt_strC (pc := 7) E hk (gw_mem (mt9 (at_l 141 rfl)) rfl) dJ0_coder_7d493_7 ?_
  refine tt_goto (pc := 10) (tgt := 14) E dJ0_coder_7d493_10 rfl ?_
  exact tt_nret (pc := 14) E rfl hr hlk dJ0_coder_7d493_14 (Nat.le_of_ble_eq_true rfl) (Nat.le_of_ble_eq_true rfl) rfl
def rmJ0_isLatin1_aae02 : Room := { frames := 0, cells := 0, slots := 0, locals := 0 }
set_option maxHeartbeats 4000000 in
theorem cJ0_isLatin1_aae02_ok {l : Launch} {B : Nat} {D : va_G} {cT : Nat → ClassId} {n : Nat} {adK adV : Nat → Nat} {μ : Mem} {k : Nat} (hk : decide (k < 35) = true) : MI l yJ0_isLatin1_aae02 cJ0_isLatin1_aae02 1 (some .boolean) rmJ0_isLatin1_aae02 B D cT (XW B adK adV) n [.ref (adK k)] μ ((1 : Int32), μ) := by
  refine tt_ofW mxJ0_isLatin1_aae02 (Nat.le_of_ble_eq_true rfl) rfl ?_
  intro p e s m below meth c E0 hr hlk
  have E : EE p s m _ c cJ0_isLatin1_aae02 1 RJ0 B D cT (XW B adK adV) := E0
  refine tt_getCS (pc := 0) E (gw_mem (mt4 (at_l 51 rfl)) rfl) dJ0_isLatin1_aae02_0 ?_
  refine tt_if_eq (pc := 3) (tgt := 17) E dJ0_isLatin1_aae02_3 rfl (fun h => absurd h (by decide)) (fun _ => ?_)
  refine tt_aload_n (pc := 6) (i := 0) (j := 0) (x := adK k) E dJ0_isLatin1_aae02_6 rfl rfl ?_
  refine tt_strC (pc := 7) E hk (gw_mem (mt9 (at_l 141 rfl)) rfl) dJ0_isLatin1_aae02_7 ?_
  refine tt_if_ne (pc := 10) (tgt := 17) E dJ0_isLatin1_aae02_10 rfl (fun h => absurd rfl h) (fun _ => ?_)
  refine tt_iconst (pc := 13) (v := 1) E dJ0_isLatin1_aae02_13 ic_1 ?_
  refine tt_goto (pc := 14) (tgt := 18) E dJ0_isLatin1_aae02_14 rfl ?_
  exact tt_nret (pc := 18) E rfl hr hlk dJ0_isLatin1_aae02_18 (Nat.le_of_ble_eq_true rfl) (Nat.le_of_ble_eq_true rfl) rfl
def rmJ0_length_8abf5 : Room := { frames := 1, cells := 0, slots := 0, locals := 20 }
set_option maxHeartbeats 4000000 in
theorem cJ0_length_8abf5_ok {l : Launch} {B : Nat} {D : va_G} {cT : Nat → ClassId} {n : Nat} {adK adV : Nat → Nat} {μ : Mem} {k : Nat} (hk : decide (k < 35) = true) : MI l yJ0_length_8abf5 cJ0_length_8abf5 1 (some .int) rmJ0_length_8abf5 B D cT (XW B adK adV) n [.ref (adK k)] μ (sLen k, μ) := by
  refine tt_ofW mxJ0_length_8abf5 (Nat.le_of_ble_eq_true rfl) rfl ?_
  intro p e s m below meth c E0 hr hlk
  have E : EE p s m _ c cJ0_length_8abf5 1 RJ0 B D cT (XW B adK adV) := E0
  refine tt_aload_n (pc := 0) (i := 0) (j := 0) (x := adK k) E dJ0_length_8abf5_0 rfl rfl ?_
  refine tt_strV (pc := 1) E hk (gw_mem (mt9 (at_l 140 rfl)) rfl) dJ0_length_8abf5_1 ?_
  refine tt_strL (pc := 4) E hk dJ0_length_8abf5_4 ?_
  refine tt_aload_n (pc := 5) (i := 0) (j := 0) (x := adK k) E dJ0_length_8abf5_5 rfl rfl ?_
  refine tt_cI (pc := 6) (tt_viS E hk (gw_mem (mt4 (at_l 47 rfl)) rfl) mtJ0_coder_7d493 (cJ0_coder_7d493_ok hk) rfl rfl (Nat.le_of_ble_eq_true rfl) ⟨(Nat.le_of_ble_eq_true rfl), (Nat.le_of_ble_eq_true rfl)⟩ ⟨(Nat.le_of_ble_eq_true rfl), (Nat.le_of_ble_eq_true rfl)⟩ dJ0_length_8abf5_6) ?_
  refine tt_ishr (pc := 9) E dJ0_length_8abf5_9 ?_
  exact tt_iret (pc := 10) E hr hlk dJ0_length_8abf5_10 (Nat.le_of_ble_eq_true rfl) (Nat.le_of_ble_eq_true rfl) (by rw [show (((0 : Int32), μ) : Int32 × Mem).1 = 0 from rfl, show sLen k >>> ((0 : Int32) &&& 31) = sLen k by rw [show ((0 : Int32) &&& 31) = 0 from by decide]; exact Int32.shiftRight_zero])
def rmJ3_checkIndex_8e157 : Room := { frames := 0, cells := 0, slots := 0, locals := 0 }
set_option maxHeartbeats 4000000 in
theorem cJ3_checkIndex_8e157_ok {l : Launch} {B : Nat} {D : va_G} {cT : Nat → ClassId} {n : Nat} {adK adV : Nat → Nat} {μ : Mem} {i N : Int32} {r : Value} (hrc : r = .null ∨ ∃ a, r = .ref a) (h1 : ¬ i < 0) (h2 : i < N) : MI l yJ3_checkIndex_8e157 cJ3_checkIndex_8e157 3 (some .int) rmJ3_checkIndex_8e157 B D cT (XW B adK adV) n [.int i, .int N, r] μ (i, μ) := by
  rcases hrc with rfl | ⟨ra, rfl⟩
  all_goals refine tt_ofW mxJ3_checkIndex_8e157 (Nat.le_of_ble_eq_true rfl) rfl ?_
  all_goals (
    intro p e s m below meth c E0 hr hlk
    have E : EE p s m _ c cJ3_checkIndex_8e157 3 RJ3 B D cT (XW B adK adV) := E0
    refine tt_sub [0, 1] (lv' := [(0, .int i), (1, .int N)]) rfl ?_
    refine tt_iload_n (pc := 0) (i := 0) (j := 0) E dJ3_checkIndex_8e157_0 rfl rfl ?_
    refine tt_if_lt (pc := 1) (tgt := 9) E dJ3_checkIndex_8e157_1 rfl (fun h => absurd h h1) (fun _ => ?_)
    refine tt_iload_n (pc := 4) (i := 0) (j := 0) E dJ3_checkIndex_8e157_4 rfl rfl ?_
    refine tt_iload_n (pc := 5) (i := 1) (j := 1) E dJ3_checkIndex_8e157_5 rfl rfl ?_
    refine tt_icmp_lt (pc := 6) (tgt := 16) E dJ3_checkIndex_8e157_6 rfl (fun _ => ?_) (fun h => absurd h2 h)
    refine tt_iload_n (pc := 16) (i := 0) (j := 0) E dJ3_checkIndex_8e157_16 rfl rfl ?_
    exact tt_iret (pc := 17) E hr hlk dJ3_checkIndex_8e157_17 (Nat.le_of_ble_eq_true rfl) (Nat.le_of_ble_eq_true rfl) rfl)
def rmJ0_checkIndex_df160 : Room := { frames := 1, cells := 0, slots := 0, locals := 22 }
set_option maxHeartbeats 4000000 in
theorem cJ0_checkIndex_df160_ok {l : Launch} {B : Nat} {D : va_G} {cT : Nat → ClassId} {n : Nat} {adK adV : Nat → Nat} {μ : Mem} {i N : Int32} (h1 : ¬ i < 0) (h2 : i < N) : MV l yJ0_checkIndex_df160 cJ0_checkIndex_df160 2 (none) rmJ0_checkIndex_df160 B D cT (XW B adK adV) n [.int i, .int N] μ μ := by
  refine tt_ofW mxJ0_checkIndex_df160 (Nat.le_of_ble_eq_true rfl) rfl ?_
  intro p e s m below meth c E0 hr hlk
  have E : EE p s m _ c cJ0_checkIndex_df160 2 RJ0 B D cT (XW B adK adV) := E0
  refine tt_iload_n (pc := 0) (i := 0) (j := 0) E dJ0_checkIndex_df160_0 rfl rfl ?_
  refine tt_iload_n (pc := 1) (i := 1) (j := 1) E dJ0_checkIndex_df160_1 rfl rfl ?_
  refine tt_getFM (pc := 2) E (gw_mem (mt4 (at_l 67 rfl)) rfl) dJ0_checkIndex_df160_2 (fun r hr9 => ?_)
  refine tt_cI (pc := 5) (tt_si E (gw_mem (mt4 (at_l 69 rfl)) rfl) mtJ3_checkIndex_8e157 (cJ3_checkIndex_8e157_ok (l := l) (B := B) (D := D) (cT := cT) (n := n) (adK := adK) (adV := adV) (μ := μ) hr9 h1 h2) rfl rfl (Nat.le_of_ble_eq_true rfl) ⟨(Nat.le_of_ble_eq_true rfl), (Nat.le_of_ble_eq_true rfl)⟩ ⟨(Nat.le_of_ble_eq_true rfl), (Nat.le_of_ble_eq_true rfl)⟩ dJ0_checkIndex_df160_5) ?_
  refine tt_pop (pc := 8) E dJ0_checkIndex_df160_8 rfl ?_
  exact tt_vret (pc := 9) E hr hlk dJ0_checkIndex_df160_9 (Nat.le_of_ble_eq_true rfl) (Nat.le_of_ble_eq_true rfl) rfl
theorem sln_lt : ∀ k, k < 35 → sLn k < 2 ^ 31 := by decide +kernel
theorem sc255s : (Int16.ofInt 255).toInt32 = (255 : Int32) := by decide +kernel
theorem inB_p {i : Int32} {n : Nat} (h : inB i n = true) : ¬ i < 0 ∧ (n < 2 ^ 31 → i < Int32.ofNat n) ∧ i.toNatClampNeg < n := by
  simp only [inB, Bool.and_eq_true, Bool.not_eq_true', decide_eq_false_iff_not, decide_eq_true_eq] at h
  refine ⟨h.1, fun hn => ?_, h.2⟩
  have h1 : ¬ i < 0 := h.1
  rw [Int32.lt_iff_toInt_lt] at h1 ⊢
  have h2 : (Int32.ofNat n).toInt = (n : Int) := Int32.toInt_ofNat_of_lt hn
  have h3 : i.toNatClampNeg = i.toInt.toNat := rfl
  rw [h2]
  have h4 : (0 : Int32).toInt = 0 := rfl
  omega
def rmJ1_charAt_3b067 : Room := { frames := 2, cells := 0, slots := 0, locals := 43 }
set_option maxHeartbeats 4000000 in
theorem cJ1_charAt_3b067_ok {l : Launch} {B : Nat} {D : va_G} {cT : Nat → ClassId} {n : Nat} {adK adV : Nat → Nat} {μ : Mem} {k : Nat} {i : Int32} (hk : decide (k < 35) = true) (hi : inB i (sLn k) = true) : MI l yJ1_charAt_3b067 cJ1_charAt_3b067 2 (some .char) rmJ1_charAt_3b067 B D cT (XW B adK adV) n [.ref (adV k), .int i] μ (sCh k i, μ) := by
  refine tt_ofW mxJ1_charAt_3b067 (Nat.le_of_ble_eq_true rfl) rfl ?_
  intro p e s m below meth c E0 hr hlk
  have E : EE p s m _ c cJ1_charAt_3b067 2 RJ1 B D cT (XW B adK adV) := E0
  have hp := inB_p hi
  have hb := sby_ok k (of_decide_eq_true hk) _ hp.2.2
  refine tt_iload_n (pc := 0) (i := 1) (j := 1) E dJ1_charAt_3b067_0 rfl rfl ?_
  refine tt_aload_n (pc := 1) (i := 0) (j := 0) (x := adV k) E dJ1_charAt_3b067_1 rfl rfl ?_
  refine tt_strL (pc := 2) E hk dJ1_charAt_3b067_2 ?_
  refine tt_cV (pc := 3) (tt_si E (gw_mem (mt4 (at_l 64 rfl)) rfl) mtJ0_checkIndex_df160 (cJ0_checkIndex_df160_ok (l := l) (B := B) (D := D) (cT := cT) (n := n) (adK := adK) (adV := adV) (μ := μ) hp.1 (hp.2.1 (by exact sln_lt k (of_decide_eq_true hk)))) rfl rfl (Nat.le_of_ble_eq_true rfl) ⟨(Nat.le_of_ble_eq_true rfl), (Nat.le_of_ble_eq_true rfl)⟩ ⟨(Nat.le_of_ble_eq_true rfl), (Nat.le_of_ble_eq_true rfl)⟩ dJ1_charAt_3b067_3) ?_
  refine tt_aload_n (pc := 6) (i := 0) (j := 0) (x := adV k) E dJ1_charAt_3b067_6 rfl rfl ?_
  refine tt_iload_n (pc := 7) (i := 1) (j := 1) E dJ1_charAt_3b067_7 rfl rfl ?_
  refine tt_strB (pc := 8) E hk hi dJ1_charAt_3b067_8 ?_
  refine tt_sipush (pc := 9) (v := 255) E dJ1_charAt_3b067_9 sc255s ?_
  refine tt_iand (pc := 12) E dJ1_charAt_3b067_12 ?_
  refine tt_i2c (pc := 13) (v := sCh k i) E dJ1_charAt_3b067_13 hb.1 ?_
  exact tt_nret (pc := 14) E (by show Value.int _ = _; exact congrArg Value.int hb.2) hr hlk dJ1_charAt_3b067_14 (Nat.le_of_ble_eq_true rfl) (Nat.le_of_ble_eq_true rfl) rfl
def rmJ0_charAt_5068e : Room := { frames := 3, cells := 0, slots := 0, locals := 64 }
set_option maxHeartbeats 4000000 in
theorem cJ0_charAt_5068e_ok {l : Launch} {B : Nat} {D : va_G} {cT : Nat → ClassId} {n : Nat} {adK adV : Nat → Nat} {μ : Mem} {k : Nat} {i : Int32} (hk : decide (k < 35) = true) (hi : inB i (sLn k) = true) : MI l yJ0_charAt_5068e cJ0_charAt_5068e 2 (some .char) rmJ0_charAt_5068e B D cT (XW B adK adV) n [.ref (adK k), .int i] μ (sCh k i, μ) := by
  refine tt_ofW mxJ0_charAt_5068e (Nat.le_of_ble_eq_true rfl) rfl ?_
  intro p e s m below meth c E0 hr hlk
  have E : EE p s m _ c cJ0_charAt_5068e 2 RJ0 B D cT (XW B adK adV) := E0
  have hp := inB_p hi
  have hb := sby_ok k (of_decide_eq_true hk) _ hp.2.2
  refine tt_aload_n (pc := 0) (i := 0) (j := 0) (x := adK k) E dJ0_charAt_5068e_0 rfl rfl ?_
  refine tt_cI (pc := 1) (tt_viS E hk (gw_mem (mt4 (at_l 57 rfl)) rfl) mtJ0_isLatin1_aae02 (cJ0_isLatin1_aae02_ok hk) rfl rfl (Nat.le_of_ble_eq_true rfl) ⟨(Nat.le_of_ble_eq_true rfl), (Nat.le_of_ble_eq_true rfl)⟩ ⟨(Nat.le_of_ble_eq_true rfl), (Nat.le_of_ble_eq_true rfl)⟩ dJ0_charAt_5068e_1) ?_
  refine tt_if_eq (pc := 4) (tgt := 16) E dJ0_charAt_5068e_4 rfl (fun h => absurd (show (1 : Int32) = 0 from h) (by decide)) (fun _ => ?_)
  refine tt_aload_n (pc := 7) (i := 0) (j := 0) (x := adK k) E dJ0_charAt_5068e_7 rfl rfl ?_
  refine tt_strV (pc := 8) E hk (gw_mem (mt9 (at_l 140 rfl)) rfl) dJ0_charAt_5068e_8 ?_
  refine tt_iload_n (pc := 11) (i := 1) (j := 1) E dJ0_charAt_5068e_11 rfl rfl ?_
  refine tt_cI (pc := 12) (tt_si E (gw_mem (mt4 (at_l 61 rfl)) rfl) mtJ1_charAt_3b067 (cJ1_charAt_3b067_ok (l := l) (B := B) (D := D) (cT := cT) (n := n) (adK := adK) (adV := adV) (μ := μ) hk hi) rfl rfl (Nat.le_of_ble_eq_true rfl) ⟨(Nat.le_of_ble_eq_true rfl), (Nat.le_of_ble_eq_true rfl)⟩ ⟨(Nat.le_of_ble_eq_true rfl), (Nat.le_of_ble_eq_true rfl)⟩ dJ0_charAt_5068e_12) ?_
  exact tt_nret (pc := 15) E (by show Value.int _ = _; exact congrArg Value.int hb.2) hr hlk dJ0_charAt_5068e_15 (Nat.le_of_ble_eq_true rfl) (Nat.le_of_ble_eq_true rfl) rfl
section TSTR2
variable {p : Program} {l : Launch} {e : Env} {R : Room} {s : State} {m : MethodId} {args : Array Value} {below : List Frame} {meth : Method} {c : Code} {Q : State → Prop} {nL B : Nat} {D : va_G} {cT : Nat → ClassId} {n kc ks : Nat} {μ : Mem} {pc : Nat} {lv : List (Nat × Value)} {st rest : List Value} {cc : ByteArray} {own : String} {XS : State → Heap → Prop} {adK adV : Nat → Nat}
theorem tt_slen (E : EE p s m args c cc nL own B D cT (XW B adK adV)) {idx k : Nat} (hL : LM own idx ⟨"java/lang/String", "length", "()I"⟩) (hk : decide (k < 35) = true) (hR : 2 ≤ R.frames) (hR2 : 40 ≤ R.locals) (hW8 : (st.map fun v => v.category).sum ≤ 8) (hcs : kc ≤ R.cells ∧ ks ≤ R.slots) (hdg : decode cc pc = .ok (.invokevirtual idx, 3)) (kk : TT p l e R s m args below meth c Q nL B D cT n kc ks μ (pc + 3) lv (.int (sLen k) :: st)) : TT p l e R s m args below meth c Q nL B D cT n kc ks μ pc lv (.ref (adK k) :: st) :=
  tt_cI (res := (sLen k, μ)) (tt_viS E hk hL mtJ0_length_8abf5 (cJ0_length_8abf5_ok hk) rfl rfl hW8 ⟨hR, hR2⟩ hcs hdg) kk
theorem tt_scharAt (E : EE p s m args c cc nL own B D cT (XW B adK adV)) {idx k : Nat} {i : Int32} (hL : LM own idx ⟨"java/lang/String", "charAt", "(I)C"⟩) (hg : (decide (k < 35) && inB i (sLn k)) = true) (hR : 4 ≤ R.frames) (hR2 : 85 ≤ R.locals) (hW8 : (st.map fun v => v.category).sum ≤ 8) (hcs : kc ≤ R.cells ∧ ks ≤ R.slots) (hdg : decode cc pc = .ok (.invokevirtual idx, 3)) (kk : TT p l e R s m args below meth c Q nL B D cT n kc ks μ (pc + 3) lv (.int (sCh k i) :: st)) : TT p l e R s m args below meth c Q nL B D cT n kc ks μ pc lv (.int i :: .ref (adK k) :: st) := by
  obtain ⟨hk, hi⟩ := Bool.and_eq_true_iff.mp hg
  exact tt_cI (res := (sCh k i, μ)) (tt_viS E hk hL mtJ0_charAt_5068e (cJ0_charAt_5068e_ok hk hi) rfl rfl hW8 ⟨hR, hR2⟩ hcs hdg) kk
end TSTR2
