/-! the law's entry -/
def tmK (x : String × Nat × String × List Int32) : Term := .string x.1 x.2.1
def strC (x : String × Nat × String × List Int32) : List Cond := [.exactly (tmK x) "java/lang/String", .eq (.field (tmK x) "java/lang/String" "coder" "B") (.int 0), .arrayOf (.field (tmK x) "java/lang/String" "value" "[B") .byte, .eq (.length (.field (tmK x) "java/lang/String" "value" "[B")) (.int (Int32.ofNat x.2.2.2.length))] ++ x.2.2.2.mapIdx (fun j z => .eq (.elem (.field (tmK x) "java/lang/String" "value" "[B") (.int (Int32.ofNat j))) (.int z))
def strOk (w : Cond) : Bool := match w with
  | .eq (.string _ _) _ => false
  | _ => true
set_option maxRecDepth 100000 in
theorem str_flat : ((flatC (Jvm.Cond.and given_1 narrow_1)).drop 47).filter strOk = strT.flatMap strC := by decide +kernel
theorem str_len : ∀ x ∈ strT, x.2.2.2.length < 2 ^ 31 := by decide +kernel
theorem str_in : ∀ x ∈ strT, Cond.stringRef x.1 x.2.1 x.2.2.1 ∈ lw_tbl := (List.forall_mem_cons.mpr ⟨(mt3 (at_l 178 rfl)), (List.forall_mem_cons.mpr ⟨(mt3 (at_l 228 rfl)), (List.forall_mem_cons.mpr ⟨(mt4 (at_l 35 rfl)), (List.forall_mem_cons.mpr ⟨(mt4 (at_l 96 rfl)), (List.forall_mem_cons.mpr ⟨(mt4 (at_l 104 rfl)), (List.forall_mem_cons.mpr ⟨(mt4 (at_l 119 rfl)), (List.forall_mem_cons.mpr ⟨(mt4 (at_l 120 rfl)), (List.forall_mem_cons.mpr ⟨(mt4 (at_l 126 rfl)), (List.forall_mem_cons.mpr ⟨(mt4 (at_l 127 rfl)), (List.forall_mem_cons.mpr ⟨(mt4 (at_l 128 rfl)), (List.forall_mem_cons.mpr ⟨(mt4 (at_l 129 rfl)), (List.forall_mem_cons.mpr ⟨(mt4 (at_l 143 rfl)), (List.forall_mem_cons.mpr ⟨(mt4 (at_l 144 rfl)), (List.forall_mem_cons.mpr ⟨(mt4 (at_l 145 rfl)), (List.forall_mem_cons.mpr ⟨(mt4 (at_l 146 rfl)), (List.forall_mem_cons.mpr ⟨(mt4 (at_l 147 rfl)), (List.forall_mem_cons.mpr ⟨(mt4 (at_l 148 rfl)), (List.forall_mem_cons.mpr ⟨(mt4 (at_l 149 rfl)), (List.forall_mem_cons.mpr ⟨(mt4 (at_l 150 rfl)), (List.forall_mem_cons.mpr ⟨(mt4 (at_l 210 rfl)), (List.forall_mem_cons.mpr ⟨(mt4 (at_l 211 rfl)), (List.forall_mem_cons.mpr ⟨(mt4 (at_l 212 rfl)), (List.forall_mem_cons.mpr ⟨(mt4 (at_l 213 rfl)), (List.forall_mem_cons.mpr ⟨(mt4 (at_l 214 rfl)), (List.forall_mem_cons.mpr ⟨(mt4 (at_l 215 rfl)), (List.forall_mem_cons.mpr ⟨(mt4 (at_l 216 rfl)), (List.forall_mem_cons.mpr ⟨(mt4 (at_l 217 rfl)), (List.forall_mem_cons.mpr ⟨(mt4 (at_l 218 rfl)), (List.forall_mem_cons.mpr ⟨(mt4 (at_l 219 rfl)), (List.forall_mem_cons.mpr ⟨(mt5 (at_l 64 rfl)), (List.forall_mem_cons.mpr ⟨(mt5 (at_l 86 rfl)), (List.forall_mem_cons.mpr ⟨(mt5 (at_l 94 rfl)), (List.forall_mem_cons.mpr ⟨(mt6 (at_l 25 rfl)), (List.forall_mem_cons.mpr ⟨(mt6 (at_l 94 rfl)), (List.forall_mem_cons.mpr ⟨(mt6 (at_l 106 rfl)), (fun _ h => absurd h List.not_mem_nil)⟩)⟩)⟩)⟩)⟩)⟩)⟩)⟩)⟩)⟩)⟩)⟩)⟩)⟩)⟩)⟩)⟩)⟩)⟩)⟩)⟩)⟩)⟩)⟩)⟩)⟩)⟩)⟩)⟩)⟩)⟩)⟩)⟩)⟩)⟩)
theorem str_of {b : Nat} {s : State} {A : Nat → Prop} (h : (Jvm.Cond.and given_1 narrow_1).before #[Value.ref b] s = true) (hts : ∀ w ∈ lw_tbl, w.before #[Value.ref b] s = true) (hA : ∀ a : Nat, a < s.heap.size → ¬ A a) (x : String × Nat × String × List Int32) (hx : x ∈ strT) :
    ∃ q : Nat × Nat, vk_R x.1 x.2.1 x.2.2.1 q.1 s ∧ vk_S 1 [x.2.2.2.length] [x.2.2.2] (fun _ => q.1) (fun _ => q.2) A s s.heap := by
  have hf : ∀ w ∈ strC x, w.before #[Value.ref b] s = true := fun w hw => flat_of_before _ h w (List.mem_of_mem_drop (List.mem_filter.mp (by rw [str_flat]; exact List.mem_flatMap.mpr ⟨x, hx, hw⟩)).1)
  have h0 : ∀ i : Nat, i < 1 → i = 0 := fun i hi => by omega
  obtain ⟨adK, adV, h1, h2⟩ := vk_Sof (args := #[Value.ref b]) (s := s) (N := 1) (tm := fun _ => tmK x) (len := [x.2.2.2.length]) (byt := [x.2.2.2]) (A := A)
    (fun i hi => by rw [h0 i hi]; exact str_len x hx) (fun i hi => hf _ List.mem_cons_self) (fun i hi => hf _ (List.mem_cons_of_mem _ List.mem_cons_self)) (fun i hi => hf _ (List.mem_cons_of_mem _ (List.mem_cons_of_mem _ List.mem_cons_self)))
    (fun i hi => by rw [h0 i hi]; exact hf _ (List.mem_cons_of_mem _ (List.mem_cons_of_mem _ (List.mem_cons_of_mem _ List.mem_cons_self))))
    (fun i hi j hj => by
      have e := h0 i hi
      subst e
      have hj2 : j < x.2.2.2.length := hj
      refine hf _ (List.mem_append_right _ (List.mem_mapIdx.mpr ⟨j, hj2, ?_⟩))
      show Cond.eq _ (.int x.2.2.2[j]) = Cond.eq _ (.int (x.2.2.2.getD j 0))
      rw [List.getD_eq_getElem?_getD, List.getElem?_eq_getElem hj2]; rfl)
    (fun i j hi hj hij => absurd ((h0 i hi).trans (h0 j hj).symm) hij) hA
  refine ⟨(adK 0, adV 0), vk_R.of (hts _ (str_in x hx)) (h2 0 (by decide)), fun i hi => ?_, fun i j hi hj _ => (h0 i hi).trans (h0 j hj).symm⟩
  have e := h0 i hi
  subst e
  exact h1.1 0 (by decide)
theorem ng_in : ∀ w ∈ xNg, w ∈ lw_tbl := (List.forall_mem_cons.mpr ⟨(mt3 (at_l 221 rfl)), (List.forall_mem_cons.mpr ⟨(mt3 (at_l 139 rfl)), (List.forall_mem_cons.mpr ⟨(mt5 (at_l 79 rfl)), (List.forall_mem_cons.mpr ⟨(mt3 (at_l 141 rfl)), (List.forall_mem_cons.mpr ⟨(mt3 (at_l 143 rfl)), (List.forall_mem_cons.mpr ⟨(mt3 (at_l 145 rfl)), (fun _ h => absurd h List.not_mem_nil)⟩)⟩)⟩)⟩)⟩)⟩)
theorem nl_in : ∀ w ∈ xNl, w ∈ lw_tbl := (List.forall_mem_cons.mpr ⟨(mt1 (at_l 35 rfl)), (List.forall_mem_cons.mpr ⟨(mt1 (at_l 90 rfl)), (List.forall_mem_cons.mpr ⟨(mt2 (at_l 38 rfl)), (List.forall_mem_cons.mpr ⟨(mt2 (at_l 79 rfl)), (fun _ h => absurd h List.not_mem_nil)⟩)⟩)⟩)⟩)
theorem ao_in : ∀ C ∈ xAO, Cond.arrayOver (.object C) ∈ lw_tbl := (List.forall_mem_cons.mpr ⟨(mt1 (at_l 88 rfl)), (List.forall_mem_cons.mpr ⟨(mt1 (at_l 143 rfl)), (List.forall_mem_cons.mpr ⟨(mt2 (at_l 67 rfl)), (fun _ h => absurd h List.not_mem_nil)⟩)⟩)⟩)
theorem ng_tab : ∀ w ∈ xNg, w.onTables = true := by decide +kernel
theorem nl_tab : ∀ w ∈ xNl, w.onTables = true := by decide +kernel
theorem nc_flat : ∀ i, i < 3 → ∀ j, j < 3 → i ≠ j → Cond.not (.castable (exN i) (exN j)) ∈ flatC (Jvm.Cond.and given_1 narrow_1) := by decide +kernel
theorem entry_XW {b : Nat} {s : State} (h : (Jvm.Cond.and given_1 narrow_1).before #[Value.ref b] s = true) (hts : ∀ w ∈ lw_tbl, w.before #[Value.ref b] s = true) : ∃ adK adV : Nat → Nat, XW s.heap.size adK adV s s.heap := by
  have hA : ∀ a : Nat, a < s.heap.size → ¬ fr s.heap.size a := fun a h => Nat.not_le.mpr h
  have hflat := flat_of_before _ h
  have hstr : ∀ i : Nat, ∃ q : Nat × Nat, ∀ x, strT[i]? = some x → vk_R x.1 x.2.1 x.2.2.1 q.1 s ∧ vk_S 1 [x.2.2.2.length] [x.2.2.2] (fun _ => q.1) (fun _ => q.2) (fr s.heap.size) s s.heap := by
    intro i
    cases hx : strT[i]? with
    | none => exact ⟨(0, 0), fun x h => by cases h⟩
    | some y =>
      obtain ⟨q, hq⟩ := str_of h hts hA y (List.mem_of_getElem? hx)
      exact ⟨q, fun x h => by cases h; exact hq⟩
  obtain ⟨ad, had⟩ := Classical.axiomOfChoice hstr
  refine ⟨fun i => (ad i).1, fun i => (ad i).2, ?_, ?_, ?_, ?_, fun i x hx => had i x hx, ?_, ?_, ?_, ?_⟩
  · exact vx_Zqof (hts _ (mt3 (at_l 164 rfl))) (hts _ (mt1 (at_l 11 rfl))) (hflat _ (by decide +kernel)) hA
  · exact vx_Zqof (hts _ (mt3 (at_l 166 rfl))) (hts _ (mt1 (at_l 11 rfl))) (hflat _ (by decide +kernel)) hA
  · exact va_Zof (hts _ (mt4 (at_l 52 rfl))) (hts _ (mt1 (at_l 18 rfl))) (va_eqt (hflat _ (by decide +kernel))) hA
  · exact va_Zqof (hts _ (mt4 (at_l 68 rfl))) (hts _ (mt1 (at_l 20 rfl))) (hflat _ (by decide +kernel)) hA
  · exact fun w hw => va_tabs (ng_tab w hw) rfl (hts w (ng_in w hw))
  · exact fun w hw => va_tabs (nl_tab w hw) rfl (hts w (nl_in w hw))
  · exact fun C hC => va_AO.of (hts _ (ao_in C hC))
  · exact fun i j hi hj hij => va_Nc.of (hflat _ (nc_flat i hi j hj hij))
theorem entry_K {b : Nat} {s : State} (hts : ∀ w ∈ lw_tbl, w.before #[Value.ref b] s = true) : ∃ (D : va_G) (cT : Nat → ClassId), va_K D vwK (tyT cT) s := by
  obtain ⟨c0, iS0, hKn0⟩ := u_known (C := RX1) (T := TX1) (N := 6) (n := 6) hts (fun w hw => gw_lw (cf_X1.2.2.2.1 w hw)) (hts _ (mt1 (at_l 89 rfl)))
  obtain ⟨c1, iS1, hKn1⟩ := u_known (C := RX2) (T := TX2) (N := 6) (n := 6) hts (fun w hw => gw_lw (cf_X2.2.2.2.1 w hw)) (hts _ (mt1 (at_l 137 rfl)))
  obtain ⟨c2, iS2, hKn2⟩ := u_known (C := RX3) (T := TX3) (N := 16) (n := 16) hts (fun w hw => gw_lw (cf_X3.2.2.2.1 w hw)) (hts _ (mt1 (at_l 144 rfl)))
  obtain ⟨c3, iS3, hKn3⟩ := u_known (C := RX4) (T := TX4) (N := 4) (n := 4) hts (fun w hw => gw_lw (cf_X4.2.2.2.1 w hw)) (hts _ (mt2 (at_l 37 rfl)))
  obtain ⟨c4, iS4, hKn4⟩ := u_known (C := RX5) (T := TX5) (N := 2) (n := 2) hts (fun w hw => gw_lw (cf_X5.2.2.2.1 w hw)) (hts _ (mt2 (at_l 61 rfl)))
  obtain ⟨c5, iS5, hKn5⟩ := u_known (C := RX6) (T := TX6) (N := 5) (n := 5) hts (fun w hw => gw_lw (cf_X6.2.2.2.1 w hw)) (hts _ (mt1 (at_l 82 rfl)))
  obtain ⟨c6, iS6, hKn6⟩ := u_known (C := RX7) (T := TX7) (N := 2) (n := 2) hts (fun w hw => gw_lw (cf_X7.2.2.2.1 w hw)) (hts _ (mt2 (at_l 78 rfl)))
  obtain ⟨c7, iS7, hKn7⟩ := u_known (C := RX9) (T := TX9) (N := 11) (n := 11) hts (fun w hw => gw_lw (cf_X9.2.2.2.1 w hw)) (hts _ (mt1 (at_l 34 rfl)))
  obtain ⟨c8, iS8, hKn8⟩ := u_known (C := RX11) (T := TX11) (N := 9) (n := 9) hts (fun w hw => gw_lw (cf_X11.2.2.2.1 w hw)) (hts _ (mt1 (at_l 26 rfl)))
  obtain ⟨c9, iS9, hKn9⟩ := u_known (C := RX12) (T := TX12) (N := 42) (n := 42) hts (fun w hw => gw_lw (cf_X12.2.2.2.1 w hw)) (hts _ (mt6 (at_l 108 rfl)))
  have hp : ∀ ty : FieldType, (Cond.arrayClass ty).before #[Value.ref b] s = true → ∃ cA : ClassId, ArrOfT s cA ty ∧ s.vm.findClass ("[" ++ ty.toString) = some cA := by
    intro ty h
    obtain ⟨cA, kA, comp, f1, f2, f3⟩ := Cond.arrayClass_spec (show (Cond.arrayClass ty).holds #[Value.ref b] s none s [] = true from h)
    exact ⟨cA, fun N z => ⟨(fun k h => by cases h), kA, f2, comp, f3⟩, f1⟩
  have ho : ∀ C : String, (Cond.arrayOver (.object C)).before #[Value.ref b] s = true → ∃ cA : ClassId, ArrOfT s cA (.object C) ∧ va_RA s cA (.object C) := by
    intro C h
    obtain ⟨comp, cA, kA, f1, f2, f3, f4, f5⟩ := Cond.arrayOver_spec (show (Cond.arrayOver (.object C)).holds #[Value.ref b] s none s [] = true from h)
    exact ⟨cA, fun N z => ⟨(fun k h => by cases h), kA, f3, comp, f4⟩, kA, comp, f3, f4, f1, f5⟩
  obtain ⟨a0, g0, g0'⟩ := hp .byte (hts _ (mt1 (at_l 80 rfl)))
  obtain ⟨a1, g1, g1'⟩ := hp .int (hts _ (mt1 (at_l 119 rfl)))
  obtain ⟨a2, g2, g2'⟩ := hp .long (hts _ (mt2 (at_l 59 rfl)))
  obtain ⟨a3, g3, g3'⟩ := ho RX1 (hts _ (mt1 (at_l 88 rfl)))
  obtain ⟨a4, g4, g4'⟩ := ho RX2 (hts _ (mt2 (at_l 67 rfl)))
  obtain ⟨a5, g5, g5'⟩ := ho RX3 (hts _ (mt1 (at_l 143 rfl)))
  refine ⟨(fun k => [c0, c1, c2, c3, c4, c5, c6, c7, c8, c9].getD k c0, fun k => [iS0, iS1, iS2, iS3, iS4, iS5, iS6, iS7, iS8, iS9].getD k iS0), fun k => [a0, a1, a2, a3, a4, a5].getD k a0, fun k q hq => ?_, fun k q hq => ?_⟩
  · match k, hq with
    | 0, hq => cases hq; exact hKn0
    | 1, hq => cases hq; exact hKn1
    | 2, hq => cases hq; exact hKn2
    | 3, hq => cases hq; exact hKn3
    | 4, hq => cases hq; exact hKn4
    | 5, hq => cases hq; exact hKn5
    | 6, hq => cases hq; exact hKn6
    | 7, hq => cases hq; exact hKn7
    | 8, hq => cases hq; exact hKn8
    | 9, hq => cases hq; exact hKn9
    | k + 10, hq => simp [vwK] at hq
  · match k, hq with
    | 0, hq => cases hq; exact ⟨g0, g0'⟩
    | 1, hq => cases hq; exact ⟨g1, g1'⟩
    | 2, hq => cases hq; exact ⟨g2, g2'⟩
    | 3, hq => cases hq; exact ⟨g3, g3'⟩
    | 4, hq => cases hq; exact ⟨g4, g4'⟩
    | 5, hq => cases hq; exact ⟨g5, g5'⟩
    | k + 6, hq => simp [tyT] at hq
def muz : Mem := (fun _ _ => 0, fun _ _ => 0, fun _ _ => none)
/-- the law as a function: what it answers for a script -/
def lawf (L : Nat) (xs : Nat → Int32) (m1 m2 μr : Mem) : Prop := fX11_init 0 1 0 0 (clr muz 0) = some (m1, 362, 361, 5496) ∧ fX12_init 362 363 0 0 (clr m1 362) = some (m2, 381, 18, 12736) ∧ fL_law L xs 0 362 381 0 (clr m2 381) = some (1, μr)
set_option maxHeartbeats 4000000 in
theorem entry_T {p : Program} {l : Launch} {e : Env} {s : State} {m : MethodId} {below : List Frame} {meth : Method} {c : Code} {D : va_G} {cT : Nat → ClassId} {adK adV : Nat → Nat} {b L : Nat} {xs : Nat → Int32} {m1 m2 μr : Mem} (E : EE p s m #[Value.ref b] c cL_law 9 RL s.heap.size D cT (XW s.heap.size adK adV)) (hr : meth.sig.returnType = ret) (hlk : meth.locks = false) (hl0 : l.stackTraces = false) (hX : va_X b L xs s s.heap) (hbl : b < s.heap.size) (hf : lawf L xs m1 m2 μr) :
    TT p l e room_1 s m #[Value.ref b] below meth c (lw_Z below #[Value.ref b] s) 9 s.heap.size D cT 0 0 0 muz 0 [(0, .ref b)] [] := by
  obtain ⟨hf1, hf2, hf3⟩ := hf
  have rc1 : rmX11_init.cells = 361 := rfl
  have rc2 : rmX12_init.cells = 18 := rfl
  have k0 : isK 1 0 8 := ⟨by decide, by decide +kernel⟩
  have k1 : isK 363 362 9 := ⟨by decide, by decide +kernel⟩
  have k2 : isK 382 381 12 := ⟨by decide, by decide +kernel⟩
  refine tt_new (pc := 0) E ⟨RX11, TX11, tyX11, cf_X11, (gw_mem (mt1 (at_l 25 rfl)) rfl), (gw_mem (mt1 (at_l 26 rfl)) rfl), (gw_mem (mt1 (at_l 1 rfl)) rfl)⟩ rfl (Or.inr rfl) (by decide +kernel) (Nat.le_of_ble_eq_true rfl) (Nat.le_of_ble_eq_true rfl) dL_law_0 ?_
  refine tt_dup (pc := 3) E dL_law_3 rfl ?_
  refine tt_cC (pc := 4) (o := 0) (n' := 362) E (gw_mem (mt1 (at_l 27 rfl)) rfl) mtX11_init (cX11_init_ok k0 hf1) (by omega) (Or.inl (by omega)) rfl rfl (Nat.le_of_ble_eq_true rfl) ⟨(Nat.le_of_ble_eq_true rfl), (Nat.le_of_ble_eq_true rfl)⟩ ⟨(Nat.le_of_ble_eq_true rfl), (Nat.le_of_ble_eq_true rfl)⟩ dL_law_4 ?_
  refine tt_astore_n (pc := 7) (i := 1) (lv' := [(1, .ref (s.heap.size + 0)), (0, .ref b)]) E dL_law_7 rfl (Nat.le_of_ble_eq_true rfl) rfl ?_
  refine tt_new (pc := 8) E ⟨RX12, TX12, tyX12, cf_X12, (gw_mem (mt6 (at_l 107 rfl)) rfl), (gw_mem (mt6 (at_l 108 rfl)) rfl), (gw_mem (mt1 (at_l 10 rfl)) rfl)⟩ (by omega) (Or.inl (by omega)) (by decide +kernel) (Nat.le_of_ble_eq_true rfl) (Nat.le_of_ble_eq_true rfl) dL_law_8 ?_
  refine tt_dup (pc := 11) E dL_law_11 rfl ?_
  refine tt_cC (pc := 12) (o := 362) (n' := 381) E (gw_mem (mt6 (at_l 109 rfl)) rfl) mtX12_init (cX12_init_ok k1 hf2) (by omega) (Or.inl (by omega)) rfl rfl (Nat.le_of_ble_eq_true rfl) ⟨(Nat.le_of_ble_eq_true rfl), (Nat.le_of_ble_eq_true rfl)⟩ ⟨(Nat.le_of_ble_eq_true rfl), (Nat.le_of_ble_eq_true rfl)⟩ dL_law_12 ?_
  refine tt_astore_n (pc := 15) (i := 2) (lv' := [(2, .ref (s.heap.size + 362)), (1, .ref (s.heap.size + 0)), (0, .ref b)]) E dL_law_15 rfl (Nat.le_of_ble_eq_true rfl) rfl ?_
  refine tt_iconst (pc := 16) (v := 1) E dL_law_16 ic_1 ?_
  refine tt_newa12 (pc := 17) (N := 1) E ac_long (by omega) (Or.inl (by omega)) (by decide +kernel) (by decide +kernel) (by decide +kernel) (Nat.le_of_ble_eq_true rfl) (Nat.le_of_ble_eq_true rfl) dL_law_17 ?_
  refine tt_astore_n (pc := 19) (i := 3) (lv' := [(3, .ref (s.heap.size + 381)), (2, .ref (s.heap.size + 362)), (1, .ref (s.heap.size + 0)), (0, .ref b)]) E dL_law_19 rfl (Nat.le_of_ble_eq_true rfl) rfl ?_
  refine tt_iconst (pc := 20) (v := 0) E dL_law_20 ic_0 ?_
  refine tt_istore (pc := 21) (i := 4) (lv' := [(4, .int 0), (3, .ref (s.heap.size + 381)), (2, .ref (s.heap.size + 362)), (1, .ref (s.heap.size + 0)), (0, .ref b)]) E dL_law_21 (Nat.le_of_ble_eq_true rfl) rfl ?_
  refine tt_sub [4, 3, 2, 1, 0] (lv' := [(0, .ref b), (1, .ref (s.heap.size + 0)), (2, .ref (s.heap.size + 362)), (3, .ref (s.heap.size + 381)), (4, .int 0)]) rfl ?_
  exact tL_law E hr hlk hl0 hX hbl hbl (Nat.le_refl _) (ik_up k0 (by decide)) (ik_up k1 (by decide)) k2 600 0 _ _ _ (Nat.le_of_ble_eq_true rfl) (Nat.le_of_ble_eq_true rfl) hf3
theorem whole_open {p : Program} {e : Env} {s : State} {m : MethodId} {below : List Frame} {meth : Method} {c : Code} (l : Launch) (hflags : l.flags = flags0) {b L : Nat} {xs : Nat → Int32} (hpure : ∃ m1 m2 μr, lawf L xs m1 m2 μr) (C0 : lw_At p s m meth c b L xs) : W p l e room_1 s m #[Value.ref b] below meth c s.heap [] 0 0 (lw_Z below #[Value.ref b] s) (entryFrame m ([Value.ref b] : List Value).toArray 9) := by
  obtain ⟨m1, m2, μr, hf⟩ := hpure
  obtain ⟨hx, hb, hr, hml, hown, hts, hX, hbl, hlk, hgv⟩ := C0
  obtain ⟨adK, adV, hXW⟩ := entry_XW hgv hts
  obtain ⟨D, cT, hK⟩ := entry_K hts
  have hl0 : l.stackTraces = false := by
    unfold Launch.stackTraces
    rw [hflags]
    decide +kernel
  have E : EE p s m #[Value.ref b] c cL_law 9 RL s.heap.size D cT (XW s.heap.size adK adV) := ⟨⟨hx, hb, hml, hown, fun w hw => hts w (gw_lw hw)⟩, hK, hXW, XM_XS⟩
  have hl := lv_entry ([.ref b]) (n := 9) (Nat.le_of_ble_eq_true rfl)
  rw [lg_entry_eq]
  refine entry_T E hr hlk hl0 hX hbl hf s.heap [] _ (fun k q h => ?_) ⟨fun o k q ho => absurd ho (Nat.not_lt_zero _), fun o k ho => absurd ho (Nat.not_lt_zero _)⟩ va_S.rf hl
  rw [show wl s.heap.size cT 0 muz = [] from rfl] at h
  cases h
