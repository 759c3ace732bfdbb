/-! contracts -/
set_option maxHeartbeats 4000000 in
theorem cX0_wordOf_ok {l : Launch} {B : Nat} {D : va_G} {cT : Nat → ClassId} {n : Nat} {adK adV : Nat → Nat} {v0 : Int32} {μ : Mem} {res : Nat} (hf : fX0_wordOf v0 μ = some res) : MS adK l yX0_wordOf cX0_wordOf 1 (some (.object "java/lang/String")) rmX0_wordOf B D cT (XW B adK adV) n [.int v0] μ (res, μ) := by
  refine tt_ofW mtX0_wordOf.1 (Nat.le_of_ble_eq_true rfl) rfl ?_
  intro p e s m below meth c E0 hr hlk
  have E : EE p s m _ c cX0_wordOf 1 RX0 B D cT (XW B adK adV) := E0
  unfold fX0_wordOf at hf
  refine tt_iload_n (pc := 0) (i := 0) (j := 0) E dX0_wordOf_0 rfl rfl ?_
  by_cases s1_0 : v0 = 0
  · have hf := ip s1_0 hf
    refine tt_swIn (pc := 1) (tgt := 44) E dX0_wordOf_1 (sw1 s1_0 (by decide)) (sw2 s1_0 (by decide)) (sw3 s1_0 rfl) rfl ?_
    refine tt_ldcS (pc := 44) (i := 11) E rfl dX0_wordOf_44 ?_
    exact tt_sret (pc := 46) E hr hlk dX0_wordOf_46 (Nat.le_of_ble_eq_true rfl) (Nat.le_of_ble_eq_true rfl) (pv hf)
  have hf := ine s1_0 hf
  by_cases s1_1 : v0 = 1
  · have hf := ip s1_1 hf
    refine tt_swIn (pc := 1) (tgt := 47) E dX0_wordOf_1 (sw1 s1_1 (by decide)) (sw2 s1_1 (by decide)) (sw3 s1_1 rfl) rfl ?_
    refine tt_ldcS (pc := 47) (i := 12) E rfl dX0_wordOf_47 ?_
    exact tt_sret (pc := 49) E hr hlk dX0_wordOf_49 (Nat.le_of_ble_eq_true rfl) (Nat.le_of_ble_eq_true rfl) (pv hf)
  have hf := ine s1_1 hf
  by_cases s1_2 : v0 = 2
  · have hf := ip s1_2 hf
    refine tt_swIn (pc := 1) (tgt := 50) E dX0_wordOf_1 (sw1 s1_2 (by decide)) (sw2 s1_2 (by decide)) (sw3 s1_2 rfl) rfl ?_
    refine tt_ldcS (pc := 50) (i := 13) E rfl dX0_wordOf_50 ?_
    exact tt_sret (pc := 52) E hr hlk dX0_wordOf_52 (Nat.le_of_ble_eq_true rfl) (Nat.le_of_ble_eq_true rfl) (pv hf)
  have hf := ine s1_2 hf
  by_cases s1_3 : v0 = 3
  · have hf := ip s1_3 hf
    refine tt_swIn (pc := 1) (tgt := 53) E dX0_wordOf_1 (sw1 s1_3 (by decide)) (sw2 s1_3 (by decide)) (sw3 s1_3 rfl) rfl ?_
    refine tt_ldcS (pc := 53) (i := 14) E rfl dX0_wordOf_53 ?_
    exact tt_sret (pc := 55) E hr hlk dX0_wordOf_55 (Nat.le_of_ble_eq_true rfl) (Nat.le_of_ble_eq_true rfl) (pv hf)
  have hf := ine s1_3 hf
  by_cases s1_4 : v0 = 4
  · have hf := ip s1_4 hf
    refine tt_swIn (pc := 1) (tgt := 56) E dX0_wordOf_1 (sw1 s1_4 (by decide)) (sw2 s1_4 (by decide)) (sw3 s1_4 rfl) rfl ?_
    refine tt_ldcS (pc := 56) (i := 15) E rfl dX0_wordOf_56 ?_
    exact tt_sret (pc := 58) E hr hlk dX0_wordOf_58 (Nat.le_of_ble_eq_true rfl) (Nat.le_of_ble_eq_true rfl) (pv hf)
  have hf := ine s1_4 hf
  by_cases s1_5 : v0 = 5
  · have hf := ip s1_5 hf
    refine tt_swIn (pc := 1) (tgt := 59) E dX0_wordOf_1 (sw1 s1_5 (by decide)) (sw2 s1_5 (by decide)) (sw3 s1_5 rfl) rfl ?_
    refine tt_ldcS (pc := 59) (i := 16) E rfl dX0_wordOf_59 ?_
    exact tt_sret (pc := 61) E hr hlk dX0_wordOf_61 (Nat.le_of_ble_eq_true rfl) (Nat.le_of_ble_eq_true rfl) (pv hf)
  have hf := ine s1_5 hf
  by_cases s1_6 : v0 = 6
  · have hf := ip s1_6 hf
    refine tt_swIn (pc := 1) (tgt := 62) E dX0_wordOf_1 (sw1 s1_6 (by decide)) (sw2 s1_6 (by decide)) (sw3 s1_6 rfl) rfl ?_
    refine tt_ldcS (pc := 62) (i := 17) E rfl dX0_wordOf_62 ?_
    exact tt_sret (pc := 64) E hr hlk dX0_wordOf_64 (Nat.le_of_ble_eq_true rfl) (Nat.le_of_ble_eq_true rfl) (pv hf)
  have hf := ine s1_6 hf
  refine tt_swOut (pc := 1) (tgt := 65) E dX0_wordOf_1 (sw_out (N := 7) (fun j hj => by
    match j, hj with
    | 0, _ => exact s1_0
    | 1, _ => exact s1_1
    | 2, _ => exact s1_2
    | 3, _ => exact s1_3
    | 4, _ => exact s1_4
    | 5, _ => exact s1_5
    | 6, _ => exact s1_6
    | j + 7, hj => exact absurd hj (by omega))) rfl ?_
  refine tt_ldcS (pc := 65) (i := 18) E rfl dX0_wordOf_65 ?_
  exact tt_sret (pc := 67) E hr hlk dX0_wordOf_67 (Nat.le_of_ble_eq_true rfl) (Nat.le_of_ble_eq_true rfl) (pv hf)
set_option maxHeartbeats 4000000 in
theorem cX0_mostOf_ok {l : Launch} {B : Nat} {D : va_G} {cT : Nat → ClassId} {n : Nat} {adK adV : Nat → Nat} {v0 : Int32} {μ : Mem} {res : Int32} (hf : fX0_mostOf v0 μ = some res) : MI l yX0_mostOf cX0_mostOf 1 (some .int) rmX0_mostOf B D cT (XW B adK adV) n [.int v0] μ (res, μ) := by
  refine tt_ofW mtX0_mostOf.1 (Nat.le_of_ble_eq_true rfl) rfl ?_
  intro p e s m below meth c E0 hr hlk
  have E : EE p s m _ c cX0_mostOf 1 RX0 B D cT (XW B adK adV) := E0
  unfold fX0_mostOf at hf
  refine tt_iload_n (pc := 0) (i := 0) (j := 0) E dX0_mostOf_0 rfl rfl ?_
  by_cases s1_1 : v0 = 1
  · have hf := ip s1_1 hf
    refine tt_swIn (pc := 1) (tgt := 32) E dX0_mostOf_1 (sw1 s1_1 (by decide)) (sw2 s1_1 (by decide)) (sw3 s1_1 rfl) rfl ?_
    refine tt_sipush (pc := 32) (v := 999) E dX0_mostOf_32 sc_999 ?_
    exact tt_iret (pc := 35) E hr hlk dX0_mostOf_35 (Nat.le_of_ble_eq_true rfl) (Nat.le_of_ble_eq_true rfl) (pv hf)
  have hf := ine s1_1 hf
  by_cases s1_2 : v0 = 2
  · have hf := ip s1_2 hf
    refine tt_swIn (pc := 1) (tgt := 32) E dX0_mostOf_1 (sw1 s1_2 (by decide)) (sw2 s1_2 (by decide)) (sw3 s1_2 rfl) rfl ?_
    refine tt_sipush (pc := 32) (v := 999) E dX0_mostOf_32 sc_999 ?_
    exact tt_iret (pc := 35) E hr hlk dX0_mostOf_35 (Nat.le_of_ble_eq_true rfl) (Nat.le_of_ble_eq_true rfl) (pv hf)
  have hf := ine s1_2 hf
  by_cases s1_3 : v0 = 3
  · have hf := ip s1_3 hf
    refine tt_swIn (pc := 1) (tgt := 38) E dX0_mostOf_1 (sw1 s1_3 (by decide)) (sw2 s1_3 (by decide)) (sw3 s1_3 rfl) rfl ?_
    refine tt_bipush (pc := 38) (v := 99) E dX0_mostOf_38 bc_99 ?_
    exact tt_iret (pc := 40) E hr hlk dX0_mostOf_40 (Nat.le_of_ble_eq_true rfl) (Nat.le_of_ble_eq_true rfl) (pv hf)
  have hf := ine s1_3 hf
  by_cases s1_4 : v0 = 4
  · have hf := ip s1_4 hf
    refine tt_swIn (pc := 1) (tgt := 36) E dX0_mostOf_1 (sw1 s1_4 (by decide)) (sw2 s1_4 (by decide)) (sw3 s1_4 rfl) rfl ?_
    refine tt_iconst (pc := 36) (v := 3) E dX0_mostOf_36 ic_3 ?_
    exact tt_iret (pc := 37) E hr hlk dX0_mostOf_37 (Nat.le_of_ble_eq_true rfl) (Nat.le_of_ble_eq_true rfl) (pv hf)
  have hf := ine s1_4 hf
  refine tt_swOut (pc := 1) (tgt := 38) E dX0_mostOf_1 (sw_out (N := 4) (fun j hj => by
    match j, hj with
    | 0, _ => exact s1_1
    | 1, _ => exact s1_2
    | 2, _ => exact s1_3
    | 3, _ => exact s1_4
    | j + 4, hj => exact absurd hj (by omega))) rfl ?_
  refine tt_bipush (pc := 38) (v := 99) E dX0_mostOf_38 bc_99 ?_
  exact tt_iret (pc := 40) E hr hlk dX0_mostOf_40 (Nat.le_of_ble_eq_true rfl) (Nat.le_of_ble_eq_true rfl) (pv hf)
set_option maxHeartbeats 4000000 in
theorem tX10_packed_4 {p : Program} {l : Launch} {e : Env} {s : State} {m : MethodId} {args : Array Value} {below : List Frame} {meth : Method} {c : Code} {B : Nat} {D : va_G} {cT : Nat → ClassId} {n : Nat} {adK adV : Nat → Nat} {res : Int64} (E : EE p s m args c cX10_packed 4 RX10 B D cT (XW B adK adV)) (hr : meth.sig.returnType = some .long) (hlk : meth.locks = false) {k0 : Nat} {μ : Mem} : ∀ (fu : Nat) (v1 : Int64) (v3 : Int32), zl2 (gX10_packed_4 k0 μ) fu v1 v3 = some res → TT p l e rmX10_packed s m args below meth c (QJ B D cT n below args s (res, μ)) 4 B D cT n 0 0 μ 4 [(0, .ref (adK k0)), (1, .long v1), (3, .int v3)] [] := by
  intro fu
  induction fu with
  | zero => intro v1 v3 hf; exact absurd hf (fun h => by cases h)
  | succ fu ih =>
    intro v1 v3 hf
    have hf : gX10_packed_4 k0 μ (zl2 (gX10_packed_4 k0 μ) fu) v1 v3 = some res := hf
    unfold gX10_packed_4 at hf
    refine tt_iload_n (pc := 4) (i := 3) (j := 2) E dX10_packed_4 rfl rfl ?_
    refine tt_bipush (pc := 5) (v := 8) E dX10_packed_5 bc_8 ?_
    refine tt_icmp_ge (pc := 7) (tgt := 44) E dX10_packed_7 rfl (fun c_8 => ?_) (fun c_8 => ?_)
    · have hf := ip c_8 hf
      refine tt_lload_n (pc := 44) (i := 1) (j := 1) E dX10_packed_44 rfl rfl ?_
      exact tt_lret (pc := 45) E hr hlk dX10_packed_45 (Nat.le_of_ble_eq_true rfl) (Nat.le_of_ble_eq_true rfl) (pv hf)
    · have hf := ine c_8 hf
      refine tt_lload_n (pc := 10) (i := 1) (j := 1) E dX10_packed_10 rfl rfl ?_
      refine tt_bipush (pc := 11) (v := 8) E dX10_packed_11 bc_8 ?_
      refine tt_lshl (pc := 13) E dX10_packed_13 ?_
      refine tt_iload_n (pc := 14) (i := 3) (j := 2) E dX10_packed_14 rfl rfl ?_
      refine tt_aload_n (pc := 15) (i := 0) (j := 0) (x := adK k0) E dX10_packed_15 rfl rfl ?_
      obtain ⟨g_1, hf⟩ := gd_some hf
      refine tt_slen (pc := 16) E lmX10_9 g_1 (Nat.le_of_ble_eq_true rfl) (Nat.le_of_ble_eq_true rfl) (Nat.le_of_ble_eq_true rfl) ⟨(Nat.le_of_ble_eq_true rfl), (Nat.le_of_ble_eq_true rfl)⟩ dX10_packed_16 ?_
      refine tt_icmp_ge (pc := 19) (tgt := 34) E dX10_packed_19 rfl (fun c_7 => ?_) (fun c_7 => ?_)
      · have hf := ip c_7 hf
        refine tt_iconst (pc := 34) (v := 0) E dX10_packed_34 ic_0 ?_
        refine tt_i2l (pc := 35) E dX10_packed_35 ?_
        refine tt_lor (pc := 36) E dX10_packed_36 ?_
        refine tt_nmJ hf (fun v_2 hf => ?_)
        refine tt_lstore_n (pc := 37) (i := 1) (lv' := [(1, .long v_2), (0, .ref (adK k0)), (3, .int v3)]) E dX10_packed_37 rfl (Nat.le_of_ble_eq_true rfl) rfl ?_
        obtain ⟨v_3, ev_3, hf⟩ := nm_ex hf
        refine tt_iinc (pc := 38) (i := 3) (j := 2) (lv' := [(3, .int v_3), (1, .long v_2), (0, .ref (adK k0))]) E dX10_packed_38 rfl (ev_3).symm (Nat.le_of_ble_eq_true rfl) rfl ?_
        refine tt_goto (pc := 41) (tgt := 4) E dX10_packed_41 rfl ?_
        refine tt_sub [2, 1, 0] (lv' := [(0, .ref (adK k0)), (1, .long v_2), (3, .int v_3)]) rfl ?_
        exact ih v_2 v_3 hf
      · have hf := ine c_7 hf
        refine tt_aload_n (pc := 22) (i := 0) (j := 0) (x := adK k0) E dX10_packed_22 rfl rfl ?_
        refine tt_iload_n (pc := 23) (i := 3) (j := 2) E dX10_packed_23 rfl rfl ?_
        obtain ⟨g_4, hf⟩ := gd_some hf
        refine tt_scharAt (pc := 24) E lmX10_15 g_4 (Nat.le_of_ble_eq_true rfl) (Nat.le_of_ble_eq_true rfl) (Nat.le_of_ble_eq_true rfl) ⟨(Nat.le_of_ble_eq_true rfl), (Nat.le_of_ble_eq_true rfl)⟩ dX10_packed_24 ?_
        refine tt_sipush (pc := 27) (v := 255) E dX10_packed_27 sc_255 ?_
        refine tt_iand (pc := 30) E dX10_packed_30 ?_
        refine tt_goto (pc := 31) (tgt := 35) E dX10_packed_31 rfl ?_
        refine tt_i2l (pc := 35) E dX10_packed_35 ?_
        refine tt_lor (pc := 36) E dX10_packed_36 ?_
        refine tt_nmJ hf (fun v_5 hf => ?_)
        refine tt_lstore_n (pc := 37) (i := 1) (lv' := [(1, .long v_5), (0, .ref (adK k0)), (3, .int v3)]) E dX10_packed_37 rfl (Nat.le_of_ble_eq_true rfl) rfl ?_
        obtain ⟨v_6, ev_6, hf⟩ := nm_ex hf
        refine tt_iinc (pc := 38) (i := 3) (j := 2) (lv' := [(3, .int v_6), (1, .long v_5), (0, .ref (adK k0))]) E dX10_packed_38 rfl (ev_6).symm (Nat.le_of_ble_eq_true rfl) rfl ?_
        refine tt_goto (pc := 41) (tgt := 4) E dX10_packed_41 rfl ?_
        refine tt_sub [2, 1, 0] (lv' := [(0, .ref (adK k0)), (1, .long v_5), (3, .int v_6)]) rfl ?_
        exact ih v_5 v_6 hf
set_option maxHeartbeats 4000000 in
theorem cX10_packed_ok {l : Launch} {B : Nat} {D : va_G} {cT : Nat → ClassId} {n : Nat} {adK adV : Nat → Nat} {k0 : Nat} {μ : Mem} {res : Int64} (hf : fX10_packed k0 μ = some res) : MJ l yX10_packed cX10_packed 4 (some .long) rmX10_packed B D cT (XW B adK adV) n [.ref (adK k0)] μ (res, μ) := by
  refine tt_ofW mtX10_packed.1 (Nat.le_of_ble_eq_true rfl) rfl ?_
  intro p e s m below meth c E0 hr hlk
  have E : EE p s m _ c cX10_packed 4 RX10 B D cT (XW B adK adV) := E0
  unfold fX10_packed at hf
  refine tt_lconst (pc := 0) (v := 0) E dX10_packed_0 lc_0 ?_
  refine tt_lstore_n (pc := 1) (i := 1) (lv' := [(1, .long 0), (0, .ref (adK k0))]) E dX10_packed_1 rfl (Nat.le_of_ble_eq_true rfl) rfl ?_
  refine tt_iconst (pc := 2) (v := 0) E dX10_packed_2 ic_0 ?_
  refine tt_istore_n (pc := 3) (i := 3) (lv' := [(3, .int 0), (1, .long 0), (0, .ref (adK k0))]) E dX10_packed_3 rfl (Nat.le_of_ble_eq_true rfl) rfl ?_
  refine tt_sub [2, 1, 0] (lv' := [(0, .ref (adK k0)), (1, .long 0), (3, .int 0)]) rfl ?_
  exact tX10_packed_4 E hr hlk FU 0 0 hf
set_option maxHeartbeats 4000000 in
theorem cX9_isWord_ok {l : Launch} {B : Nat} {D : va_G} {cT : Nat → ClassId} {n : Nat} {adK adV : Nat → Nat} {o0 : Nat} {k1 : Nat} {μ : Mem} {res : Int32} (h0 : isK n o0 7) (hf : fX9_isWord o0 k1 μ = some res) : MZ l yX9_isWord cX9_isWord 2 (some .boolean) rmX9_isWord B D cT (XW B adK adV) n [.ref (B + o0), .ref (adK k1)] μ (res, μ) := by
  refine tt_ofW mtX9_isWord.1 (Nat.le_of_ble_eq_true rfl) rfl ?_
  intro p e s m below meth c E0 hr hlk
  have E : EE p s m _ c cX9_isWord 2 RX9 B D cT (XW B adK adV) := E0
  unfold fX9_isWord at hf
  refine tt_aload_n (pc := 0) (i := 0) (j := 0) E dX9_isWord_0 rfl rfl ?_
  refine tt_getI (pc := 1) E lfX9_34 rfl h0 dX9_isWord_1 ?_
  refine tt_iconst (pc := 4) (v := 1) E dX9_isWord_4 ic_1 ?_
  refine tt_icmp_ne (pc := 5) (tgt := 24) E dX9_isWord_5 rfl (fun c_5 => ?_) (fun c_5 => ?_)
  · have hf := ine c_5 hf
    refine tt_iconst (pc := 24) (v := 0) E dX9_isWord_24 ic_0 ?_
    exact tt_zret (pc := 25) E ((Or.inl rfl)) hr hlk dX9_isWord_25 (Nat.le_of_ble_eq_true rfl) (Nat.le_of_ble_eq_true rfl) (pv hf)
  · have hf := ip c_5 hf
    refine tt_aload_n (pc := 8) (i := 0) (j := 0) E dX9_isWord_8 rfl rfl ?_
    refine tt_getJ (pc := 9) E lfX9_37 rfl h0 dX9_isWord_9 ?_
    refine tt_aload_n (pc := 12) (i := 1) (j := 1) (x := adK k1) E dX9_isWord_12 rfl rfl ?_
    obtain ⟨r_1, hr_2, hf⟩ := bd_some hf
    have hc_3 := cX10_packed_ok (l := l) (B := B) (D := D) (cT := cT) (n := n) (adK := adK) (adV := adV) hr_2
    refine tt_cJ (pc := 13) (tt_si E lmX9_74 mtX10_packed hc_3 rfl rfl (Nat.le_of_ble_eq_true rfl) ⟨(Nat.le_of_ble_eq_true rfl), (Nat.le_of_ble_eq_true rfl)⟩ ⟨(Nat.le_of_ble_eq_true rfl), (Nat.le_of_ble_eq_true rfl)⟩ dX9_isWord_13) ?_
    refine tt_lcmp (pc := 16) E dX9_isWord_16 ?_
    refine tt_if_ne (pc := 17) (tgt := 24) E dX9_isWord_17 rfl (fun c_4 => ?_) (fun c_4 => ?_)
    · have hf := ine c_4 hf
      refine tt_iconst (pc := 24) (v := 0) E dX9_isWord_24 ic_0 ?_
      exact tt_zret (pc := 25) E ((Or.inl rfl)) hr hlk dX9_isWord_25 (Nat.le_of_ble_eq_true rfl) (Nat.le_of_ble_eq_true rfl) (pv hf)
    · have hf := ip c_4 hf
      refine tt_iconst (pc := 20) (v := 1) E dX9_isWord_20 ic_1 ?_
      refine tt_goto (pc := 21) (tgt := 25) E dX9_isWord_21 rfl ?_
      exact tt_zret (pc := 25) E ((Or.inr rfl)) hr hlk dX9_isWord_25 (Nat.le_of_ble_eq_true rfl) (Nat.le_of_ble_eq_true rfl) (pv hf)
set_option maxHeartbeats 4000000 in
theorem tX0_kindHere_2 {p : Program} {l : Launch} {e : Env} {s : State} {m : MethodId} {args : Array Value} {below : List Frame} {meth : Method} {c : Code} {B : Nat} {D : va_G} {cT : Nat → ClassId} {n : Nat} {adK adV : Nat → Nat} {res : Int32} (E : EE p s m args c cX0_kindHere 2 RX0 B D cT (XW B adK adV)) (hr : meth.sig.returnType = some .int) (hlk : meth.locks = false) {o0 : Nat} (h0 : isK n o0 7) {μ : Mem} : ∀ (fu : Nat) (v1 : Int32), zl1 (gX0_kindHere_2 o0 μ) fu v1 = some res → TT p l e rmX0_kindHere s m args below meth c (QI B D cT n below args s (res, μ)) 2 B D cT n 0 0 μ 2 [(0, .ref (B + o0)), (1, .int v1)] [] := by
  intro fu
  induction fu with
  | zero => intro v1 hf; exact absurd hf (fun h => by cases h)
  | succ fu ih =>
    intro v1 hf
    have hf : gX0_kindHere_2 o0 μ (zl1 (gX0_kindHere_2 o0 μ) fu) v1 = some res := hf
    unfold gX0_kindHere_2 at hf
    refine tt_iload_n (pc := 2) (i := 1) (j := 1) E dX0_kindHere_2 rfl rfl ?_
    refine tt_bipush (pc := 3) (v := 7) E dX0_kindHere_3 bc_7 ?_
    refine tt_icmp_ge (pc := 5) (tgt := 27) E dX0_kindHere_5 rfl (fun c_10 => ?_) (fun c_10 => ?_)
    · have hf := ip c_10 hf
      refine tt_iconst (pc := 27) (v := (-1)) E dX0_kindHere_27 ic_m1 ?_
      exact tt_iret (pc := 28) E hr hlk dX0_kindHere_28 (Nat.le_of_ble_eq_true rfl) (Nat.le_of_ble_eq_true rfl) (pv hf)
    · have hf := ine c_10 hf
      refine tt_aload_n (pc := 8) (i := 0) (j := 0) E dX0_kindHere_8 rfl rfl ?_
      refine tt_iload_n (pc := 9) (i := 1) (j := 1) E dX0_kindHere_9 rfl rfl ?_
      obtain ⟨r_1, hr_2, hf⟩ := bd_some hf
      have hc_3 := cX0_wordOf_ok (l := l) (B := B) (D := D) (cT := cT) (n := n) (adK := adK) (adV := adV) hr_2
      refine tt_cS (pc := 10) (tt_si E lmX0_27 mtX0_wordOf hc_3 rfl rfl (Nat.le_of_ble_eq_true rfl) ⟨(Nat.le_of_ble_eq_true rfl), (Nat.le_of_ble_eq_true rfl)⟩ ⟨(Nat.le_of_ble_eq_true rfl), (Nat.le_of_ble_eq_true rfl)⟩ dX0_kindHere_10) ?_
      obtain ⟨r_4, hr_5, hf⟩ := bd_some hf
      have hc_6 := cX9_isWord_ok (l := l) (B := B) (D := D) (cT := cT) (n := n) (adK := adK) (adV := adV) h0 hr_5
      refine tt_cZ (pc := 13) (tt_vi E lmX0_31 mtX9_isWord hc_6 h0 rfl rfl (Nat.le_of_ble_eq_true rfl) ⟨(Nat.le_of_ble_eq_true rfl), (Nat.le_of_ble_eq_true rfl)⟩ ⟨(Nat.le_of_ble_eq_true rfl), (Nat.le_of_ble_eq_true rfl)⟩ dX0_kindHere_13) (fun z_7 => ?_)
      refine tt_if_eq (pc := 16) (tgt := 21) E dX0_kindHere_16 rfl (fun c_9 => ?_) (fun c_9 => ?_)
      · have hf := ip c_9 hf
        obtain ⟨v_8, ev_8, hf⟩ := nm_ex hf
        refine tt_iinc (pc := 21) (i := 1) (j := 1) (lv' := [(1, .int v_8), (0, .ref (B + o0))]) E dX0_kindHere_21 rfl (ev_8).symm (Nat.le_of_ble_eq_true rfl) rfl ?_
        refine tt_goto (pc := 24) (tgt := 2) E dX0_kindHere_24 rfl ?_
        refine tt_sub [1, 0] (lv' := [(0, .ref (B + o0)), (1, .int v_8)]) rfl ?_
        exact ih v_8 hf
      · have hf := ine c_9 hf
        refine tt_iload_n (pc := 19) (i := 1) (j := 1) E dX0_kindHere_19 rfl rfl ?_
        exact tt_iret (pc := 20) E hr hlk dX0_kindHere_20 (Nat.le_of_ble_eq_true rfl) (Nat.le_of_ble_eq_true rfl) (pv hf)
set_option maxHeartbeats 4000000 in
theorem cX0_kindHere_ok {l : Launch} {B : Nat} {D : va_G} {cT : Nat → ClassId} {n : Nat} {adK adV : Nat → Nat} {o0 : Nat} {μ : Mem} {res : Int32} (h0 : isK n o0 7) (hf : fX0_kindHere o0 μ = some res) : MI l yX0_kindHere cX0_kindHere 2 (some .int) rmX0_kindHere B D cT (XW B adK adV) n [.ref (B + o0)] μ (res, μ) := by
  refine tt_ofW mtX0_kindHere.1 (Nat.le_of_ble_eq_true rfl) rfl ?_
  intro p e s m below meth c E0 hr hlk
  have E : EE p s m _ c cX0_kindHere 2 RX0 B D cT (XW B adK adV) := E0
  unfold fX0_kindHere at hf
  refine tt_iconst (pc := 0) (v := 0) E dX0_kindHere_0 ic_0 ?_
  refine tt_istore_n (pc := 1) (i := 1) (lv' := [(1, .int 0), (0, .ref (B + o0))]) E dX0_kindHere_1 rfl (Nat.le_of_ble_eq_true rfl) rfl ?_
  refine tt_sub [1, 0] (lv' := [(0, .ref (B + o0)), (1, .int 0)]) rfl ?_
  exact tX0_kindHere_2 E hr hlk h0 FU 0 hf
set_option maxHeartbeats 4000000 in
theorem cX1_become_ok {l : Launch} {B : Nat} {D : va_G} {cT : Nat → ClassId} {n : Nat} {adK adV : Nat → Nat} {o0 : Nat} {v1 : Int32} {μ : Mem} {res : Mem} (h0 : isK n o0 0) (hf : fX1_become o0 v1 μ = some res) : MV l yX1_become cX1_become 2 (none) rmX1_become B D cT (XW B adK adV) n [.ref (B + o0), .int v1] μ res := by
  refine tt_ofW mtX1_become.1 (Nat.le_of_ble_eq_true rfl) rfl ?_
  intro p e s m below meth c E0 hr hlk
  have E : EE p s m _ c cX1_become 2 RX1 B D cT (XW B adK adV) := E0
  unfold fX1_become at hf
  refine tt_aload_n (pc := 0) (i := 0) (j := 0) E dX1_become_0 rfl rfl ?_
  refine tt_iload_n (pc := 1) (i := 1) (j := 1) E dX1_become_1 rfl rfl ?_
  refine tt_putI (pc := 2) E lfX1_9 rfl h0 dX1_become_2 (tt_nmM hf (fun m_1 hf => ?_))
  refine tt_aload_n (pc := 5) (i := 0) (j := 0) E dX1_become_5 rfl rfl ?_
  refine tt_iconst (pc := 6) (v := 0) E dX1_become_6 ic_0 ?_
  refine tt_putI (pc := 7) E lfX1_15 rfl h0 dX1_become_7 (tt_nmM hf (fun m_2 hf => ?_))
  refine tt_aload_n (pc := 10) (i := 0) (j := 0) E dX1_become_10 rfl rfl ?_
  refine tt_iconst (pc := 11) (v := 0) E dX1_become_11 ic_0 ?_
  refine tt_putI (pc := 12) E lfX1_18 rfl h0 dX1_become_12 (tt_nmM hf (fun m_3 hf => ?_))
  refine tt_aload_n (pc := 15) (i := 0) (j := 0) E dX1_become_15 rfl rfl ?_
  refine tt_iconst (pc := 16) (v := 0) E dX1_become_16 ic_0 ?_
  refine tt_putI (pc := 17) E lfX1_21 rfl h0 dX1_become_17 (tt_nmM hf (fun m_4 hf => ?_))
  refine tt_aload_n (pc := 20) (i := 0) (j := 0) E dX1_become_20 rfl rfl ?_
  refine tt_iconst (pc := 21) (v := 0) E dX1_become_21 ic_0 ?_
  refine tt_putI (pc := 22) E lfX1_24 rfl h0 dX1_become_22 (tt_nmM hf (fun m_5 hf => ?_))
  refine tt_aload_n (pc := 25) (i := 0) (j := 0) E dX1_become_25 rfl rfl ?_
  refine tt_iconst (pc := 26) (v := 0) E dX1_become_26 ic_0 ?_
  refine tt_putI (pc := 27) E lfX1_27 rfl h0 dX1_become_27 (tt_nmM hf (fun m_6 hf => ?_))
  exact tt_vret (pc := 30) E hr hlk dX1_become_30 (Nat.le_of_ble_eq_true rfl) (Nat.le_of_ble_eq_true rfl) hf
set_option maxHeartbeats 4000000 in
theorem cX1_wordOf_ok {l : Launch} {B : Nat} {D : va_G} {cT : Nat → ClassId} {n : Nat} {adK adV : Nat → Nat} {v0 : Int32} {μ : Mem} {res : Nat} (hf : fX1_wordOf v0 μ = some res) : MS adK l yX1_wordOf cX1_wordOf 1 (some (.object "java/lang/String")) rmX1_wordOf B D cT (XW B adK adV) n [.int v0] μ (res, μ) := by
  refine tt_ofW mtX1_wordOf.1 (Nat.le_of_ble_eq_true rfl) rfl ?_
  intro p e s m below meth c E0 hr hlk
  have E : EE p s m _ c cX1_wordOf 1 RX1 B D cT (XW B adK adV) := E0
  unfold fX1_wordOf at hf
  refine tt_iload_n (pc := 0) (i := 0) (j := 0) E dX1_wordOf_0 rfl rfl ?_
  by_cases s1_0 : v0 = 0
  · have hf := ip s1_0 hf
    refine tt_swIn (pc := 1) (tgt := 52) E dX1_wordOf_1 (sw1 s1_0 (by decide)) (sw2 s1_0 (by decide)) (sw3 s1_0 rfl) rfl ?_
    refine tt_ldcS (pc := 52) (i := 19) E rfl dX1_wordOf_52 ?_
    exact tt_sret (pc := 54) E hr hlk dX1_wordOf_54 (Nat.le_of_ble_eq_true rfl) (Nat.le_of_ble_eq_true rfl) (pv hf)
  have hf := ine s1_0 hf
  by_cases s1_1 : v0 = 1
  · have hf := ip s1_1 hf
    refine tt_swIn (pc := 1) (tgt := 55) E dX1_wordOf_1 (sw1 s1_1 (by decide)) (sw2 s1_1 (by decide)) (sw3 s1_1 rfl) rfl ?_
    refine tt_ldcS (pc := 55) (i := 20) E rfl dX1_wordOf_55 ?_
    exact tt_sret (pc := 57) E hr hlk dX1_wordOf_57 (Nat.le_of_ble_eq_true rfl) (Nat.le_of_ble_eq_true rfl) (pv hf)
  have hf := ine s1_1 hf
  by_cases s1_2 : v0 = 2
  · have hf := ip s1_2 hf
    refine tt_swIn (pc := 1) (tgt := 58) E dX1_wordOf_1 (sw1 s1_2 (by decide)) (sw2 s1_2 (by decide)) (sw3 s1_2 rfl) rfl ?_
    refine tt_ldcS (pc := 58) (i := 21) E rfl dX1_wordOf_58 ?_
    exact tt_sret (pc := 60) E hr hlk dX1_wordOf_60 (Nat.le_of_ble_eq_true rfl) (Nat.le_of_ble_eq_true rfl) (pv hf)
  have hf := ine s1_2 hf
  by_cases s1_3 : v0 = 3
  · have hf := ip s1_3 hf
    refine tt_swIn (pc := 1) (tgt := 61) E dX1_wordOf_1 (sw1 s1_3 (by decide)) (sw2 s1_3 (by decide)) (sw3 s1_3 rfl) rfl ?_
    refine tt_ldcS (pc := 61) (i := 22) E rfl dX1_wordOf_61 ?_
    exact tt_sret (pc := 63) E hr hlk dX1_wordOf_63 (Nat.le_of_ble_eq_true rfl) (Nat.le_of_ble_eq_true rfl) (pv hf)
  have hf := ine s1_3 hf
  by_cases s1_4 : v0 = 4
  · have hf := ip s1_4 hf
    refine tt_swIn (pc := 1) (tgt := 64) E dX1_wordOf_1 (sw1 s1_4 (by decide)) (sw2 s1_4 (by decide)) (sw3 s1_4 rfl) rfl ?_
    refine tt_ldcS (pc := 64) (i := 23) E rfl dX1_wordOf_64 ?_
    exact tt_sret (pc := 66) E hr hlk dX1_wordOf_66 (Nat.le_of_ble_eq_true rfl) (Nat.le_of_ble_eq_true rfl) (pv hf)
  have hf := ine s1_4 hf
  by_cases s1_5 : v0 = 5
  · have hf := ip s1_5 hf
    refine tt_swIn (pc := 1) (tgt := 67) E dX1_wordOf_1 (sw1 s1_5 (by decide)) (sw2 s1_5 (by decide)) (sw3 s1_5 rfl) rfl ?_
    refine tt_ldcS (pc := 67) (i := 24) E rfl dX1_wordOf_67 ?_
    exact tt_sret (pc := 69) E hr hlk dX1_wordOf_69 (Nat.le_of_ble_eq_true rfl) (Nat.le_of_ble_eq_true rfl) (pv hf)
  have hf := ine s1_5 hf
  by_cases s1_6 : v0 = 6
  · have hf := ip s1_6 hf
    refine tt_swIn (pc := 1) (tgt := 70) E dX1_wordOf_1 (sw1 s1_6 (by decide)) (sw2 s1_6 (by decide)) (sw3 s1_6 rfl) rfl ?_
    refine tt_ldcS (pc := 70) (i := 25) E rfl dX1_wordOf_70 ?_
    exact tt_sret (pc := 72) E hr hlk dX1_wordOf_72 (Nat.le_of_ble_eq_true rfl) (Nat.le_of_ble_eq_true rfl) (pv hf)
  have hf := ine s1_6 hf
  by_cases s1_7 : v0 = 7
  · have hf := ip s1_7 hf
    refine tt_swIn (pc := 1) (tgt := 73) E dX1_wordOf_1 (sw1 s1_7 (by decide)) (sw2 s1_7 (by decide)) (sw3 s1_7 rfl) rfl ?_
    refine tt_ldcS (pc := 73) (i := 26) E rfl dX1_wordOf_73 ?_
    exact tt_sret (pc := 75) E hr hlk dX1_wordOf_75 (Nat.le_of_ble_eq_true rfl) (Nat.le_of_ble_eq_true rfl) (pv hf)
  have hf := ine s1_7 hf
  by_cases s1_8 : v0 = 8
  · have hf := ip s1_8 hf
    refine tt_swIn (pc := 1) (tgt := 76) E dX1_wordOf_1 (sw1 s1_8 (by decide)) (sw2 s1_8 (by decide)) (sw3 s1_8 rfl) rfl ?_
    refine tt_ldcS (pc := 76) (i := 27) E rfl dX1_wordOf_76 ?_
    exact tt_sret (pc := 78) E hr hlk dX1_wordOf_78 (Nat.le_of_ble_eq_true rfl) (Nat.le_of_ble_eq_true rfl) (pv hf)
  have hf := ine s1_8 hf
  refine tt_swOut (pc := 1) (tgt := 79) E dX1_wordOf_1 (sw_out (N := 9) (fun j hj => by
    match j, hj with
    | 0, _ => exact s1_0
    | 1, _ => exact s1_1
    | 2, _ => exact s1_2
    | 3, _ => exact s1_3
    | 4, _ => exact s1_4
    | 5, _ => exact s1_5
    | 6, _ => exact s1_6
    | 7, _ => exact s1_7
    | 8, _ => exact s1_8
    | j + 9, hj => exact absurd hj (by omega))) rfl ?_
  refine tt_ldcS (pc := 79) (i := 28) E rfl dX1_wordOf_79 ?_
  exact tt_sret (pc := 81) E hr hlk dX1_wordOf_81 (Nat.le_of_ble_eq_true rfl) (Nat.le_of_ble_eq_true rfl) (pv hf)
set_option maxHeartbeats 4000000 in
theorem cX2_at_ok {l : Launch} {B : Nat} {D : va_G} {cT : Nat → ClassId} {n : Nat} {adK adV : Nat → Nat} {o0 : Nat} {v1 : Int32} {μ : Mem} {res : Nat} (h0 : isK n o0 1) (hf : fX2_at o0 v1 μ = some res) : MP 2 l yX2_at cX2_at 2 (some (.object "TurnWheel$Fighter")) rmX2_at B D cT (XW B adK adV) n [.ref (B + o0), .int v1] μ (res, μ) := by
  refine tt_ofW mtX2_at.1 (Nat.le_of_ble_eq_true rfl) rfl ?_
  intro p e s m below meth c E0 hr hlk
  have E : EE p s m _ c cX2_at 2 RX2 B D cT (XW B adK adV) := E0
  unfold fX2_at at hf
  refine tt_iload_n (pc := 0) (i := 1) (j := 1) E dX2_at_0 rfl rfl ?_
  refine tt_if_lt (pc := 1) (tgt := 22) E dX2_at_1 rfl (fun c_18 => ?_) (fun c_18 => ?_)
  · have hf := ip c_18 hf
    refine tt_aload_n (pc := 22) (i := 0) (j := 0) E dX2_at_22 rfl rfl ?_
    obtain ⟨q_1, hq_2, hf⟩ := bd_some hf
    refine tt_getP (pc := 23) (t := 2) E lfX2_20 rfl rfl h0 dX2_at_23 hq_2 (fun kq_3 => ?_)
    exact tt_aret (pc := 26) E kq_3 hr hlk dX2_at_26 (Nat.le_of_ble_eq_true rfl) (Nat.le_of_ble_eq_true rfl) (pv hf)
  · have hf := ine c_18 hf
    refine tt_iload_n (pc := 4) (i := 1) (j := 1) E dX2_at_4 rfl rfl ?_
    refine tt_aload_n (pc := 5) (i := 0) (j := 0) E dX2_at_5 rfl rfl ?_
    obtain ⟨q_4, hq_5, hf⟩ := bd_some hf
    refine tt_getP (pc := 6) (t := 15) E lfX2_11 rfl rfl h0 dX2_at_6 hq_5 (fun kq_6 => ?_)
    refine tt_alen (pc := 9) (v := Int32.ofNat (Ln q_4)) E (k := 15) ⟨(Nat.le_of_ble_eq_true rfl), (Nat.le_of_ble_eq_true rfl)⟩ kq_6 rfl dX2_at_9 ?_
    refine tt_icmp_ge (pc := 10) (tgt := 22) E dX2_at_10 rfl (fun c_17 => ?_) (fun c_17 => ?_)
    · have hf := ip c_17 hf
      refine tt_aload_n (pc := 22) (i := 0) (j := 0) E dX2_at_22 rfl rfl ?_
      obtain ⟨q_7, hq_8, hf⟩ := bd_some hf
      refine tt_getP (pc := 23) (t := 2) E lfX2_20 rfl rfl h0 dX2_at_23 hq_8 (fun kq_9 => ?_)
      exact tt_aret (pc := 26) E kq_9 hr hlk dX2_at_26 (Nat.le_of_ble_eq_true rfl) (Nat.le_of_ble_eq_true rfl) (pv hf)
    · have hf := ine c_17 hf
      refine tt_aload_n (pc := 13) (i := 0) (j := 0) E dX2_at_13 rfl rfl ?_
      obtain ⟨q_10, hq_11, hf⟩ := bd_some hf
      refine tt_getP (pc := 14) (t := 15) E lfX2_11 rfl rfl h0 dX2_at_14 hq_11 (fun kq_12 => ?_)
      refine tt_iload_n (pc := 17) (i := 1) (j := 1) E dX2_at_17 rfl rfl ?_
      obtain ⟨g_13, hf⟩ := gd_some hf
      obtain ⟨q_14, hq_15, hf⟩ := bd_some hf
      refine tt_aald15 (pc := 18) E kq_12 g_13 dX2_at_18 hq_15 (fun kq_16 => ?_)
      refine tt_goto (pc := 19) (tgt := 26) E dX2_at_19 rfl ?_
      exact tt_aret (pc := 26) E kq_16 hr hlk dX2_at_26 (Nat.le_of_ble_eq_true rfl) (Nat.le_of_ble_eq_true rfl) (pv hf)
set_option maxHeartbeats 4000000 in
theorem tX2_lives_11 {p : Program} {l : Launch} {e : Env} {s : State} {m : MethodId} {args : Array Value} {below : List Frame} {meth : Method} {c : Code} {B : Nat} {D : va_G} {cT : Nat → ClassId} {n : Nat} {adK adV : Nat → Nat} {res : Int32} (E : EE p s m args c cX2_lives 6 RX2 B D cT (XW B adK adV)) (hr : meth.sig.returnType = some .boolean) (hlk : meth.locks = false) {v1 : Int32} {o2 : Nat} {v3 : Int32} (h2 : isK n o2 15) {μ : Mem} : ∀ (fu : Nat) (v4 : Int32), zl1 (gX2_lives_11 v1 o2 v3 μ) fu v4 = some res → TT p l e rmX2_lives s m args below meth c (QZ B D cT n below args s (res, μ)) 6 B D cT n 0 0 μ 11 [(1, .int v1), (2, .ref (B + o2)), (3, .int v3), (4, .int v4)] [] := by
  intro fu
  induction fu with
  | zero => intro v4 hf; exact absurd hf (fun h => by cases h)
  | succ fu ih =>
    intro v4 hf
    have hf : gX2_lives_11 v1 o2 v3 μ (zl1 (gX2_lives_11 v1 o2 v3 μ) fu) v4 = some res := hf
    unfold gX2_lives_11 at hf
    refine tt_iload (pc := 11) (i := 4) (j := 3) E dX2_lives_11 rfl ?_
    refine tt_iload_n (pc := 13) (i := 3) (j := 2) E dX2_lives_13 rfl rfl ?_
    refine tt_icmp_ge (pc := 14) (tgt := 48) E dX2_lives_14 rfl (fun c_9 => ?_) (fun c_9 => ?_)
    · have hf := ip c_9 hf
      refine tt_iconst (pc := 48) (v := 0) E dX2_lives_48 ic_0 ?_
      exact tt_zret (pc := 49) E ((Or.inl rfl)) hr hlk dX2_lives_49 (Nat.le_of_ble_eq_true rfl) (Nat.le_of_ble_eq_true rfl) (pv hf)
    · have hf := ine c_9 hf
      refine tt_aload_n (pc := 17) (i := 2) (j := 1) E dX2_lives_17 rfl rfl ?_
      refine tt_iload (pc := 18) (i := 4) (j := 3) E dX2_lives_18 rfl ?_
      obtain ⟨g_1, hf⟩ := gd_some hf
      obtain ⟨q_2, hq_3, hf⟩ := bd_some hf
      refine tt_aald15 (pc := 20) E h2 g_1 dX2_lives_20 hq_3 (fun kq_4 => ?_)
      refine tt_astore (pc := 21) (i := 5) (lv' := [(5, .ref (B + q_2)), (1, .int v1), (2, .ref (B + o2)), (3, .int v3), (4, .int v4)]) E dX2_lives_21 (Nat.le_of_ble_eq_true rfl) rfl ?_
      refine tt_aload (pc := 23) (i := 5) (j := 0) E dX2_lives_23 rfl ?_
      refine tt_getI (pc := 25) E lfX2_52 rfl kq_4 dX2_lives_25 ?_
      refine tt_if_le (pc := 28) (tgt := 42) E dX2_lives_28 rfl (fun c_8 => ?_) (fun c_8 => ?_)
      · have hf := ip c_8 hf
        obtain ⟨v_5, ev_5, hf⟩ := nm_ex hf
        refine tt_iinc (pc := 42) (i := 4) (j := 4) (lv' := [(4, .int v_5), (5, .ref (B + q_2)), (1, .int v1), (2, .ref (B + o2)), (3, .int v3)]) E dX2_lives_42 rfl (ev_5).symm (Nat.le_of_ble_eq_true rfl) rfl ?_
        refine tt_goto (pc := 45) (tgt := 11) E dX2_lives_45 rfl ?_
        refine tt_sub [2, 3, 4, 0] (lv' := [(1, .int v1), (2, .ref (B + o2)), (3, .int v3), (4, .int v_5)]) rfl ?_
        exact ih v_5 hf
      · have hf := ine c_8 hf
        refine tt_aload (pc := 31) (i := 5) (j := 0) E dX2_lives_31 rfl ?_
        refine tt_getI (pc := 33) E lfX2_58 rfl kq_4 dX2_lives_33 ?_
        refine tt_iload_n (pc := 36) (i := 1) (j := 1) E dX2_lives_36 rfl rfl ?_
        refine tt_icmp_ne (pc := 37) (tgt := 42) E dX2_lives_37 rfl (fun c_7 => ?_) (fun c_7 => ?_)
        · have hf := ine c_7 hf
          obtain ⟨v_6, ev_6, hf⟩ := nm_ex hf
          refine tt_iinc (pc := 42) (i := 4) (j := 4) (lv' := [(4, .int v_6), (5, .ref (B + q_2)), (1, .int v1), (2, .ref (B + o2)), (3, .int v3)]) E dX2_lives_42 rfl (ev_6).symm (Nat.le_of_ble_eq_true rfl) rfl ?_
          refine tt_goto (pc := 45) (tgt := 11) E dX2_lives_45 rfl ?_
          refine tt_sub [2, 3, 4, 0] (lv' := [(1, .int v1), (2, .ref (B + o2)), (3, .int v3), (4, .int v_6)]) rfl ?_
          exact ih v_6 hf
        · have hf := ip c_7 hf
          refine tt_iconst (pc := 40) (v := 1) E dX2_lives_40 ic_1 ?_
          exact tt_zret (pc := 41) E ((Or.inr rfl)) hr hlk dX2_lives_41 (Nat.le_of_ble_eq_true rfl) (Nat.le_of_ble_eq_true rfl) (pv hf)
set_option maxHeartbeats 4000000 in
theorem cX2_lives_ok {l : Launch} {B : Nat} {D : va_G} {cT : Nat → ClassId} {n : Nat} {adK adV : Nat → Nat} {o0 : Nat} {v1 : Int32} {μ : Mem} {res : Int32} (h0 : isK n o0 1) (hf : fX2_lives o0 v1 μ = some res) : MZ l yX2_lives cX2_lives 6 (some .boolean) rmX2_lives B D cT (XW B adK adV) n [.ref (B + o0), .int v1] μ (res, μ) := by
  refine tt_ofW mtX2_lives.1 (Nat.le_of_ble_eq_true rfl) rfl ?_
  intro p e s m below meth c E0 hr hlk
  have E : EE p s m _ c cX2_lives 6 RX2 B D cT (XW B adK adV) := E0
  unfold fX2_lives at hf
  refine tt_aload_n (pc := 0) (i := 0) (j := 0) E dX2_lives_0 rfl rfl ?_
  obtain ⟨q_1, hq_2, hf⟩ := bd_some hf
  refine tt_getP (pc := 1) (t := 15) E lfX2_11 rfl rfl h0 dX2_lives_1 hq_2 (fun kq_3 => ?_)
  refine tt_astore_n (pc := 4) (i := 2) (lv' := [(2, .ref (B + q_1)), (0, .ref (B + o0)), (1, .int v1)]) E dX2_lives_4 rfl (Nat.le_of_ble_eq_true rfl) rfl ?_
  refine tt_aload_n (pc := 5) (i := 2) (j := 0) E dX2_lives_5 rfl rfl ?_
  refine tt_alen (pc := 6) (v := Int32.ofNat (Ln q_1)) E (k := 15) ⟨(Nat.le_of_ble_eq_true rfl), (Nat.le_of_ble_eq_true rfl)⟩ kq_3 rfl dX2_lives_6 ?_
  refine tt_nmI hf (fun v_4 hf => ?_)
  refine tt_istore_n (pc := 7) (i := 3) (lv' := [(3, .int v_4), (2, .ref (B + q_1)), (0, .ref (B + o0)), (1, .int v1)]) E dX2_lives_7 rfl (Nat.le_of_ble_eq_true rfl) rfl ?_
  refine tt_iconst (pc := 8) (v := 0) E dX2_lives_8 ic_0 ?_
  refine tt_istore (pc := 9) (i := 4) (lv' := [(4, .int 0), (3, .int v_4), (2, .ref (B + q_1)), (0, .ref (B + o0)), (1, .int v1)]) E dX2_lives_9 (Nat.le_of_ble_eq_true rfl) rfl ?_
  refine tt_sub [4, 2, 1, 0] (lv' := [(1, .int v1), (2, .ref (B + q_1)), (3, .int v_4), (4, .int 0)]) rfl ?_
  exact tX2_lives_11 E hr hlk kq_3 FU 0 hf
set_option maxHeartbeats 4000000 in
theorem cX2_over_ok {l : Launch} {B : Nat} {D : va_G} {cT : Nat → ClassId} {n : Nat} {adK adV : Nat → Nat} {o0 : Nat} {μ : Mem} {res : Int32} (h0 : isK n o0 1) (hf : fX2_over o0 μ = some res) : MZ l yX2_over cX2_over 1 (some .boolean) rmX2_over B D cT (XW B adK adV) n [.ref (B + o0)] μ (res, μ) := by
  refine tt_ofW mtX2_over.1 (Nat.le_of_ble_eq_true rfl) rfl ?_
  intro p e s m below meth c E0 hr hlk
  have E : EE p s m _ c cX2_over 1 RX2 B D cT (XW B adK adV) := E0
  unfold fX2_over at hf
  refine tt_aload_n (pc := 0) (i := 0) (j := 0) E dX2_over_0 rfl rfl ?_
  refine tt_iconst (pc := 1) (v := 0) E dX2_over_1 ic_0 ?_
  obtain ⟨r_1, hr_2, hf⟩ := bd_some hf
  have hc_3 := cX2_lives_ok (l := l) (B := B) (D := D) (cT := cT) (n := n) (adK := adK) (adV := adV) h0 hr_2
  refine tt_cZ (pc := 2) (tt_vi E lmX2_61 mtX2_lives hc_3 h0 rfl rfl (Nat.le_of_ble_eq_true rfl) ⟨(Nat.le_of_ble_eq_true rfl), (Nat.le_of_ble_eq_true rfl)⟩ ⟨(Nat.le_of_ble_eq_true rfl), (Nat.le_of_ble_eq_true rfl)⟩ dX2_over_2) (fun z_4 => ?_)
  refine tt_if_eq (pc := 5) (tgt := 16) E dX2_over_5 rfl (fun c_10 => ?_) (fun c_10 => ?_)
  · have hf := ip c_10 hf
    refine tt_iconst (pc := 16) (v := 1) E dX2_over_16 ic_1 ?_
    refine tt_goto (pc := 17) (tgt := 21) E dX2_over_17 rfl ?_
    exact tt_zret (pc := 21) E ((Or.inr rfl)) hr hlk dX2_over_21 (Nat.le_of_ble_eq_true rfl) (Nat.le_of_ble_eq_true rfl) (pv hf)
  · have hf := ine c_10 hf
    refine tt_aload_n (pc := 8) (i := 0) (j := 0) E dX2_over_8 rfl rfl ?_
    refine tt_iconst (pc := 9) (v := 1) E dX2_over_9 ic_1 ?_
    obtain ⟨r_5, hr_6, hf⟩ := bd_some hf
    have hc_7 := cX2_lives_ok (l := l) (B := B) (D := D) (cT := cT) (n := n) (adK := adK) (adV := adV) h0 hr_6
    refine tt_cZ (pc := 10) (tt_vi E lmX2_61 mtX2_lives hc_7 h0 rfl rfl (Nat.le_of_ble_eq_true rfl) ⟨(Nat.le_of_ble_eq_true rfl), (Nat.le_of_ble_eq_true rfl)⟩ ⟨(Nat.le_of_ble_eq_true rfl), (Nat.le_of_ble_eq_true rfl)⟩ dX2_over_10) (fun z_8 => ?_)
    refine tt_if_ne (pc := 13) (tgt := 20) E dX2_over_13 rfl (fun c_9 => ?_) (fun c_9 => ?_)
    · have hf := ine c_9 hf
      refine tt_iconst (pc := 20) (v := 0) E dX2_over_20 ic_0 ?_
      exact tt_zret (pc := 21) E ((Or.inl rfl)) hr hlk dX2_over_21 (Nat.le_of_ble_eq_true rfl) (Nat.le_of_ble_eq_true rfl) (pv hf)
    · have hf := ip c_9 hf
      refine tt_iconst (pc := 16) (v := 1) E dX2_over_16 ic_1 ?_
      refine tt_goto (pc := 17) (tgt := 21) E dX2_over_17 rfl ?_
      exact tt_zret (pc := 21) E ((Or.inr rfl)) hr hlk dX2_over_21 (Nat.le_of_ble_eq_true rfl) (Nat.le_of_ble_eq_true rfl) (pv hf)
set_option maxHeartbeats 4000000 in
theorem cX2_faultOfPlay_ok {l : Launch} {B : Nat} {D : va_G} {cT : Nat → ClassId} {n : Nat} {adK adV : Nat → Nat} {o0 : Nat} {v1 : Int32} {μ : Mem} {res : Int32} (h0 : isK n o0 1) (hf : fX2_faultOfPlay o0 v1 μ = some res) : MI l yX2_faultOfPlay cX2_faultOfPlay 2 (some .int) rmX2_faultOfPlay B D cT (XW B adK adV) n [.ref (B + o0), .int v1] μ (res, μ) := by
  refine tt_ofW mtX2_faultOfPlay.1 (Nat.le_of_ble_eq_true rfl) rfl ?_
  intro p e s m below meth c E0 hr hlk
  have E : EE p s m _ c cX2_faultOfPlay 2 RX2 B D cT (XW B adK adV) := E0
  unfold fX2_faultOfPlay at hf
  refine tt_iload_n (pc := 0) (i := 1) (j := 1) E dX2_faultOfPlay_0 rfl rfl ?_
  refine tt_iconst (pc := 1) (v := 1) E dX2_faultOfPlay_1 ic_1 ?_
  refine tt_icmp_lt (pc := 2) (tgt := 11) E dX2_faultOfPlay_2 rfl (fun c_8 => ?_) (fun c_8 => ?_)
  · have hf := ip c_8 hf
    refine tt_iconst (pc := 11) (v := 1) E dX2_faultOfPlay_11 ic_1 ?_
    exact tt_iret (pc := 12) E hr hlk dX2_faultOfPlay_12 (Nat.le_of_ble_eq_true rfl) (Nat.le_of_ble_eq_true rfl) (pv hf)
  · have hf := ine c_8 hf
    refine tt_iload_n (pc := 5) (i := 1) (j := 1) E dX2_faultOfPlay_5 rfl rfl ?_
    refine tt_bipush (pc := 6) (v := 99) E dX2_faultOfPlay_6 bc_99 ?_
    refine tt_icmp_le (pc := 8) (tgt := 13) E dX2_faultOfPlay_8 rfl (fun c_7 => ?_) (fun c_7 => ?_)
    · have hf := ip c_7 hf
      refine tt_aload_n (pc := 13) (i := 0) (j := 0) E dX2_faultOfPlay_13 rfl rfl ?_
      obtain ⟨r_1, hr_2, hf⟩ := bd_some hf
      have hc_3 := cX2_over_ok (l := l) (B := B) (D := D) (cT := cT) (n := n) (adK := adK) (adV := adV) h0 hr_2
      refine tt_cZ (pc := 14) (tt_vi E lmX2_80 mtX2_over hc_3 h0 rfl rfl (Nat.le_of_ble_eq_true rfl) ⟨(Nat.le_of_ble_eq_true rfl), (Nat.le_of_ble_eq_true rfl)⟩ ⟨(Nat.le_of_ble_eq_true rfl), (Nat.le_of_ble_eq_true rfl)⟩ dX2_faultOfPlay_14) (fun z_4 => ?_)
      refine tt_if_ne (pc := 17) (tgt := 32) E dX2_faultOfPlay_17 rfl (fun c_6 => ?_) (fun c_6 => ?_)
      · have hf := ine c_6 hf
        refine tt_iconst (pc := 32) (v := 2) E dX2_faultOfPlay_32 ic_2 ?_
        refine tt_goto (pc := 33) (tgt := 37) E dX2_faultOfPlay_33 rfl ?_
        exact tt_iret (pc := 37) E hr hlk dX2_faultOfPlay_37 (Nat.le_of_ble_eq_true rfl) (Nat.le_of_ble_eq_true rfl) (pv hf)
      · have hf := ip c_6 hf
        refine tt_aload_n (pc := 20) (i := 0) (j := 0) E dX2_faultOfPlay_20 rfl rfl ?_
        refine tt_getI (pc := 21) E lfX2_34 rfl h0 dX2_faultOfPlay_21 ?_
        refine tt_iload_n (pc := 24) (i := 1) (j := 1) E dX2_faultOfPlay_24 rfl rfl ?_
        refine tt_iadd (pc := 25) E dX2_faultOfPlay_25 ?_
        refine tt_sipush (pc := 26) (v := 9999) E dX2_faultOfPlay_26 sc_9999 ?_
        refine tt_icmp_le (pc := 29) (tgt := 36) E dX2_faultOfPlay_29 rfl (fun c_5 => ?_) (fun c_5 => ?_)
        · have hf := ip c_5 hf
          refine tt_iconst (pc := 36) (v := 0) E dX2_faultOfPlay_36 ic_0 ?_
          exact tt_iret (pc := 37) E hr hlk dX2_faultOfPlay_37 (Nat.le_of_ble_eq_true rfl) (Nat.le_of_ble_eq_true rfl) (pv hf)
        · have hf := ine c_5 hf
          refine tt_iconst (pc := 32) (v := 2) E dX2_faultOfPlay_32 ic_2 ?_
          refine tt_goto (pc := 33) (tgt := 37) E dX2_faultOfPlay_33 rfl ?_
          exact tt_iret (pc := 37) E hr hlk dX2_faultOfPlay_37 (Nat.le_of_ble_eq_true rfl) (Nat.le_of_ble_eq_true rfl) (pv hf)
    · have hf := ine c_7 hf
      refine tt_iconst (pc := 11) (v := 1) E dX2_faultOfPlay_11 ic_1 ?_
      exact tt_iret (pc := 12) E hr hlk dX2_faultOfPlay_12 (Nat.le_of_ble_eq_true rfl) (Nat.le_of_ble_eq_true rfl) (pv hf)
set_option maxHeartbeats 4000000 in
theorem cX3_faultOfShift_ok {l : Launch} {B : Nat} {D : va_G} {cT : Nat → ClassId} {n : Nat} {adK adV : Nat → Nat} {o0 : Nat} {v1 : Int32} {μ : Mem} {res : Int32} (h0 : isK n o0 2) (hf : fX3_faultOfShift o0 v1 μ = some res) : MI l yX3_faultOfShift cX3_faultOfShift 2 (some .int) rmX3_faultOfShift B D cT (XW B adK adV) n [.ref (B + o0), .int v1] μ (res, μ) := by
  refine tt_ofW mtX3_faultOfShift.1 (Nat.le_of_ble_eq_true rfl) rfl ?_
  intro p e s m below meth c E0 hr hlk
  have E : EE p s m _ c cX3_faultOfShift 2 RX3 B D cT (XW B adK adV) := E0
  unfold fX3_faultOfShift at hf
  refine tt_iload_n (pc := 0) (i := 1) (j := 1) E dX3_faultOfShift_0 rfl rfl ?_
  refine tt_iconst (pc := 1) (v := 1) E dX3_faultOfShift_1 ic_1 ?_
  refine tt_icmp_lt (pc := 2) (tgt := 12) E dX3_faultOfShift_2 rfl (fun c_3 => ?_) (fun c_3 => ?_)
  · have hf := ip c_3 hf
    refine tt_iconst (pc := 12) (v := 1) E dX3_faultOfShift_12 ic_1 ?_
    exact tt_iret (pc := 13) E hr hlk dX3_faultOfShift_13 (Nat.le_of_ble_eq_true rfl) (Nat.le_of_ble_eq_true rfl) (pv hf)
  · have hf := ine c_3 hf
    refine tt_iload_n (pc := 5) (i := 1) (j := 1) E dX3_faultOfShift_5 rfl rfl ?_
    refine tt_sipush (pc := 6) (v := 999) E dX3_faultOfShift_6 sc_999 ?_
    refine tt_icmp_le (pc := 9) (tgt := 14) E dX3_faultOfShift_9 rfl (fun c_2 => ?_) (fun c_2 => ?_)
    · have hf := ip c_2 hf
      refine tt_aload_n (pc := 14) (i := 0) (j := 0) E dX3_faultOfShift_14 rfl rfl ?_
      refine tt_getI (pc := 15) E lfX3_32 rfl h0 dX3_faultOfShift_15 ?_
      refine tt_if_le (pc := 18) (tgt := 25) E dX3_faultOfShift_18 rfl (fun c_1 => ?_) (fun c_1 => ?_)
      · have hf := ip c_1 hf
        refine tt_iconst (pc := 25) (v := 2) E dX3_faultOfShift_25 ic_2 ?_
        exact tt_iret (pc := 26) E hr hlk dX3_faultOfShift_26 (Nat.le_of_ble_eq_true rfl) (Nat.le_of_ble_eq_true rfl) (pv hf)
      · have hf := ine c_1 hf
        refine tt_iconst (pc := 21) (v := 0) E dX3_faultOfShift_21 ic_0 ?_
        refine tt_goto (pc := 22) (tgt := 26) E dX3_faultOfShift_22 rfl ?_
        exact tt_iret (pc := 26) E hr hlk dX3_faultOfShift_26 (Nat.le_of_ble_eq_true rfl) (Nat.le_of_ble_eq_true rfl) (pv hf)
    · have hf := ine c_2 hf
      refine tt_iconst (pc := 12) (v := 1) E dX3_faultOfShift_12 ic_1 ?_
      exact tt_iret (pc := 13) E hr hlk dX3_faultOfShift_13 (Nat.le_of_ble_eq_true rfl) (Nat.le_of_ble_eq_true rfl) (pv hf)
set_option maxHeartbeats 4000000 in
theorem cX3_faultOfExtra_ok {l : Launch} {B : Nat} {D : va_G} {cT : Nat → ClassId} {n : Nat} {adK adV : Nat → Nat} {o0 : Nat} {μ : Mem} {res : Int32} (h0 : isK n o0 2) (hf : fX3_faultOfExtra o0 μ = some res) : MI l yX3_faultOfExtra cX3_faultOfExtra 1 (some .int) rmX3_faultOfExtra B D cT (XW B adK adV) n [.ref (B + o0)] μ (res, μ) := by
  refine tt_ofW mtX3_faultOfExtra.1 (Nat.le_of_ble_eq_true rfl) rfl ?_
  intro p e s m below meth c E0 hr hlk
  have E : EE p s m _ c cX3_faultOfExtra 1 RX3 B D cT (XW B adK adV) := E0
  unfold fX3_faultOfExtra at hf
  refine tt_aload_n (pc := 0) (i := 0) (j := 0) E dX3_faultOfExtra_0 rfl rfl ?_
  refine tt_getI (pc := 1) E lfX3_32 rfl h0 dX3_faultOfExtra_1 ?_
  refine tt_if_le (pc := 4) (tgt := 11) E dX3_faultOfExtra_4 rfl (fun c_1 => ?_) (fun c_1 => ?_)
  · have hf := ip c_1 hf
    refine tt_iconst (pc := 11) (v := 2) E dX3_faultOfExtra_11 ic_2 ?_
    exact tt_iret (pc := 12) E hr hlk dX3_faultOfExtra_12 (Nat.le_of_ble_eq_true rfl) (Nat.le_of_ble_eq_true rfl) (pv hf)
  · have hf := ine c_1 hf
    refine tt_iconst (pc := 7) (v := 0) E dX3_faultOfExtra_7 ic_0 ?_
    refine tt_goto (pc := 8) (tgt := 12) E dX3_faultOfExtra_8 rfl ?_
    exact tt_iret (pc := 12) E hr hlk dX3_faultOfExtra_12 (Nat.le_of_ble_eq_true rfl) (Nat.le_of_ble_eq_true rfl) (pv hf)
set_option maxHeartbeats 4000000 in
theorem cX3_faultOfSpeed_ok {l : Launch} {B : Nat} {D : va_G} {cT : Nat → ClassId} {n : Nat} {adK adV : Nat → Nat} {o0 : Nat} {v1 : Int32} {μ : Mem} {res : Int32} (h0 : isK n o0 2) (hf : fX3_faultOfSpeed o0 v1 μ = some res) : MI l yX3_faultOfSpeed cX3_faultOfSpeed 2 (some .int) rmX3_faultOfSpeed B D cT (XW B adK adV) n [.ref (B + o0), .int v1] μ (res, μ) := by
  refine tt_ofW mtX3_faultOfSpeed.1 (Nat.le_of_ble_eq_true rfl) rfl ?_
  intro p e s m below meth c E0 hr hlk
  have E : EE p s m _ c cX3_faultOfSpeed 2 RX3 B D cT (XW B adK adV) := E0
  unfold fX3_faultOfSpeed at hf
  refine tt_iload_n (pc := 0) (i := 1) (j := 1) E dX3_faultOfSpeed_0 rfl rfl ?_
  refine tt_iconst (pc := 1) (v := 1) E dX3_faultOfSpeed_1 ic_1 ?_
  refine tt_icmp_lt (pc := 2) (tgt := 15) E dX3_faultOfSpeed_2 rfl (fun c_2 => ?_) (fun c_2 => ?_)
  · have hf := ip c_2 hf
    refine tt_iconst (pc := 15) (v := 1) E dX3_faultOfSpeed_15 ic_1 ?_
    exact tt_iret (pc := 16) E hr hlk dX3_faultOfSpeed_16 (Nat.le_of_ble_eq_true rfl) (Nat.le_of_ble_eq_true rfl) (pv hf)
  · have hf := ine c_2 hf
    refine tt_iload_n (pc := 5) (i := 1) (j := 1) E dX3_faultOfSpeed_5 rfl rfl ?_
    refine tt_bipush (pc := 6) (v := 99) E dX3_faultOfSpeed_6 bc_99 ?_
    refine tt_icmp_gt (pc := 8) (tgt := 15) E dX3_faultOfSpeed_8 rfl (fun c_1 => ?_) (fun c_1 => ?_)
    · have hf := ip c_1 hf
      refine tt_iconst (pc := 15) (v := 1) E dX3_faultOfSpeed_15 ic_1 ?_
      exact tt_iret (pc := 16) E hr hlk dX3_faultOfSpeed_16 (Nat.le_of_ble_eq_true rfl) (Nat.le_of_ble_eq_true rfl) (pv hf)
    · have hf := ine c_1 hf
      refine tt_iconst (pc := 11) (v := 0) E dX3_faultOfSpeed_11 ic_0 ?_
      refine tt_goto (pc := 12) (tgt := 16) E dX3_faultOfSpeed_12 rfl ?_
      exact tt_iret (pc := 16) E hr hlk dX3_faultOfSpeed_16 (Nat.le_of_ble_eq_true rfl) (Nat.le_of_ble_eq_true rfl) (pv hf)
set_option maxHeartbeats 4000000 in
theorem cX3_faultOfHeal_ok {l : Launch} {B : Nat} {D : va_G} {cT : Nat → ClassId} {n : Nat} {adK adV : Nat → Nat} {o0 : Nat} {v1 : Int32} {μ : Mem} {res : Int32} (h0 : isK n o0 2) (hf : fX3_faultOfHeal o0 v1 μ = some res) : MI l yX3_faultOfHeal cX3_faultOfHeal 2 (some .int) rmX3_faultOfHeal B D cT (XW B adK adV) n [.ref (B + o0), .int v1] μ (res, μ) := by
  refine tt_ofW mtX3_faultOfHeal.1 (Nat.le_of_ble_eq_true rfl) rfl ?_
  intro p e s m below meth c E0 hr hlk
  have E : EE p s m _ c cX3_faultOfHeal 2 RX3 B D cT (XW B adK adV) := E0
  unfold fX3_faultOfHeal at hf
  refine tt_iload_n (pc := 0) (i := 1) (j := 1) E dX3_faultOfHeal_0 rfl rfl ?_
  refine tt_iconst (pc := 1) (v := 1) E dX3_faultOfHeal_1 ic_1 ?_
  refine tt_icmp_lt (pc := 2) (tgt := 16) E dX3_faultOfHeal_2 rfl (fun c_2 => ?_) (fun c_2 => ?_)
  · have hf := ip c_2 hf
    refine tt_iconst (pc := 16) (v := 1) E dX3_faultOfHeal_16 ic_1 ?_
    exact tt_iret (pc := 17) E hr hlk dX3_faultOfHeal_17 (Nat.le_of_ble_eq_true rfl) (Nat.le_of_ble_eq_true rfl) (pv hf)
  · have hf := ine c_2 hf
    refine tt_iload_n (pc := 5) (i := 1) (j := 1) E dX3_faultOfHeal_5 rfl rfl ?_
    refine tt_sipush (pc := 6) (v := 999) E dX3_faultOfHeal_6 sc_999 ?_
    refine tt_icmp_gt (pc := 9) (tgt := 16) E dX3_faultOfHeal_9 rfl (fun c_1 => ?_) (fun c_1 => ?_)
    · have hf := ip c_1 hf
      refine tt_iconst (pc := 16) (v := 1) E dX3_faultOfHeal_16 ic_1 ?_
      exact tt_iret (pc := 17) E hr hlk dX3_faultOfHeal_17 (Nat.le_of_ble_eq_true rfl) (Nat.le_of_ble_eq_true rfl) (pv hf)
    · have hf := ine c_1 hf
      refine tt_iconst (pc := 12) (v := 0) E dX3_faultOfHeal_12 ic_0 ?_
      refine tt_goto (pc := 13) (tgt := 17) E dX3_faultOfHeal_13 rfl ?_
      exact tt_iret (pc := 17) E hr hlk dX3_faultOfHeal_17 (Nat.le_of_ble_eq_true rfl) (Nat.le_of_ble_eq_true rfl) (pv hf)
set_option maxHeartbeats 4000000 in
theorem cX2_faultOfWheel_ok {l : Launch} {B : Nat} {D : va_G} {cT : Nat → ClassId} {n : Nat} {adK adV : Nat → Nat} {o0 : Nat} {v1 : Int32} {μ : Mem} {res : Int32} (h0 : isK n o0 1) (hf : fX2_faultOfWheel o0 v1 μ = some res) : MI l yX2_faultOfWheel cX2_faultOfWheel 2 (some .int) rmX2_faultOfWheel B D cT (XW B adK adV) n [.ref (B + o0), .int v1] μ (res, μ) := by
  refine tt_ofW mtX2_faultOfWheel.1 (Nat.le_of_ble_eq_true rfl) rfl ?_
  intro p e s m below meth c E0 hr hlk
  have E : EE p s m _ c cX2_faultOfWheel 2 RX2 B D cT (XW B adK adV) := E0
  unfold fX2_faultOfWheel at hf
  refine tt_iload_n (pc := 0) (i := 1) (j := 1) E dX2_faultOfWheel_0 rfl rfl ?_
  refine tt_bipush (pc := 1) (v := 100) E dX2_faultOfWheel_1 bc_100 ?_
  refine tt_icmp_lt (pc := 3) (tgt := 17) E dX2_faultOfWheel_3 rfl (fun c_2 => ?_) (fun c_2 => ?_)
  · have hf := ip c_2 hf
    refine tt_iconst (pc := 17) (v := 1) E dX2_faultOfWheel_17 ic_1 ?_
    exact tt_iret (pc := 18) E hr hlk dX2_faultOfWheel_18 (Nat.le_of_ble_eq_true rfl) (Nat.le_of_ble_eq_true rfl) (pv hf)
  · have hf := ine c_2 hf
    refine tt_iload_n (pc := 6) (i := 1) (j := 1) E dX2_faultOfWheel_6 rfl rfl ?_
    refine tt_sipush (pc := 7) (v := 999) E dX2_faultOfWheel_7 sc_999 ?_
    refine tt_icmp_gt (pc := 10) (tgt := 17) E dX2_faultOfWheel_10 rfl (fun c_1 => ?_) (fun c_1 => ?_)
    · have hf := ip c_1 hf
      refine tt_iconst (pc := 17) (v := 1) E dX2_faultOfWheel_17 ic_1 ?_
      exact tt_iret (pc := 18) E hr hlk dX2_faultOfWheel_18 (Nat.le_of_ble_eq_true rfl) (Nat.le_of_ble_eq_true rfl) (pv hf)
    · have hf := ine c_1 hf
      refine tt_iconst (pc := 13) (v := 0) E dX2_faultOfWheel_13 ic_0 ?_
      refine tt_goto (pc := 14) (tgt := 18) E dX2_faultOfWheel_14 rfl ?_
      exact tt_iret (pc := 18) E hr hlk dX2_faultOfWheel_18 (Nat.le_of_ble_eq_true rfl) (Nat.le_of_ble_eq_true rfl) (pv hf)
set_option maxHeartbeats 4000000 in
theorem cX3_hasAct_ok {l : Launch} {B : Nat} {D : va_G} {cT : Nat → ClassId} {n : Nat} {adK adV : Nat → Nat} {o0 : Nat} {v1 : Int32} {μ : Mem} {res : Int32} (h0 : isK n o0 2) (hf : fX3_hasAct o0 v1 μ = some res) : MZ l yX3_hasAct cX3_hasAct 2 (some .boolean) rmX3_hasAct B D cT (XW B adK adV) n [.ref (B + o0), .int v1] μ (res, μ) := by
  refine tt_ofW mtX3_hasAct.1 (Nat.le_of_ble_eq_true rfl) rfl ?_
  intro p e s m below meth c E0 hr hlk
  have E : EE p s m _ c cX3_hasAct 2 RX3 B D cT (XW B adK adV) := E0
  unfold fX3_hasAct at hf
  refine tt_iload_n (pc := 0) (i := 1) (j := 1) E dX3_hasAct_0 rfl rfl ?_
  refine tt_if_lt (pc := 1) (tgt := 22) E dX3_hasAct_1 rfl (fun c_3 => ?_) (fun c_3 => ?_)
  · have hf := ip c_3 hf
    refine tt_iconst (pc := 22) (v := 0) E dX3_hasAct_22 ic_0 ?_
    exact tt_zret (pc := 23) E ((Or.inl rfl)) hr hlk dX3_hasAct_23 (Nat.le_of_ble_eq_true rfl) (Nat.le_of_ble_eq_true rfl) (pv hf)
  · have hf := ine c_3 hf
    refine tt_iload_n (pc := 4) (i := 1) (j := 1) E dX3_hasAct_4 rfl rfl ?_
    refine tt_aload_n (pc := 5) (i := 0) (j := 0) E dX3_hasAct_5 rfl rfl ?_
    refine tt_getI (pc := 6) E lfX3_18 rfl h0 dX3_hasAct_6 ?_
    refine tt_icmp_ge (pc := 9) (tgt := 22) E dX3_hasAct_9 rfl (fun c_2 => ?_) (fun c_2 => ?_)
    · have hf := ip c_2 hf
      refine tt_iconst (pc := 22) (v := 0) E dX3_hasAct_22 ic_0 ?_
      exact tt_zret (pc := 23) E ((Or.inl rfl)) hr hlk dX3_hasAct_23 (Nat.le_of_ble_eq_true rfl) (Nat.le_of_ble_eq_true rfl) (pv hf)
    · have hf := ine c_2 hf
      refine tt_iload_n (pc := 12) (i := 1) (j := 1) E dX3_hasAct_12 rfl rfl ?_
      refine tt_bipush (pc := 13) (v := 6) E dX3_hasAct_13 bc_6 ?_
      refine tt_icmp_ge (pc := 15) (tgt := 22) E dX3_hasAct_15 rfl (fun c_1 => ?_) (fun c_1 => ?_)
      · have hf := ip c_1 hf
        refine tt_iconst (pc := 22) (v := 0) E dX3_hasAct_22 ic_0 ?_
        exact tt_zret (pc := 23) E ((Or.inl rfl)) hr hlk dX3_hasAct_23 (Nat.le_of_ble_eq_true rfl) (Nat.le_of_ble_eq_true rfl) (pv hf)
      · have hf := ine c_1 hf
        refine tt_iconst (pc := 18) (v := 1) E dX3_hasAct_18 ic_1 ?_
        refine tt_goto (pc := 19) (tgt := 23) E dX3_hasAct_19 rfl ?_
        exact tt_zret (pc := 23) E ((Or.inr rfl)) hr hlk dX3_hasAct_23 (Nat.le_of_ble_eq_true rfl) (Nat.le_of_ble_eq_true rfl) (pv hf)
set_option maxHeartbeats 4000000 in
theorem cX3_faultOfAct_ok {l : Launch} {B : Nat} {D : va_G} {cT : Nat → ClassId} {n : Nat} {adK adV : Nat → Nat} {o0 : Nat} {v1 : Int32} {v2 : Int32} {v3 : Int32} {μ : Mem} {res : Int32} (h0 : isK n o0 2) (hf : fX3_faultOfAct o0 v1 v2 v3 μ = some res) : MI l yX3_faultOfAct cX3_faultOfAct 5 (some .int) rmX3_faultOfAct B D cT (XW B adK adV) n [.ref (B + o0), .int v1, .int v2, .int v3] μ (res, μ) := by
  refine tt_ofW mtX3_faultOfAct.1 (Nat.le_of_ble_eq_true rfl) rfl ?_
  intro p e s m below meth c E0 hr hlk
  have E : EE p s m _ c cX3_faultOfAct 5 RX3 B D cT (XW B adK adV) := E0
  unfold fX3_faultOfAct at hf
  refine tt_aload_n (pc := 0) (i := 0) (j := 0) E dX3_faultOfAct_0 rfl rfl ?_
  refine tt_iload_n (pc := 1) (i := 1) (j := 1) E dX3_faultOfAct_1 rfl rfl ?_
  obtain ⟨r_1, hr_2, hf⟩ := bd_some hf
  have hc_3 := cX3_hasAct_ok (l := l) (B := B) (D := D) (cT := cT) (n := n) (adK := adK) (adV := adV) h0 hr_2
  refine tt_cZ (pc := 2) (tt_vi E lmX3_66 mtX3_hasAct hc_3 h0 rfl rfl (Nat.le_of_ble_eq_true rfl) ⟨(Nat.le_of_ble_eq_true rfl), (Nat.le_of_ble_eq_true rfl)⟩ ⟨(Nat.le_of_ble_eq_true rfl), (Nat.le_of_ble_eq_true rfl)⟩ dX3_faultOfAct_2) (fun z_4 => ?_)
  refine tt_if_eq (pc := 5) (tgt := 35) E dX3_faultOfAct_5 rfl (fun c_18 => ?_) (fun c_18 => ?_)
  · have hf := ip c_18 hf
    refine tt_iconst (pc := 35) (v := 0) E dX3_faultOfAct_35 ic_0 ?_
    refine tt_istore (pc := 36) (i := 4) (lv' := [(4, .int 0), (0, .ref (B + o0)), (1, .int v1), (2, .int v2), (3, .int v3)]) E dX3_faultOfAct_36 (Nat.le_of_ble_eq_true rfl) rfl ?_
    refine tt_iload (pc := 38) (i := 4) (j := 0) E dX3_faultOfAct_38 rfl ?_
    refine tt_if_eq (pc := 40) (tgt := 47) E dX3_faultOfAct_40 rfl (fun c_5 => ?_) (fun c_5 => ?_)
    · have hf := ip c_5 hf
      refine tt_iconst (pc := 47) (v := 1) E dX3_faultOfAct_47 ic_1 ?_
      exact tt_iret (pc := 48) E hr hlk dX3_faultOfAct_48 (Nat.le_of_ble_eq_true rfl) (Nat.le_of_ble_eq_true rfl) (pv hf)
    · have hf := ine c_5 hf
      refine tt_iconst (pc := 43) (v := 0) E dX3_faultOfAct_43 ic_0 ?_
      refine tt_goto (pc := 44) (tgt := 48) E dX3_faultOfAct_44 rfl ?_
      exact tt_iret (pc := 48) E hr hlk dX3_faultOfAct_48 (Nat.le_of_ble_eq_true rfl) (Nat.le_of_ble_eq_true rfl) (pv hf)
  · have hf := ine c_18 hf
    refine tt_iload_n (pc := 8) (i := 2) (j := 2) E dX3_faultOfAct_8 rfl rfl ?_
    refine tt_if_lt (pc := 9) (tgt := 35) E dX3_faultOfAct_9 rfl (fun c_17 => ?_) (fun c_17 => ?_)
    · have hf := ip c_17 hf
      refine tt_iconst (pc := 35) (v := 0) E dX3_faultOfAct_35 ic_0 ?_
      refine tt_istore (pc := 36) (i := 4) (lv' := [(4, .int 0), (0, .ref (B + o0)), (1, .int v1), (2, .int v2), (3, .int v3)]) E dX3_faultOfAct_36 (Nat.le_of_ble_eq_true rfl) rfl ?_
      refine tt_iload (pc := 38) (i := 4) (j := 0) E dX3_faultOfAct_38 rfl ?_
      refine tt_if_eq (pc := 40) (tgt := 47) E dX3_faultOfAct_40 rfl (fun c_6 => ?_) (fun c_6 => ?_)
      · have hf := ip c_6 hf
        refine tt_iconst (pc := 47) (v := 1) E dX3_faultOfAct_47 ic_1 ?_
        exact tt_iret (pc := 48) E hr hlk dX3_faultOfAct_48 (Nat.le_of_ble_eq_true rfl) (Nat.le_of_ble_eq_true rfl) (pv hf)
      · have hf := ine c_6 hf
        refine tt_iconst (pc := 43) (v := 0) E dX3_faultOfAct_43 ic_0 ?_
        refine tt_goto (pc := 44) (tgt := 48) E dX3_faultOfAct_44 rfl ?_
        exact tt_iret (pc := 48) E hr hlk dX3_faultOfAct_48 (Nat.le_of_ble_eq_true rfl) (Nat.le_of_ble_eq_true rfl) (pv hf)
    · have hf := ine c_17 hf
      refine tt_iload_n (pc := 12) (i := 2) (j := 2) E dX3_faultOfAct_12 rfl rfl ?_
      refine tt_bipush (pc := 13) (v := 7) E dX3_faultOfAct_13 bc_7 ?_
      refine tt_icmp_ge (pc := 15) (tgt := 35) E dX3_faultOfAct_15 rfl (fun c_16 => ?_) (fun c_16 => ?_)
      · have hf := ip c_16 hf
        refine tt_iconst (pc := 35) (v := 0) E dX3_faultOfAct_35 ic_0 ?_
        refine tt_istore (pc := 36) (i := 4) (lv' := [(4, .int 0), (0, .ref (B + o0)), (1, .int v1), (2, .int v2), (3, .int v3)]) E dX3_faultOfAct_36 (Nat.le_of_ble_eq_true rfl) rfl ?_
        refine tt_iload (pc := 38) (i := 4) (j := 0) E dX3_faultOfAct_38 rfl ?_
        refine tt_if_eq (pc := 40) (tgt := 47) E dX3_faultOfAct_40 rfl (fun c_7 => ?_) (fun c_7 => ?_)
        · have hf := ip c_7 hf
          refine tt_iconst (pc := 47) (v := 1) E dX3_faultOfAct_47 ic_1 ?_
          exact tt_iret (pc := 48) E hr hlk dX3_faultOfAct_48 (Nat.le_of_ble_eq_true rfl) (Nat.le_of_ble_eq_true rfl) (pv hf)
        · have hf := ine c_7 hf
          refine tt_iconst (pc := 43) (v := 0) E dX3_faultOfAct_43 ic_0 ?_
          refine tt_goto (pc := 44) (tgt := 48) E dX3_faultOfAct_44 rfl ?_
          exact tt_iret (pc := 48) E hr hlk dX3_faultOfAct_48 (Nat.le_of_ble_eq_true rfl) (Nat.le_of_ble_eq_true rfl) (pv hf)
      · have hf := ine c_16 hf
        refine tt_iload_n (pc := 18) (i := 3) (j := 3) E dX3_faultOfAct_18 rfl rfl ?_
        refine tt_iconst (pc := 19) (v := 1) E dX3_faultOfAct_19 ic_1 ?_
        refine tt_icmp_lt (pc := 20) (tgt := 35) E dX3_faultOfAct_20 rfl (fun c_15 => ?_) (fun c_15 => ?_)
        · have hf := ip c_15 hf
          refine tt_iconst (pc := 35) (v := 0) E dX3_faultOfAct_35 ic_0 ?_
          refine tt_istore (pc := 36) (i := 4) (lv' := [(4, .int 0), (0, .ref (B + o0)), (1, .int v1), (2, .int v2), (3, .int v3)]) E dX3_faultOfAct_36 (Nat.le_of_ble_eq_true rfl) rfl ?_
          refine tt_iload (pc := 38) (i := 4) (j := 0) E dX3_faultOfAct_38 rfl ?_
          refine tt_if_eq (pc := 40) (tgt := 47) E dX3_faultOfAct_40 rfl (fun c_8 => ?_) (fun c_8 => ?_)
          · have hf := ip c_8 hf
            refine tt_iconst (pc := 47) (v := 1) E dX3_faultOfAct_47 ic_1 ?_
            exact tt_iret (pc := 48) E hr hlk dX3_faultOfAct_48 (Nat.le_of_ble_eq_true rfl) (Nat.le_of_ble_eq_true rfl) (pv hf)
          · have hf := ine c_8 hf
            refine tt_iconst (pc := 43) (v := 0) E dX3_faultOfAct_43 ic_0 ?_
            refine tt_goto (pc := 44) (tgt := 48) E dX3_faultOfAct_44 rfl ?_
            exact tt_iret (pc := 48) E hr hlk dX3_faultOfAct_48 (Nat.le_of_ble_eq_true rfl) (Nat.le_of_ble_eq_true rfl) (pv hf)
        · have hf := ine c_15 hf
          refine tt_iload_n (pc := 23) (i := 3) (j := 3) E dX3_faultOfAct_23 rfl rfl ?_
          refine tt_iload_n (pc := 24) (i := 2) (j := 2) E dX3_faultOfAct_24 rfl rfl ?_
          obtain ⟨r_9, hr_10, hf⟩ := bd_some hf
          have hc_11 := cX0_mostOf_ok (l := l) (B := B) (D := D) (cT := cT) (n := n) (adK := adK) (adV := adV) hr_10
          refine tt_cI (pc := 25) (tt_si E lmX3_85 mtX0_mostOf hc_11 rfl rfl (Nat.le_of_ble_eq_true rfl) ⟨(Nat.le_of_ble_eq_true rfl), (Nat.le_of_ble_eq_true rfl)⟩ ⟨(Nat.le_of_ble_eq_true rfl), (Nat.le_of_ble_eq_true rfl)⟩ dX3_faultOfAct_25) ?_
          refine tt_icmp_gt (pc := 28) (tgt := 35) E dX3_faultOfAct_28 rfl (fun c_14 => ?_) (fun c_14 => ?_)
          · have hf := ip c_14 hf
            refine tt_iconst (pc := 35) (v := 0) E dX3_faultOfAct_35 ic_0 ?_
            refine tt_istore (pc := 36) (i := 4) (lv' := [(4, .int 0), (0, .ref (B + o0)), (1, .int v1), (2, .int v2), (3, .int v3)]) E dX3_faultOfAct_36 (Nat.le_of_ble_eq_true rfl) rfl ?_
            refine tt_iload (pc := 38) (i := 4) (j := 0) E dX3_faultOfAct_38 rfl ?_
            refine tt_if_eq (pc := 40) (tgt := 47) E dX3_faultOfAct_40 rfl (fun c_12 => ?_) (fun c_12 => ?_)
            · have hf := ip c_12 hf
              refine tt_iconst (pc := 47) (v := 1) E dX3_faultOfAct_47 ic_1 ?_
              exact tt_iret (pc := 48) E hr hlk dX3_faultOfAct_48 (Nat.le_of_ble_eq_true rfl) (Nat.le_of_ble_eq_true rfl) (pv hf)
            · have hf := ine c_12 hf
              refine tt_iconst (pc := 43) (v := 0) E dX3_faultOfAct_43 ic_0 ?_
              refine tt_goto (pc := 44) (tgt := 48) E dX3_faultOfAct_44 rfl ?_
              exact tt_iret (pc := 48) E hr hlk dX3_faultOfAct_48 (Nat.le_of_ble_eq_true rfl) (Nat.le_of_ble_eq_true rfl) (pv hf)
          · have hf := ine c_14 hf
            refine tt_iconst (pc := 31) (v := 1) E dX3_faultOfAct_31 ic_1 ?_
            refine tt_goto (pc := 32) (tgt := 36) E dX3_faultOfAct_32 rfl ?_
            refine tt_istore (pc := 36) (i := 4) (lv' := [(4, .int 1), (0, .ref (B + o0)), (1, .int v1), (2, .int v2), (3, .int v3)]) E dX3_faultOfAct_36 (Nat.le_of_ble_eq_true rfl) rfl ?_
            refine tt_iload (pc := 38) (i := 4) (j := 0) E dX3_faultOfAct_38 rfl ?_
            refine tt_if_eq (pc := 40) (tgt := 47) E dX3_faultOfAct_40 rfl (fun c_13 => ?_) (fun c_13 => ?_)
            · have hf := ip c_13 hf
              refine tt_iconst (pc := 47) (v := 1) E dX3_faultOfAct_47 ic_1 ?_
              exact tt_iret (pc := 48) E hr hlk dX3_faultOfAct_48 (Nat.le_of_ble_eq_true rfl) (Nat.le_of_ble_eq_true rfl) (pv hf)
            · have hf := ine c_13 hf
              refine tt_iconst (pc := 43) (v := 0) E dX3_faultOfAct_43 ic_0 ?_
              refine tt_goto (pc := 44) (tgt := 48) E dX3_faultOfAct_44 rfl ?_
              exact tt_iret (pc := 48) E hr hlk dX3_faultOfAct_48 (Nat.le_of_ble_eq_true rfl) (Nat.le_of_ble_eq_true rfl) (pv hf)
set_option maxHeartbeats 4000000 in
theorem cX1_faultOn_ok {l : Launch} {B : Nat} {D : va_G} {cT : Nat → ClassId} {n : Nat} {adK adV : Nat → Nat} {o0 : Nat} {o1 : Nat} {μ : Mem} {res : Int32} (h0 : isK n o0 0) (h1 : isK n o1 1) (hf : fX1_faultOn o0 o1 μ = some res) : MI l yX1_faultOn cX1_faultOn 3 (some .int) rmX1_faultOn B D cT (XW B adK adV) n [.ref (B + o0), .ref (B + o1)] μ (res, μ) := by
  refine tt_ofW mtX1_faultOn.1 (Nat.le_of_ble_eq_true rfl) rfl ?_
  intro p e s m below meth c E0 hr hlk
  have E : EE p s m _ c cX1_faultOn 3 RX1 B D cT (XW B adK adV) := E0
  unfold fX1_faultOn at hf
  refine tt_aload_n (pc := 0) (i := 1) (j := 1) E dX1_faultOn_0 rfl rfl ?_
  refine tt_aload_n (pc := 1) (i := 0) (j := 0) E dX1_faultOn_1 rfl rfl ?_
  refine tt_getI (pc := 2) E lfX1_15 rfl h0 dX1_faultOn_2 ?_
  obtain ⟨r_1, hr_2, hf⟩ := bd_some hf
  have hc_3 := cX2_at_ok (l := l) (B := B) (D := D) (cT := cT) (n := n) (adK := adK) (adV := adV) h1 hr_2
  refine tt_cP (pc := 5) (tt_vi E lmX1_50 mtX2_at hc_3 h1 rfl rfl (Nat.le_of_ble_eq_true rfl) ⟨(Nat.le_of_ble_eq_true rfl), (Nat.le_of_ble_eq_true rfl)⟩ ⟨(Nat.le_of_ble_eq_true rfl), (Nat.le_of_ble_eq_true rfl)⟩ dX1_faultOn_5) (fun kq_4 => ?_)
  refine tt_astore_n (pc := 8) (i := 2) (lv' := [(2, .ref (B + r_1)), (0, .ref (B + o0)), (1, .ref (B + o1))]) E dX1_faultOn_8 rfl (Nat.le_of_ble_eq_true rfl) rfl ?_
  refine tt_aload_n (pc := 9) (i := 0) (j := 1) E dX1_faultOn_9 rfl rfl ?_
  refine tt_getI (pc := 10) E lfX1_9 rfl h0 dX1_faultOn_10 ?_
  by_cases s13_0 : (ldI μ o0 0) = 0
  · have hf := ip s13_0 hf
    refine tt_swIn (pc := 13) (tgt := 60) E dX1_faultOn_13 (sw1 s13_0 (by decide)) (sw2 s13_0 (by decide)) (sw3 s13_0 rfl) rfl ?_
    refine tt_aload_n (pc := 60) (i := 1) (j := 2) E dX1_faultOn_60 rfl rfl ?_
    refine tt_aload_n (pc := 61) (i := 0) (j := 1) E dX1_faultOn_61 rfl rfl ?_
    refine tt_getI (pc := 62) E lfX1_18 rfl h0 dX1_faultOn_62 ?_
    obtain ⟨r_27, hr_28, hf⟩ := bd_some hf
    have hc_29 := cX2_faultOfPlay_ok (l := l) (B := B) (D := D) (cT := cT) (n := n) (adK := adK) (adV := adV) h1 hr_28
    refine tt_cI (pc := 65) (tt_vi E lmX1_56 mtX2_faultOfPlay hc_29 h1 rfl rfl (Nat.le_of_ble_eq_true rfl) ⟨(Nat.le_of_ble_eq_true rfl), (Nat.le_of_ble_eq_true rfl)⟩ ⟨(Nat.le_of_ble_eq_true rfl), (Nat.le_of_ble_eq_true rfl)⟩ dX1_faultOn_65) ?_
    exact tt_iret (pc := 68) E hr hlk dX1_faultOn_68 (Nat.le_of_ble_eq_true rfl) (Nat.le_of_ble_eq_true rfl) (pv hf)
  have hf := ine s13_0 hf
  by_cases s13_1 : (ldI μ o0 0) = 1
  · have hf := ip s13_1 hf
    refine tt_swIn (pc := 13) (tgt := 69) E dX1_faultOn_13 (sw1 s13_1 (by decide)) (sw2 s13_1 (by decide)) (sw3 s13_1 rfl) rfl ?_
    refine tt_aload_n (pc := 69) (i := 2) (j := 0) E dX1_faultOn_69 rfl rfl ?_
    refine tt_aload_n (pc := 70) (i := 0) (j := 1) E dX1_faultOn_70 rfl rfl ?_
    refine tt_getI (pc := 71) E lfX1_18 rfl h0 dX1_faultOn_71 ?_
    obtain ⟨r_24, hr_25, hf⟩ := bd_some hf
    have hc_26 := cX3_faultOfShift_ok (l := l) (B := B) (D := D) (cT := cT) (n := n) (adK := adK) (adV := adV) kq_4 hr_25
    refine tt_cI (pc := 74) (tt_vi E lmX1_60 mtX3_faultOfShift hc_26 kq_4 rfl rfl (Nat.le_of_ble_eq_true rfl) ⟨(Nat.le_of_ble_eq_true rfl), (Nat.le_of_ble_eq_true rfl)⟩ ⟨(Nat.le_of_ble_eq_true rfl), (Nat.le_of_ble_eq_true rfl)⟩ dX1_faultOn_74) ?_
    exact tt_iret (pc := 77) E hr hlk dX1_faultOn_77 (Nat.le_of_ble_eq_true rfl) (Nat.le_of_ble_eq_true rfl) (pv hf)
  have hf := ine s13_1 hf
  by_cases s13_2 : (ldI μ o0 0) = 2
  · have hf := ip s13_2 hf
    refine tt_swIn (pc := 13) (tgt := 69) E dX1_faultOn_13 (sw1 s13_2 (by decide)) (sw2 s13_2 (by decide)) (sw3 s13_2 rfl) rfl ?_
    refine tt_aload_n (pc := 69) (i := 2) (j := 0) E dX1_faultOn_69 rfl rfl ?_
    refine tt_aload_n (pc := 70) (i := 0) (j := 1) E dX1_faultOn_70 rfl rfl ?_
    refine tt_getI (pc := 71) E lfX1_18 rfl h0 dX1_faultOn_71 ?_
    obtain ⟨r_21, hr_22, hf⟩ := bd_some hf
    have hc_23 := cX3_faultOfShift_ok (l := l) (B := B) (D := D) (cT := cT) (n := n) (adK := adK) (adV := adV) kq_4 hr_22
    refine tt_cI (pc := 74) (tt_vi E lmX1_60 mtX3_faultOfShift hc_23 kq_4 rfl rfl (Nat.le_of_ble_eq_true rfl) ⟨(Nat.le_of_ble_eq_true rfl), (Nat.le_of_ble_eq_true rfl)⟩ ⟨(Nat.le_of_ble_eq_true rfl), (Nat.le_of_ble_eq_true rfl)⟩ dX1_faultOn_74) ?_
    exact tt_iret (pc := 77) E hr hlk dX1_faultOn_77 (Nat.le_of_ble_eq_true rfl) (Nat.le_of_ble_eq_true rfl) (pv hf)
  have hf := ine s13_2 hf
  by_cases s13_3 : (ldI μ o0 0) = 3
  · have hf := ip s13_3 hf
    refine tt_swIn (pc := 13) (tgt := 78) E dX1_faultOn_13 (sw1 s13_3 (by decide)) (sw2 s13_3 (by decide)) (sw3 s13_3 rfl) rfl ?_
    refine tt_aload_n (pc := 78) (i := 2) (j := 0) E dX1_faultOn_78 rfl rfl ?_
    refine tt_getI (pc := 79) E lfX1_65 rfl kq_4 dX1_faultOn_79 ?_
    refine tt_iconst (pc := 82) (v := 3) E dX1_faultOn_82 ic_3 ?_
    refine tt_icmp_lt (pc := 83) (tgt := 90) E dX1_faultOn_83 rfl (fun c_20 => ?_) (fun c_20 => ?_)
    · have hf := ip c_20 hf
      refine tt_aload_n (pc := 90) (i := 2) (j := 0) E dX1_faultOn_90 rfl rfl ?_
      obtain ⟨r_17, hr_18, hf⟩ := bd_some hf
      have hc_19 := cX3_faultOfExtra_ok (l := l) (B := B) (D := D) (cT := cT) (n := n) (adK := adK) (adV := adV) kq_4 hr_18
      refine tt_cI (pc := 91) (tt_vi E lmX1_68 mtX3_faultOfExtra hc_19 kq_4 rfl rfl (Nat.le_of_ble_eq_true rfl) ⟨(Nat.le_of_ble_eq_true rfl), (Nat.le_of_ble_eq_true rfl)⟩ ⟨(Nat.le_of_ble_eq_true rfl), (Nat.le_of_ble_eq_true rfl)⟩ dX1_faultOn_91) ?_
      exact tt_iret (pc := 94) E hr hlk dX1_faultOn_94 (Nat.le_of_ble_eq_true rfl) (Nat.le_of_ble_eq_true rfl) (pv hf)
    · have hf := ine c_20 hf
      refine tt_iconst (pc := 86) (v := 2) E dX1_faultOn_86 ic_2 ?_
      refine tt_goto (pc := 87) (tgt := 94) E dX1_faultOn_87 rfl ?_
      exact tt_iret (pc := 94) E hr hlk dX1_faultOn_94 (Nat.le_of_ble_eq_true rfl) (Nat.le_of_ble_eq_true rfl) (pv hf)
  have hf := ine s13_3 hf
  by_cases s13_4 : (ldI μ o0 0) = 4
  · have hf := ip s13_4 hf
    refine tt_swIn (pc := 13) (tgt := 95) E dX1_faultOn_13 (sw1 s13_4 (by decide)) (sw2 s13_4 (by decide)) (sw3 s13_4 rfl) rfl ?_
    refine tt_aload_n (pc := 95) (i := 2) (j := 0) E dX1_faultOn_95 rfl rfl ?_
    refine tt_aload_n (pc := 96) (i := 0) (j := 1) E dX1_faultOn_96 rfl rfl ?_
    refine tt_getI (pc := 97) E lfX1_18 rfl h0 dX1_faultOn_97 ?_
    obtain ⟨r_14, hr_15, hf⟩ := bd_some hf
    have hc_16 := cX3_faultOfSpeed_ok (l := l) (B := B) (D := D) (cT := cT) (n := n) (adK := adK) (adV := adV) kq_4 hr_15
    refine tt_cI (pc := 100) (tt_vi E lmX1_72 mtX3_faultOfSpeed hc_16 kq_4 rfl rfl (Nat.le_of_ble_eq_true rfl) ⟨(Nat.le_of_ble_eq_true rfl), (Nat.le_of_ble_eq_true rfl)⟩ ⟨(Nat.le_of_ble_eq_true rfl), (Nat.le_of_ble_eq_true rfl)⟩ dX1_faultOn_100) ?_
    exact tt_iret (pc := 103) E hr hlk dX1_faultOn_103 (Nat.le_of_ble_eq_true rfl) (Nat.le_of_ble_eq_true rfl) (pv hf)
  have hf := ine s13_4 hf
  by_cases s13_5 : (ldI μ o0 0) = 5
  · have hf := ip s13_5 hf
    refine tt_swIn (pc := 13) (tgt := 104) E dX1_faultOn_13 (sw1 s13_5 (by decide)) (sw2 s13_5 (by decide)) (sw3 s13_5 rfl) rfl ?_
    refine tt_aload_n (pc := 104) (i := 2) (j := 0) E dX1_faultOn_104 rfl rfl ?_
    refine tt_aload_n (pc := 105) (i := 0) (j := 1) E dX1_faultOn_105 rfl rfl ?_
    refine tt_getI (pc := 106) E lfX1_18 rfl h0 dX1_faultOn_106 ?_
    obtain ⟨r_11, hr_12, hf⟩ := bd_some hf
    have hc_13 := cX3_faultOfHeal_ok (l := l) (B := B) (D := D) (cT := cT) (n := n) (adK := adK) (adV := adV) kq_4 hr_12
    refine tt_cI (pc := 109) (tt_vi E lmX1_75 mtX3_faultOfHeal hc_13 kq_4 rfl rfl (Nat.le_of_ble_eq_true rfl) ⟨(Nat.le_of_ble_eq_true rfl), (Nat.le_of_ble_eq_true rfl)⟩ ⟨(Nat.le_of_ble_eq_true rfl), (Nat.le_of_ble_eq_true rfl)⟩ dX1_faultOn_109) ?_
    exact tt_iret (pc := 112) E hr hlk dX1_faultOn_112 (Nat.le_of_ble_eq_true rfl) (Nat.le_of_ble_eq_true rfl) (pv hf)
  have hf := ine s13_5 hf
  by_cases s13_6 : (ldI μ o0 0) = 6
  · have hf := ip s13_6 hf
    refine tt_swIn (pc := 13) (tgt := 113) E dX1_faultOn_13 (sw1 s13_6 (by decide)) (sw2 s13_6 (by decide)) (sw3 s13_6 rfl) rfl ?_
    refine tt_aload_n (pc := 113) (i := 1) (j := 2) E dX1_faultOn_113 rfl rfl ?_
    refine tt_aload_n (pc := 114) (i := 0) (j := 1) E dX1_faultOn_114 rfl rfl ?_
    refine tt_getI (pc := 115) E lfX1_18 rfl h0 dX1_faultOn_115 ?_
    obtain ⟨r_8, hr_9, hf⟩ := bd_some hf
    have hc_10 := cX2_faultOfWheel_ok (l := l) (B := B) (D := D) (cT := cT) (n := n) (adK := adK) (adV := adV) h1 hr_9
    refine tt_cI (pc := 118) (tt_vi E lmX1_78 mtX2_faultOfWheel hc_10 h1 rfl rfl (Nat.le_of_ble_eq_true rfl) ⟨(Nat.le_of_ble_eq_true rfl), (Nat.le_of_ble_eq_true rfl)⟩ ⟨(Nat.le_of_ble_eq_true rfl), (Nat.le_of_ble_eq_true rfl)⟩ dX1_faultOn_118) ?_
    exact tt_iret (pc := 121) E hr hlk dX1_faultOn_121 (Nat.le_of_ble_eq_true rfl) (Nat.le_of_ble_eq_true rfl) (pv hf)
  have hf := ine s13_6 hf
  by_cases s13_7 : (ldI μ o0 0) = 7
  · have hf := ip s13_7 hf
    refine tt_swIn (pc := 13) (tgt := 122) E dX1_faultOn_13 (sw1 s13_7 (by decide)) (sw2 s13_7 (by decide)) (sw3 s13_7 rfl) rfl ?_
    refine tt_aload_n (pc := 122) (i := 2) (j := 0) E dX1_faultOn_122 rfl rfl ?_
    refine tt_aload_n (pc := 123) (i := 0) (j := 1) E dX1_faultOn_123 rfl rfl ?_
    refine tt_getI (pc := 124) E lfX1_18 rfl h0 dX1_faultOn_124 ?_
    refine tt_aload_n (pc := 127) (i := 0) (j := 1) E dX1_faultOn_127 rfl rfl ?_
    refine tt_getI (pc := 128) E lfX1_21 rfl h0 dX1_faultOn_128 ?_
    refine tt_aload_n (pc := 131) (i := 0) (j := 1) E dX1_faultOn_131 rfl rfl ?_
    refine tt_getI (pc := 132) E lfX1_24 rfl h0 dX1_faultOn_132 ?_
    obtain ⟨r_5, hr_6, hf⟩ := bd_some hf
    have hc_7 := cX3_faultOfAct_ok (l := l) (B := B) (D := D) (cT := cT) (n := n) (adK := adK) (adV := adV) kq_4 hr_6
    refine tt_cI (pc := 135) (tt_vi E lmX1_81 mtX3_faultOfAct hc_7 kq_4 rfl rfl (Nat.le_of_ble_eq_true rfl) ⟨(Nat.le_of_ble_eq_true rfl), (Nat.le_of_ble_eq_true rfl)⟩ ⟨(Nat.le_of_ble_eq_true rfl), (Nat.le_of_ble_eq_true rfl)⟩ dX1_faultOn_135) ?_
    exact tt_iret (pc := 138) E hr hlk dX1_faultOn_138 (Nat.le_of_ble_eq_true rfl) (Nat.le_of_ble_eq_true rfl) (pv hf)
  have hf := ine s13_7 hf
  refine tt_swOut (pc := 13) (tgt := 139) E dX1_faultOn_13 (sw_out (N := 8) (fun j hj => by
    match j, hj with
    | 0, _ => exact s13_0
    | 1, _ => exact s13_1
    | 2, _ => exact s13_2
    | 3, _ => exact s13_3
    | 4, _ => exact s13_4
    | 5, _ => exact s13_5
    | 6, _ => exact s13_6
    | 7, _ => exact s13_7
    | j + 8, hj => exact absurd hj (by omega))) rfl ?_
  refine tt_iconst (pc := 139) (v := 2) E dX1_faultOn_139 ic_2 ?_
  exact tt_iret (pc := 140) E hr hlk dX1_faultOn_140 (Nat.le_of_ble_eq_true rfl) (Nat.le_of_ble_eq_true rfl) (pv hf)
set_option maxHeartbeats 4000000 in
theorem tX2_firstWithExtra_10 {p : Program} {l : Launch} {e : Env} {s : State} {m : MethodId} {args : Array Value} {below : List Frame} {meth : Method} {c : Code} {B : Nat} {D : va_G} {cT : Nat → ClassId} {n : Nat} {adK adV : Nat → Nat} {res : Nat} (E : EE p s m args c cX2_firstWithExtra 5 RX2 B D cT (XW B adK adV)) (hr : meth.sig.returnType = some (.object "TurnWheel$Fighter")) (hlk : meth.locks = false) {o0 : Nat} {o1 : Nat} {v2 : Int32} (h0 : isK n o0 1) (h1 : isK n o1 15) {μ : Mem} : ∀ (fu : Nat) (v3 : Int32), zl1 (gX2_firstWithExtra_10 o0 o1 v2 μ) fu v3 = some res → TT p l e rmX2_firstWithExtra s m args below meth c (QP 2 B D cT n below args s (res, μ)) 5 B D cT n 0 0 μ 10 [(0, .ref (B + o0)), (1, .ref (B + o1)), (2, .int v2), (3, .int v3)] [] := by
  intro fu
  induction fu with
  | zero => intro v3 hf; exact absurd hf (fun h => by cases h)
  | succ fu ih =>
    intro v3 hf
    have hf : gX2_firstWithExtra_10 o0 o1 v2 μ (zl1 (gX2_firstWithExtra_10 o0 o1 v2 μ) fu) v3 = some res := hf
    unfold gX2_firstWithExtra_10 at hf
    refine tt_iload_n (pc := 10) (i := 3) (j := 3) E dX2_firstWithExtra_10 rfl rfl ?_
    refine tt_iload_n (pc := 11) (i := 2) (j := 2) E dX2_firstWithExtra_11 rfl rfl ?_
    refine tt_icmp_ge (pc := 12) (tgt := 45) E dX2_firstWithExtra_12 rfl (fun c_12 => ?_) (fun c_12 => ?_)
    · have hf := ip c_12 hf
      refine tt_aload_n (pc := 45) (i := 0) (j := 0) E dX2_firstWithExtra_45 rfl rfl ?_
      obtain ⟨q_1, hq_2, hf⟩ := bd_some hf
      refine tt_getP (pc := 46) (t := 2) E lfX2_20 rfl rfl h0 dX2_firstWithExtra_46 hq_2 (fun kq_3 => ?_)
      exact tt_aret (pc := 49) E kq_3 hr hlk dX2_firstWithExtra_49 (Nat.le_of_ble_eq_true rfl) (Nat.le_of_ble_eq_true rfl) (pv hf)
    · have hf := ine c_12 hf
      refine tt_aload_n (pc := 15) (i := 1) (j := 1) E dX2_firstWithExtra_15 rfl rfl ?_
      refine tt_iload_n (pc := 16) (i := 3) (j := 3) E dX2_firstWithExtra_16 rfl rfl ?_
      obtain ⟨g_4, hf⟩ := gd_some hf
      obtain ⟨q_5, hq_6, hf⟩ := bd_some hf
      refine tt_aald15 (pc := 17) E h1 g_4 dX2_firstWithExtra_17 hq_6 (fun kq_7 => ?_)
      refine tt_astore (pc := 18) (i := 4) (lv' := [(4, .ref (B + q_5)), (0, .ref (B + o0)), (1, .ref (B + o1)), (2, .int v2), (3, .int v3)]) E dX2_firstWithExtra_18 (Nat.le_of_ble_eq_true rfl) rfl ?_
      refine tt_aload (pc := 20) (i := 4) (j := 0) E dX2_firstWithExtra_20 rfl ?_
      refine tt_getI (pc := 22) E lfX2_52 rfl kq_7 dX2_firstWithExtra_22 ?_
      refine tt_if_le (pc := 25) (tgt := 39) E dX2_firstWithExtra_25 rfl (fun c_11 => ?_) (fun c_11 => ?_)
      · have hf := ip c_11 hf
        obtain ⟨v_8, ev_8, hf⟩ := nm_ex hf
        refine tt_iinc (pc := 39) (i := 3) (j := 4) (lv' := [(3, .int v_8), (4, .ref (B + q_5)), (0, .ref (B + o0)), (1, .ref (B + o1)), (2, .int v2)]) E dX2_firstWithExtra_39 rfl (ev_8).symm (Nat.le_of_ble_eq_true rfl) rfl ?_
        refine tt_goto (pc := 42) (tgt := 10) E dX2_firstWithExtra_42 rfl ?_
        refine tt_sub [2, 3, 4, 0] (lv' := [(0, .ref (B + o0)), (1, .ref (B + o1)), (2, .int v2), (3, .int v_8)]) rfl ?_
        exact ih v_8 hf
      · have hf := ine c_11 hf
        refine tt_aload (pc := 28) (i := 4) (j := 0) E dX2_firstWithExtra_28 rfl ?_
        refine tt_getI (pc := 30) E lfX2_98 rfl kq_7 dX2_firstWithExtra_30 ?_
        refine tt_if_le (pc := 33) (tgt := 39) E dX2_firstWithExtra_33 rfl (fun c_10 => ?_) (fun c_10 => ?_)
        · have hf := ip c_10 hf
          obtain ⟨v_9, ev_9, hf⟩ := nm_ex hf
          refine tt_iinc (pc := 39) (i := 3) (j := 4) (lv' := [(3, .int v_9), (4, .ref (B + q_5)), (0, .ref (B + o0)), (1, .ref (B + o1)), (2, .int v2)]) E dX2_firstWithExtra_39 rfl (ev_9).symm (Nat.le_of_ble_eq_true rfl) rfl ?_
          refine tt_goto (pc := 42) (tgt := 10) E dX2_firstWithExtra_42 rfl ?_
          refine tt_sub [2, 3, 4, 0] (lv' := [(0, .ref (B + o0)), (1, .ref (B + o1)), (2, .int v2), (3, .int v_9)]) rfl ?_
          exact ih v_9 hf
        · have hf := ine c_10 hf
          refine tt_aload (pc := 36) (i := 4) (j := 0) E dX2_firstWithExtra_36 rfl ?_
          exact tt_aret (pc := 38) E kq_7 hr hlk dX2_firstWithExtra_38 (Nat.le_of_ble_eq_true rfl) (Nat.le_of_ble_eq_true rfl) (pv hf)
set_option maxHeartbeats 4000000 in
theorem cX2_firstWithExtra_ok {l : Launch} {B : Nat} {D : va_G} {cT : Nat → ClassId} {n : Nat} {adK adV : Nat → Nat} {o0 : Nat} {μ : Mem} {res : Nat} (h0 : isK n o0 1) (hf : fX2_firstWithExtra o0 μ = some res) : MP 2 l yX2_firstWithExtra cX2_firstWithExtra 5 (some (.object "TurnWheel$Fighter")) rmX2_firstWithExtra B D cT (XW B adK adV) n [.ref (B + o0)] μ (res, μ) := by
  refine tt_ofW mtX2_firstWithExtra.1 (Nat.le_of_ble_eq_true rfl) rfl ?_
  intro p e s m below meth c E0 hr hlk
  have E : EE p s m _ c cX2_firstWithExtra 5 RX2 B D cT (XW B adK adV) := E0
  unfold fX2_firstWithExtra at hf
  refine tt_aload_n (pc := 0) (i := 0) (j := 0) E dX2_firstWithExtra_0 rfl rfl ?_
  obtain ⟨q_1, hq_2, hf⟩ := bd_some hf
  refine tt_getP (pc := 1) (t := 15) E lfX2_11 rfl rfl h0 dX2_firstWithExtra_1 hq_2 (fun kq_3 => ?_)
  refine tt_astore_n (pc := 4) (i := 1) (lv' := [(1, .ref (B + q_1)), (0, .ref (B + o0))]) E dX2_firstWithExtra_4 rfl (Nat.le_of_ble_eq_true rfl) rfl ?_
  refine tt_aload_n (pc := 5) (i := 1) (j := 0) E dX2_firstWithExtra_5 rfl rfl ?_
  refine tt_alen (pc := 6) (v := Int32.ofNat (Ln q_1)) E (k := 15) ⟨(Nat.le_of_ble_eq_true rfl), (Nat.le_of_ble_eq_true rfl)⟩ kq_3 rfl dX2_firstWithExtra_6 ?_
  refine tt_nmI hf (fun v_4 hf => ?_)
  refine tt_istore_n (pc := 7) (i := 2) (lv' := [(2, .int v_4), (1, .ref (B + q_1)), (0, .ref (B + o0))]) E dX2_firstWithExtra_7 rfl (Nat.le_of_ble_eq_true rfl) rfl ?_
  refine tt_iconst (pc := 8) (v := 0) E dX2_firstWithExtra_8 ic_0 ?_
  refine tt_istore_n (pc := 9) (i := 3) (lv' := [(3, .int 0), (2, .int v_4), (1, .ref (B + q_1)), (0, .ref (B + o0))]) E dX2_firstWithExtra_9 rfl (Nat.le_of_ble_eq_true rfl) rfl ?_
  refine tt_sub [3, 2, 1, 0] (lv' := [(0, .ref (B + o0)), (1, .ref (B + q_1)), (2, .int v_4), (3, .int 0)]) rfl ?_
  exact tX2_firstWithExtra_10 E hr hlk h0 kq_3 FU 0 hf
set_option maxHeartbeats 4000000 in
theorem cX3_ticksLeft_ok {l : Launch} {B : Nat} {D : va_G} {cT : Nat → ClassId} {n : Nat} {adK adV : Nat → Nat} {o0 : Nat} {v1 : Int32} {μ : Mem} {res : Int32} (h0 : isK n o0 2) (hf : fX3_ticksLeft o0 v1 μ = some res) : MI l yX3_ticksLeft cX3_ticksLeft 2 (some .int) rmX3_ticksLeft B D cT (XW B adK adV) n [.ref (B + o0), .int v1] μ (res, μ) := by
  refine tt_ofW mtX3_ticksLeft.1 (Nat.le_of_ble_eq_true rfl) rfl ?_
  intro p e s m below meth c E0 hr hlk
  have E : EE p s m _ c cX3_ticksLeft 2 RX3 B D cT (XW B adK adV) := E0
  unfold fX3_ticksLeft at hf
  refine tt_aload_n (pc := 0) (i := 0) (j := 0) E dX3_ticksLeft_0 rfl rfl ?_
  refine tt_getI (pc := 1) E lfX3_38 rfl h0 dX3_ticksLeft_1 ?_
  refine tt_iload_n (pc := 4) (i := 1) (j := 1) E dX3_ticksLeft_4 rfl rfl ?_
  refine tt_icmp_ge (pc := 5) (tgt := 16) E dX3_ticksLeft_5 rfl (fun c_3 => ?_) (fun c_3 => ?_)
  · have hf := ip c_3 hf
    refine tt_iconst (pc := 16) (v := 0) E dX3_ticksLeft_16 ic_0 ?_
    exact tt_iret (pc := 17) E hr hlk dX3_ticksLeft_17 (Nat.le_of_ble_eq_true rfl) (Nat.le_of_ble_eq_true rfl) (pv hf)
  · have hf := ine c_3 hf
    refine tt_aload_n (pc := 8) (i := 0) (j := 0) E dX3_ticksLeft_8 rfl rfl ?_
    refine tt_getI (pc := 9) E lfX3_29 rfl h0 dX3_ticksLeft_9 ?_
    refine tt_iconst (pc := 12) (v := 1) E dX3_ticksLeft_12 ic_1 ?_
    refine tt_icmp_ge (pc := 13) (tgt := 18) E dX3_ticksLeft_13 rfl (fun c_2 => ?_) (fun c_2 => ?_)
    · have hf := ip c_2 hf
      refine tt_iload_n (pc := 18) (i := 1) (j := 1) E dX3_ticksLeft_18 rfl rfl ?_
      refine tt_aload_n (pc := 19) (i := 0) (j := 0) E dX3_ticksLeft_19 rfl rfl ?_
      refine tt_getI (pc := 20) E lfX3_38 rfl h0 dX3_ticksLeft_20 ?_
      refine tt_isub (pc := 23) E dX3_ticksLeft_23 ?_
      refine tt_aload_n (pc := 24) (i := 0) (j := 0) E dX3_ticksLeft_24 rfl rfl ?_
      refine tt_getI (pc := 25) E lfX3_29 rfl h0 dX3_ticksLeft_25 ?_
      refine tt_iadd (pc := 28) E dX3_ticksLeft_28 ?_
      refine tt_iconst (pc := 29) (v := 1) E dX3_ticksLeft_29 ic_1 ?_
      refine tt_isub (pc := 30) E dX3_ticksLeft_30 ?_
      refine tt_aload_n (pc := 31) (i := 0) (j := 0) E dX3_ticksLeft_31 rfl rfl ?_
      refine tt_getI (pc := 32) E lfX3_29 rfl h0 dX3_ticksLeft_32 ?_
      obtain ⟨g_1, hf⟩ := gd_some hf
      refine tt_idiv (pc := 35) E dX3_ticksLeft_35 (nz_ne g_1) ?_
      exact tt_iret (pc := 36) E hr hlk dX3_ticksLeft_36 (Nat.le_of_ble_eq_true rfl) (Nat.le_of_ble_eq_true rfl) (pv hf)
    · have hf := ine c_2 hf
      refine tt_iconst (pc := 16) (v := 0) E dX3_ticksLeft_16 ic_0 ?_
      exact tt_iret (pc := 17) E hr hlk dX3_ticksLeft_17 (Nat.le_of_ble_eq_true rfl) (Nat.le_of_ble_eq_true rfl) (pv hf)
set_option maxHeartbeats 4000000 in
theorem tX2_ticksToFirst_15 {p : Program} {l : Launch} {e : Env} {s : State} {m : MethodId} {args : Array Value} {below : List Frame} {meth : Method} {c : Code} {B : Nat} {D : va_G} {cT : Nat → ClassId} {n : Nat} {adK adV : Nat → Nat} {res : Int32} (E : EE p s m args c cX2_ticksToFirst 6 RX2 B D cT (XW B adK adV)) (hr : meth.sig.returnType = some .int) (hlk : meth.locks = false) {o0 : Nat} {o2 : Nat} {v3 : Int32} (h0 : isK n o0 1) (h2 : isK n o2 15) {μ : Mem} : ∀ (fu : Nat) (v1 : Int32) (v4 : Int32), zl2 (gX2_ticksToFirst_15 o0 o2 v3 μ) fu v1 v4 = some res → TT p l e rmX2_ticksToFirst s m args below meth c (QI B D cT n below args s (res, μ)) 6 B D cT n 0 0 μ 15 [(0, .ref (B + o0)), (1, .int v1), (2, .ref (B + o2)), (3, .int v3), (4, .int v4)] [] := by
  intro fu
  induction fu with
  | zero => intro v1 v4 hf; exact absurd hf (fun h => by cases h)
  | succ fu ih =>
    intro v1 v4 hf
    have hf : gX2_ticksToFirst_15 o0 o2 v3 μ (zl2 (gX2_ticksToFirst_15 o0 o2 v3 μ) fu) v1 v4 = some res := hf
    unfold gX2_ticksToFirst_15 at hf
    refine tt_iload (pc := 15) (i := 4) (j := 4) E dX2_ticksToFirst_15 rfl ?_
    refine tt_iload_n (pc := 17) (i := 3) (j := 3) E dX2_ticksToFirst_17 rfl rfl ?_
    refine tt_icmp_ge (pc := 18) (tgt := 55) E dX2_ticksToFirst_18 rfl (fun c_12 => ?_) (fun c_12 => ?_)
    · have hf := ip c_12 hf
      refine tt_iload_n (pc := 55) (i := 1) (j := 1) E dX2_ticksToFirst_55 rfl rfl ?_
      exact tt_iret (pc := 56) E hr hlk dX2_ticksToFirst_56 (Nat.le_of_ble_eq_true rfl) (Nat.le_of_ble_eq_true rfl) (pv hf)
    · have hf := ine c_12 hf
      refine tt_aload_n (pc := 21) (i := 2) (j := 2) E dX2_ticksToFirst_21 rfl rfl ?_
      refine tt_iload (pc := 22) (i := 4) (j := 4) E dX2_ticksToFirst_22 rfl ?_
      obtain ⟨g_1, hf⟩ := gd_some hf
      obtain ⟨q_2, hq_3, hf⟩ := bd_some hf
      refine tt_aald15 (pc := 24) E h2 g_1 dX2_ticksToFirst_24 hq_3 (fun kq_4 => ?_)
      refine tt_astore (pc := 25) (i := 5) (lv' := [(5, .ref (B + q_2)), (0, .ref (B + o0)), (1, .int v1), (2, .ref (B + o2)), (3, .int v3), (4, .int v4)]) E dX2_ticksToFirst_25 (Nat.le_of_ble_eq_true rfl) rfl ?_
      refine tt_aload (pc := 27) (i := 5) (j := 0) E dX2_ticksToFirst_27 rfl ?_
      refine tt_getI (pc := 29) E lfX2_52 rfl kq_4 dX2_ticksToFirst_29 ?_
      refine tt_if_le (pc := 32) (tgt := 49) E dX2_ticksToFirst_32 rfl (fun c_11 => ?_) (fun c_11 => ?_)
      · have hf := ip c_11 hf
        obtain ⟨v_5, ev_5, hf⟩ := nm_ex hf
        refine tt_iinc (pc := 49) (i := 4) (j := 5) (lv' := [(4, .int v_5), (5, .ref (B + q_2)), (0, .ref (B + o0)), (1, .int v1), (2, .ref (B + o2)), (3, .int v3)]) E dX2_ticksToFirst_49 rfl (ev_5).symm (Nat.le_of_ble_eq_true rfl) rfl ?_
        refine tt_goto (pc := 52) (tgt := 15) E dX2_ticksToFirst_52 rfl ?_
        refine tt_sub [2, 3, 4, 5, 0] (lv' := [(0, .ref (B + o0)), (1, .int v1), (2, .ref (B + o2)), (3, .int v3), (4, .int v_5)]) rfl ?_
        exact ih v1 v_5 hf
      · have hf := ine c_11 hf
        refine tt_iload_n (pc := 35) (i := 1) (j := 2) E dX2_ticksToFirst_35 rfl rfl ?_
        refine tt_aload (pc := 36) (i := 5) (j := 0) E dX2_ticksToFirst_36 rfl ?_
        refine tt_aload_n (pc := 38) (i := 0) (j := 1) E dX2_ticksToFirst_38 rfl rfl ?_
        refine tt_getI (pc := 39) E lfX2_28 rfl h0 dX2_ticksToFirst_39 ?_
        obtain ⟨r_6, hr_7, hf⟩ := bd_some hf
        have hc_8 := cX3_ticksLeft_ok (l := l) (B := B) (D := D) (cT := cT) (n := n) (adK := adK) (adV := adV) kq_4 hr_7
        refine tt_cI (pc := 42) (tt_vi E lmX2_73 mtX3_ticksLeft hc_8 kq_4 rfl rfl (Nat.le_of_ble_eq_true rfl) ⟨(Nat.le_of_ble_eq_true rfl), (Nat.le_of_ble_eq_true rfl)⟩ ⟨(Nat.le_of_ble_eq_true rfl), (Nat.le_of_ble_eq_true rfl)⟩ dX2_ticksToFirst_42) ?_
        refine tt_mmin (pc := 45) E lmX2_104 (Nat.le_of_ble_eq_true rfl) (Nat.le_of_ble_eq_true rfl) ⟨(Nat.le_of_ble_eq_true rfl), (Nat.le_of_ble_eq_true rfl)⟩ dX2_ticksToFirst_45 ?_
        refine tt_nmI hf (fun v_9 hf => ?_)
        refine tt_istore_n (pc := 48) (i := 1) (lv' := [(1, .int v_9), (5, .ref (B + q_2)), (0, .ref (B + o0)), (2, .ref (B + o2)), (3, .int v3), (4, .int v4)]) E dX2_ticksToFirst_48 rfl (Nat.le_of_ble_eq_true rfl) rfl ?_
        obtain ⟨v_10, ev_10, hf⟩ := nm_ex hf
        refine tt_iinc (pc := 49) (i := 4) (j := 5) (lv' := [(4, .int v_10), (1, .int v_9), (5, .ref (B + q_2)), (0, .ref (B + o0)), (2, .ref (B + o2)), (3, .int v3)]) E dX2_ticksToFirst_49 rfl (ev_10).symm (Nat.le_of_ble_eq_true rfl) rfl ?_
        refine tt_goto (pc := 52) (tgt := 15) E dX2_ticksToFirst_52 rfl ?_
        refine tt_sub [3, 1, 4, 5, 0] (lv' := [(0, .ref (B + o0)), (1, .int v_9), (2, .ref (B + o2)), (3, .int v3), (4, .int v_10)]) rfl ?_
        exact ih v_9 v_10 hf
set_option maxHeartbeats 4000000 in
theorem cX2_ticksToFirst_ok {l : Launch} {B : Nat} {D : va_G} {cT : Nat → ClassId} {n : Nat} {adK adV : Nat → Nat} {o0 : Nat} {μ : Mem} {res : Int32} (h0 : isK n o0 1) (hf : fX2_ticksToFirst o0 μ = some res) : MI l yX2_ticksToFirst cX2_ticksToFirst 6 (some .int) rmX2_ticksToFirst B D cT (XW B adK adV) n [.ref (B + o0)] μ (res, μ) := by
  refine tt_ofW mtX2_ticksToFirst.1 (Nat.le_of_ble_eq_true rfl) rfl ?_
  intro p e s m below meth c E0 hr hlk
  have E : EE p s m _ c cX2_ticksToFirst 6 RX2 B D cT (XW B adK adV) := E0
  unfold fX2_ticksToFirst at hf
  refine tt_sipush (pc := 0) (v := 999) E dX2_ticksToFirst_0 sc_999 ?_
  refine tt_istore_n (pc := 3) (i := 1) (lv' := [(1, .int 999), (0, .ref (B + o0))]) E dX2_ticksToFirst_3 rfl (Nat.le_of_ble_eq_true rfl) rfl ?_
  refine tt_aload_n (pc := 4) (i := 0) (j := 1) E dX2_ticksToFirst_4 rfl rfl ?_
  obtain ⟨q_1, hq_2, hf⟩ := bd_some hf
  refine tt_getP (pc := 5) (t := 15) E lfX2_11 rfl rfl h0 dX2_ticksToFirst_5 hq_2 (fun kq_3 => ?_)
  refine tt_astore_n (pc := 8) (i := 2) (lv' := [(2, .ref (B + q_1)), (1, .int 999), (0, .ref (B + o0))]) E dX2_ticksToFirst_8 rfl (Nat.le_of_ble_eq_true rfl) rfl ?_
  refine tt_aload_n (pc := 9) (i := 2) (j := 0) E dX2_ticksToFirst_9 rfl rfl ?_
  refine tt_alen (pc := 10) (v := Int32.ofNat (Ln q_1)) E (k := 15) ⟨(Nat.le_of_ble_eq_true rfl), (Nat.le_of_ble_eq_true rfl)⟩ kq_3 rfl dX2_ticksToFirst_10 ?_
  refine tt_nmI hf (fun v_4 hf => ?_)
  refine tt_istore_n (pc := 11) (i := 3) (lv' := [(3, .int v_4), (2, .ref (B + q_1)), (1, .int 999), (0, .ref (B + o0))]) E dX2_ticksToFirst_11 rfl (Nat.le_of_ble_eq_true rfl) rfl ?_
  refine tt_iconst (pc := 12) (v := 0) E dX2_ticksToFirst_12 ic_0 ?_
  refine tt_istore (pc := 13) (i := 4) (lv' := [(4, .int 0), (3, .int v_4), (2, .ref (B + q_1)), (1, .int 999), (0, .ref (B + o0))]) E dX2_ticksToFirst_13 (Nat.le_of_ble_eq_true rfl) rfl ?_
  refine tt_sub [4, 3, 2, 1, 0] (lv' := [(0, .ref (B + o0)), (1, .int 999), (2, .ref (B + q_1)), (3, .int v_4), (4, .int 0)]) rfl ?_
  exact tX2_ticksToFirst_15 E hr hlk h0 kq_3 FU 999 0 hf
set_option maxHeartbeats 4000000 in
theorem tX2_pass_21 {p : Program} {l : Launch} {e : Env} {s : State} {m : MethodId} {args : Array Value} {below : List Frame} {meth : Method} {c : Code} {B : Nat} {D : va_G} {cT : Nat → ClassId} {n : Nat} {adK adV : Nat → Nat} {res : Mem} (E : EE p s m args c cX2_pass 6 RX2 B D cT (XW B adK adV)) (hr : meth.sig.returnType = none) (hlk : meth.locks = false) {v1 : Int32} {o2 : Nat} {v3 : Int32} (h2 : isK n o2 15) : ∀ (fu : Nat) (v4 : Int32) (μ : Mem), zl2 (gX2_pass_21 v1 o2 v3) fu v4 μ = some res → TT p l e rmX2_pass s m args below meth c (QV B D cT n below args s res) 6 B D cT n 0 0 μ 21 [(1, .int v1), (2, .ref (B + o2)), (3, .int v3), (4, .int v4)] [] := by
  intro fu
  induction fu with
  | zero => intro v4 μ hf; exact absurd hf (fun h => by cases h)
  | succ fu ih =>
    intro v4 μ hf
    have hf : gX2_pass_21 v1 o2 v3 (zl2 (gX2_pass_21 v1 o2 v3) fu) v4 μ = some res := hf
    unfold gX2_pass_21 at hf
    refine tt_iload (pc := 21) (i := 4) (j := 3) E dX2_pass_21 rfl ?_
    refine tt_iload_n (pc := 23) (i := 3) (j := 2) E dX2_pass_23 rfl rfl ?_
    refine tt_icmp_ge (pc := 24) (tgt := 64) E dX2_pass_24 rfl (fun c_9 => ?_) (fun c_9 => ?_)
    · have hf := ip c_9 hf
      exact tt_vret (pc := 64) E hr hlk dX2_pass_64 (Nat.le_of_ble_eq_true rfl) (Nat.le_of_ble_eq_true rfl) hf
    · have hf := ine c_9 hf
      refine tt_aload_n (pc := 27) (i := 2) (j := 1) E dX2_pass_27 rfl rfl ?_
      refine tt_iload (pc := 28) (i := 4) (j := 3) E dX2_pass_28 rfl ?_
      obtain ⟨g_1, hf⟩ := gd_some hf
      obtain ⟨q_2, hq_3, hf⟩ := bd_some hf
      refine tt_aald15 (pc := 30) E h2 g_1 dX2_pass_30 hq_3 (fun kq_4 => ?_)
      refine tt_astore (pc := 31) (i := 5) (lv' := [(5, .ref (B + q_2)), (1, .int v1), (2, .ref (B + o2)), (3, .int v3), (4, .int v4)]) E dX2_pass_31 (Nat.le_of_ble_eq_true rfl) rfl ?_
      refine tt_aload (pc := 33) (i := 5) (j := 0) E dX2_pass_33 rfl ?_
      refine tt_getI (pc := 35) E lfX2_52 rfl kq_4 dX2_pass_35 ?_
      refine tt_if_le (pc := 38) (tgt := 58) E dX2_pass_38 rfl (fun c_8 => ?_) (fun c_8 => ?_)
      · have hf := ip c_8 hf
        obtain ⟨v_5, ev_5, hf⟩ := nm_ex hf
        refine tt_iinc (pc := 58) (i := 4) (j := 4) (lv' := [(4, .int v_5), (5, .ref (B + q_2)), (1, .int v1), (2, .ref (B + o2)), (3, .int v3)]) E dX2_pass_58 rfl (ev_5).symm (Nat.le_of_ble_eq_true rfl) rfl ?_
        refine tt_goto (pc := 61) (tgt := 21) E dX2_pass_61 rfl ?_
        refine tt_sub [2, 3, 4, 0] (lv' := [(1, .int v1), (2, .ref (B + o2)), (3, .int v3), (4, .int v_5)]) rfl ?_
        exact ih v_5 μ hf
      · have hf := ine c_8 hf
        refine tt_aload (pc := 41) (i := 5) (j := 0) E dX2_pass_41 rfl ?_
        refine tt_dup (pc := 43) E dX2_pass_43 rfl ?_
        refine tt_getI (pc := 44) E lfX2_101 rfl kq_4 dX2_pass_44 ?_
        refine tt_iload_n (pc := 47) (i := 1) (j := 1) E dX2_pass_47 rfl rfl ?_
        refine tt_aload (pc := 48) (i := 5) (j := 0) E dX2_pass_48 rfl ?_
        refine tt_getI (pc := 50) E lfX2_55 rfl kq_4 dX2_pass_50 ?_
        refine tt_imul (pc := 53) E dX2_pass_53 ?_
        refine tt_iadd (pc := 54) E dX2_pass_54 ?_
        refine tt_putI (pc := 55) E lfX2_101 rfl kq_4 dX2_pass_55 (tt_nmM hf (fun m_6 hf => ?_))
        obtain ⟨v_7, ev_7, hf⟩ := nm_ex hf
        refine tt_iinc (pc := 58) (i := 4) (j := 4) (lv' := [(4, .int v_7), (5, .ref (B + q_2)), (1, .int v1), (2, .ref (B + o2)), (3, .int v3)]) E dX2_pass_58 rfl (ev_7).symm (Nat.le_of_ble_eq_true rfl) rfl ?_
        refine tt_goto (pc := 61) (tgt := 21) E dX2_pass_61 rfl ?_
        refine tt_sub [2, 3, 4, 0] (lv' := [(1, .int v1), (2, .ref (B + o2)), (3, .int v3), (4, .int v_7)]) rfl ?_
        exact ih v_7 m_6 hf
set_option maxHeartbeats 4000000 in
theorem cX2_pass_ok {l : Launch} {B : Nat} {D : va_G} {cT : Nat → ClassId} {n : Nat} {adK adV : Nat → Nat} {o0 : Nat} {v1 : Int32} {μ : Mem} {res : Mem} (h0 : isK n o0 1) (hf : fX2_pass o0 v1 μ = some res) : MV l yX2_pass cX2_pass 6 (none) rmX2_pass B D cT (XW B adK adV) n [.ref (B + o0), .int v1] μ res := by
  refine tt_ofW mtX2_pass.1 (Nat.le_of_ble_eq_true rfl) rfl ?_
  intro p e s m below meth c E0 hr hlk
  have E : EE p s m _ c cX2_pass 6 RX2 B D cT (XW B adK adV) := E0
  unfold fX2_pass at hf
  refine tt_aload_n (pc := 0) (i := 0) (j := 0) E dX2_pass_0 rfl rfl ?_
  refine tt_dup (pc := 1) E dX2_pass_1 rfl ?_
  refine tt_getI (pc := 2) E lfX2_31 rfl h0 dX2_pass_2 ?_
  refine tt_iload_n (pc := 5) (i := 1) (j := 1) E dX2_pass_5 rfl rfl ?_
  refine tt_iadd (pc := 6) E dX2_pass_6 ?_
  refine tt_putI (pc := 7) E lfX2_31 rfl h0 dX2_pass_7 (tt_nmM hf (fun m_1 hf => ?_))
  refine tt_aload_n (pc := 10) (i := 0) (j := 0) E dX2_pass_10 rfl rfl ?_
  obtain ⟨q_2, hq_3, hf⟩ := bd_some hf
  refine tt_getP (pc := 11) (t := 15) E lfX2_11 rfl rfl h0 dX2_pass_11 hq_3 (fun kq_4 => ?_)
  refine tt_astore_n (pc := 14) (i := 2) (lv' := [(2, .ref (B + q_2)), (0, .ref (B + o0)), (1, .int v1)]) E dX2_pass_14 rfl (Nat.le_of_ble_eq_true rfl) rfl ?_
  refine tt_aload_n (pc := 15) (i := 2) (j := 0) E dX2_pass_15 rfl rfl ?_
  refine tt_alen (pc := 16) (v := Int32.ofNat (Ln q_2)) E (k := 15) ⟨(Nat.le_of_ble_eq_true rfl), (Nat.le_of_ble_eq_true rfl)⟩ kq_4 rfl dX2_pass_16 ?_
  refine tt_nmI hf (fun v_5 hf => ?_)
  refine tt_istore_n (pc := 17) (i := 3) (lv' := [(3, .int v_5), (2, .ref (B + q_2)), (0, .ref (B + o0)), (1, .int v1)]) E dX2_pass_17 rfl (Nat.le_of_ble_eq_true rfl) rfl ?_
  refine tt_iconst (pc := 18) (v := 0) E dX2_pass_18 ic_0 ?_
  refine tt_istore (pc := 19) (i := 4) (lv' := [(4, .int 0), (3, .int v_5), (2, .ref (B + q_2)), (0, .ref (B + o0)), (1, .int v1)]) E dX2_pass_19 (Nat.le_of_ble_eq_true rfl) rfl ?_
  refine tt_sub [4, 2, 1, 0] (lv' := [(1, .int v1), (2, .ref (B + q_2)), (3, .int v_5), (4, .int 0)]) rfl ?_
  exact tX2_pass_21 E hr hlk kq_4 FU 0 m_1 hf
set_option maxHeartbeats 4000000 in
theorem tX2_firstReady_16 {p : Program} {l : Launch} {e : Env} {s : State} {m : MethodId} {args : Array Value} {below : List Frame} {meth : Method} {c : Code} {B : Nat} {D : va_G} {cT : Nat → ClassId} {n : Nat} {adK adV : Nat → Nat} {res : Nat} (E : EE p s m args c cX2_firstReady 6 RX2 B D cT (XW B adK adV)) (hr : meth.sig.returnType = some (.object "TurnWheel$Fighter")) (hlk : meth.locks = false) {o0 : Nat} {o2 : Nat} {v3 : Int32} (h0 : isK n o0 1) (h2 : isK n o2 15) {μ : Mem} : ∀ (fu : Nat) (o1 : Nat) (v4 : Int32) (h1 : isK n o1 2), zl2 (gX2_firstReady_16 o0 o2 v3 μ) fu o1 v4 = some res → TT p l e rmX2_firstReady s m args below meth c (QP 2 B D cT n below args s (res, μ)) 6 B D cT n 0 0 μ 16 [(0, .ref (B + o0)), (1, .ref (B + o1)), (2, .ref (B + o2)), (3, .int v3), (4, .int v4)] [] := by
  intro fu
  induction fu with
  | zero => intro o1 v4 h1 hf; exact absurd hf (fun h => by cases h)
  | succ fu ih =>
    intro o1 v4 h1 hf
    have hf : gX2_firstReady_16 o0 o2 v3 μ (zl2 (gX2_firstReady_16 o0 o2 v3 μ) fu) o1 v4 = some res := hf
    unfold gX2_firstReady_16 at hf
    refine tt_iload (pc := 16) (i := 4) (j := 4) E dX2_firstReady_16 rfl ?_
    refine tt_iload_n (pc := 18) (i := 3) (j := 3) E dX2_firstReady_18 rfl rfl ?_
    refine tt_icmp_ge (pc := 19) (tgt := 101) E dX2_firstReady_19 rfl (fun c_21 => ?_) (fun c_21 => ?_)
    · have hf := ip c_21 hf
      refine tt_aload_n (pc := 101) (i := 1) (j := 1) E dX2_firstReady_101 rfl rfl ?_
      exact tt_aret (pc := 102) E h1 hr hlk dX2_firstReady_102 (Nat.le_of_ble_eq_true rfl) (Nat.le_of_ble_eq_true rfl) (pv hf)
    · have hf := ine c_21 hf
      refine tt_aload_n (pc := 22) (i := 2) (j := 2) E dX2_firstReady_22 rfl rfl ?_
      refine tt_iload (pc := 23) (i := 4) (j := 4) E dX2_firstReady_23 rfl ?_
      obtain ⟨g_1, hf⟩ := gd_some hf
      obtain ⟨q_2, hq_3, hf⟩ := bd_some hf
      refine tt_aald15 (pc := 25) E h2 g_1 dX2_firstReady_25 hq_3 (fun kq_4 => ?_)
      refine tt_astore (pc := 26) (i := 5) (lv' := [(5, .ref (B + q_2)), (0, .ref (B + o0)), (1, .ref (B + o1)), (2, .ref (B + o2)), (3, .int v3), (4, .int v4)]) E dX2_firstReady_26 (Nat.le_of_ble_eq_true rfl) rfl ?_
      refine tt_aload (pc := 28) (i := 5) (j := 0) E dX2_firstReady_28 rfl ?_
      refine tt_getI (pc := 30) E lfX2_52 rfl kq_4 dX2_firstReady_30 ?_
      refine tt_if_le (pc := 33) (tgt := 95) E dX2_firstReady_33 rfl (fun c_20 => ?_) (fun c_20 => ?_)
      · have hf := ip c_20 hf
        obtain ⟨v_5, ev_5, hf⟩ := nm_ex hf
        refine tt_iinc (pc := 95) (i := 4) (j := 5) (lv' := [(4, .int v_5), (5, .ref (B + q_2)), (0, .ref (B + o0)), (1, .ref (B + o1)), (2, .ref (B + o2)), (3, .int v3)]) E dX2_firstReady_95 rfl (ev_5).symm (Nat.le_of_ble_eq_true rfl) rfl ?_
        refine tt_goto (pc := 98) (tgt := 16) E dX2_firstReady_98 rfl ?_
        refine tt_sub [2, 3, 4, 5, 0] (lv' := [(0, .ref (B + o0)), (1, .ref (B + o1)), (2, .ref (B + o2)), (3, .int v3), (4, .int v_5)]) rfl ?_
        exact ih o1 v_5 h1 hf
      · have hf := ine c_20 hf
        refine tt_aload (pc := 36) (i := 5) (j := 0) E dX2_firstReady_36 rfl ?_
        refine tt_getI (pc := 38) E lfX2_101 rfl kq_4 dX2_firstReady_38 ?_
        refine tt_aload_n (pc := 41) (i := 0) (j := 1) E dX2_firstReady_41 rfl rfl ?_
        refine tt_getI (pc := 42) E lfX2_28 rfl h0 dX2_firstReady_42 ?_
        refine tt_icmp_lt (pc := 45) (tgt := 95) E dX2_firstReady_45 rfl (fun c_19 => ?_) (fun c_19 => ?_)
        · have hf := ip c_19 hf
          obtain ⟨v_6, ev_6, hf⟩ := nm_ex hf
          refine tt_iinc (pc := 95) (i := 4) (j := 5) (lv' := [(4, .int v_6), (5, .ref (B + q_2)), (0, .ref (B + o0)), (1, .ref (B + o1)), (2, .ref (B + o2)), (3, .int v3)]) E dX2_firstReady_95 rfl (ev_6).symm (Nat.le_of_ble_eq_true rfl) rfl ?_
          refine tt_goto (pc := 98) (tgt := 16) E dX2_firstReady_98 rfl ?_
          refine tt_sub [2, 3, 4, 5, 0] (lv' := [(0, .ref (B + o0)), (1, .ref (B + o1)), (2, .ref (B + o2)), (3, .int v3), (4, .int v_6)]) rfl ?_
          exact ih o1 v_6 h1 hf
        · have hf := ine c_19 hf
          refine tt_aload_n (pc := 48) (i := 1) (j := 2) E dX2_firstReady_48 rfl rfl ?_
          refine tt_aload_n (pc := 49) (i := 0) (j := 1) E dX2_firstReady_49 rfl rfl ?_
          obtain ⟨q_7, hq_8, hf⟩ := bd_some hf
          refine tt_getP (pc := 50) (t := 2) E lfX2_20 rfl rfl h0 dX2_firstReady_50 hq_8 (fun kq_9 => ?_)
          refine tt_acmp_eq (pc := 53) (tgt := 92) E dX2_firstReady_53 rfl (fun c_18 => ?_) (fun c_18 => ?_)
          · have hf := ip c_18 hf
            refine tt_aload (pc := 92) (i := 5) (j := 0) E dX2_firstReady_92 rfl ?_
            refine tt_astore_n (pc := 94) (i := 1) (lv' := [(1, .ref (B + q_2)), (5, .ref (B + q_2)), (0, .ref (B + o0)), (2, .ref (B + o2)), (3, .int v3), (4, .int v4)]) E dX2_firstReady_94 rfl (Nat.le_of_ble_eq_true rfl) rfl ?_
            obtain ⟨v_10, ev_10, hf⟩ := nm_ex hf
            refine tt_iinc (pc := 95) (i := 4) (j := 5) (lv' := [(4, .int v_10), (1, .ref (B + q_2)), (5, .ref (B + q_2)), (0, .ref (B + o0)), (2, .ref (B + o2)), (3, .int v3)]) E dX2_firstReady_95 rfl (ev_10).symm (Nat.le_of_ble_eq_true rfl) rfl ?_
            refine tt_goto (pc := 98) (tgt := 16) E dX2_firstReady_98 rfl ?_
            refine tt_sub [3, 1, 4, 5, 0] (lv' := [(0, .ref (B + o0)), (1, .ref (B + q_2)), (2, .ref (B + o2)), (3, .int v3), (4, .int v_10)]) rfl ?_
            exact ih q_2 v_10 kq_4 hf
          · have hf := ine c_18 hf
            refine tt_aload (pc := 56) (i := 5) (j := 0) E dX2_firstReady_56 rfl ?_
            refine tt_getI (pc := 58) E lfX2_101 rfl kq_4 dX2_firstReady_58 ?_
            refine tt_aload_n (pc := 61) (i := 1) (j := 2) E dX2_firstReady_61 rfl rfl ?_
            refine tt_getI (pc := 62) E lfX2_101 rfl h1 dX2_firstReady_62 ?_
            refine tt_icmp_gt (pc := 65) (tgt := 92) E dX2_firstReady_65 rfl (fun c_17 => ?_) (fun c_17 => ?_)
            · have hf := ip c_17 hf
              refine tt_aload (pc := 92) (i := 5) (j := 0) E dX2_firstReady_92 rfl ?_
              refine tt_astore_n (pc := 94) (i := 1) (lv' := [(1, .ref (B + q_2)), (5, .ref (B + q_2)), (0, .ref (B + o0)), (2, .ref (B + o2)), (3, .int v3), (4, .int v4)]) E dX2_firstReady_94 rfl (Nat.le_of_ble_eq_true rfl) rfl ?_
              obtain ⟨v_11, ev_11, hf⟩ := nm_ex hf
              refine tt_iinc (pc := 95) (i := 4) (j := 5) (lv' := [(4, .int v_11), (1, .ref (B + q_2)), (5, .ref (B + q_2)), (0, .ref (B + o0)), (2, .ref (B + o2)), (3, .int v3)]) E dX2_firstReady_95 rfl (ev_11).symm (Nat.le_of_ble_eq_true rfl) rfl ?_
              refine tt_goto (pc := 98) (tgt := 16) E dX2_firstReady_98 rfl ?_
              refine tt_sub [3, 1, 4, 5, 0] (lv' := [(0, .ref (B + o0)), (1, .ref (B + q_2)), (2, .ref (B + o2)), (3, .int v3), (4, .int v_11)]) rfl ?_
              exact ih q_2 v_11 kq_4 hf
            · have hf := ine c_17 hf
              refine tt_aload (pc := 68) (i := 5) (j := 0) E dX2_firstReady_68 rfl ?_
              refine tt_getI (pc := 70) E lfX2_101 rfl kq_4 dX2_firstReady_70 ?_
              refine tt_aload_n (pc := 73) (i := 1) (j := 2) E dX2_firstReady_73 rfl rfl ?_
              refine tt_getI (pc := 74) E lfX2_101 rfl h1 dX2_firstReady_74 ?_
              refine tt_icmp_ne (pc := 77) (tgt := 95) E dX2_firstReady_77 rfl (fun c_16 => ?_) (fun c_16 => ?_)
              · have hf := ine c_16 hf
                obtain ⟨v_12, ev_12, hf⟩ := nm_ex hf
                refine tt_iinc (pc := 95) (i := 4) (j := 5) (lv' := [(4, .int v_12), (5, .ref (B + q_2)), (0, .ref (B + o0)), (1, .ref (B + o1)), (2, .ref (B + o2)), (3, .int v3)]) E dX2_firstReady_95 rfl (ev_12).symm (Nat.le_of_ble_eq_true rfl) rfl ?_
                refine tt_goto (pc := 98) (tgt := 16) E dX2_firstReady_98 rfl ?_
                refine tt_sub [2, 3, 4, 5, 0] (lv' := [(0, .ref (B + o0)), (1, .ref (B + o1)), (2, .ref (B + o2)), (3, .int v3), (4, .int v_12)]) rfl ?_
                exact ih o1 v_12 h1 hf
              · have hf := ip c_16 hf
                refine tt_aload (pc := 80) (i := 5) (j := 0) E dX2_firstReady_80 rfl ?_
                refine tt_getI (pc := 82) E lfX2_77 rfl kq_4 dX2_firstReady_82 ?_
                refine tt_aload_n (pc := 85) (i := 1) (j := 2) E dX2_firstReady_85 rfl rfl ?_
                refine tt_getI (pc := 86) E lfX2_77 rfl h1 dX2_firstReady_86 ?_
                refine tt_icmp_le (pc := 89) (tgt := 95) E dX2_firstReady_89 rfl (fun c_15 => ?_) (fun c_15 => ?_)
                · have hf := ip c_15 hf
                  obtain ⟨v_13, ev_13, hf⟩ := nm_ex hf
                  refine tt_iinc (pc := 95) (i := 4) (j := 5) (lv' := [(4, .int v_13), (5, .ref (B + q_2)), (0, .ref (B + o0)), (1, .ref (B + o1)), (2, .ref (B + o2)), (3, .int v3)]) E dX2_firstReady_95 rfl (ev_13).symm (Nat.le_of_ble_eq_true rfl) rfl ?_
                  refine tt_goto (pc := 98) (tgt := 16) E dX2_firstReady_98 rfl ?_
                  refine tt_sub [2, 3, 4, 5, 0] (lv' := [(0, .ref (B + o0)), (1, .ref (B + o1)), (2, .ref (B + o2)), (3, .int v3), (4, .int v_13)]) rfl ?_
                  exact ih o1 v_13 h1 hf
                · have hf := ine c_15 hf
                  refine tt_aload (pc := 92) (i := 5) (j := 0) E dX2_firstReady_92 rfl ?_
                  refine tt_astore_n (pc := 94) (i := 1) (lv' := [(1, .ref (B + q_2)), (5, .ref (B + q_2)), (0, .ref (B + o0)), (2, .ref (B + o2)), (3, .int v3), (4, .int v4)]) E dX2_firstReady_94 rfl (Nat.le_of_ble_eq_true rfl) rfl ?_
                  obtain ⟨v_14, ev_14, hf⟩ := nm_ex hf
                  refine tt_iinc (pc := 95) (i := 4) (j := 5) (lv' := [(4, .int v_14), (1, .ref (B + q_2)), (5, .ref (B + q_2)), (0, .ref (B + o0)), (2, .ref (B + o2)), (3, .int v3)]) E dX2_firstReady_95 rfl (ev_14).symm (Nat.le_of_ble_eq_true rfl) rfl ?_
                  refine tt_goto (pc := 98) (tgt := 16) E dX2_firstReady_98 rfl ?_
                  refine tt_sub [3, 1, 4, 5, 0] (lv' := [(0, .ref (B + o0)), (1, .ref (B + q_2)), (2, .ref (B + o2)), (3, .int v3), (4, .int v_14)]) rfl ?_
                  exact ih q_2 v_14 kq_4 hf
set_option maxHeartbeats 4000000 in
theorem cX2_firstReady_ok {l : Launch} {B : Nat} {D : va_G} {cT : Nat → ClassId} {n : Nat} {adK adV : Nat → Nat} {o0 : Nat} {μ : Mem} {res : Nat} (h0 : isK n o0 1) (hf : fX2_firstReady o0 μ = some res) : MP 2 l yX2_firstReady cX2_firstReady 6 (some (.object "TurnWheel$Fighter")) rmX2_firstReady B D cT (XW B adK adV) n [.ref (B + o0)] μ (res, μ) := by
  refine tt_ofW mtX2_firstReady.1 (Nat.le_of_ble_eq_true rfl) rfl ?_
  intro p e s m below meth c E0 hr hlk
  have E : EE p s m _ c cX2_firstReady 6 RX2 B D cT (XW B adK adV) := E0
  unfold fX2_firstReady at hf
  refine tt_aload_n (pc := 0) (i := 0) (j := 0) E dX2_firstReady_0 rfl rfl ?_
  obtain ⟨q_1, hq_2, hf⟩ := bd_some hf
  refine tt_getP (pc := 1) (t := 2) E lfX2_20 rfl rfl h0 dX2_firstReady_1 hq_2 (fun kq_3 => ?_)
  refine tt_astore_n (pc := 4) (i := 1) (lv' := [(1, .ref (B + q_1)), (0, .ref (B + o0))]) E dX2_firstReady_4 rfl (Nat.le_of_ble_eq_true rfl) rfl ?_
  refine tt_aload_n (pc := 5) (i := 0) (j := 1) E dX2_firstReady_5 rfl rfl ?_
  obtain ⟨q_4, hq_5, hf⟩ := bd_some hf
  refine tt_getP (pc := 6) (t := 15) E lfX2_11 rfl rfl h0 dX2_firstReady_6 hq_5 (fun kq_6 => ?_)
  refine tt_astore_n (pc := 9) (i := 2) (lv' := [(2, .ref (B + q_4)), (1, .ref (B + q_1)), (0, .ref (B + o0))]) E dX2_firstReady_9 rfl (Nat.le_of_ble_eq_true rfl) rfl ?_
  refine tt_aload_n (pc := 10) (i := 2) (j := 0) E dX2_firstReady_10 rfl rfl ?_
  refine tt_alen (pc := 11) (v := Int32.ofNat (Ln q_4)) E (k := 15) ⟨(Nat.le_of_ble_eq_true rfl), (Nat.le_of_ble_eq_true rfl)⟩ kq_6 rfl dX2_firstReady_11 ?_
  refine tt_nmI hf (fun v_7 hf => ?_)
  refine tt_istore_n (pc := 12) (i := 3) (lv' := [(3, .int v_7), (2, .ref (B + q_4)), (1, .ref (B + q_1)), (0, .ref (B + o0))]) E dX2_firstReady_12 rfl (Nat.le_of_ble_eq_true rfl) rfl ?_
  refine tt_iconst (pc := 13) (v := 0) E dX2_firstReady_13 ic_0 ?_
  refine tt_istore (pc := 14) (i := 4) (lv' := [(4, .int 0), (3, .int v_7), (2, .ref (B + q_4)), (1, .ref (B + q_1)), (0, .ref (B + o0))]) E dX2_firstReady_14 (Nat.le_of_ble_eq_true rfl) rfl ?_
  refine tt_sub [4, 3, 2, 1, 0] (lv' := [(0, .ref (B + o0)), (1, .ref (B + q_1)), (2, .ref (B + q_4)), (3, .int v_7), (4, .int 0)]) rfl ?_
  exact tX2_firstReady_16 E hr hlk h0 kq_6 FU q_1 0 kq_3 hf
set_option maxHeartbeats 4000000 in
theorem cX2_bringNext_ok {l : Launch} {B : Nat} {D : va_G} {cT : Nat → ClassId} {n : Nat} {adK adV : Nat → Nat} {o0 : Nat} {μ : Mem} {res : Nat × Mem} (h0 : isK n o0 1) (hf : fX2_bringNext o0 μ = some res) : MP 2 l yX2_bringNext cX2_bringNext 2 (some (.object "TurnWheel$Fighter")) rmX2_bringNext B D cT (XW B adK adV) n [.ref (B + o0)] μ res := by
  refine tt_ofW mtX2_bringNext.1 (Nat.le_of_ble_eq_true rfl) rfl ?_
  intro p e s m below meth c E0 hr hlk
  have E : EE p s m _ c cX2_bringNext 2 RX2 B D cT (XW B adK adV) := E0
  unfold fX2_bringNext at hf
  refine tt_aload_n (pc := 0) (i := 0) (j := 0) E dX2_bringNext_0 rfl rfl ?_
  obtain ⟨r_1, hr_2, hf⟩ := bd_some hf
  have hc_3 := cX2_over_ok (l := l) (B := B) (D := D) (cT := cT) (n := n) (adK := adK) (adV := adV) h0 hr_2
  refine tt_cZ (pc := 1) (tt_vi E lmX2_80 mtX2_over hc_3 h0 rfl rfl (Nat.le_of_ble_eq_true rfl) ⟨(Nat.le_of_ble_eq_true rfl), (Nat.le_of_ble_eq_true rfl)⟩ ⟨(Nat.le_of_ble_eq_true rfl), (Nat.le_of_ble_eq_true rfl)⟩ dX2_bringNext_1) (fun z_4 => ?_)
  refine tt_if_eq (pc := 4) (tgt := 12) E dX2_bringNext_4 rfl (fun c_26 => ?_) (fun c_26 => ?_)
  · have hf := ip c_26 hf
    refine tt_aload_n (pc := 12) (i := 0) (j := 0) E dX2_bringNext_12 rfl rfl ?_
    obtain ⟨r_5, hr_6, hf⟩ := bd_some hf
    have hc_7 := cX2_firstWithExtra_ok (l := l) (B := B) (D := D) (cT := cT) (n := n) (adK := adK) (adV := adV) h0 hr_6
    refine tt_cP (pc := 13) (tt_vi E lmX2_84 mtX2_firstWithExtra hc_7 h0 rfl rfl (Nat.le_of_ble_eq_true rfl) ⟨(Nat.le_of_ble_eq_true rfl), (Nat.le_of_ble_eq_true rfl)⟩ ⟨(Nat.le_of_ble_eq_true rfl), (Nat.le_of_ble_eq_true rfl)⟩ dX2_bringNext_13) (fun kq_8 => ?_)
    refine tt_astore_n (pc := 16) (i := 1) (lv' := [(1, .ref (B + r_5)), (0, .ref (B + o0))]) E dX2_bringNext_16 rfl (Nat.le_of_ble_eq_true rfl) rfl ?_
    refine tt_aload_n (pc := 17) (i := 1) (j := 0) E dX2_bringNext_17 rfl rfl ?_
    refine tt_aload_n (pc := 18) (i := 0) (j := 1) E dX2_bringNext_18 rfl rfl ?_
    obtain ⟨q_9, hq_10, hf⟩ := bd_some hf
    refine tt_getP (pc := 19) (t := 2) E lfX2_20 rfl rfl h0 dX2_bringNext_19 hq_10 (fun kq_11 => ?_)
    refine tt_acmp_eq (pc := 22) (tgt := 27) E dX2_bringNext_22 rfl (fun c_22 => ?_) (fun c_22 => ?_)
    · have hf := ip c_22 hf
      refine tt_aload_n (pc := 27) (i := 0) (j := 1) E dX2_bringNext_27 rfl rfl ?_
      refine tt_aload_n (pc := 28) (i := 0) (j := 1) E dX2_bringNext_28 rfl rfl ?_
      obtain ⟨r_12, hr_13, hf⟩ := bd_some hf
      have hc_14 := cX2_ticksToFirst_ok (l := l) (B := B) (D := D) (cT := cT) (n := n) (adK := adK) (adV := adV) h0 hr_13
      refine tt_cI (pc := 29) (tt_vi E lmX2_88 mtX2_ticksToFirst hc_14 h0 rfl rfl (Nat.le_of_ble_eq_true rfl) ⟨(Nat.le_of_ble_eq_true rfl), (Nat.le_of_ble_eq_true rfl)⟩ ⟨(Nat.le_of_ble_eq_true rfl), (Nat.le_of_ble_eq_true rfl)⟩ dX2_bringNext_29) ?_
      obtain ⟨r_15, hr_16, hf⟩ := bd_some hf
      have hc_17 := cX2_pass_ok (l := l) (B := B) (D := D) (cT := cT) (n := n) (adK := adK) (adV := adV) h0 hr_16
      refine tt_cV (pc := 32) (tt_vi E lmX2_92 mtX2_pass hc_17 h0 rfl rfl (Nat.le_of_ble_eq_true rfl) ⟨(Nat.le_of_ble_eq_true rfl), (Nat.le_of_ble_eq_true rfl)⟩ ⟨(Nat.le_of_ble_eq_true rfl), (Nat.le_of_ble_eq_true rfl)⟩ dX2_bringNext_32) ?_
      refine tt_aload_n (pc := 35) (i := 0) (j := 1) E dX2_bringNext_35 rfl rfl ?_
      obtain ⟨r_18, hr_19, hf⟩ := bd_some hf
      have hc_20 := cX2_firstReady_ok (l := l) (B := B) (D := D) (cT := cT) (n := n) (adK := adK) (adV := adV) h0 hr_19
      refine tt_cP (pc := 36) (tt_vi E lmX2_95 mtX2_firstReady hc_20 h0 rfl rfl (Nat.le_of_ble_eq_true rfl) ⟨(Nat.le_of_ble_eq_true rfl), (Nat.le_of_ble_eq_true rfl)⟩ ⟨(Nat.le_of_ble_eq_true rfl), (Nat.le_of_ble_eq_true rfl)⟩ dX2_bringNext_36) (fun kq_21 => ?_)
      exact tt_aret (pc := 39) E kq_21 hr hlk dX2_bringNext_39 (Nat.le_of_ble_eq_true rfl) (Nat.le_of_ble_eq_true rfl) hf
    · have hf := ine c_22 hf
      refine tt_aload_n (pc := 25) (i := 1) (j := 0) E dX2_bringNext_25 rfl rfl ?_
      exact tt_aret (pc := 26) E kq_8 hr hlk dX2_bringNext_26 (Nat.le_of_ble_eq_true rfl) (Nat.le_of_ble_eq_true rfl) hf
  · have hf := ine c_26 hf
    refine tt_aload_n (pc := 7) (i := 0) (j := 0) E dX2_bringNext_7 rfl rfl ?_
    obtain ⟨q_23, hq_24, hf⟩ := bd_some hf
    refine tt_getP (pc := 8) (t := 2) E lfX2_20 rfl rfl h0 dX2_bringNext_8 hq_24 (fun kq_25 => ?_)
    exact tt_aret (pc := 11) E kq_25 hr hlk dX2_bringNext_11 (Nat.le_of_ble_eq_true rfl) (Nat.le_of_ble_eq_true rfl) hf
set_option maxHeartbeats 4000000 in
theorem cX3_amountAt_ok {l : Launch} {B : Nat} {D : va_G} {cT : Nat → ClassId} {n : Nat} {adK adV : Nat → Nat} {o0 : Nat} {v1 : Int32} {μ : Mem} {res : Int32} (h0 : isK n o0 2) (hf : fX3_amountAt o0 v1 μ = some res) : MI l yX3_amountAt cX3_amountAt 2 (some .int) rmX3_amountAt B D cT (XW B adK adV) n [.ref (B + o0), .int v1] μ (res, μ) := by
  refine tt_ofW mtX3_amountAt.1 (Nat.le_of_ble_eq_true rfl) rfl ?_
  intro p e s m below meth c E0 hr hlk
  have E : EE p s m _ c cX3_amountAt 2 RX3 B D cT (XW B adK adV) := E0
  unfold fX3_amountAt at hf
  refine tt_aload_n (pc := 0) (i := 0) (j := 0) E dX3_amountAt_0 rfl rfl ?_
  refine tt_iload_n (pc := 1) (i := 1) (j := 1) E dX3_amountAt_1 rfl rfl ?_
  obtain ⟨r_1, hr_2, hf⟩ := bd_some hf
  have hc_3 := cX3_hasAct_ok (l := l) (B := B) (D := D) (cT := cT) (n := n) (adK := adK) (adV := adV) h0 hr_2
  refine tt_cZ (pc := 2) (tt_vi E lmX3_66 mtX3_hasAct hc_3 h0 rfl rfl (Nat.le_of_ble_eq_true rfl) ⟨(Nat.le_of_ble_eq_true rfl), (Nat.le_of_ble_eq_true rfl)⟩ ⟨(Nat.le_of_ble_eq_true rfl), (Nat.le_of_ble_eq_true rfl)⟩ dX3_amountAt_2) (fun z_4 => ?_)
  refine tt_if_eq (pc := 5) (tgt := 17) E dX3_amountAt_5 rfl (fun c_9 => ?_) (fun c_9 => ?_)
  · have hf := ip c_9 hf
    refine tt_iconst (pc := 17) (v := (-1)) E dX3_amountAt_17 ic_m1 ?_
    exact tt_iret (pc := 18) E hr hlk dX3_amountAt_18 (Nat.le_of_ble_eq_true rfl) (Nat.le_of_ble_eq_true rfl) (pv hf)
  · have hf := ine c_9 hf
    refine tt_aload_n (pc := 8) (i := 0) (j := 0) E dX3_amountAt_8 rfl rfl ?_
    obtain ⟨q_5, hq_6, hf⟩ := bd_some hf
    refine tt_getP (pc := 9) (t := 11) E lfX3_15 rfl rfl h0 dX3_amountAt_9 hq_6 (fun kq_7 => ?_)
    refine tt_iload_n (pc := 12) (i := 1) (j := 1) E dX3_amountAt_12 rfl rfl ?_
    obtain ⟨g_8, hf⟩ := gd_some hf
    refine tt_iald (pc := 13) E kq_7 g_8 dX3_amountAt_13 ?_
    refine tt_goto (pc := 14) (tgt := 18) E dX3_amountAt_14 rfl ?_
    exact tt_iret (pc := 18) E hr hlk dX3_amountAt_18 (Nat.le_of_ble_eq_true rfl) (Nat.le_of_ble_eq_true rfl) (pv hf)
set_option maxHeartbeats 4000000 in
theorem cX3_kindAt_ok {l : Launch} {B : Nat} {D : va_G} {cT : Nat → ClassId} {n : Nat} {adK adV : Nat → Nat} {o0 : Nat} {v1 : Int32} {μ : Mem} {res : Int32} (h0 : isK n o0 2) (hf : fX3_kindAt o0 v1 μ = some res) : MI l yX3_kindAt cX3_kindAt 2 (some .int) rmX3_kindAt B D cT (XW B adK adV) n [.ref (B + o0), .int v1] μ (res, μ) := by
  refine tt_ofW mtX3_kindAt.1 (Nat.le_of_ble_eq_true rfl) rfl ?_
  intro p e s m below meth c E0 hr hlk
  have E : EE p s m _ c cX3_kindAt 2 RX3 B D cT (XW B adK adV) := E0
  unfold fX3_kindAt at hf
  refine tt_aload_n (pc := 0) (i := 0) (j := 0) E dX3_kindAt_0 rfl rfl ?_
  refine tt_iload_n (pc := 1) (i := 1) (j := 1) E dX3_kindAt_1 rfl rfl ?_
  obtain ⟨r_1, hr_2, hf⟩ := bd_some hf
  have hc_3 := cX3_hasAct_ok (l := l) (B := B) (D := D) (cT := cT) (n := n) (adK := adK) (adV := adV) h0 hr_2
  refine tt_cZ (pc := 2) (tt_vi E lmX3_66 mtX3_hasAct hc_3 h0 rfl rfl (Nat.le_of_ble_eq_true rfl) ⟨(Nat.le_of_ble_eq_true rfl), (Nat.le_of_ble_eq_true rfl)⟩ ⟨(Nat.le_of_ble_eq_true rfl), (Nat.le_of_ble_eq_true rfl)⟩ dX3_kindAt_2) (fun z_4 => ?_)
  refine tt_if_eq (pc := 5) (tgt := 17) E dX3_kindAt_5 rfl (fun c_9 => ?_) (fun c_9 => ?_)
  · have hf := ip c_9 hf
    refine tt_iconst (pc := 17) (v := (-1)) E dX3_kindAt_17 ic_m1 ?_
    exact tt_iret (pc := 18) E hr hlk dX3_kindAt_18 (Nat.le_of_ble_eq_true rfl) (Nat.le_of_ble_eq_true rfl) (pv hf)
  · have hf := ine c_9 hf
    refine tt_aload_n (pc := 8) (i := 0) (j := 0) E dX3_kindAt_8 rfl rfl ?_
    obtain ⟨q_5, hq_6, hf⟩ := bd_some hf
    refine tt_getP (pc := 9) (t := 11) E lfX3_9 rfl rfl h0 dX3_kindAt_9 hq_6 (fun kq_7 => ?_)
    refine tt_iload_n (pc := 12) (i := 1) (j := 1) E dX3_kindAt_12 rfl rfl ?_
    obtain ⟨g_8, hf⟩ := gd_some hf
    refine tt_iald (pc := 13) E kq_7 g_8 dX3_kindAt_13 ?_
    refine tt_goto (pc := 14) (tgt := 18) E dX3_kindAt_14 rfl ?_
    exact tt_iret (pc := 18) E hr hlk dX3_kindAt_18 (Nat.le_of_ble_eq_true rfl) (Nat.le_of_ble_eq_true rfl) (pv hf)
set_option maxHeartbeats 4000000 in
theorem tX2_weakest_17 {p : Program} {l : Launch} {e : Env} {s : State} {m : MethodId} {args : Array Value} {below : List Frame} {meth : Method} {c : Code} {B : Nat} {D : va_G} {cT : Nat → ClassId} {n : Nat} {adK adV : Nat → Nat} {res : Nat} (E : EE p s m args c cX2_weakest 7 RX2 B D cT (XW B adK adV)) (hr : meth.sig.returnType = some (.object "TurnWheel$Fighter")) (hlk : meth.locks = false) {o0 : Nat} {v1 : Int32} {o3 : Nat} {v4 : Int32} (h0 : isK n o0 1) (h3 : isK n o3 15) {μ : Mem} : ∀ (fu : Nat) (o2 : Nat) (v5 : Int32) (h2 : isK n o2 2), zl2 (gX2_weakest_17 o0 v1 o3 v4 μ) fu o2 v5 = some res → TT p l e rmX2_weakest s m args below meth c (QP 2 B D cT n below args s (res, μ)) 7 B D cT n 0 0 μ 17 [(0, .ref (B + o0)), (1, .int v1), (2, .ref (B + o2)), (3, .ref (B + o3)), (4, .int v4), (5, .int v5)] [] := by
  intro fu
  induction fu with
  | zero => intro o2 v5 h2 hf; exact absurd hf (fun h => by cases h)
  | succ fu ih =>
    intro o2 v5 h2 hf
    have hf : gX2_weakest_17 o0 v1 o3 v4 μ (zl2 (gX2_weakest_17 o0 v1 o3 v4 μ) fu) o2 v5 = some res := hf
    unfold gX2_weakest_17 at hf
    refine tt_iload (pc := 17) (i := 5) (j := 5) E dX2_weakest_17 rfl ?_
    refine tt_iload (pc := 19) (i := 4) (j := 4) E dX2_weakest_19 rfl ?_
    refine tt_icmp_ge (pc := 21) (tgt := 76) E dX2_weakest_21 rfl (fun c_17 => ?_) (fun c_17 => ?_)
    · have hf := ip c_17 hf
      refine tt_aload_n (pc := 76) (i := 2) (j := 2) E dX2_weakest_76 rfl rfl ?_
      exact tt_aret (pc := 77) E h2 hr hlk dX2_weakest_77 (Nat.le_of_ble_eq_true rfl) (Nat.le_of_ble_eq_true rfl) (pv hf)
    · have hf := ine c_17 hf
      refine tt_aload_n (pc := 24) (i := 3) (j := 3) E dX2_weakest_24 rfl rfl ?_
      refine tt_iload (pc := 25) (i := 5) (j := 5) E dX2_weakest_25 rfl ?_
      obtain ⟨g_1, hf⟩ := gd_some hf
      obtain ⟨q_2, hq_3, hf⟩ := bd_some hf
      refine tt_aald15 (pc := 27) E h3 g_1 dX2_weakest_27 hq_3 (fun kq_4 => ?_)
      refine tt_astore (pc := 28) (i := 6) (lv' := [(6, .ref (B + q_2)), (0, .ref (B + o0)), (1, .int v1), (2, .ref (B + o2)), (3, .ref (B + o3)), (4, .int v4), (5, .int v5)]) E dX2_weakest_28 (Nat.le_of_ble_eq_true rfl) rfl ?_
      refine tt_aload (pc := 30) (i := 6) (j := 0) E dX2_weakest_30 rfl ?_
      refine tt_getI (pc := 32) E lfX2_52 rfl kq_4 dX2_weakest_32 ?_
      refine tt_if_le (pc := 35) (tgt := 70) E dX2_weakest_35 rfl (fun c_16 => ?_) (fun c_16 => ?_)
      · have hf := ip c_16 hf
        obtain ⟨v_5, ev_5, hf⟩ := nm_ex hf
        refine tt_iinc (pc := 70) (i := 5) (j := 6) (lv' := [(5, .int v_5), (6, .ref (B + q_2)), (0, .ref (B + o0)), (1, .int v1), (2, .ref (B + o2)), (3, .ref (B + o3)), (4, .int v4)]) E dX2_weakest_70 rfl (ev_5).symm (Nat.le_of_ble_eq_true rfl) rfl ?_
        refine tt_goto (pc := 73) (tgt := 17) E dX2_weakest_73 rfl ?_
        refine tt_sub [2, 3, 4, 5, 6, 0] (lv' := [(0, .ref (B + o0)), (1, .int v1), (2, .ref (B + o2)), (3, .ref (B + o3)), (4, .int v4), (5, .int v_5)]) rfl ?_
        exact ih o2 v_5 h2 hf
      · have hf := ine c_16 hf
        refine tt_aload (pc := 38) (i := 6) (j := 0) E dX2_weakest_38 rfl ?_
        refine tt_getI (pc := 40) E lfX2_58 rfl kq_4 dX2_weakest_40 ?_
        refine tt_iload_n (pc := 43) (i := 1) (j := 2) E dX2_weakest_43 rfl rfl ?_
        refine tt_icmp_ne (pc := 44) (tgt := 70) E dX2_weakest_44 rfl (fun c_15 => ?_) (fun c_15 => ?_)
        · have hf := ine c_15 hf
          obtain ⟨v_6, ev_6, hf⟩ := nm_ex hf
          refine tt_iinc (pc := 70) (i := 5) (j := 6) (lv' := [(5, .int v_6), (6, .ref (B + q_2)), (0, .ref (B + o0)), (1, .int v1), (2, .ref (B + o2)), (3, .ref (B + o3)), (4, .int v4)]) E dX2_weakest_70 rfl (ev_6).symm (Nat.le_of_ble_eq_true rfl) rfl ?_
          refine tt_goto (pc := 73) (tgt := 17) E dX2_weakest_73 rfl ?_
          refine tt_sub [2, 3, 4, 5, 6, 0] (lv' := [(0, .ref (B + o0)), (1, .int v1), (2, .ref (B + o2)), (3, .ref (B + o3)), (4, .int v4), (5, .int v_6)]) rfl ?_
          exact ih o2 v_6 h2 hf
        · have hf := ip c_15 hf
          refine tt_aload_n (pc := 47) (i := 2) (j := 3) E dX2_weakest_47 rfl rfl ?_
          refine tt_aload_n (pc := 48) (i := 0) (j := 1) E dX2_weakest_48 rfl rfl ?_
          obtain ⟨q_7, hq_8, hf⟩ := bd_some hf
          refine tt_getP (pc := 49) (t := 2) E lfX2_20 rfl rfl h0 dX2_weakest_49 hq_8 (fun kq_9 => ?_)
          refine tt_acmp_eq (pc := 52) (tgt := 67) E dX2_weakest_52 rfl (fun c_14 => ?_) (fun c_14 => ?_)
          · have hf := ip c_14 hf
            refine tt_aload (pc := 67) (i := 6) (j := 0) E dX2_weakest_67 rfl ?_
            refine tt_astore_n (pc := 69) (i := 2) (lv' := [(2, .ref (B + q_2)), (6, .ref (B + q_2)), (0, .ref (B + o0)), (1, .int v1), (3, .ref (B + o3)), (4, .int v4), (5, .int v5)]) E dX2_weakest_69 rfl (Nat.le_of_ble_eq_true rfl) rfl ?_
            obtain ⟨v_10, ev_10, hf⟩ := nm_ex hf
            refine tt_iinc (pc := 70) (i := 5) (j := 6) (lv' := [(5, .int v_10), (2, .ref (B + q_2)), (6, .ref (B + q_2)), (0, .ref (B + o0)), (1, .int v1), (3, .ref (B + o3)), (4, .int v4)]) E dX2_weakest_70 rfl (ev_10).symm (Nat.le_of_ble_eq_true rfl) rfl ?_
            refine tt_goto (pc := 73) (tgt := 17) E dX2_weakest_73 rfl ?_
            refine tt_sub [3, 4, 1, 5, 6, 0] (lv' := [(0, .ref (B + o0)), (1, .int v1), (2, .ref (B + q_2)), (3, .ref (B + o3)), (4, .int v4), (5, .int v_10)]) rfl ?_
            exact ih q_2 v_10 kq_4 hf
          · have hf := ine c_14 hf
            refine tt_aload (pc := 55) (i := 6) (j := 0) E dX2_weakest_55 rfl ?_
            refine tt_getI (pc := 57) E lfX2_52 rfl kq_4 dX2_weakest_57 ?_
            refine tt_aload_n (pc := 60) (i := 2) (j := 3) E dX2_weakest_60 rfl rfl ?_
            refine tt_getI (pc := 61) E lfX2_52 rfl h2 dX2_weakest_61 ?_
            refine tt_icmp_ge (pc := 64) (tgt := 70) E dX2_weakest_64 rfl (fun c_13 => ?_) (fun c_13 => ?_)
            · have hf := ip c_13 hf
              obtain ⟨v_11, ev_11, hf⟩ := nm_ex hf
              refine tt_iinc (pc := 70) (i := 5) (j := 6) (lv' := [(5, .int v_11), (6, .ref (B + q_2)), (0, .ref (B + o0)), (1, .int v1), (2, .ref (B + o2)), (3, .ref (B + o3)), (4, .int v4)]) E dX2_weakest_70 rfl (ev_11).symm (Nat.le_of_ble_eq_true rfl) rfl ?_
              refine tt_goto (pc := 73) (tgt := 17) E dX2_weakest_73 rfl ?_
              refine tt_sub [2, 3, 4, 5, 6, 0] (lv' := [(0, .ref (B + o0)), (1, .int v1), (2, .ref (B + o2)), (3, .ref (B + o3)), (4, .int v4), (5, .int v_11)]) rfl ?_
              exact ih o2 v_11 h2 hf
            · have hf := ine c_13 hf
              refine tt_aload (pc := 67) (i := 6) (j := 0) E dX2_weakest_67 rfl ?_
              refine tt_astore_n (pc := 69) (i := 2) (lv' := [(2, .ref (B + q_2)), (6, .ref (B + q_2)), (0, .ref (B + o0)), (1, .int v1), (3, .ref (B + o3)), (4, .int v4), (5, .int v5)]) E dX2_weakest_69 rfl (Nat.le_of_ble_eq_true rfl) rfl ?_
              obtain ⟨v_12, ev_12, hf⟩ := nm_ex hf
              refine tt_iinc (pc := 70) (i := 5) (j := 6) (lv' := [(5, .int v_12), (2, .ref (B + q_2)), (6, .ref (B + q_2)), (0, .ref (B + o0)), (1, .int v1), (3, .ref (B + o3)), (4, .int v4)]) E dX2_weakest_70 rfl (ev_12).symm (Nat.le_of_ble_eq_true rfl) rfl ?_
              refine tt_goto (pc := 73) (tgt := 17) E dX2_weakest_73 rfl ?_
              refine tt_sub [3, 4, 1, 5, 6, 0] (lv' := [(0, .ref (B + o0)), (1, .int v1), (2, .ref (B + q_2)), (3, .ref (B + o3)), (4, .int v4), (5, .int v_12)]) rfl ?_
              exact ih q_2 v_12 kq_4 hf
set_option maxHeartbeats 4000000 in
theorem cX2_weakest_ok {l : Launch} {B : Nat} {D : va_G} {cT : Nat → ClassId} {n : Nat} {adK adV : Nat → Nat} {o0 : Nat} {v1 : Int32} {μ : Mem} {res : Nat} (h0 : isK n o0 1) (hf : fX2_weakest o0 v1 μ = some res) : MP 2 l yX2_weakest cX2_weakest 7 (some (.object "TurnWheel$Fighter")) rmX2_weakest B D cT (XW B adK adV) n [.ref (B + o0), .int v1] μ (res, μ) := by
  refine tt_ofW mtX2_weakest.1 (Nat.le_of_ble_eq_true rfl) rfl ?_
  intro p e s m below meth c E0 hr hlk
  have E : EE p s m _ c cX2_weakest 7 RX2 B D cT (XW B adK adV) := E0
  unfold fX2_weakest at hf
  refine tt_aload_n (pc := 0) (i := 0) (j := 0) E dX2_weakest_0 rfl rfl ?_
  obtain ⟨q_1, hq_2, hf⟩ := bd_some hf
  refine tt_getP (pc := 1) (t := 2) E lfX2_20 rfl rfl h0 dX2_weakest_1 hq_2 (fun kq_3 => ?_)
  refine tt_astore_n (pc := 4) (i := 2) (lv' := [(2, .ref (B + q_1)), (0, .ref (B + o0)), (1, .int v1)]) E dX2_weakest_4 rfl (Nat.le_of_ble_eq_true rfl) rfl ?_
  refine tt_aload_n (pc := 5) (i := 0) (j := 1) E dX2_weakest_5 rfl rfl ?_
  obtain ⟨q_4, hq_5, hf⟩ := bd_some hf
  refine tt_getP (pc := 6) (t := 15) E lfX2_11 rfl rfl h0 dX2_weakest_6 hq_5 (fun kq_6 => ?_)
  refine tt_astore_n (pc := 9) (i := 3) (lv' := [(3, .ref (B + q_4)), (2, .ref (B + q_1)), (0, .ref (B + o0)), (1, .int v1)]) E dX2_weakest_9 rfl (Nat.le_of_ble_eq_true rfl) rfl ?_
  refine tt_aload_n (pc := 10) (i := 3) (j := 0) E dX2_weakest_10 rfl rfl ?_
  refine tt_alen (pc := 11) (v := Int32.ofNat (Ln q_4)) E (k := 15) ⟨(Nat.le_of_ble_eq_true rfl), (Nat.le_of_ble_eq_true rfl)⟩ kq_6 rfl dX2_weakest_11 ?_
  refine tt_nmI hf (fun v_7 hf => ?_)
  refine tt_istore (pc := 12) (i := 4) (lv' := [(4, .int v_7), (3, .ref (B + q_4)), (2, .ref (B + q_1)), (0, .ref (B + o0)), (1, .int v1)]) E dX2_weakest_12 (Nat.le_of_ble_eq_true rfl) rfl ?_
  refine tt_iconst (pc := 14) (v := 0) E dX2_weakest_14 ic_0 ?_
  refine tt_istore (pc := 15) (i := 5) (lv' := [(5, .int 0), (4, .int v_7), (3, .ref (B + q_4)), (2, .ref (B + q_1)), (0, .ref (B + o0)), (1, .int v1)]) E dX2_weakest_15 (Nat.le_of_ble_eq_true rfl) rfl ?_
  refine tt_sub [4, 5, 3, 2, 1, 0] (lv' := [(0, .ref (B + o0)), (1, .int v1), (2, .ref (B + q_1)), (3, .ref (B + q_4)), (4, .int v_7), (5, .int 0)]) rfl ?_
  exact tX2_weakest_17 E hr hlk h0 kq_6 FU q_1 0 kq_3 hf
set_option maxHeartbeats 4000000 in
theorem cX3_loseLife_ok {l : Launch} {B : Nat} {D : va_G} {cT : Nat → ClassId} {n : Nat} {adK adV : Nat → Nat} {o0 : Nat} {v1 : Int32} {μ : Mem} {res : Int32 × Mem} (h0 : isK n o0 2) (hf : fX3_loseLife o0 v1 μ = some res) : MI l yX3_loseLife cX3_loseLife 3 (some .int) rmX3_loseLife B D cT (XW B adK adV) n [.ref (B + o0), .int v1] μ res := by
  refine tt_ofW mtX3_loseLife.1 (Nat.le_of_ble_eq_true rfl) rfl ?_
  intro p e s m below meth c E0 hr hlk
  have E : EE p s m _ c cX3_loseLife 3 RX3 B D cT (XW B adK adV) := E0
  unfold fX3_loseLife at hf
  refine tt_iload_n (pc := 0) (i := 1) (j := 1) E dX3_loseLife_0 rfl rfl ?_
  refine tt_aload_n (pc := 1) (i := 0) (j := 0) E dX3_loseLife_1 rfl rfl ?_
  refine tt_getI (pc := 2) E lfX3_41 rfl h0 dX3_loseLife_2 ?_
  refine tt_isub (pc := 5) E dX3_loseLife_5 ?_
  refine tt_iconst (pc := 6) (v := 0) E dX3_loseLife_6 ic_0 ?_
  refine tt_mmax (pc := 7) E lmX3_74 (Nat.le_of_ble_eq_true rfl) (Nat.le_of_ble_eq_true rfl) ⟨(Nat.le_of_ble_eq_true rfl), (Nat.le_of_ble_eq_true rfl)⟩ dX3_loseLife_7 ?_
  refine tt_aload_n (pc := 10) (i := 0) (j := 0) E dX3_loseLife_10 rfl rfl ?_
  refine tt_getI (pc := 11) E lfX3_32 rfl h0 dX3_loseLife_11 ?_
  refine tt_mmin (pc := 14) E lmX3_80 (Nat.le_of_ble_eq_true rfl) (Nat.le_of_ble_eq_true rfl) ⟨(Nat.le_of_ble_eq_true rfl), (Nat.le_of_ble_eq_true rfl)⟩ dX3_loseLife_14 ?_
  refine tt_nmI hf (fun v_1 hf => ?_)
  refine tt_istore_n (pc := 17) (i := 2) (lv' := [(2, .int v_1), (0, .ref (B + o0)), (1, .int v1)]) E dX3_loseLife_17 rfl (Nat.le_of_ble_eq_true rfl) rfl ?_
  refine tt_aload_n (pc := 18) (i := 0) (j := 1) E dX3_loseLife_18 rfl rfl ?_
  refine tt_dup (pc := 19) E dX3_loseLife_19 rfl ?_
  refine tt_getI (pc := 20) E lfX3_32 rfl h0 dX3_loseLife_20 ?_
  refine tt_iload_n (pc := 23) (i := 2) (j := 0) E dX3_loseLife_23 rfl rfl ?_
  refine tt_isub (pc := 24) E dX3_loseLife_24 ?_
  refine tt_putI (pc := 25) E lfX3_32 rfl h0 dX3_loseLife_25 (tt_nmM hf (fun m_2 hf => ?_))
  refine tt_aload_n (pc := 28) (i := 0) (j := 1) E dX3_loseLife_28 rfl rfl ?_
  refine tt_getI (pc := 29) E lfX3_32 rfl h0 dX3_loseLife_29 ?_
  refine tt_if_ne (pc := 32) (tgt := 50) E dX3_loseLife_32 rfl (fun c_6 => ?_) (fun c_6 => ?_)
  · have hf := ine c_6 hf
    refine tt_iload_n (pc := 50) (i := 2) (j := 0) E dX3_loseLife_50 rfl rfl ?_
    exact tt_iret (pc := 51) E hr hlk dX3_loseLife_51 (Nat.le_of_ble_eq_true rfl) (Nat.le_of_ble_eq_true rfl) hf
  · have hf := ip c_6 hf
    refine tt_aload_n (pc := 35) (i := 0) (j := 1) E dX3_loseLife_35 rfl rfl ?_
    refine tt_iconst (pc := 36) (v := 0) E dX3_loseLife_36 ic_0 ?_
    refine tt_putI (pc := 37) E lfX3_38 rfl h0 dX3_loseLife_37 (tt_nmM hf (fun m_3 hf => ?_))
    refine tt_aload_n (pc := 40) (i := 0) (j := 1) E dX3_loseLife_40 rfl rfl ?_
    refine tt_iconst (pc := 41) (v := 0) E dX3_loseLife_41 ic_0 ?_
    refine tt_putI (pc := 42) E lfX3_41 rfl h0 dX3_loseLife_42 (tt_nmM hf (fun m_4 hf => ?_))
    refine tt_aload_n (pc := 45) (i := 0) (j := 1) E dX3_loseLife_45 rfl rfl ?_
    refine tt_iconst (pc := 46) (v := 0) E dX3_loseLife_46 ic_0 ?_
    refine tt_putI (pc := 47) E lfX3_44 rfl h0 dX3_loseLife_47 (tt_nmM hf (fun m_5 hf => ?_))
    refine tt_iload_n (pc := 50) (i := 2) (j := 0) E dX3_loseLife_50 rfl rfl ?_
    exact tt_iret (pc := 51) E hr hlk dX3_loseLife_51 (Nat.le_of_ble_eq_true rfl) (Nat.le_of_ble_eq_true rfl) hf
set_option maxHeartbeats 4000000 in
theorem tX2_fullest_17 {p : Program} {l : Launch} {e : Env} {s : State} {m : MethodId} {args : Array Value} {below : List Frame} {meth : Method} {c : Code} {B : Nat} {D : va_G} {cT : Nat → ClassId} {n : Nat} {adK adV : Nat → Nat} {res : Nat} (E : EE p s m args c cX2_fullest 7 RX2 B D cT (XW B adK adV)) (hr : meth.sig.returnType = some (.object "TurnWheel$Fighter")) (hlk : meth.locks = false) {o0 : Nat} {v1 : Int32} {o3 : Nat} {v4 : Int32} (h0 : isK n o0 1) (h3 : isK n o3 15) {μ : Mem} : ∀ (fu : Nat) (o2 : Nat) (v5 : Int32) (h2 : isK n o2 2), zl2 (gX2_fullest_17 o0 v1 o3 v4 μ) fu o2 v5 = some res → TT p l e rmX2_fullest s m args below meth c (QP 2 B D cT n below args s (res, μ)) 7 B D cT n 0 0 μ 17 [(0, .ref (B + o0)), (1, .int v1), (2, .ref (B + o2)), (3, .ref (B + o3)), (4, .int v4), (5, .int v5)] [] := by
  intro fu
  induction fu with
  | zero => intro o2 v5 h2 hf; exact absurd hf (fun h => by cases h)
  | succ fu ih =>
    intro o2 v5 h2 hf
    have hf : gX2_fullest_17 o0 v1 o3 v4 μ (zl2 (gX2_fullest_17 o0 v1 o3 v4 μ) fu) o2 v5 = some res := hf
    unfold gX2_fullest_17 at hf
    refine tt_iload (pc := 17) (i := 5) (j := 5) E dX2_fullest_17 rfl ?_
    refine tt_iload (pc := 19) (i := 4) (j := 4) E dX2_fullest_19 rfl ?_
    refine tt_icmp_ge (pc := 21) (tgt := 76) E dX2_fullest_21 rfl (fun c_17 => ?_) (fun c_17 => ?_)
    · have hf := ip c_17 hf
      refine tt_aload_n (pc := 76) (i := 2) (j := 2) E dX2_fullest_76 rfl rfl ?_
      exact tt_aret (pc := 77) E h2 hr hlk dX2_fullest_77 (Nat.le_of_ble_eq_true rfl) (Nat.le_of_ble_eq_true rfl) (pv hf)
    · have hf := ine c_17 hf
      refine tt_aload_n (pc := 24) (i := 3) (j := 3) E dX2_fullest_24 rfl rfl ?_
      refine tt_iload (pc := 25) (i := 5) (j := 5) E dX2_fullest_25 rfl ?_
      obtain ⟨g_1, hf⟩ := gd_some hf
      obtain ⟨q_2, hq_3, hf⟩ := bd_some hf
      refine tt_aald15 (pc := 27) E h3 g_1 dX2_fullest_27 hq_3 (fun kq_4 => ?_)
      refine tt_astore (pc := 28) (i := 6) (lv' := [(6, .ref (B + q_2)), (0, .ref (B + o0)), (1, .int v1), (2, .ref (B + o2)), (3, .ref (B + o3)), (4, .int v4), (5, .int v5)]) E dX2_fullest_28 (Nat.le_of_ble_eq_true rfl) rfl ?_
      refine tt_aload (pc := 30) (i := 6) (j := 0) E dX2_fullest_30 rfl ?_
      refine tt_getI (pc := 32) E lfX2_52 rfl kq_4 dX2_fullest_32 ?_
      refine tt_if_le (pc := 35) (tgt := 70) E dX2_fullest_35 rfl (fun c_16 => ?_) (fun c_16 => ?_)
      · have hf := ip c_16 hf
        obtain ⟨v_5, ev_5, hf⟩ := nm_ex hf
        refine tt_iinc (pc := 70) (i := 5) (j := 6) (lv' := [(5, .int v_5), (6, .ref (B + q_2)), (0, .ref (B + o0)), (1, .int v1), (2, .ref (B + o2)), (3, .ref (B + o3)), (4, .int v4)]) E dX2_fullest_70 rfl (ev_5).symm (Nat.le_of_ble_eq_true rfl) rfl ?_
        refine tt_goto (pc := 73) (tgt := 17) E dX2_fullest_73 rfl ?_
        refine tt_sub [2, 3, 4, 5, 6, 0] (lv' := [(0, .ref (B + o0)), (1, .int v1), (2, .ref (B + o2)), (3, .ref (B + o3)), (4, .int v4), (5, .int v_5)]) rfl ?_
        exact ih o2 v_5 h2 hf
      · have hf := ine c_16 hf
        refine tt_aload (pc := 38) (i := 6) (j := 0) E dX2_fullest_38 rfl ?_
        refine tt_getI (pc := 40) E lfX2_58 rfl kq_4 dX2_fullest_40 ?_
        refine tt_iload_n (pc := 43) (i := 1) (j := 2) E dX2_fullest_43 rfl rfl ?_
        refine tt_icmp_ne (pc := 44) (tgt := 70) E dX2_fullest_44 rfl (fun c_15 => ?_) (fun c_15 => ?_)
        · have hf := ine c_15 hf
          obtain ⟨v_6, ev_6, hf⟩ := nm_ex hf
          refine tt_iinc (pc := 70) (i := 5) (j := 6) (lv' := [(5, .int v_6), (6, .ref (B + q_2)), (0, .ref (B + o0)), (1, .int v1), (2, .ref (B + o2)), (3, .ref (B + o3)), (4, .int v4)]) E dX2_fullest_70 rfl (ev_6).symm (Nat.le_of_ble_eq_true rfl) rfl ?_
          refine tt_goto (pc := 73) (tgt := 17) E dX2_fullest_73 rfl ?_
          refine tt_sub [2, 3, 4, 5, 6, 0] (lv' := [(0, .ref (B + o0)), (1, .int v1), (2, .ref (B + o2)), (3, .ref (B + o3)), (4, .int v4), (5, .int v_6)]) rfl ?_
          exact ih o2 v_6 h2 hf
        · have hf := ip c_15 hf
          refine tt_aload_n (pc := 47) (i := 2) (j := 3) E dX2_fullest_47 rfl rfl ?_
          refine tt_aload_n (pc := 48) (i := 0) (j := 1) E dX2_fullest_48 rfl rfl ?_
          obtain ⟨q_7, hq_8, hf⟩ := bd_some hf
          refine tt_getP (pc := 49) (t := 2) E lfX2_20 rfl rfl h0 dX2_fullest_49 hq_8 (fun kq_9 => ?_)
          refine tt_acmp_eq (pc := 52) (tgt := 67) E dX2_fullest_52 rfl (fun c_14 => ?_) (fun c_14 => ?_)
          · have hf := ip c_14 hf
            refine tt_aload (pc := 67) (i := 6) (j := 0) E dX2_fullest_67 rfl ?_
            refine tt_astore_n (pc := 69) (i := 2) (lv' := [(2, .ref (B + q_2)), (6, .ref (B + q_2)), (0, .ref (B + o0)), (1, .int v1), (3, .ref (B + o3)), (4, .int v4), (5, .int v5)]) E dX2_fullest_69 rfl (Nat.le_of_ble_eq_true rfl) rfl ?_
            obtain ⟨v_10, ev_10, hf⟩ := nm_ex hf
            refine tt_iinc (pc := 70) (i := 5) (j := 6) (lv' := [(5, .int v_10), (2, .ref (B + q_2)), (6, .ref (B + q_2)), (0, .ref (B + o0)), (1, .int v1), (3, .ref (B + o3)), (4, .int v4)]) E dX2_fullest_70 rfl (ev_10).symm (Nat.le_of_ble_eq_true rfl) rfl ?_
            refine tt_goto (pc := 73) (tgt := 17) E dX2_fullest_73 rfl ?_
            refine tt_sub [3, 4, 1, 5, 6, 0] (lv' := [(0, .ref (B + o0)), (1, .int v1), (2, .ref (B + q_2)), (3, .ref (B + o3)), (4, .int v4), (5, .int v_10)]) rfl ?_
            exact ih q_2 v_10 kq_4 hf
          · have hf := ine c_14 hf
            refine tt_aload (pc := 55) (i := 6) (j := 0) E dX2_fullest_55 rfl ?_
            refine tt_getI (pc := 57) E lfX2_101 rfl kq_4 dX2_fullest_57 ?_
            refine tt_aload_n (pc := 60) (i := 2) (j := 3) E dX2_fullest_60 rfl rfl ?_
            refine tt_getI (pc := 61) E lfX2_101 rfl h2 dX2_fullest_61 ?_
            refine tt_icmp_le (pc := 64) (tgt := 70) E dX2_fullest_64 rfl (fun c_13 => ?_) (fun c_13 => ?_)
            · have hf := ip c_13 hf
              obtain ⟨v_11, ev_11, hf⟩ := nm_ex hf
              refine tt_iinc (pc := 70) (i := 5) (j := 6) (lv' := [(5, .int v_11), (6, .ref (B + q_2)), (0, .ref (B + o0)), (1, .int v1), (2, .ref (B + o2)), (3, .ref (B + o3)), (4, .int v4)]) E dX2_fullest_70 rfl (ev_11).symm (Nat.le_of_ble_eq_true rfl) rfl ?_
              refine tt_goto (pc := 73) (tgt := 17) E dX2_fullest_73 rfl ?_
              refine tt_sub [2, 3, 4, 5, 6, 0] (lv' := [(0, .ref (B + o0)), (1, .int v1), (2, .ref (B + o2)), (3, .ref (B + o3)), (4, .int v4), (5, .int v_11)]) rfl ?_
              exact ih o2 v_11 h2 hf
            · have hf := ine c_13 hf
              refine tt_aload (pc := 67) (i := 6) (j := 0) E dX2_fullest_67 rfl ?_
              refine tt_astore_n (pc := 69) (i := 2) (lv' := [(2, .ref (B + q_2)), (6, .ref (B + q_2)), (0, .ref (B + o0)), (1, .int v1), (3, .ref (B + o3)), (4, .int v4), (5, .int v5)]) E dX2_fullest_69 rfl (Nat.le_of_ble_eq_true rfl) rfl ?_
              obtain ⟨v_12, ev_12, hf⟩ := nm_ex hf
              refine tt_iinc (pc := 70) (i := 5) (j := 6) (lv' := [(5, .int v_12), (2, .ref (B + q_2)), (6, .ref (B + q_2)), (0, .ref (B + o0)), (1, .int v1), (3, .ref (B + o3)), (4, .int v4)]) E dX2_fullest_70 rfl (ev_12).symm (Nat.le_of_ble_eq_true rfl) rfl ?_
              refine tt_goto (pc := 73) (tgt := 17) E dX2_fullest_73 rfl ?_
              refine tt_sub [3, 4, 1, 5, 6, 0] (lv' := [(0, .ref (B + o0)), (1, .int v1), (2, .ref (B + q_2)), (3, .ref (B + o3)), (4, .int v4), (5, .int v_12)]) rfl ?_
              exact ih q_2 v_12 kq_4 hf
set_option maxHeartbeats 4000000 in
theorem cX2_fullest_ok {l : Launch} {B : Nat} {D : va_G} {cT : Nat → ClassId} {n : Nat} {adK adV : Nat → Nat} {o0 : Nat} {v1 : Int32} {μ : Mem} {res : Nat} (h0 : isK n o0 1) (hf : fX2_fullest o0 v1 μ = some res) : MP 2 l yX2_fullest cX2_fullest 7 (some (.object "TurnWheel$Fighter")) rmX2_fullest B D cT (XW B adK adV) n [.ref (B + o0), .int v1] μ (res, μ) := by
  refine tt_ofW mtX2_fullest.1 (Nat.le_of_ble_eq_true rfl) rfl ?_
  intro p e s m below meth c E0 hr hlk
  have E : EE p s m _ c cX2_fullest 7 RX2 B D cT (XW B adK adV) := E0
  unfold fX2_fullest at hf
  refine tt_aload_n (pc := 0) (i := 0) (j := 0) E dX2_fullest_0 rfl rfl ?_
  obtain ⟨q_1, hq_2, hf⟩ := bd_some hf
  refine tt_getP (pc := 1) (t := 2) E lfX2_20 rfl rfl h0 dX2_fullest_1 hq_2 (fun kq_3 => ?_)
  refine tt_astore_n (pc := 4) (i := 2) (lv' := [(2, .ref (B + q_1)), (0, .ref (B + o0)), (1, .int v1)]) E dX2_fullest_4 rfl (Nat.le_of_ble_eq_true rfl) rfl ?_
  refine tt_aload_n (pc := 5) (i := 0) (j := 1) E dX2_fullest_5 rfl rfl ?_
  obtain ⟨q_4, hq_5, hf⟩ := bd_some hf
  refine tt_getP (pc := 6) (t := 15) E lfX2_11 rfl rfl h0 dX2_fullest_6 hq_5 (fun kq_6 => ?_)
  refine tt_astore_n (pc := 9) (i := 3) (lv' := [(3, .ref (B + q_4)), (2, .ref (B + q_1)), (0, .ref (B + o0)), (1, .int v1)]) E dX2_fullest_9 rfl (Nat.le_of_ble_eq_true rfl) rfl ?_
  refine tt_aload_n (pc := 10) (i := 3) (j := 0) E dX2_fullest_10 rfl rfl ?_
  refine tt_alen (pc := 11) (v := Int32.ofNat (Ln q_4)) E (k := 15) ⟨(Nat.le_of_ble_eq_true rfl), (Nat.le_of_ble_eq_true rfl)⟩ kq_6 rfl dX2_fullest_11 ?_
  refine tt_nmI hf (fun v_7 hf => ?_)
  refine tt_istore (pc := 12) (i := 4) (lv' := [(4, .int v_7), (3, .ref (B + q_4)), (2, .ref (B + q_1)), (0, .ref (B + o0)), (1, .int v1)]) E dX2_fullest_12 (Nat.le_of_ble_eq_true rfl) rfl ?_
  refine tt_iconst (pc := 14) (v := 0) E dX2_fullest_14 ic_0 ?_
  refine tt_istore (pc := 15) (i := 5) (lv' := [(5, .int 0), (4, .int v_7), (3, .ref (B + q_4)), (2, .ref (B + q_1)), (0, .ref (B + o0)), (1, .int v1)]) E dX2_fullest_15 (Nat.le_of_ble_eq_true rfl) rfl ?_
  refine tt_sub [4, 5, 3, 2, 1, 0] (lv' := [(0, .ref (B + o0)), (1, .int v1), (2, .ref (B + q_1)), (3, .ref (B + q_4)), (4, .int v_7), (5, .int 0)]) rfl ?_
  exact tX2_fullest_17 E hr hlk h0 kq_6 FU q_1 0 kq_3 hf
set_option maxHeartbeats 4000000 in
theorem cX3_loseGauge_ok {l : Launch} {B : Nat} {D : va_G} {cT : Nat → ClassId} {n : Nat} {adK adV : Nat → Nat} {o0 : Nat} {v1 : Int32} {μ : Mem} {res : Mem} (h0 : isK n o0 2) (hf : fX3_loseGauge o0 v1 μ = some res) : MV l yX3_loseGauge cX3_loseGauge 2 (none) rmX3_loseGauge B D cT (XW B adK adV) n [.ref (B + o0), .int v1] μ res := by
  refine tt_ofW mtX3_loseGauge.1 (Nat.le_of_ble_eq_true rfl) rfl ?_
  intro p e s m below meth c E0 hr hlk
  have E : EE p s m _ c cX3_loseGauge 2 RX3 B D cT (XW B adK adV) := E0
  unfold fX3_loseGauge at hf
  refine tt_aload_n (pc := 0) (i := 0) (j := 0) E dX3_loseGauge_0 rfl rfl ?_
  refine tt_aload_n (pc := 1) (i := 0) (j := 0) E dX3_loseGauge_1 rfl rfl ?_
  refine tt_getI (pc := 2) E lfX3_38 rfl h0 dX3_loseGauge_2 ?_
  refine tt_iload_n (pc := 5) (i := 1) (j := 1) E dX3_loseGauge_5 rfl rfl ?_
  refine tt_isub (pc := 6) E dX3_loseGauge_6 ?_
  refine tt_iconst (pc := 7) (v := 0) E dX3_loseGauge_7 ic_0 ?_
  refine tt_mmax (pc := 8) E lmX3_74 (Nat.le_of_ble_eq_true rfl) (Nat.le_of_ble_eq_true rfl) ⟨(Nat.le_of_ble_eq_true rfl), (Nat.le_of_ble_eq_true rfl)⟩ dX3_loseGauge_8 ?_
  refine tt_putI (pc := 11) E lfX3_38 rfl h0 dX3_loseGauge_11 (tt_nmM hf (fun m_1 hf => ?_))
  exact tt_vret (pc := 14) E hr hlk dX3_loseGauge_14 (Nat.le_of_ble_eq_true rfl) (Nat.le_of_ble_eq_true rfl) hf
set_option maxHeartbeats 4000000 in
theorem tX2_emptiestFriend_17 {p : Program} {l : Launch} {e : Env} {s : State} {m : MethodId} {args : Array Value} {below : List Frame} {meth : Method} {c : Code} {B : Nat} {D : va_G} {cT : Nat → ClassId} {n : Nat} {adK adV : Nat → Nat} {res : Nat} (E : EE p s m args c cX2_emptiestFriend 7 RX2 B D cT (XW B adK adV)) (hr : meth.sig.returnType = some (.object "TurnWheel$Fighter")) (hlk : meth.locks = false) {o0 : Nat} {o1 : Nat} {o3 : Nat} {v4 : Int32} (h0 : isK n o0 1) (h1 : isK n o1 2) (h3 : isK n o3 15) {μ : Mem} : ∀ (fu : Nat) (o2 : Nat) (v5 : Int32) (h2 : isK n o2 2), zl2 (gX2_emptiestFriend_17 o0 o1 o3 v4 μ) fu o2 v5 = some res → TT p l e rmX2_emptiestFriend s m args below meth c (QP 2 B D cT n below args s (res, μ)) 7 B D cT n 0 0 μ 17 [(0, .ref (B + o0)), (1, .ref (B + o1)), (2, .ref (B + o2)), (3, .ref (B + o3)), (4, .int v4), (5, .int v5)] [] := by
  intro fu
  induction fu with
  | zero => intro o2 v5 h2 hf; exact absurd hf (fun h => by cases h)
  | succ fu ih =>
    intro o2 v5 h2 hf
    have hf : gX2_emptiestFriend_17 o0 o1 o3 v4 μ (zl2 (gX2_emptiestFriend_17 o0 o1 o3 v4 μ) fu) o2 v5 = some res := hf
    unfold gX2_emptiestFriend_17 at hf
    refine tt_iload (pc := 17) (i := 5) (j := 5) E dX2_emptiestFriend_17 rfl ?_
    refine tt_iload (pc := 19) (i := 4) (j := 4) E dX2_emptiestFriend_19 rfl ?_
    refine tt_icmp_ge (pc := 21) (tgt := 85) E dX2_emptiestFriend_21 rfl (fun c_19 => ?_) (fun c_19 => ?_)
    · have hf := ip c_19 hf
      refine tt_aload_n (pc := 85) (i := 2) (j := 2) E dX2_emptiestFriend_85 rfl rfl ?_
      exact tt_aret (pc := 86) E h2 hr hlk dX2_emptiestFriend_86 (Nat.le_of_ble_eq_true rfl) (Nat.le_of_ble_eq_true rfl) (pv hf)
    · have hf := ine c_19 hf
      refine tt_aload_n (pc := 24) (i := 3) (j := 3) E dX2_emptiestFriend_24 rfl rfl ?_
      refine tt_iload (pc := 25) (i := 5) (j := 5) E dX2_emptiestFriend_25 rfl ?_
      obtain ⟨g_1, hf⟩ := gd_some hf
      obtain ⟨q_2, hq_3, hf⟩ := bd_some hf
      refine tt_aald15 (pc := 27) E h3 g_1 dX2_emptiestFriend_27 hq_3 (fun kq_4 => ?_)
      refine tt_astore (pc := 28) (i := 6) (lv' := [(6, .ref (B + q_2)), (0, .ref (B + o0)), (1, .ref (B + o1)), (2, .ref (B + o2)), (3, .ref (B + o3)), (4, .int v4), (5, .int v5)]) E dX2_emptiestFriend_28 (Nat.le_of_ble_eq_true rfl) rfl ?_
      refine tt_aload (pc := 30) (i := 6) (j := 0) E dX2_emptiestFriend_30 rfl ?_
      refine tt_aload_n (pc := 32) (i := 1) (j := 2) E dX2_emptiestFriend_32 rfl rfl ?_
      refine tt_acmp_eq (pc := 33) (tgt := 79) E dX2_emptiestFriend_33 rfl (fun c_18 => ?_) (fun c_18 => ?_)
      · have hf := ip c_18 hf
        obtain ⟨v_5, ev_5, hf⟩ := nm_ex hf
        refine tt_iinc (pc := 79) (i := 5) (j := 6) (lv' := [(5, .int v_5), (6, .ref (B + q_2)), (0, .ref (B + o0)), (1, .ref (B + o1)), (2, .ref (B + o2)), (3, .ref (B + o3)), (4, .int v4)]) E dX2_emptiestFriend_79 rfl (ev_5).symm (Nat.le_of_ble_eq_true rfl) rfl ?_
        refine tt_goto (pc := 82) (tgt := 17) E dX2_emptiestFriend_82 rfl ?_
        refine tt_sub [2, 3, 4, 5, 6, 0] (lv' := [(0, .ref (B + o0)), (1, .ref (B + o1)), (2, .ref (B + o2)), (3, .ref (B + o3)), (4, .int v4), (5, .int v_5)]) rfl ?_
        exact ih o2 v_5 h2 hf
      · have hf := ine c_18 hf
        refine tt_aload (pc := 36) (i := 6) (j := 0) E dX2_emptiestFriend_36 rfl ?_
        refine tt_getI (pc := 38) E lfX2_52 rfl kq_4 dX2_emptiestFriend_38 ?_
        refine tt_if_le (pc := 41) (tgt := 79) E dX2_emptiestFriend_41 rfl (fun c_17 => ?_) (fun c_17 => ?_)
        · have hf := ip c_17 hf
          obtain ⟨v_6, ev_6, hf⟩ := nm_ex hf
          refine tt_iinc (pc := 79) (i := 5) (j := 6) (lv' := [(5, .int v_6), (6, .ref (B + q_2)), (0, .ref (B + o0)), (1, .ref (B + o1)), (2, .ref (B + o2)), (3, .ref (B + o3)), (4, .int v4)]) E dX2_emptiestFriend_79 rfl (ev_6).symm (Nat.le_of_ble_eq_true rfl) rfl ?_
          refine tt_goto (pc := 82) (tgt := 17) E dX2_emptiestFriend_82 rfl ?_
          refine tt_sub [2, 3, 4, 5, 6, 0] (lv' := [(0, .ref (B + o0)), (1, .ref (B + o1)), (2, .ref (B + o2)), (3, .ref (B + o3)), (4, .int v4), (5, .int v_6)]) rfl ?_
          exact ih o2 v_6 h2 hf
        · have hf := ine c_17 hf
          refine tt_aload (pc := 44) (i := 6) (j := 0) E dX2_emptiestFriend_44 rfl ?_
          refine tt_getI (pc := 46) E lfX2_58 rfl kq_4 dX2_emptiestFriend_46 ?_
          refine tt_aload_n (pc := 49) (i := 1) (j := 2) E dX2_emptiestFriend_49 rfl rfl ?_
          refine tt_getI (pc := 50) E lfX2_58 rfl h1 dX2_emptiestFriend_50 ?_
          refine tt_icmp_ne (pc := 53) (tgt := 79) E dX2_emptiestFriend_53 rfl (fun c_16 => ?_) (fun c_16 => ?_)
          · have hf := ine c_16 hf
            obtain ⟨v_7, ev_7, hf⟩ := nm_ex hf
            refine tt_iinc (pc := 79) (i := 5) (j := 6) (lv' := [(5, .int v_7), (6, .ref (B + q_2)), (0, .ref (B + o0)), (1, .ref (B + o1)), (2, .ref (B + o2)), (3, .ref (B + o3)), (4, .int v4)]) E dX2_emptiestFriend_79 rfl (ev_7).symm (Nat.le_of_ble_eq_true rfl) rfl ?_
            refine tt_goto (pc := 82) (tgt := 17) E dX2_emptiestFriend_82 rfl ?_
            refine tt_sub [2, 3, 4, 5, 6, 0] (lv' := [(0, .ref (B + o0)), (1, .ref (B + o1)), (2, .ref (B + o2)), (3, .ref (B + o3)), (4, .int v4), (5, .int v_7)]) rfl ?_
            exact ih o2 v_7 h2 hf
          · have hf := ip c_16 hf
            refine tt_aload_n (pc := 56) (i := 2) (j := 3) E dX2_emptiestFriend_56 rfl rfl ?_
            refine tt_aload_n (pc := 57) (i := 0) (j := 1) E dX2_emptiestFriend_57 rfl rfl ?_
            obtain ⟨q_8, hq_9, hf⟩ := bd_some hf
            refine tt_getP (pc := 58) (t := 2) E lfX2_20 rfl rfl h0 dX2_emptiestFriend_58 hq_9 (fun kq_10 => ?_)
            refine tt_acmp_eq (pc := 61) (tgt := 76) E dX2_emptiestFriend_61 rfl (fun c_15 => ?_) (fun c_15 => ?_)
            · have hf := ip c_15 hf
              refine tt_aload (pc := 76) (i := 6) (j := 0) E dX2_emptiestFriend_76 rfl ?_
              refine tt_astore_n (pc := 78) (i := 2) (lv' := [(2, .ref (B + q_2)), (6, .ref (B + q_2)), (0, .ref (B + o0)), (1, .ref (B + o1)), (3, .ref (B + o3)), (4, .int v4), (5, .int v5)]) E dX2_emptiestFriend_78 rfl (Nat.le_of_ble_eq_true rfl) rfl ?_
              obtain ⟨v_11, ev_11, hf⟩ := nm_ex hf
              refine tt_iinc (pc := 79) (i := 5) (j := 6) (lv' := [(5, .int v_11), (2, .ref (B + q_2)), (6, .ref (B + q_2)), (0, .ref (B + o0)), (1, .ref (B + o1)), (3, .ref (B + o3)), (4, .int v4)]) E dX2_emptiestFriend_79 rfl (ev_11).symm (Nat.le_of_ble_eq_true rfl) rfl ?_
              refine tt_goto (pc := 82) (tgt := 17) E dX2_emptiestFriend_82 rfl ?_
              refine tt_sub [3, 4, 1, 5, 6, 0] (lv' := [(0, .ref (B + o0)), (1, .ref (B + o1)), (2, .ref (B + q_2)), (3, .ref (B + o3)), (4, .int v4), (5, .int v_11)]) rfl ?_
              exact ih q_2 v_11 kq_4 hf
            · have hf := ine c_15 hf
              refine tt_aload (pc := 64) (i := 6) (j := 0) E dX2_emptiestFriend_64 rfl ?_
              refine tt_getI (pc := 66) E lfX2_101 rfl kq_4 dX2_emptiestFriend_66 ?_
              refine tt_aload_n (pc := 69) (i := 2) (j := 3) E dX2_emptiestFriend_69 rfl rfl ?_
              refine tt_getI (pc := 70) E lfX2_101 rfl h2 dX2_emptiestFriend_70 ?_
              refine tt_icmp_ge (pc := 73) (tgt := 79) E dX2_emptiestFriend_73 rfl (fun c_14 => ?_) (fun c_14 => ?_)
              · have hf := ip c_14 hf
                obtain ⟨v_12, ev_12, hf⟩ := nm_ex hf
                refine tt_iinc (pc := 79) (i := 5) (j := 6) (lv' := [(5, .int v_12), (6, .ref (B + q_2)), (0, .ref (B + o0)), (1, .ref (B + o1)), (2, .ref (B + o2)), (3, .ref (B + o3)), (4, .int v4)]) E dX2_emptiestFriend_79 rfl (ev_12).symm (Nat.le_of_ble_eq_true rfl) rfl ?_
                refine tt_goto (pc := 82) (tgt := 17) E dX2_emptiestFriend_82 rfl ?_
                refine tt_sub [2, 3, 4, 5, 6, 0] (lv' := [(0, .ref (B + o0)), (1, .ref (B + o1)), (2, .ref (B + o2)), (3, .ref (B + o3)), (4, .int v4), (5, .int v_12)]) rfl ?_
                exact ih o2 v_12 h2 hf
              · have hf := ine c_14 hf
                refine tt_aload (pc := 76) (i := 6) (j := 0) E dX2_emptiestFriend_76 rfl ?_
                refine tt_astore_n (pc := 78) (i := 2) (lv' := [(2, .ref (B + q_2)), (6, .ref (B + q_2)), (0, .ref (B + o0)), (1, .ref (B + o1)), (3, .ref (B + o3)), (4, .int v4), (5, .int v5)]) E dX2_emptiestFriend_78 rfl (Nat.le_of_ble_eq_true rfl) rfl ?_
                obtain ⟨v_13, ev_13, hf⟩ := nm_ex hf
                refine tt_iinc (pc := 79) (i := 5) (j := 6) (lv' := [(5, .int v_13), (2, .ref (B + q_2)), (6, .ref (B + q_2)), (0, .ref (B + o0)), (1, .ref (B + o1)), (3, .ref (B + o3)), (4, .int v4)]) E dX2_emptiestFriend_79 rfl (ev_13).symm (Nat.le_of_ble_eq_true rfl) rfl ?_
                refine tt_goto (pc := 82) (tgt := 17) E dX2_emptiestFriend_82 rfl ?_
                refine tt_sub [3, 4, 1, 5, 6, 0] (lv' := [(0, .ref (B + o0)), (1, .ref (B + o1)), (2, .ref (B + q_2)), (3, .ref (B + o3)), (4, .int v4), (5, .int v_13)]) rfl ?_
                exact ih q_2 v_13 kq_4 hf
set_option maxHeartbeats 4000000 in
theorem cX2_emptiestFriend_ok {l : Launch} {B : Nat} {D : va_G} {cT : Nat → ClassId} {n : Nat} {adK adV : Nat → Nat} {o0 : Nat} {o1 : Nat} {μ : Mem} {res : Nat} (h0 : isK n o0 1) (h1 : isK n o1 2) (hf : fX2_emptiestFriend o0 o1 μ = some res) : MP 2 l yX2_emptiestFriend cX2_emptiestFriend 7 (some (.object "TurnWheel$Fighter")) rmX2_emptiestFriend B D cT (XW B adK adV) n [.ref (B + o0), .ref (B + o1)] μ (res, μ) := by
  refine tt_ofW mtX2_emptiestFriend.1 (Nat.le_of_ble_eq_true rfl) rfl ?_
  intro p e s m below meth c E0 hr hlk
  have E : EE p s m _ c cX2_emptiestFriend 7 RX2 B D cT (XW B adK adV) := E0
  unfold fX2_emptiestFriend at hf
  refine tt_aload_n (pc := 0) (i := 0) (j := 0) E dX2_emptiestFriend_0 rfl rfl ?_
  obtain ⟨q_1, hq_2, hf⟩ := bd_some hf
  refine tt_getP (pc := 1) (t := 2) E lfX2_20 rfl rfl h0 dX2_emptiestFriend_1 hq_2 (fun kq_3 => ?_)
  refine tt_astore_n (pc := 4) (i := 2) (lv' := [(2, .ref (B + q_1)), (0, .ref (B + o0)), (1, .ref (B + o1))]) E dX2_emptiestFriend_4 rfl (Nat.le_of_ble_eq_true rfl) rfl ?_
  refine tt_aload_n (pc := 5) (i := 0) (j := 1) E dX2_emptiestFriend_5 rfl rfl ?_
  obtain ⟨q_4, hq_5, hf⟩ := bd_some hf
  refine tt_getP (pc := 6) (t := 15) E lfX2_11 rfl rfl h0 dX2_emptiestFriend_6 hq_5 (fun kq_6 => ?_)
  refine tt_astore_n (pc := 9) (i := 3) (lv' := [(3, .ref (B + q_4)), (2, .ref (B + q_1)), (0, .ref (B + o0)), (1, .ref (B + o1))]) E dX2_emptiestFriend_9 rfl (Nat.le_of_ble_eq_true rfl) rfl ?_
  refine tt_aload_n (pc := 10) (i := 3) (j := 0) E dX2_emptiestFriend_10 rfl rfl ?_
  refine tt_alen (pc := 11) (v := Int32.ofNat (Ln q_4)) E (k := 15) ⟨(Nat.le_of_ble_eq_true rfl), (Nat.le_of_ble_eq_true rfl)⟩ kq_6 rfl dX2_emptiestFriend_11 ?_
  refine tt_nmI hf (fun v_7 hf => ?_)
  refine tt_istore (pc := 12) (i := 4) (lv' := [(4, .int v_7), (3, .ref (B + q_4)), (2, .ref (B + q_1)), (0, .ref (B + o0)), (1, .ref (B + o1))]) E dX2_emptiestFriend_12 (Nat.le_of_ble_eq_true rfl) rfl ?_
  refine tt_iconst (pc := 14) (v := 0) E dX2_emptiestFriend_14 ic_0 ?_
  refine tt_istore (pc := 15) (i := 5) (lv' := [(5, .int 0), (4, .int v_7), (3, .ref (B + q_4)), (2, .ref (B + q_1)), (0, .ref (B + o0)), (1, .ref (B + o1))]) E dX2_emptiestFriend_15 (Nat.le_of_ble_eq_true rfl) rfl ?_
  refine tt_sub [4, 5, 3, 2, 1, 0] (lv' := [(0, .ref (B + o0)), (1, .ref (B + o1)), (2, .ref (B + q_1)), (3, .ref (B + q_4)), (4, .int v_7), (5, .int 0)]) rfl ?_
  exact tX2_emptiestFriend_17 E hr hlk h0 h1 kq_6 FU q_1 0 kq_3 hf
set_option maxHeartbeats 4000000 in
theorem cX3_gainGauge_ok {l : Launch} {B : Nat} {D : va_G} {cT : Nat → ClassId} {n : Nat} {adK adV : Nat → Nat} {o0 : Nat} {v1 : Int32} {μ : Mem} {res : Mem} (h0 : isK n o0 2) (hf : fX3_gainGauge o0 v1 μ = some res) : MV l yX3_gainGauge cX3_gainGauge 2 (none) rmX3_gainGauge B D cT (XW B adK adV) n [.ref (B + o0), .int v1] μ res := by
  refine tt_ofW mtX3_gainGauge.1 (Nat.le_of_ble_eq_true rfl) rfl ?_
  intro p e s m below meth c E0 hr hlk
  have E : EE p s m _ c cX3_gainGauge 2 RX3 B D cT (XW B adK adV) := E0
  unfold fX3_gainGauge at hf
  refine tt_aload_n (pc := 0) (i := 0) (j := 0) E dX3_gainGauge_0 rfl rfl ?_
  refine tt_getI (pc := 1) E lfX3_32 rfl h0 dX3_gainGauge_1 ?_
  refine tt_if_le (pc := 4) (tgt := 23) E dX3_gainGauge_4 rfl (fun c_2 => ?_) (fun c_2 => ?_)
  · have hf := ip c_2 hf
    exact tt_vret (pc := 23) E hr hlk dX3_gainGauge_23 (Nat.le_of_ble_eq_true rfl) (Nat.le_of_ble_eq_true rfl) hf
  · have hf := ine c_2 hf
    refine tt_aload_n (pc := 7) (i := 0) (j := 0) E dX3_gainGauge_7 rfl rfl ?_
    refine tt_aload_n (pc := 8) (i := 0) (j := 0) E dX3_gainGauge_8 rfl rfl ?_
    refine tt_getI (pc := 9) E lfX3_38 rfl h0 dX3_gainGauge_9 ?_
    refine tt_iload_n (pc := 12) (i := 1) (j := 1) E dX3_gainGauge_12 rfl rfl ?_
    refine tt_iadd (pc := 13) E dX3_gainGauge_13 ?_
    refine tt_sipush (pc := 14) (v := 9999) E dX3_gainGauge_14 sc_9999 ?_
    refine tt_mmin (pc := 17) E lmX3_80 (Nat.le_of_ble_eq_true rfl) (Nat.le_of_ble_eq_true rfl) ⟨(Nat.le_of_ble_eq_true rfl), (Nat.le_of_ble_eq_true rfl)⟩ dX3_gainGauge_17 ?_
    refine tt_putI (pc := 20) E lfX3_38 rfl h0 dX3_gainGauge_20 (tt_nmM hf (fun m_1 hf => ?_))
    exact tt_vret (pc := 23) E hr hlk dX3_gainGauge_23 (Nat.le_of_ble_eq_true rfl) (Nat.le_of_ble_eq_true rfl) hf
set_option maxHeartbeats 4000000 in
theorem cX3_gainExtras_ok {l : Launch} {B : Nat} {D : va_G} {cT : Nat → ClassId} {n : Nat} {adK adV : Nat → Nat} {o0 : Nat} {v1 : Int32} {μ : Mem} {res : Mem} (h0 : isK n o0 2) (hf : fX3_gainExtras o0 v1 μ = some res) : MV l yX3_gainExtras cX3_gainExtras 2 (none) rmX3_gainExtras B D cT (XW B adK adV) n [.ref (B + o0), .int v1] μ res := by
  refine tt_ofW mtX3_gainExtras.1 (Nat.le_of_ble_eq_true rfl) rfl ?_
  intro p e s m below meth c E0 hr hlk
  have E : EE p s m _ c cX3_gainExtras 2 RX3 B D cT (XW B adK adV) := E0
  unfold fX3_gainExtras at hf
  refine tt_aload_n (pc := 0) (i := 0) (j := 0) E dX3_gainExtras_0 rfl rfl ?_
  refine tt_aload_n (pc := 1) (i := 0) (j := 0) E dX3_gainExtras_1 rfl rfl ?_
  refine tt_getI (pc := 2) E lfX3_44 rfl h0 dX3_gainExtras_2 ?_
  refine tt_iload_n (pc := 5) (i := 1) (j := 1) E dX3_gainExtras_5 rfl rfl ?_
  refine tt_iadd (pc := 6) E dX3_gainExtras_6 ?_
  refine tt_iconst (pc := 7) (v := 3) E dX3_gainExtras_7 ic_3 ?_
  refine tt_mmin (pc := 8) E lmX3_80 (Nat.le_of_ble_eq_true rfl) (Nat.le_of_ble_eq_true rfl) ⟨(Nat.le_of_ble_eq_true rfl), (Nat.le_of_ble_eq_true rfl)⟩ dX3_gainExtras_8 ?_
  refine tt_putI (pc := 11) E lfX3_44 rfl h0 dX3_gainExtras_11 (tt_nmM hf (fun m_1 hf => ?_))
  exact tt_vret (pc := 14) E hr hlk dX3_gainExtras_14 (Nat.le_of_ble_eq_true rfl) (Nat.le_of_ble_eq_true rfl) hf
set_option maxHeartbeats 4000000 in
theorem cX3_gainLife_ok {l : Launch} {B : Nat} {D : va_G} {cT : Nat → ClassId} {n : Nat} {adK adV : Nat → Nat} {o0 : Nat} {v1 : Int32} {μ : Mem} {res : Mem} (h0 : isK n o0 2) (hf : fX3_gainLife o0 v1 μ = some res) : MV l yX3_gainLife cX3_gainLife 2 (none) rmX3_gainLife B D cT (XW B adK adV) n [.ref (B + o0), .int v1] μ res := by
  refine tt_ofW mtX3_gainLife.1 (Nat.le_of_ble_eq_true rfl) rfl ?_
  intro p e s m below meth c E0 hr hlk
  have E : EE p s m _ c cX3_gainLife 2 RX3 B D cT (XW B adK adV) := E0
  unfold fX3_gainLife at hf
  refine tt_aload_n (pc := 0) (i := 0) (j := 0) E dX3_gainLife_0 rfl rfl ?_
  refine tt_aload_n (pc := 1) (i := 0) (j := 0) E dX3_gainLife_1 rfl rfl ?_
  refine tt_getI (pc := 2) E lfX3_32 rfl h0 dX3_gainLife_2 ?_
  refine tt_iload_n (pc := 5) (i := 1) (j := 1) E dX3_gainLife_5 rfl rfl ?_
  refine tt_iadd (pc := 6) E dX3_gainLife_6 ?_
  refine tt_sipush (pc := 7) (v := 999) E dX3_gainLife_7 sc_999 ?_
  refine tt_mmin (pc := 10) E lmX3_80 (Nat.le_of_ble_eq_true rfl) (Nat.le_of_ble_eq_true rfl) ⟨(Nat.le_of_ble_eq_true rfl), (Nat.le_of_ble_eq_true rfl)⟩ dX3_gainLife_10 ?_
  refine tt_putI (pc := 13) E lfX3_32 rfl h0 dX3_gainLife_13 (tt_nmM hf (fun m_1 hf => ?_))
  exact tt_vret (pc := 16) E hr hlk dX3_gainLife_16 (Nat.le_of_ble_eq_true rfl) (Nat.le_of_ble_eq_true rfl) hf
set_option maxHeartbeats 4000000 in
theorem cX2_act_ok {l : Launch} {B : Nat} {D : va_G} {cT : Nat → ClassId} {n : Nat} {adK adV : Nat → Nat} {o0 : Nat} {o1 : Nat} {v2 : Int32} {μ : Mem} {res : Mem} (h0 : isK n o0 1) (h1 : isK n o1 2) (hf : fX2_act o0 o1 v2 μ = some res) : MV l yX2_act cX2_act 3 (none) rmX2_act B D cT (XW B adK adV) n [.ref (B + o0), .ref (B + o1), .int v2] μ res := by
  refine tt_ofW mtX2_act.1 (Nat.le_of_ble_eq_true rfl) rfl ?_
  intro p e s m below meth c E0 hr hlk
  have E : EE p s m _ c cX2_act 3 RX2 B D cT (XW B adK adV) := E0
  unfold fX2_act at hf
  refine tt_aload_n (pc := 0) (i := 1) (j := 1) E dX2_act_0 rfl rfl ?_
  refine tt_aload_n (pc := 1) (i := 1) (j := 1) E dX2_act_1 rfl rfl ?_
  refine tt_getI (pc := 2) E lfX2_117 rfl h1 dX2_act_2 ?_
  obtain ⟨r_1, hr_2, hf⟩ := bd_some hf
  have hc_3 := cX3_kindAt_ok (l := l) (B := B) (D := D) (cT := cT) (n := n) (adK := adK) (adV := adV) h1 hr_2
  refine tt_cI (pc := 5) (tt_vi E lmX2_130 mtX3_kindAt hc_3 h1 rfl rfl (Nat.le_of_ble_eq_true rfl) ⟨(Nat.le_of_ble_eq_true rfl), (Nat.le_of_ble_eq_true rfl)⟩ ⟨(Nat.le_of_ble_eq_true rfl), (Nat.le_of_ble_eq_true rfl)⟩ dX2_act_5) ?_
  by_cases s8_0 : r_1 = 0
  · have hf := ip s8_0 hf
    refine tt_swIn (pc := 8) (tgt := 52) E dX2_act_8 (sw1 s8_0 (by decide)) (sw2 s8_0 (by decide)) (sw3 s8_0 rfl) rfl ?_
    refine tt_aload_n (pc := 52) (i := 1) (j := 1) E dX2_act_52 rfl rfl ?_
    refine tt_dup (pc := 53) E dX2_act_53 rfl ?_
    refine tt_getI (pc := 54) E lfX2_133 rfl h1 dX2_act_54 ?_
    refine tt_aload_n (pc := 57) (i := 0) (j := 0) E dX2_act_57 rfl rfl ?_
    refine tt_iconst (pc := 58) (v := 1) E dX2_act_58 ic_1 ?_
    refine tt_aload_n (pc := 59) (i := 1) (j := 1) E dX2_act_59 rfl rfl ?_
    refine tt_getI (pc := 60) E lfX2_58 rfl h1 dX2_act_60 ?_
    refine tt_isub (pc := 63) E dX2_act_63 ?_
    obtain ⟨r_26, hr_27, hf⟩ := bd_some hf
    have hc_28 := cX2_weakest_ok (l := l) (B := B) (D := D) (cT := cT) (n := n) (adK := adK) (adV := adV) h0 hr_27
    refine tt_cP (pc := 64) (tt_vi E lmX2_136 mtX2_weakest hc_28 h0 rfl rfl (Nat.le_of_ble_eq_true rfl) ⟨(Nat.le_of_ble_eq_true rfl), (Nat.le_of_ble_eq_true rfl)⟩ ⟨(Nat.le_of_ble_eq_true rfl), (Nat.le_of_ble_eq_true rfl)⟩ dX2_act_64) (fun kq_29 => ?_)
    refine tt_iload_n (pc := 67) (i := 2) (j := 2) E dX2_act_67 rfl rfl ?_
    obtain ⟨r_30, hr_31, hf⟩ := bd_some hf
    have hc_32 := cX3_loseLife_ok (l := l) (B := B) (D := D) (cT := cT) (n := n) (adK := adK) (adV := adV) kq_29 hr_31
    refine tt_cI (pc := 68) (tt_vi E lmX2_139 mtX3_loseLife hc_32 kq_29 rfl rfl (Nat.le_of_ble_eq_true rfl) ⟨(Nat.le_of_ble_eq_true rfl), (Nat.le_of_ble_eq_true rfl)⟩ ⟨(Nat.le_of_ble_eq_true rfl), (Nat.le_of_ble_eq_true rfl)⟩ dX2_act_68) ?_
    refine tt_iadd (pc := 71) E dX2_act_71 ?_
    refine tt_putI (pc := 72) E lfX2_133 rfl h1 dX2_act_72 (tt_nmM hf (fun m_33 hf => ?_))
    refine tt_goto (pc := 75) (tgt := 139) E dX2_act_75 rfl ?_
    exact tt_vret (pc := 139) E hr hlk dX2_act_139 (Nat.le_of_ble_eq_true rfl) (Nat.le_of_ble_eq_true rfl) hf
  have hf := ine s8_0 hf
  by_cases s8_1 : r_1 = 1
  · have hf := ip s8_1 hf
    refine tt_swIn (pc := 8) (tgt := 78) E dX2_act_8 (sw1 s8_1 (by decide)) (sw2 s8_1 (by decide)) (sw3 s8_1 rfl) rfl ?_
    refine tt_aload_n (pc := 78) (i := 0) (j := 0) E dX2_act_78 rfl rfl ?_
    refine tt_iconst (pc := 79) (v := 1) E dX2_act_79 ic_1 ?_
    refine tt_aload_n (pc := 80) (i := 1) (j := 1) E dX2_act_80 rfl rfl ?_
    refine tt_getI (pc := 81) E lfX2_58 rfl h1 dX2_act_81 ?_
    refine tt_isub (pc := 84) E dX2_act_84 ?_
    obtain ⟨r_19, hr_20, hf⟩ := bd_some hf
    have hc_21 := cX2_fullest_ok (l := l) (B := B) (D := D) (cT := cT) (n := n) (adK := adK) (adV := adV) h0 hr_20
    refine tt_cP (pc := 85) (tt_vi E lmX2_142 mtX2_fullest hc_21 h0 rfl rfl (Nat.le_of_ble_eq_true rfl) ⟨(Nat.le_of_ble_eq_true rfl), (Nat.le_of_ble_eq_true rfl)⟩ ⟨(Nat.le_of_ble_eq_true rfl), (Nat.le_of_ble_eq_true rfl)⟩ dX2_act_85) (fun kq_22 => ?_)
    refine tt_iload_n (pc := 88) (i := 2) (j := 2) E dX2_act_88 rfl rfl ?_
    obtain ⟨r_23, hr_24, hf⟩ := bd_some hf
    have hc_25 := cX3_loseGauge_ok (l := l) (B := B) (D := D) (cT := cT) (n := n) (adK := adK) (adV := adV) kq_22 hr_24
    refine tt_cV (pc := 89) (tt_vi E lmX2_145 mtX3_loseGauge hc_25 kq_22 rfl rfl (Nat.le_of_ble_eq_true rfl) ⟨(Nat.le_of_ble_eq_true rfl), (Nat.le_of_ble_eq_true rfl)⟩ ⟨(Nat.le_of_ble_eq_true rfl), (Nat.le_of_ble_eq_true rfl)⟩ dX2_act_89) ?_
    refine tt_goto (pc := 92) (tgt := 139) E dX2_act_92 rfl ?_
    exact tt_vret (pc := 139) E hr hlk dX2_act_139 (Nat.le_of_ble_eq_true rfl) (Nat.le_of_ble_eq_true rfl) hf
  have hf := ine s8_1 hf
  by_cases s8_2 : r_1 = 2
  · have hf := ip s8_2 hf
    refine tt_swIn (pc := 8) (tgt := 95) E dX2_act_8 (sw1 s8_2 (by decide)) (sw2 s8_2 (by decide)) (sw3 s8_2 rfl) rfl ?_
    refine tt_aload_n (pc := 95) (i := 0) (j := 0) E dX2_act_95 rfl rfl ?_
    refine tt_aload_n (pc := 96) (i := 1) (j := 1) E dX2_act_96 rfl rfl ?_
    obtain ⟨r_12, hr_13, hf⟩ := bd_some hf
    have hc_14 := cX2_emptiestFriend_ok (l := l) (B := B) (D := D) (cT := cT) (n := n) (adK := adK) (adV := adV) h0 h1 hr_13
    refine tt_cP (pc := 97) (tt_vi E lmX2_148 mtX2_emptiestFriend hc_14 h0 rfl rfl (Nat.le_of_ble_eq_true rfl) ⟨(Nat.le_of_ble_eq_true rfl), (Nat.le_of_ble_eq_true rfl)⟩ ⟨(Nat.le_of_ble_eq_true rfl), (Nat.le_of_ble_eq_true rfl)⟩ dX2_act_97) (fun kq_15 => ?_)
    refine tt_iload_n (pc := 100) (i := 2) (j := 2) E dX2_act_100 rfl rfl ?_
    obtain ⟨r_16, hr_17, hf⟩ := bd_some hf
    have hc_18 := cX3_gainGauge_ok (l := l) (B := B) (D := D) (cT := cT) (n := n) (adK := adK) (adV := adV) kq_15 hr_17
    refine tt_cV (pc := 101) (tt_vi E lmX2_152 mtX3_gainGauge hc_18 kq_15 rfl rfl (Nat.le_of_ble_eq_true rfl) ⟨(Nat.le_of_ble_eq_true rfl), (Nat.le_of_ble_eq_true rfl)⟩ ⟨(Nat.le_of_ble_eq_true rfl), (Nat.le_of_ble_eq_true rfl)⟩ dX2_act_101) ?_
    refine tt_goto (pc := 104) (tgt := 139) E dX2_act_104 rfl ?_
    exact tt_vret (pc := 139) E hr hlk dX2_act_139 (Nat.le_of_ble_eq_true rfl) (Nat.le_of_ble_eq_true rfl) hf
  have hf := ine s8_2 hf
  by_cases s8_3 : r_1 = 3
  · have hf := ip s8_3 hf
    refine tt_swIn (pc := 8) (tgt := 107) E dX2_act_8 (sw1 s8_3 (by decide)) (sw2 s8_3 (by decide)) (sw3 s8_3 rfl) rfl ?_
    refine tt_aload_n (pc := 107) (i := 1) (j := 1) E dX2_act_107 rfl rfl ?_
    refine tt_iload_n (pc := 108) (i := 2) (j := 2) E dX2_act_108 rfl rfl ?_
    refine tt_putI (pc := 109) E lfX2_114 rfl h1 dX2_act_109 (tt_nmM hf (fun m_11 hf => ?_))
    refine tt_goto (pc := 112) (tgt := 139) E dX2_act_112 rfl ?_
    exact tt_vret (pc := 139) E hr hlk dX2_act_139 (Nat.le_of_ble_eq_true rfl) (Nat.le_of_ble_eq_true rfl) hf
  have hf := ine s8_3 hf
  by_cases s8_4 : r_1 = 4
  · have hf := ip s8_4 hf
    refine tt_swIn (pc := 8) (tgt := 115) E dX2_act_8 (sw1 s8_4 (by decide)) (sw2 s8_4 (by decide)) (sw3 s8_4 rfl) rfl ?_
    refine tt_aload_n (pc := 115) (i := 1) (j := 1) E dX2_act_115 rfl rfl ?_
    refine tt_iload_n (pc := 116) (i := 2) (j := 2) E dX2_act_116 rfl rfl ?_
    obtain ⟨r_8, hr_9, hf⟩ := bd_some hf
    have hc_10 := cX3_gainExtras_ok (l := l) (B := B) (D := D) (cT := cT) (n := n) (adK := adK) (adV := adV) h1 hr_9
    refine tt_cV (pc := 117) (tt_vi E lmX2_155 mtX3_gainExtras hc_10 h1 rfl rfl (Nat.le_of_ble_eq_true rfl) ⟨(Nat.le_of_ble_eq_true rfl), (Nat.le_of_ble_eq_true rfl)⟩ ⟨(Nat.le_of_ble_eq_true rfl), (Nat.le_of_ble_eq_true rfl)⟩ dX2_act_117) ?_
    refine tt_goto (pc := 120) (tgt := 139) E dX2_act_120 rfl ?_
    exact tt_vret (pc := 139) E hr hlk dX2_act_139 (Nat.le_of_ble_eq_true rfl) (Nat.le_of_ble_eq_true rfl) hf
  have hf := ine s8_4 hf
  by_cases s8_5 : r_1 = 5
  · have hf := ip s8_5 hf
    refine tt_swIn (pc := 8) (tgt := 123) E dX2_act_8 (sw1 s8_5 (by decide)) (sw2 s8_5 (by decide)) (sw3 s8_5 rfl) rfl ?_
    refine tt_aload_n (pc := 123) (i := 1) (j := 1) E dX2_act_123 rfl rfl ?_
    refine tt_iload_n (pc := 124) (i := 2) (j := 2) E dX2_act_124 rfl rfl ?_
    refine tt_putI (pc := 125) E lfX2_55 rfl h1 dX2_act_125 (tt_nmM hf (fun m_7 hf => ?_))
    refine tt_goto (pc := 128) (tgt := 139) E dX2_act_128 rfl ?_
    exact tt_vret (pc := 139) E hr hlk dX2_act_139 (Nat.le_of_ble_eq_true rfl) (Nat.le_of_ble_eq_true rfl) hf
  have hf := ine s8_5 hf
  by_cases s8_6 : r_1 = 6
  · have hf := ip s8_6 hf
    refine tt_swIn (pc := 8) (tgt := 131) E dX2_act_8 (sw1 s8_6 (by decide)) (sw2 s8_6 (by decide)) (sw3 s8_6 rfl) rfl ?_
    refine tt_aload_n (pc := 131) (i := 1) (j := 1) E dX2_act_131 rfl rfl ?_
    refine tt_iload_n (pc := 132) (i := 2) (j := 2) E dX2_act_132 rfl rfl ?_
    obtain ⟨r_4, hr_5, hf⟩ := bd_some hf
    have hc_6 := cX3_gainLife_ok (l := l) (B := B) (D := D) (cT := cT) (n := n) (adK := adK) (adV := adV) h1 hr_5
    refine tt_cV (pc := 133) (tt_vi E lmX2_158 mtX3_gainLife hc_6 h1 rfl rfl (Nat.le_of_ble_eq_true rfl) ⟨(Nat.le_of_ble_eq_true rfl), (Nat.le_of_ble_eq_true rfl)⟩ ⟨(Nat.le_of_ble_eq_true rfl), (Nat.le_of_ble_eq_true rfl)⟩ dX2_act_133) ?_
    refine tt_goto (pc := 136) (tgt := 139) E dX2_act_136 rfl ?_
    exact tt_vret (pc := 139) E hr hlk dX2_act_139 (Nat.le_of_ble_eq_true rfl) (Nat.le_of_ble_eq_true rfl) hf
  have hf := ine s8_6 hf
  refine tt_swOut (pc := 8) (tgt := 139) E dX2_act_8 (sw_out (N := 7) (fun j hj => by
    match j, hj with
    | 0, _ => exact s8_0
    | 1, _ => exact s8_1
    | 2, _ => exact s8_2
    | 3, _ => exact s8_3
    | 4, _ => exact s8_4
    | 5, _ => exact s8_5
    | 6, _ => exact s8_6
    | j + 7, hj => exact absurd hj (by omega))) rfl ?_
  exact tt_vret (pc := 139) E hr hlk dX2_act_139 (Nat.le_of_ble_eq_true rfl) (Nat.le_of_ble_eq_true rfl) hf
set_option maxHeartbeats 4000000 in
theorem tX2_takeTurn_63 {p : Program} {l : Launch} {e : Env} {s : State} {m : MethodId} {args : Array Value} {below : List Frame} {meth : Method} {c : Code} {B : Nat} {D : va_G} {cT : Nat → ClassId} {n : Nat} {adK adV : Nat → Nat} {res : Mem} (E : EE p s m args c cX2_takeTurn 2 RX2 B D cT (XW B adK adV)) (hr : meth.sig.returnType = none) (hlk : meth.locks = false) {o0 : Nat} {o1 : Nat} (h0 : isK n o0 1) (h1 : isK n o1 2) {μ : Mem} (hf : fX2_takeTurn_63 o0 o1 μ = some res) : TT p l e rmX2_takeTurn s m args below meth c (QV B D cT n below args s res) 2 B D cT n 0 0 μ 63 [(0, .ref (B + o0)), (1, .ref (B + o1))] [] := by
  unfold fX2_takeTurn_63 at hf
  refine tt_aload_n (pc := 63) (i := 1) (j := 1) E dX2_takeTurn_63 rfl rfl ?_
  refine tt_iconst (pc := 64) (v := 0) E dX2_takeTurn_64 ic_0 ?_
  refine tt_putI (pc := 65) E lfX2_114 rfl h1 dX2_takeTurn_65 (tt_nmM hf (fun m_1 hf => ?_))
  refine tt_aload_n (pc := 68) (i := 0) (j := 0) E dX2_takeTurn_68 rfl rfl ?_
  refine tt_aload_n (pc := 69) (i := 1) (j := 1) E dX2_takeTurn_69 rfl rfl ?_
  refine tt_aload_n (pc := 70) (i := 1) (j := 1) E dX2_takeTurn_70 rfl rfl ?_
  refine tt_aload_n (pc := 71) (i := 1) (j := 1) E dX2_takeTurn_71 rfl rfl ?_
  refine tt_getI (pc := 72) E lfX2_117 rfl h1 dX2_takeTurn_72 ?_
  obtain ⟨r_2, hr_3, hf⟩ := bd_some hf
  have hc_4 := cX3_amountAt_ok (l := l) (B := B) (D := D) (cT := cT) (n := n) (adK := adK) (adV := adV) h1 hr_3
  refine tt_cI (pc := 75) (tt_vi E lmX2_120 mtX3_amountAt hc_4 h1 rfl rfl (Nat.le_of_ble_eq_true rfl) ⟨(Nat.le_of_ble_eq_true rfl), (Nat.le_of_ble_eq_true rfl)⟩ ⟨(Nat.le_of_ble_eq_true rfl), (Nat.le_of_ble_eq_true rfl)⟩ dX2_takeTurn_75) ?_
  obtain ⟨r_5, hr_6, hf⟩ := bd_some hf
  have hc_7 := cX2_act_ok (l := l) (B := B) (D := D) (cT := cT) (n := n) (adK := adK) (adV := adV) h0 h1 hr_6
  refine tt_cV (pc := 78) (tt_vi E lmX2_123 mtX2_act hc_7 h0 rfl rfl (Nat.le_of_ble_eq_true rfl) ⟨(Nat.le_of_ble_eq_true rfl), (Nat.le_of_ble_eq_true rfl)⟩ ⟨(Nat.le_of_ble_eq_true rfl), (Nat.le_of_ble_eq_true rfl)⟩ dX2_takeTurn_78) ?_
  refine tt_aload_n (pc := 81) (i := 1) (j := 1) E dX2_takeTurn_81 rfl rfl ?_
  refine tt_aload_n (pc := 82) (i := 1) (j := 1) E dX2_takeTurn_82 rfl rfl ?_
  refine tt_getI (pc := 83) E lfX2_117 rfl h1 dX2_takeTurn_83 ?_
  refine tt_iconst (pc := 86) (v := 1) E dX2_takeTurn_86 ic_1 ?_
  refine tt_iadd (pc := 87) E dX2_takeTurn_87 ?_
  refine tt_aload_n (pc := 88) (i := 1) (j := 1) E dX2_takeTurn_88 rfl rfl ?_
  refine tt_getI (pc := 89) E lfX2_127 rfl h1 dX2_takeTurn_89 ?_
  refine tt_icmp_ge (pc := 92) (tgt := 104) E dX2_takeTurn_92 rfl (fun c_10 => ?_) (fun c_10 => ?_)
  · have hf := ip c_10 hf
    refine tt_iconst (pc := 104) (v := 0) E dX2_takeTurn_104 ic_0 ?_
    refine tt_putI (pc := 105) E lfX2_117 rfl h1 dX2_takeTurn_105 (tt_nmM hf (fun m_8 hf => ?_))
    exact tt_vret (pc := 108) E hr hlk dX2_takeTurn_108 (Nat.le_of_ble_eq_true rfl) (Nat.le_of_ble_eq_true rfl) hf
  · have hf := ine c_10 hf
    refine tt_aload_n (pc := 95) (i := 1) (j := 1) E dX2_takeTurn_95 rfl rfl ?_
    refine tt_getI (pc := 96) E lfX2_117 rfl h1 dX2_takeTurn_96 ?_
    refine tt_iconst (pc := 99) (v := 1) E dX2_takeTurn_99 ic_1 ?_
    refine tt_iadd (pc := 100) E dX2_takeTurn_100 ?_
    refine tt_goto (pc := 101) (tgt := 105) E dX2_takeTurn_101 rfl ?_
    refine tt_putI (pc := 105) E lfX2_117 rfl h1 dX2_takeTurn_105 (tt_nmM hf (fun m_9 hf => ?_))
    exact tt_vret (pc := 108) E hr hlk dX2_takeTurn_108 (Nat.le_of_ble_eq_true rfl) (Nat.le_of_ble_eq_true rfl) hf
set_option maxHeartbeats 4000000 in
theorem cX2_takeTurn_ok {l : Launch} {B : Nat} {D : va_G} {cT : Nat → ClassId} {n : Nat} {adK adV : Nat → Nat} {o0 : Nat} {o1 : Nat} {μ : Mem} {res : Mem} (h0 : isK n o0 1) (h1 : isK n o1 2) (hf : fX2_takeTurn o0 o1 μ = some res) : MV l yX2_takeTurn cX2_takeTurn 2 (none) rmX2_takeTurn B D cT (XW B adK adV) n [.ref (B + o0), .ref (B + o1)] μ res := by
  refine tt_ofW mtX2_takeTurn.1 (Nat.le_of_ble_eq_true rfl) rfl ?_
  intro p e s m below meth c E0 hr hlk
  have E : EE p s m _ c cX2_takeTurn 2 RX2 B D cT (XW B adK adV) := E0
  unfold fX2_takeTurn at hf
  refine tt_aload_n (pc := 0) (i := 0) (j := 0) E dX2_takeTurn_0 rfl rfl ?_
  refine tt_dup (pc := 1) E dX2_takeTurn_1 rfl ?_
  refine tt_getI (pc := 2) E lfX2_34 rfl h0 dX2_takeTurn_2 ?_
  refine tt_iconst (pc := 5) (v := 1) E dX2_takeTurn_5 ic_1 ?_
  refine tt_iadd (pc := 6) E dX2_takeTurn_6 ?_
  refine tt_putI (pc := 7) E lfX2_34 rfl h0 dX2_takeTurn_7 (tt_nmM hf (fun m_1 hf => ?_))
  refine tt_aload_n (pc := 10) (i := 1) (j := 1) E dX2_takeTurn_10 rfl rfl ?_
  refine tt_dup (pc := 11) E dX2_takeTurn_11 rfl ?_
  refine tt_getI (pc := 12) E lfX2_110 rfl h1 dX2_takeTurn_12 ?_
  refine tt_iconst (pc := 15) (v := 1) E dX2_takeTurn_15 ic_1 ?_
  refine tt_iadd (pc := 16) E dX2_takeTurn_16 ?_
  refine tt_putI (pc := 17) E lfX2_110 rfl h1 dX2_takeTurn_17 (tt_nmM hf (fun m_2 hf => ?_))
  refine tt_aload_n (pc := 20) (i := 1) (j := 1) E dX2_takeTurn_20 rfl rfl ?_
  refine tt_getI (pc := 21) E lfX2_98 rfl h1 dX2_takeTurn_21 ?_
  refine tt_if_le (pc := 24) (tgt := 50) E dX2_takeTurn_24 rfl (fun c_6 => ?_) (fun c_6 => ?_)
  · have hf := ip c_6 hf
    refine tt_aload_n (pc := 50) (i := 1) (j := 1) E dX2_takeTurn_50 rfl rfl ?_
    refine tt_dup (pc := 51) E dX2_takeTurn_51 rfl ?_
    refine tt_getI (pc := 52) E lfX2_101 rfl h1 dX2_takeTurn_52 ?_
    refine tt_aload_n (pc := 55) (i := 0) (j := 0) E dX2_takeTurn_55 rfl rfl ?_
    refine tt_getI (pc := 56) E lfX2_28 rfl h0 dX2_takeTurn_56 ?_
    refine tt_isub (pc := 59) E dX2_takeTurn_59 ?_
    refine tt_putI (pc := 60) E lfX2_101 rfl h1 dX2_takeTurn_60 (tt_nmM hf (fun m_3 hf => ?_))
    exact tX2_takeTurn_63 E hr hlk h0 h1 hf
  · have hf := ine c_6 hf
    refine tt_aload_n (pc := 27) (i := 1) (j := 1) E dX2_takeTurn_27 rfl rfl ?_
    refine tt_dup (pc := 28) E dX2_takeTurn_28 rfl ?_
    refine tt_getI (pc := 29) E lfX2_98 rfl h1 dX2_takeTurn_29 ?_
    refine tt_iconst (pc := 32) (v := 1) E dX2_takeTurn_32 ic_1 ?_
    refine tt_isub (pc := 33) E dX2_takeTurn_33 ?_
    refine tt_putI (pc := 34) E lfX2_98 rfl h1 dX2_takeTurn_34 (tt_nmM hf (fun m_4 hf => ?_))
    refine tt_aload_n (pc := 37) (i := 1) (j := 1) E dX2_takeTurn_37 rfl rfl ?_
    refine tt_dup (pc := 38) E dX2_takeTurn_38 rfl ?_
    refine tt_getI (pc := 39) E lfX2_111 rfl h1 dX2_takeTurn_39 ?_
    refine tt_iconst (pc := 42) (v := 1) E dX2_takeTurn_42 ic_1 ?_
    refine tt_iadd (pc := 43) E dX2_takeTurn_43 ?_
    refine tt_putI (pc := 44) E lfX2_111 rfl h1 dX2_takeTurn_44 (tt_nmM hf (fun m_5 hf => ?_))
    refine tt_goto (pc := 47) (tgt := 63) E dX2_takeTurn_47 rfl ?_
    exact tX2_takeTurn_63 E hr hlk h0 h1 hf
set_option maxHeartbeats 4000000 in
theorem tX2_playOn_2 {p : Program} {l : Launch} {e : Env} {s : State} {m : MethodId} {args : Array Value} {below : List Frame} {meth : Method} {c : Code} {B : Nat} {D : va_G} {cT : Nat → ClassId} {n : Nat} {adK adV : Nat → Nat} {res : Int32 × Mem} (E : EE p s m args c cX2_playOn 4 RX2 B D cT (XW B adK adV)) (hr : meth.sig.returnType = some .int) (hlk : meth.locks = false) {o0 : Nat} {v1 : Int32} (h0 : isK n o0 1) : ∀ (fu : Nat) (v2 : Int32) (μ : Mem), zl2 (gX2_playOn_2 o0 v1) fu v2 μ = some res → TT p l e rmX2_playOn s m args below meth c (QI B D cT n below args s res) 4 B D cT n 0 0 μ 2 [(0, .ref (B + o0)), (1, .int v1), (2, .int v2)] [] := by
  intro fu
  induction fu with
  | zero => intro v2 μ hf; exact absurd hf (fun h => by cases h)
  | succ fu ih =>
    intro v2 μ hf
    have hf : gX2_playOn_2 o0 v1 (zl2 (gX2_playOn_2 o0 v1) fu) v2 μ = some res := hf
    unfold gX2_playOn_2 at hf
    refine tt_iload_n (pc := 2) (i := 2) (j := 2) E dX2_playOn_2 rfl rfl ?_
    refine tt_iload_n (pc := 3) (i := 1) (j := 1) E dX2_playOn_3 rfl rfl ?_
    refine tt_icmp_ge (pc := 4) (tgt := 33) E dX2_playOn_4 rfl (fun c_13 => ?_) (fun c_13 => ?_)
    · have hf := ip c_13 hf
      refine tt_iload_n (pc := 33) (i := 1) (j := 1) E dX2_playOn_33 rfl rfl ?_
      exact tt_iret (pc := 34) E hr hlk dX2_playOn_34 (Nat.le_of_ble_eq_true rfl) (Nat.le_of_ble_eq_true rfl) hf
    · have hf := ine c_13 hf
      refine tt_aload_n (pc := 7) (i := 0) (j := 0) E dX2_playOn_7 rfl rfl ?_
      obtain ⟨r_1, hr_2, hf⟩ := bd_some hf
      have hc_3 := cX2_bringNext_ok (l := l) (B := B) (D := D) (cT := cT) (n := n) (adK := adK) (adV := adV) h0 hr_2
      refine tt_cP (pc := 8) (tt_vi E lmX2_161 mtX2_bringNext hc_3 h0 rfl rfl (Nat.le_of_ble_eq_true rfl) ⟨(Nat.le_of_ble_eq_true rfl), (Nat.le_of_ble_eq_true rfl)⟩ ⟨(Nat.le_of_ble_eq_true rfl), (Nat.le_of_ble_eq_true rfl)⟩ dX2_playOn_8) (fun kq_4 => ?_)
      refine tt_astore_n (pc := 11) (i := 3) (lv' := [(3, .ref (B + r_1.1)), (0, .ref (B + o0)), (1, .int v1), (2, .int v2)]) E dX2_playOn_11 rfl (Nat.le_of_ble_eq_true rfl) rfl ?_
      refine tt_aload_n (pc := 12) (i := 3) (j := 0) E dX2_playOn_12 rfl rfl ?_
      refine tt_aload_n (pc := 13) (i := 0) (j := 1) E dX2_playOn_13 rfl rfl ?_
      obtain ⟨q_5, hq_6, hf⟩ := bd_some hf
      refine tt_getP (pc := 14) (t := 2) E lfX2_20 rfl rfl h0 dX2_playOn_14 hq_6 (fun kq_7 => ?_)
      refine tt_acmp_ne (pc := 17) (tgt := 22) E dX2_playOn_17 rfl (fun c_12 => ?_) (fun c_12 => ?_)
      · have hf := ine c_12 hf
        refine tt_aload_n (pc := 22) (i := 0) (j := 1) E dX2_playOn_22 rfl rfl ?_
        refine tt_aload_n (pc := 23) (i := 3) (j := 0) E dX2_playOn_23 rfl rfl ?_
        obtain ⟨r_8, hr_9, hf⟩ := bd_some hf
        have hc_10 := cX2_takeTurn_ok (l := l) (B := B) (D := D) (cT := cT) (n := n) (adK := adK) (adV := adV) h0 kq_4 hr_9
        refine tt_cV (pc := 24) (tt_vi E lmX2_164 mtX2_takeTurn hc_10 h0 rfl rfl (Nat.le_of_ble_eq_true rfl) ⟨(Nat.le_of_ble_eq_true rfl), (Nat.le_of_ble_eq_true rfl)⟩ ⟨(Nat.le_of_ble_eq_true rfl), (Nat.le_of_ble_eq_true rfl)⟩ dX2_playOn_24) ?_
        obtain ⟨v_11, ev_11, hf⟩ := nm_ex hf
        refine tt_iinc (pc := 27) (i := 2) (j := 3) (lv' := [(2, .int v_11), (3, .ref (B + r_1.1)), (0, .ref (B + o0)), (1, .int v1)]) E dX2_playOn_27 rfl (ev_11).symm (Nat.le_of_ble_eq_true rfl) rfl ?_
        refine tt_goto (pc := 30) (tgt := 2) E dX2_playOn_30 rfl ?_
        refine tt_sub [2, 3, 0] (lv' := [(0, .ref (B + o0)), (1, .int v1), (2, .int v_11)]) rfl ?_
        exact ih v_11 r_8 hf
      · have hf := ip c_12 hf
        refine tt_iload_n (pc := 20) (i := 2) (j := 3) E dX2_playOn_20 rfl rfl ?_
        exact tt_iret (pc := 21) E hr hlk dX2_playOn_21 (Nat.le_of_ble_eq_true rfl) (Nat.le_of_ble_eq_true rfl) hf
set_option maxHeartbeats 4000000 in
theorem cX2_playOn_ok {l : Launch} {B : Nat} {D : va_G} {cT : Nat → ClassId} {n : Nat} {adK adV : Nat → Nat} {o0 : Nat} {v1 : Int32} {μ : Mem} {res : Int32 × Mem} (h0 : isK n o0 1) (hf : fX2_playOn o0 v1 μ = some res) : MI l yX2_playOn cX2_playOn 4 (some .int) rmX2_playOn B D cT (XW B adK adV) n [.ref (B + o0), .int v1] μ res := by
  refine tt_ofW mtX2_playOn.1 (Nat.le_of_ble_eq_true rfl) rfl ?_
  intro p e s m below meth c E0 hr hlk
  have E : EE p s m _ c cX2_playOn 4 RX2 B D cT (XW B adK adV) := E0
  unfold fX2_playOn at hf
  refine tt_iconst (pc := 0) (v := 0) E dX2_playOn_0 ic_0 ?_
  refine tt_istore_n (pc := 1) (i := 2) (lv' := [(2, .int 0), (0, .ref (B + o0)), (1, .int v1)]) E dX2_playOn_1 rfl (Nat.le_of_ble_eq_true rfl) rfl ?_
  refine tt_sub [1, 2, 0] (lv' := [(0, .ref (B + o0)), (1, .int v1), (2, .int 0)]) rfl ?_
  exact tX2_playOn_2 E hr hlk h0 FU 0 μ hf
set_option maxHeartbeats 4000000 in
theorem cX3_putAct_ok {l : Launch} {B : Nat} {D : va_G} {cT : Nat → ClassId} {n : Nat} {adK adV : Nat → Nat} {o0 : Nat} {v1 : Int32} {v2 : Int32} {v3 : Int32} {μ : Mem} {res : Mem} (h0 : isK n o0 2) (hf : fX3_putAct o0 v1 v2 v3 μ = some res) : MV l yX3_putAct cX3_putAct 4 (none) rmX3_putAct B D cT (XW B adK adV) n [.ref (B + o0), .int v1, .int v2, .int v3] μ res := by
  refine tt_ofW mtX3_putAct.1 (Nat.le_of_ble_eq_true rfl) rfl ?_
  intro p e s m below meth c E0 hr hlk
  have E : EE p s m _ c cX3_putAct 4 RX3 B D cT (XW B adK adV) := E0
  unfold fX3_putAct at hf
  refine tt_aload_n (pc := 0) (i := 0) (j := 0) E dX3_putAct_0 rfl rfl ?_
  refine tt_iload_n (pc := 1) (i := 1) (j := 1) E dX3_putAct_1 rfl rfl ?_
  obtain ⟨r_1, hr_2, hf⟩ := bd_some hf
  have hc_3 := cX3_hasAct_ok (l := l) (B := B) (D := D) (cT := cT) (n := n) (adK := adK) (adV := adV) h0 hr_2
  refine tt_cZ (pc := 2) (tt_vi E lmX3_66 mtX3_hasAct hc_3 h0 rfl rfl (Nat.le_of_ble_eq_true rfl) ⟨(Nat.le_of_ble_eq_true rfl), (Nat.le_of_ble_eq_true rfl)⟩ ⟨(Nat.le_of_ble_eq_true rfl), (Nat.le_of_ble_eq_true rfl)⟩ dX3_putAct_2) (fun z_4 => ?_)
  refine tt_if_eq (pc := 5) (tgt := 22) E dX3_putAct_5 rfl (fun c_15 => ?_) (fun c_15 => ?_)
  · have hf := ip c_15 hf
    exact tt_vret (pc := 22) E hr hlk dX3_putAct_22 (Nat.le_of_ble_eq_true rfl) (Nat.le_of_ble_eq_true rfl) hf
  · have hf := ine c_15 hf
    refine tt_aload_n (pc := 8) (i := 0) (j := 0) E dX3_putAct_8 rfl rfl ?_
    obtain ⟨q_5, hq_6, hf⟩ := bd_some hf
    refine tt_getP (pc := 9) (t := 11) E lfX3_9 rfl rfl h0 dX3_putAct_9 hq_6 (fun kq_7 => ?_)
    refine tt_iload_n (pc := 12) (i := 1) (j := 1) E dX3_putAct_12 rfl rfl ?_
    refine tt_iload_n (pc := 13) (i := 2) (j := 2) E dX3_putAct_13 rfl rfl ?_
    obtain ⟨g_9, hf⟩ := gd_some hf
    refine tt_iast (pc := 14) E kq_7 g_9 dX3_putAct_14 (tt_nmM hf (fun m_8 hf => ?_))
    refine tt_aload_n (pc := 15) (i := 0) (j := 0) E dX3_putAct_15 rfl rfl ?_
    obtain ⟨q_10, hq_11, hf⟩ := bd_some hf
    refine tt_getP (pc := 16) (t := 11) E lfX3_15 rfl rfl h0 dX3_putAct_16 hq_11 (fun kq_12 => ?_)
    refine tt_iload_n (pc := 19) (i := 1) (j := 1) E dX3_putAct_19 rfl rfl ?_
    refine tt_iload_n (pc := 20) (i := 3) (j := 3) E dX3_putAct_20 rfl rfl ?_
    obtain ⟨g_14, hf⟩ := gd_some hf
    refine tt_iast (pc := 21) E kq_12 g_14 dX3_putAct_21 (tt_nmM hf (fun m_13 hf => ?_))
    exact tt_vret (pc := 22) E hr hlk dX3_putAct_22 (Nat.le_of_ble_eq_true rfl) (Nat.le_of_ble_eq_true rfl) hf
set_option maxHeartbeats 4000000 in
theorem cX1_applyTo_ok {l : Launch} {B : Nat} {D : va_G} {cT : Nat → ClassId} {n : Nat} {adK adV : Nat → Nat} {o0 : Nat} {o1 : Nat} {μ : Mem} {res : Mem} (h0 : isK n o0 0) (h1 : isK n o1 1) (hf : fX1_applyTo o0 o1 μ = some res) : MV l yX1_applyTo cX1_applyTo 3 (none) rmX1_applyTo B D cT (XW B adK adV) n [.ref (B + o0), .ref (B + o1)] μ res := by
  refine tt_ofW mtX1_applyTo.1 (Nat.le_of_ble_eq_true rfl) rfl ?_
  intro p e s m below meth c E0 hr hlk
  have E : EE p s m _ c cX1_applyTo 3 RX1 B D cT (XW B adK adV) := E0
  unfold fX1_applyTo at hf
  refine tt_aload_n (pc := 0) (i := 1) (j := 1) E dX1_applyTo_0 rfl rfl ?_
  refine tt_aload_n (pc := 1) (i := 0) (j := 0) E dX1_applyTo_1 rfl rfl ?_
  refine tt_getI (pc := 2) E lfX1_15 rfl h0 dX1_applyTo_2 ?_
  obtain ⟨r_1, hr_2, hf⟩ := bd_some hf
  have hc_3 := cX2_at_ok (l := l) (B := B) (D := D) (cT := cT) (n := n) (adK := adK) (adV := adV) h1 hr_2
  refine tt_cP (pc := 5) (tt_vi E lmX1_50 mtX2_at hc_3 h1 rfl rfl (Nat.le_of_ble_eq_true rfl) ⟨(Nat.le_of_ble_eq_true rfl), (Nat.le_of_ble_eq_true rfl)⟩ ⟨(Nat.le_of_ble_eq_true rfl), (Nat.le_of_ble_eq_true rfl)⟩ dX1_applyTo_5) (fun kq_4 => ?_)
  refine tt_astore_n (pc := 8) (i := 2) (lv' := [(2, .ref (B + r_1)), (0, .ref (B + o0)), (1, .ref (B + o1))]) E dX1_applyTo_8 rfl (Nat.le_of_ble_eq_true rfl) rfl ?_
  refine tt_aload_n (pc := 9) (i := 0) (j := 1) E dX1_applyTo_9 rfl rfl ?_
  refine tt_getI (pc := 10) E lfX1_9 rfl h0 dX1_applyTo_10 ?_
  by_cases s13_0 : (ldI μ o0 0) = 0
  · have hf := ip s13_0 hf
    refine tt_swIn (pc := 13) (tgt := 60) E dX1_applyTo_13 (sw1 s13_0 (by decide)) (sw2 s13_0 (by decide)) (sw3 s13_0 rfl) rfl ?_
    refine tt_aload_n (pc := 60) (i := 1) (j := 2) E dX1_applyTo_60 rfl rfl ?_
    refine tt_aload_n (pc := 61) (i := 0) (j := 1) E dX1_applyTo_61 rfl rfl ?_
    refine tt_getI (pc := 62) E lfX1_18 rfl h0 dX1_applyTo_62 ?_
    obtain ⟨r_22, hr_23, hf⟩ := bd_some hf
    have hc_24 := cX2_playOn_ok (l := l) (B := B) (D := D) (cT := cT) (n := n) (adK := adK) (adV := adV) h1 hr_23
    refine tt_cI (pc := 65) (tt_vi E lmX1_85 mtX2_playOn hc_24 h1 rfl rfl (Nat.le_of_ble_eq_true rfl) ⟨(Nat.le_of_ble_eq_true rfl), (Nat.le_of_ble_eq_true rfl)⟩ ⟨(Nat.le_of_ble_eq_true rfl), (Nat.le_of_ble_eq_true rfl)⟩ dX1_applyTo_65) ?_
    refine tt_pop (pc := 68) E dX1_applyTo_68 rfl ?_
    refine tt_goto (pc := 69) (tgt := 154) E dX1_applyTo_69 rfl ?_
    exact tt_vret (pc := 154) E hr hlk dX1_applyTo_154 (Nat.le_of_ble_eq_true rfl) (Nat.le_of_ble_eq_true rfl) hf
  have hf := ine s13_0 hf
  by_cases s13_1 : (ldI μ o0 0) = 1
  · have hf := ip s13_1 hf
    refine tt_swIn (pc := 13) (tgt := 72) E dX1_applyTo_13 (sw1 s13_1 (by decide)) (sw2 s13_1 (by decide)) (sw3 s13_1 rfl) rfl ?_
    refine tt_aload_n (pc := 72) (i := 2) (j := 0) E dX1_applyTo_72 rfl rfl ?_
    refine tt_aload_n (pc := 73) (i := 0) (j := 1) E dX1_applyTo_73 rfl rfl ?_
    refine tt_getI (pc := 74) E lfX1_18 rfl h0 dX1_applyTo_74 ?_
    obtain ⟨r_19, hr_20, hf⟩ := bd_some hf
    have hc_21 := cX3_loseGauge_ok (l := l) (B := B) (D := D) (cT := cT) (n := n) (adK := adK) (adV := adV) kq_4 hr_20
    refine tt_cV (pc := 77) (tt_vi E lmX1_88 mtX3_loseGauge hc_21 kq_4 rfl rfl (Nat.le_of_ble_eq_true rfl) ⟨(Nat.le_of_ble_eq_true rfl), (Nat.le_of_ble_eq_true rfl)⟩ ⟨(Nat.le_of_ble_eq_true rfl), (Nat.le_of_ble_eq_true rfl)⟩ dX1_applyTo_77) ?_
    refine tt_goto (pc := 80) (tgt := 154) E dX1_applyTo_80 rfl ?_
    exact tt_vret (pc := 154) E hr hlk dX1_applyTo_154 (Nat.le_of_ble_eq_true rfl) (Nat.le_of_ble_eq_true rfl) hf
  have hf := ine s13_1 hf
  by_cases s13_2 : (ldI μ o0 0) = 2
  · have hf := ip s13_2 hf
    refine tt_swIn (pc := 13) (tgt := 83) E dX1_applyTo_13 (sw1 s13_2 (by decide)) (sw2 s13_2 (by decide)) (sw3 s13_2 rfl) rfl ?_
    refine tt_aload_n (pc := 83) (i := 2) (j := 0) E dX1_applyTo_83 rfl rfl ?_
    refine tt_aload_n (pc := 84) (i := 0) (j := 1) E dX1_applyTo_84 rfl rfl ?_
    refine tt_getI (pc := 85) E lfX1_18 rfl h0 dX1_applyTo_85 ?_
    obtain ⟨r_16, hr_17, hf⟩ := bd_some hf
    have hc_18 := cX3_gainGauge_ok (l := l) (B := B) (D := D) (cT := cT) (n := n) (adK := adK) (adV := adV) kq_4 hr_17
    refine tt_cV (pc := 88) (tt_vi E lmX1_92 mtX3_gainGauge hc_18 kq_4 rfl rfl (Nat.le_of_ble_eq_true rfl) ⟨(Nat.le_of_ble_eq_true rfl), (Nat.le_of_ble_eq_true rfl)⟩ ⟨(Nat.le_of_ble_eq_true rfl), (Nat.le_of_ble_eq_true rfl)⟩ dX1_applyTo_88) ?_
    refine tt_goto (pc := 91) (tgt := 154) E dX1_applyTo_91 rfl ?_
    exact tt_vret (pc := 154) E hr hlk dX1_applyTo_154 (Nat.le_of_ble_eq_true rfl) (Nat.le_of_ble_eq_true rfl) hf
  have hf := ine s13_2 hf
  by_cases s13_3 : (ldI μ o0 0) = 3
  · have hf := ip s13_3 hf
    refine tt_swIn (pc := 13) (tgt := 94) E dX1_applyTo_13 (sw1 s13_3 (by decide)) (sw2 s13_3 (by decide)) (sw3 s13_3 rfl) rfl ?_
    refine tt_aload_n (pc := 94) (i := 2) (j := 0) E dX1_applyTo_94 rfl rfl ?_
    refine tt_iconst (pc := 95) (v := 1) E dX1_applyTo_95 ic_1 ?_
    obtain ⟨r_13, hr_14, hf⟩ := bd_some hf
    have hc_15 := cX3_gainExtras_ok (l := l) (B := B) (D := D) (cT := cT) (n := n) (adK := adK) (adV := adV) kq_4 hr_14
    refine tt_cV (pc := 96) (tt_vi E lmX1_95 mtX3_gainExtras hc_15 kq_4 rfl rfl (Nat.le_of_ble_eq_true rfl) ⟨(Nat.le_of_ble_eq_true rfl), (Nat.le_of_ble_eq_true rfl)⟩ ⟨(Nat.le_of_ble_eq_true rfl), (Nat.le_of_ble_eq_true rfl)⟩ dX1_applyTo_96) ?_
    refine tt_goto (pc := 99) (tgt := 154) E dX1_applyTo_99 rfl ?_
    exact tt_vret (pc := 154) E hr hlk dX1_applyTo_154 (Nat.le_of_ble_eq_true rfl) (Nat.le_of_ble_eq_true rfl) hf
  have hf := ine s13_3 hf
  by_cases s13_4 : (ldI μ o0 0) = 4
  · have hf := ip s13_4 hf
    refine tt_swIn (pc := 13) (tgt := 102) E dX1_applyTo_13 (sw1 s13_4 (by decide)) (sw2 s13_4 (by decide)) (sw3 s13_4 rfl) rfl ?_
    refine tt_aload_n (pc := 102) (i := 2) (j := 0) E dX1_applyTo_102 rfl rfl ?_
    refine tt_aload_n (pc := 103) (i := 0) (j := 1) E dX1_applyTo_103 rfl rfl ?_
    refine tt_getI (pc := 104) E lfX1_18 rfl h0 dX1_applyTo_104 ?_
    refine tt_putI (pc := 107) E lfX1_98 rfl kq_4 dX1_applyTo_107 (tt_nmM hf (fun m_12 hf => ?_))
    refine tt_goto (pc := 110) (tgt := 154) E dX1_applyTo_110 rfl ?_
    exact tt_vret (pc := 154) E hr hlk dX1_applyTo_154 (Nat.le_of_ble_eq_true rfl) (Nat.le_of_ble_eq_true rfl) hf
  have hf := ine s13_4 hf
  by_cases s13_5 : (ldI μ o0 0) = 5
  · have hf := ip s13_5 hf
    refine tt_swIn (pc := 13) (tgt := 113) E dX1_applyTo_13 (sw1 s13_5 (by decide)) (sw2 s13_5 (by decide)) (sw3 s13_5 rfl) rfl ?_
    refine tt_aload_n (pc := 113) (i := 2) (j := 0) E dX1_applyTo_113 rfl rfl ?_
    refine tt_aload_n (pc := 114) (i := 0) (j := 1) E dX1_applyTo_114 rfl rfl ?_
    refine tt_getI (pc := 115) E lfX1_18 rfl h0 dX1_applyTo_115 ?_
    obtain ⟨r_9, hr_10, hf⟩ := bd_some hf
    have hc_11 := cX3_gainLife_ok (l := l) (B := B) (D := D) (cT := cT) (n := n) (adK := adK) (adV := adV) kq_4 hr_10
    refine tt_cV (pc := 118) (tt_vi E lmX1_100 mtX3_gainLife hc_11 kq_4 rfl rfl (Nat.le_of_ble_eq_true rfl) ⟨(Nat.le_of_ble_eq_true rfl), (Nat.le_of_ble_eq_true rfl)⟩ ⟨(Nat.le_of_ble_eq_true rfl), (Nat.le_of_ble_eq_true rfl)⟩ dX1_applyTo_118) ?_
    refine tt_goto (pc := 121) (tgt := 154) E dX1_applyTo_121 rfl ?_
    exact tt_vret (pc := 154) E hr hlk dX1_applyTo_154 (Nat.le_of_ble_eq_true rfl) (Nat.le_of_ble_eq_true rfl) hf
  have hf := ine s13_5 hf
  by_cases s13_6 : (ldI μ o0 0) = 6
  · have hf := ip s13_6 hf
    refine tt_swIn (pc := 13) (tgt := 124) E dX1_applyTo_13 (sw1 s13_6 (by decide)) (sw2 s13_6 (by decide)) (sw3 s13_6 rfl) rfl ?_
    refine tt_aload_n (pc := 124) (i := 1) (j := 2) E dX1_applyTo_124 rfl rfl ?_
    refine tt_aload_n (pc := 125) (i := 0) (j := 1) E dX1_applyTo_125 rfl rfl ?_
    refine tt_getI (pc := 126) E lfX1_18 rfl h0 dX1_applyTo_126 ?_
    refine tt_putI (pc := 129) E lfX1_103 rfl h1 dX1_applyTo_129 (tt_nmM hf (fun m_8 hf => ?_))
    refine tt_goto (pc := 132) (tgt := 154) E dX1_applyTo_132 rfl ?_
    exact tt_vret (pc := 154) E hr hlk dX1_applyTo_154 (Nat.le_of_ble_eq_true rfl) (Nat.le_of_ble_eq_true rfl) hf
  have hf := ine s13_6 hf
  by_cases s13_7 : (ldI μ o0 0) = 7
  · have hf := ip s13_7 hf
    refine tt_swIn (pc := 13) (tgt := 135) E dX1_applyTo_13 (sw1 s13_7 (by decide)) (sw2 s13_7 (by decide)) (sw3 s13_7 rfl) rfl ?_
    refine tt_aload_n (pc := 135) (i := 2) (j := 0) E dX1_applyTo_135 rfl rfl ?_
    refine tt_aload_n (pc := 136) (i := 0) (j := 1) E dX1_applyTo_136 rfl rfl ?_
    refine tt_getI (pc := 137) E lfX1_18 rfl h0 dX1_applyTo_137 ?_
    refine tt_aload_n (pc := 140) (i := 0) (j := 1) E dX1_applyTo_140 rfl rfl ?_
    refine tt_getI (pc := 141) E lfX1_21 rfl h0 dX1_applyTo_141 ?_
    refine tt_aload_n (pc := 144) (i := 0) (j := 1) E dX1_applyTo_144 rfl rfl ?_
    refine tt_getI (pc := 145) E lfX1_24 rfl h0 dX1_applyTo_145 ?_
    obtain ⟨r_5, hr_6, hf⟩ := bd_some hf
    have hc_7 := cX3_putAct_ok (l := l) (B := B) (D := D) (cT := cT) (n := n) (adK := adK) (adV := adV) kq_4 hr_6
    refine tt_cV (pc := 148) (tt_vi E lmX1_105 mtX3_putAct hc_7 kq_4 rfl rfl (Nat.le_of_ble_eq_true rfl) ⟨(Nat.le_of_ble_eq_true rfl), (Nat.le_of_ble_eq_true rfl)⟩ ⟨(Nat.le_of_ble_eq_true rfl), (Nat.le_of_ble_eq_true rfl)⟩ dX1_applyTo_148) ?_
    refine tt_goto (pc := 151) (tgt := 154) E dX1_applyTo_151 rfl ?_
    exact tt_vret (pc := 154) E hr hlk dX1_applyTo_154 (Nat.le_of_ble_eq_true rfl) (Nat.le_of_ble_eq_true rfl) hf
  have hf := ine s13_7 hf
  refine tt_swOut (pc := 13) (tgt := 154) E dX1_applyTo_13 (sw_out (N := 8) (fun j hj => by
    match j, hj with
    | 0, _ => exact s13_0
    | 1, _ => exact s13_1
    | 2, _ => exact s13_2
    | 3, _ => exact s13_3
    | 4, _ => exact s13_4
    | 5, _ => exact s13_5
    | 6, _ => exact s13_6
    | 7, _ => exact s13_7
    | j + 8, hj => exact absurd hj (by omega))) rfl ?_
  exact tt_vret (pc := 154) E hr hlk dX1_applyTo_154 (Nat.le_of_ble_eq_true rfl) (Nat.le_of_ble_eq_true rfl) hf
set_option maxHeartbeats 4000000 in
theorem tX3_copyActs_2 {p : Program} {l : Launch} {e : Env} {s : State} {m : MethodId} {args : Array Value} {below : List Frame} {meth : Method} {c : Code} {B : Nat} {D : va_G} {cT : Nat → ClassId} {n : Nat} {adK adV : Nat → Nat} {res : Mem} (E : EE p s m args c cX3_copyActs 3 RX3 B D cT (XW B adK adV)) (hr : meth.sig.returnType = none) (hlk : meth.locks = false) {o0 : Nat} {o1 : Nat} (h0 : isK n o0 11) (h1 : isK n o1 11) : ∀ (fu : Nat) (v2 : Int32) (μ : Mem), zl2 (gX3_copyActs_2 o0 o1) fu v2 μ = some res → TT p l e rmX3_copyActs s m args below meth c (QV B D cT n below args s res) 3 B D cT n 0 0 μ 2 [(0, .ref (B + o0)), (1, .ref (B + o1)), (2, .int v2)] [] := by
  intro fu
  induction fu with
  | zero => intro v2 μ hf; exact absurd hf (fun h => by cases h)
  | succ fu ih =>
    intro v2 μ hf
    have hf : gX3_copyActs_2 o0 o1 (zl2 (gX3_copyActs_2 o0 o1) fu) v2 μ = some res := hf
    unfold gX3_copyActs_2 at hf
    refine tt_iload_n (pc := 2) (i := 2) (j := 2) E dX3_copyActs_2 rfl rfl ?_
    refine tt_aload_n (pc := 3) (i := 0) (j := 0) E dX3_copyActs_3 rfl rfl ?_
    refine tt_alen (pc := 4) (v := Int32.ofNat (Ln o0)) E (k := 11) ⟨(Nat.le_of_ble_eq_true rfl), (Nat.le_of_ble_eq_true rfl)⟩ h0 rfl dX3_copyActs_4 ?_
    refine tt_icmp_ge (pc := 5) (tgt := 26) E dX3_copyActs_5 rfl (fun c_6 => ?_) (fun c_6 => ?_)
    · have hf := ip c_6 hf
      exact tt_vret (pc := 26) E hr hlk dX3_copyActs_26 (Nat.le_of_ble_eq_true rfl) (Nat.le_of_ble_eq_true rfl) hf
    · have hf := ine c_6 hf
      refine tt_iload_n (pc := 8) (i := 2) (j := 2) E dX3_copyActs_8 rfl rfl ?_
      refine tt_aload_n (pc := 9) (i := 1) (j := 1) E dX3_copyActs_9 rfl rfl ?_
      refine tt_alen (pc := 10) (v := Int32.ofNat (Ln o1)) E (k := 11) ⟨(Nat.le_of_ble_eq_true rfl), (Nat.le_of_ble_eq_true rfl)⟩ h1 rfl dX3_copyActs_10 ?_
      refine tt_icmp_ge (pc := 11) (tgt := 26) E dX3_copyActs_11 rfl (fun c_5 => ?_) (fun c_5 => ?_)
      · have hf := ip c_5 hf
        exact tt_vret (pc := 26) E hr hlk dX3_copyActs_26 (Nat.le_of_ble_eq_true rfl) (Nat.le_of_ble_eq_true rfl) hf
      · have hf := ine c_5 hf
        refine tt_aload_n (pc := 14) (i := 1) (j := 1) E dX3_copyActs_14 rfl rfl ?_
        refine tt_iload_n (pc := 15) (i := 2) (j := 2) E dX3_copyActs_15 rfl rfl ?_
        refine tt_aload_n (pc := 16) (i := 0) (j := 0) E dX3_copyActs_16 rfl rfl ?_
        refine tt_iload_n (pc := 17) (i := 2) (j := 2) E dX3_copyActs_17 rfl rfl ?_
        obtain ⟨g_1, hf⟩ := gd_some hf
        refine tt_iald (pc := 18) E h0 g_1 dX3_copyActs_18 ?_
        obtain ⟨g_3, hf⟩ := gd_some hf
        refine tt_iast (pc := 19) E h1 g_3 dX3_copyActs_19 (tt_nmM hf (fun m_2 hf => ?_))
        obtain ⟨v_4, ev_4, hf⟩ := nm_ex hf
        refine tt_iinc (pc := 20) (i := 2) (j := 2) (lv' := [(2, .int v_4), (0, .ref (B + o0)), (1, .ref (B + o1))]) E dX3_copyActs_20 rfl (ev_4).symm (Nat.le_of_ble_eq_true rfl) rfl ?_
        refine tt_goto (pc := 23) (tgt := 2) E dX3_copyActs_23 rfl ?_
        refine tt_sub [1, 2, 0] (lv' := [(0, .ref (B + o0)), (1, .ref (B + o1)), (2, .int v_4)]) rfl ?_
        exact ih v_4 m_2 hf
set_option maxHeartbeats 4000000 in
theorem cX3_copyActs_ok {l : Launch} {B : Nat} {D : va_G} {cT : Nat → ClassId} {n : Nat} {adK adV : Nat → Nat} {o0 : Nat} {o1 : Nat} {μ : Mem} {res : Mem} (h0 : isK n o0 11) (h1 : isK n o1 11) (hf : fX3_copyActs o0 o1 μ = some res) : MV l yX3_copyActs cX3_copyActs 3 (none) rmX3_copyActs B D cT (XW B adK adV) n [.ref (B + o0), .ref (B + o1)] μ res := by
  refine tt_ofW mtX3_copyActs.1 (Nat.le_of_ble_eq_true rfl) rfl ?_
  intro p e s m below meth c E0 hr hlk
  have E : EE p s m _ c cX3_copyActs 3 RX3 B D cT (XW B adK adV) := E0
  unfold fX3_copyActs at hf
  refine tt_iconst (pc := 0) (v := 0) E dX3_copyActs_0 ic_0 ?_
  refine tt_istore_n (pc := 1) (i := 2) (lv' := [(2, .int 0), (0, .ref (B + o0)), (1, .ref (B + o1))]) E dX3_copyActs_1 rfl (Nat.le_of_ble_eq_true rfl) rfl ?_
  refine tt_sub [1, 2, 0] (lv' := [(0, .ref (B + o0)), (1, .ref (B + o1)), (2, .int 0)]) rfl ?_
  exact tX3_copyActs_2 E hr hlk h0 h1 FU 0 μ hf
