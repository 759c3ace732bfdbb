/-! contracts -/
set_option maxHeartbeats 4000000 in
theorem tX12_lift_29 {p : Program} {l : Launch} {e : Env} {s : State} {m : MethodId} {args : Array Value} {below : List Frame} {meth : Method} {c : Code} {B : Nat} {D : va_G} {cT : Nat → ClassId} {n : Nat} {adK adV : Nat → Nat} {res : Int32 × Mem} (E : EE p s m args c cX12_lift 4 RX12 B D cT (XW B adK adV)) (hr : meth.sig.returnType = some .int) (hlk : meth.locks = false) {o0 : Nat} {v1 : Int32} {v2 : Int32} {ot0 : Nat} {vt1 : Int32} {vt2 : Int32} {vt3 : Int32} (h0 : isK n o0 9) (ht0 : isK n ot0 9) (ht1 : zb vt1) (ht2 : zb vt2) (ht3 : zb vt3) {μ : Mem} (hf : fX12_lift_29 o0 v1 v2 ot0 vt1 vt2 vt3 μ = some res) : TT p l e rmX12_lift s m args below meth c (QI B D cT n below args s res) 4 B D cT n 0 0 μ 29 [(0, .ref (B + o0)), (1, .int v1), (2, .int v2)] [.int vt3, .int vt2, .int vt1, .ref (B + ot0)] := by
  unfold fX12_lift_29 at hf
  obtain ⟨r_1, hr_2, hf⟩ := bd_some hf
  have hc_3 := cX12_goesAll_ok (l := l) (B := B) (D := D) (cT := cT) (n := n) (adK := adK) (adV := adV) ht0 ht1 ht2 ht3 hr_2
  refine tt_cZ (pc := 29) (tt_vi E lmX12_446 mtX12_goesAll hc_3 ht0 rfl rfl (Nat.le_of_ble_eq_true rfl) ⟨(Nat.le_of_ble_eq_true rfl), (Nat.le_of_ble_eq_true rfl)⟩ ⟨(Nat.le_of_ble_eq_true rfl), (Nat.le_of_ble_eq_true rfl)⟩ dX12_lift_29) (fun z_4 => ?_)
  refine tt_if_ne (pc := 32) (tgt := 37) E dX12_lift_32 rfl (fun c_14 => ?_) (fun c_14 => ?_)
  · have hf := ine c_14 hf
    refine tt_aload_n (pc := 37) (i := 0) (j := 0) E dX12_lift_37 rfl rfl ?_
    obtain ⟨r_5, hr_6, hf⟩ := bd_some hf
    have hc_7 := cX12_laysAside_ok (l := l) (B := B) (D := D) (cT := cT) (n := n) (adK := adK) (adV := adV) h0 hr_6
    refine tt_cV (pc := 38) (tt_vi E lmX12_254 mtX12_laysAside hc_7 h0 rfl rfl (Nat.le_of_ble_eq_true rfl) ⟨(Nat.le_of_ble_eq_true rfl), (Nat.le_of_ble_eq_true rfl)⟩ ⟨(Nat.le_of_ble_eq_true rfl), (Nat.le_of_ble_eq_true rfl)⟩ dX12_lift_38) ?_
    refine tt_aload_n (pc := 41) (i := 0) (j := 0) E dX12_lift_41 rfl rfl ?_
    refine tt_aload_n (pc := 42) (i := 0) (j := 0) E dX12_lift_42 rfl rfl ?_
    refine tt_iload_n (pc := 43) (i := 1) (j := 1) E dX12_lift_43 rfl rfl ?_
    refine tt_iload_n (pc := 44) (i := 2) (j := 2) E dX12_lift_44 rfl rfl ?_
    obtain ⟨r_8, hr_9, hf⟩ := bd_some hf
    have hc_10 := cX12_raises_ok (l := l) (B := B) (D := D) (cT := cT) (n := n) (adK := adK) (adV := adV) h0 hr_9
    refine tt_cI (pc := 45) (tt_vi E lmX12_313 mtX12_raises hc_10 h0 rfl rfl (Nat.le_of_ble_eq_true rfl) ⟨(Nat.le_of_ble_eq_true rfl), (Nat.le_of_ble_eq_true rfl)⟩ ⟨(Nat.le_of_ble_eq_true rfl), (Nat.le_of_ble_eq_true rfl)⟩ dX12_lift_45) ?_
    obtain ⟨r_11, hr_12, hf⟩ := bd_some hf
    have hc_13 := cX12_kept_ok (l := l) (B := B) (D := D) (cT := cT) (n := n) (adK := adK) (adV := adV) h0 hr_12
    refine tt_cI (pc := 48) (tt_vi E lmX12_440 mtX12_kept hc_13 h0 rfl rfl (Nat.le_of_ble_eq_true rfl) ⟨(Nat.le_of_ble_eq_true rfl), (Nat.le_of_ble_eq_true rfl)⟩ ⟨(Nat.le_of_ble_eq_true rfl), (Nat.le_of_ble_eq_true rfl)⟩ dX12_lift_48) ?_
    exact tt_iret (pc := 51) E hr hlk dX12_lift_51 (Nat.le_of_ble_eq_true rfl) (Nat.le_of_ble_eq_true rfl) hf
  · have hf := ip c_14 hf
    refine tt_iconst (pc := 35) (v := 0) E dX12_lift_35 ic_0 ?_
    exact tt_iret (pc := 36) E hr hlk dX12_lift_36 (Nat.le_of_ble_eq_true rfl) (Nat.le_of_ble_eq_true rfl) hf
set_option maxHeartbeats 4000000 in
theorem tX12_lift_28 {p : Program} {l : Launch} {e : Env} {s : State} {m : MethodId} {args : Array Value} {below : List Frame} {meth : Method} {c : Code} {B : Nat} {D : va_G} {cT : Nat → ClassId} {n : Nat} {adK adV : Nat → Nat} {res : Int32 × Mem} (E : EE p s m args c cX12_lift 4 RX12 B D cT (XW B adK adV)) (hr : meth.sig.returnType = some .int) (hlk : meth.locks = false) {o0 : Nat} {v1 : Int32} {v2 : Int32} {ot0 : Nat} {vt1 : Int32} {vt2 : Int32} (h0 : isK n o0 9) (ht0 : isK n ot0 9) (ht1 : zb vt1) (ht2 : zb vt2) {μ : Mem} (hf : fX12_lift_28 o0 v1 v2 ot0 vt1 vt2 μ = some res) : TT p l e rmX12_lift s m args below meth c (QI B D cT n below args s res) 4 B D cT n 0 0 μ 28 [(0, .ref (B + o0)), (1, .int v1), (2, .int v2)] [.int vt2, .int vt1, .ref (B + ot0)] := by
  unfold fX12_lift_28 at hf
  refine tt_iconst (pc := 28) (v := 0) E dX12_lift_28 ic_0 ?_
  exact tX12_lift_29 E hr hlk h0 ht0 ht1 ht2 ((Or.inl rfl)) hf
set_option maxHeartbeats 4000000 in
theorem cX12_lift_ok {l : Launch} {B : Nat} {D : va_G} {cT : Nat → ClassId} {n : Nat} {adK adV : Nat → Nat} {o0 : Nat} {v1 : Int32} {v2 : Int32} {μ : Mem} {res : Int32 × Mem} (h0 : isK n o0 9) (hf : fX12_lift o0 v1 v2 μ = some res) : MI l yX12_lift cX12_lift 4 (some .int) rmX12_lift B D cT (XW B adK adV) n [.ref (B + o0), .int v1, .int v2] μ res := by
  refine tt_ofW mtX12_lift.1 (Nat.le_of_ble_eq_true rfl) rfl ?_
  intro p e s m below meth c E0 hr hlk
  have E : EE p s m _ c cX12_lift 4 RX12 B D cT (XW B adK adV) := E0
  unfold fX12_lift at hf
  refine tt_aload_n (pc := 0) (i := 0) (j := 0) E dX12_lift_0 rfl rfl ?_
  refine tt_iload_n (pc := 1) (i := 1) (j := 1) E dX12_lift_1 rfl rfl ?_
  obtain ⟨r_1, hr_2, hf⟩ := bd_some hf
  have hc_3 := cX12_isFighter_ok (l := l) (B := B) (D := D) (cT := cT) (n := n) (adK := adK) (adV := adV) h0 hr_2
  refine tt_cZ (pc := 2) (tt_vi E lmX12_345 mtX12_isFighter hc_3 h0 rfl rfl (Nat.le_of_ble_eq_true rfl) ⟨(Nat.le_of_ble_eq_true rfl), (Nat.le_of_ble_eq_true rfl)⟩ ⟨(Nat.le_of_ble_eq_true rfl), (Nat.le_of_ble_eq_true rfl)⟩ dX12_lift_2) (fun z_4 => ?_)
  refine tt_istore_n (pc := 5) (i := 3) (lv' := [(3, .int r_1), (0, .ref (B + o0)), (1, .int v1), (2, .int v2)]) E dX12_lift_5 rfl (Nat.le_of_ble_eq_true rfl) rfl ?_
  refine tt_aload_n (pc := 6) (i := 0) (j := 1) E dX12_lift_6 rfl rfl ?_
  refine tt_iload_n (pc := 7) (i := 3) (j := 0) E dX12_lift_7 rfl rfl ?_
  refine tt_iload_n (pc := 8) (i := 2) (j := 3) E dX12_lift_8 rfl rfl ?_
  obtain ⟨r_5, hr_6, hf⟩ := bd_some hf
  have hc_7 := cX12_isBy_ok (l := l) (B := B) (D := D) (cT := cT) (n := n) (adK := adK) (adV := adV) hr_6
  refine tt_cZ (pc := 9) (tt_si E lmX12_443 mtX12_isBy hc_7 rfl rfl (Nat.le_of_ble_eq_true rfl) ⟨(Nat.le_of_ble_eq_true rfl), (Nat.le_of_ble_eq_true rfl)⟩ ⟨(Nat.le_of_ble_eq_true rfl), (Nat.le_of_ble_eq_true rfl)⟩ dX12_lift_9) (fun z_8 => ?_)
  refine tt_iload_n (pc := 12) (i := 3) (j := 0) E dX12_lift_12 rfl rfl ?_
  refine tt_if_eq (pc := 13) (tgt := 28) E dX12_lift_13 rfl (fun c_14 => ?_) (fun c_14 => ?_)
  · have hf := ip c_14 hf
    refine tt_sub [1, 2, 3] (lv' := [(0, .ref (B + o0)), (1, .int v1), (2, .int v2)]) rfl ?_
    exact tX12_lift_28 E hr hlk h0 h0 z_4 z_8 hf
  · have hf := ine c_14 hf
    refine tt_aload_n (pc := 16) (i := 0) (j := 1) E dX12_lift_16 rfl rfl ?_
    refine tt_iload_n (pc := 17) (i := 1) (j := 2) E dX12_lift_17 rfl rfl ?_
    obtain ⟨r_9, hr_10, hf⟩ := bd_some hf
    have hc_11 := cX12_lives_ok (l := l) (B := B) (D := D) (cT := cT) (n := n) (adK := adK) (adV := adV) h0 hr_10
    refine tt_cZ (pc := 18) (tt_vi E lmX12_263 mtX12_lives hc_11 h0 rfl rfl (Nat.le_of_ble_eq_true rfl) ⟨(Nat.le_of_ble_eq_true rfl), (Nat.le_of_ble_eq_true rfl)⟩ ⟨(Nat.le_of_ble_eq_true rfl), (Nat.le_of_ble_eq_true rfl)⟩ dX12_lift_18) (fun z_12 => ?_)
    refine tt_if_eq (pc := 21) (tgt := 28) E dX12_lift_21 rfl (fun c_13 => ?_) (fun c_13 => ?_)
    · have hf := ip c_13 hf
      refine tt_sub [1, 2, 3] (lv' := [(0, .ref (B + o0)), (1, .int v1), (2, .int v2)]) rfl ?_
      exact tX12_lift_28 E hr hlk h0 h0 z_4 z_8 hf
    · have hf := ine c_13 hf
      refine tt_iconst (pc := 24) (v := 1) E dX12_lift_24 ic_1 ?_
      refine tt_goto (pc := 25) (tgt := 29) E dX12_lift_25 rfl ?_
      refine tt_sub [1, 2, 3] (lv' := [(0, .ref (B + o0)), (1, .int v1), (2, .int v2)]) rfl ?_
      exact tX12_lift_29 E hr hlk h0 h0 z_4 z_8 ((Or.inr rfl)) hf
set_option maxHeartbeats 4000000 in
theorem cX12_givesExtra_ok {l : Launch} {B : Nat} {D : va_G} {cT : Nat → ClassId} {n : Nat} {adK adV : Nat → Nat} {o0 : Nat} {v1 : Int32} {μ : Mem} {res : Int32 × Mem} (h0 : isK n o0 9) (hf : fX12_givesExtra o0 v1 μ = some res) : MZ l yX12_givesExtra cX12_givesExtra 2 (some .boolean) rmX12_givesExtra B D cT (XW B adK adV) n [.ref (B + o0), .int v1] μ res := by
  refine tt_ofW mtX12_givesExtra.1 (Nat.le_of_ble_eq_true rfl) rfl ?_
  intro p e s m below meth c E0 hr hlk
  have E : EE p s m _ c cX12_givesExtra 2 RX12 B D cT (XW B adK adV) := E0
  unfold fX12_givesExtra at hf
  refine tt_aload_n (pc := 0) (i := 0) (j := 0) E dX12_givesExtra_0 rfl rfl ?_
  refine tt_iload_n (pc := 1) (i := 1) (j := 1) E dX12_givesExtra_1 rfl rfl ?_
  refine tt_bipush (pc := 2) (v := 6) E dX12_givesExtra_2 bc_6 ?_
  obtain ⟨r_1, hr_2, hf⟩ := bd_some hf
  have hc_3 := cX12_of_ok (l := l) (B := B) (D := D) (cT := cT) (n := n) (adK := adK) (adV := adV) h0 hr_2
  refine tt_cI (pc := 4) (tt_vi E lmX12_192 mtX12_of hc_3 h0 rfl rfl (Nat.le_of_ble_eq_true rfl) ⟨(Nat.le_of_ble_eq_true rfl), (Nat.le_of_ble_eq_true rfl)⟩ ⟨(Nat.le_of_ble_eq_true rfl), (Nat.le_of_ble_eq_true rfl)⟩ dX12_givesExtra_4) ?_
  refine tt_iconst (pc := 7) (v := 3) E dX12_givesExtra_7 ic_3 ?_
  refine tt_icmp_ne (pc := 8) (tgt := 13) E dX12_givesExtra_8 rfl (fun c_10 => ?_) (fun c_10 => ?_)
  · have hf := ine c_10 hf
    refine tt_aload_n (pc := 13) (i := 0) (j := 0) E dX12_givesExtra_13 rfl rfl ?_
    refine tt_iload_n (pc := 14) (i := 1) (j := 1) E dX12_givesExtra_14 rfl rfl ?_
    refine tt_bipush (pc := 15) (v := 6) E dX12_givesExtra_15 bc_6 ?_
    refine tt_aload_n (pc := 17) (i := 0) (j := 0) E dX12_givesExtra_17 rfl rfl ?_
    refine tt_iload_n (pc := 18) (i := 1) (j := 1) E dX12_givesExtra_18 rfl rfl ?_
    refine tt_bipush (pc := 19) (v := 6) E dX12_givesExtra_19 bc_6 ?_
    obtain ⟨r_4, hr_5, hf⟩ := bd_some hf
    have hc_6 := cX12_of_ok (l := l) (B := B) (D := D) (cT := cT) (n := n) (adK := adK) (adV := adV) h0 hr_5
    refine tt_cI (pc := 21) (tt_vi E lmX12_192 mtX12_of hc_6 h0 rfl rfl (Nat.le_of_ble_eq_true rfl) ⟨(Nat.le_of_ble_eq_true rfl), (Nat.le_of_ble_eq_true rfl)⟩ ⟨(Nat.le_of_ble_eq_true rfl), (Nat.le_of_ble_eq_true rfl)⟩ dX12_givesExtra_21) ?_
    refine tt_iconst (pc := 24) (v := 1) E dX12_givesExtra_24 ic_1 ?_
    refine tt_iadd (pc := 25) E dX12_givesExtra_25 ?_
    obtain ⟨r_7, hr_8, hf⟩ := bd_some hf
    have hc_9 := cX12_sets_ok (l := l) (B := B) (D := D) (cT := cT) (n := n) (adK := adK) (adV := adV) h0 hr_8
    refine tt_cV (pc := 26) (tt_vi E lmX12_201 mtX12_sets hc_9 h0 rfl rfl (Nat.le_of_ble_eq_true rfl) ⟨(Nat.le_of_ble_eq_true rfl), (Nat.le_of_ble_eq_true rfl)⟩ ⟨(Nat.le_of_ble_eq_true rfl), (Nat.le_of_ble_eq_true rfl)⟩ dX12_givesExtra_26) ?_
    refine tt_iconst (pc := 29) (v := 1) E dX12_givesExtra_29 ic_1 ?_
    exact tt_zret (pc := 30) E ((Or.inr rfl)) hr hlk dX12_givesExtra_30 (Nat.le_of_ble_eq_true rfl) (Nat.le_of_ble_eq_true rfl) hf
  · have hf := ip c_10 hf
    refine tt_iconst (pc := 11) (v := 0) E dX12_givesExtra_11 ic_0 ?_
    exact tt_zret (pc := 12) E ((Or.inl rfl)) hr hlk dX12_givesExtra_12 (Nat.le_of_ble_eq_true rfl) (Nat.le_of_ble_eq_true rfl) hf
set_option maxHeartbeats 4000000 in
theorem tX12_extra_25 {p : Program} {l : Launch} {e : Env} {s : State} {m : MethodId} {args : Array Value} {below : List Frame} {meth : Method} {c : Code} {B : Nat} {D : va_G} {cT : Nat → ClassId} {n : Nat} {adK adV : Nat → Nat} {res : Int32 × Mem} (E : EE p s m args c cX12_extra 4 RX12 B D cT (XW B adK adV)) (hr : meth.sig.returnType = some .boolean) (hlk : meth.locks = false) {o0 : Nat} {v1 : Int32} {ot0 : Nat} {vt1 : Int32} {vt2 : Int32} (h0 : isK n o0 9) (ht0 : isK n ot0 9) (ht1 : zb vt1) (ht2 : zb vt2) {μ : Mem} (hf : fX12_extra_25 o0 v1 ot0 vt1 vt2 μ = some res) : TT p l e rmX12_extra s m args below meth c (QZ B D cT n below args s res) 4 B D cT n 0 0 μ 25 [(0, .ref (B + o0)), (1, .int v1)] [.int vt2, .int vt1, .ref (B + ot0)] := by
  unfold fX12_extra_25 at hf
  obtain ⟨r_1, hr_2, hf⟩ := bd_some hf
  have hc_3 := cX12_goesBoth_ok (l := l) (B := B) (D := D) (cT := cT) (n := n) (adK := adK) (adV := adV) ht0 ht1 ht2 hr_2
  refine tt_cZ (pc := 25) (tt_vi E lmX12_350 mtX12_goesBoth hc_3 ht0 rfl rfl (Nat.le_of_ble_eq_true rfl) ⟨(Nat.le_of_ble_eq_true rfl), (Nat.le_of_ble_eq_true rfl)⟩ ⟨(Nat.le_of_ble_eq_true rfl), (Nat.le_of_ble_eq_true rfl)⟩ dX12_extra_25) (fun z_4 => ?_)
  refine tt_if_ne (pc := 28) (tgt := 33) E dX12_extra_28 rfl (fun c_16 => ?_) (fun c_16 => ?_)
  · have hf := ine c_16 hf
    refine tt_aload_n (pc := 33) (i := 0) (j := 0) E dX12_extra_33 rfl rfl ?_
    obtain ⟨r_5, hr_6, hf⟩ := bd_some hf
    have hc_7 := cX12_laysAside_ok (l := l) (B := B) (D := D) (cT := cT) (n := n) (adK := adK) (adV := adV) h0 hr_6
    refine tt_cV (pc := 34) (tt_vi E lmX12_254 mtX12_laysAside hc_7 h0 rfl rfl (Nat.le_of_ble_eq_true rfl) ⟨(Nat.le_of_ble_eq_true rfl), (Nat.le_of_ble_eq_true rfl)⟩ ⟨(Nat.le_of_ble_eq_true rfl), (Nat.le_of_ble_eq_true rfl)⟩ dX12_extra_34) ?_
    refine tt_aload_n (pc := 37) (i := 0) (j := 0) E dX12_extra_37 rfl rfl ?_
    refine tt_iload_n (pc := 38) (i := 1) (j := 1) E dX12_extra_38 rfl rfl ?_
    obtain ⟨r_8, hr_9, hf⟩ := bd_some hf
    have hc_10 := cX12_givesExtra_ok (l := l) (B := B) (D := D) (cT := cT) (n := n) (adK := adK) (adV := adV) h0 hr_9
    refine tt_cZ (pc := 39) (tt_vi E lmX12_450 mtX12_givesExtra hc_10 h0 rfl rfl (Nat.le_of_ble_eq_true rfl) ⟨(Nat.le_of_ble_eq_true rfl), (Nat.le_of_ble_eq_true rfl)⟩ ⟨(Nat.le_of_ble_eq_true rfl), (Nat.le_of_ble_eq_true rfl)⟩ dX12_extra_39) (fun z_11 => ?_)
    refine tt_istore_n (pc := 42) (i := 3) (lv' := [(3, .int r_8.1), (0, .ref (B + o0)), (1, .int v1)]) E dX12_extra_42 rfl (Nat.le_of_ble_eq_true rfl) rfl ?_
    refine tt_iload_n (pc := 43) (i := 3) (j := 0) E dX12_extra_43 rfl rfl ?_
    refine tt_if_eq (pc := 44) (tgt := 51) E dX12_extra_44 rfl (fun c_15 => ?_) (fun c_15 => ?_)
    · have hf := ip c_15 hf
      refine tt_iload_n (pc := 51) (i := 3) (j := 0) E dX12_extra_51 rfl rfl ?_
      exact tt_zret (pc := 52) E z_11 hr hlk dX12_extra_52 (Nat.le_of_ble_eq_true rfl) (Nat.le_of_ble_eq_true rfl) hf
    · have hf := ine c_15 hf
      refine tt_aload_n (pc := 47) (i := 0) (j := 1) E dX12_extra_47 rfl rfl ?_
      obtain ⟨r_12, hr_13, hf⟩ := bd_some hf
      have hc_14 := cX12_keeps_ok (l := l) (B := B) (D := D) (cT := cT) (n := n) (adK := adK) (adV := adV) h0 hr_13
      refine tt_cV (pc := 48) (tt_vi E lmX12_160 mtX12_keeps hc_14 h0 rfl rfl (Nat.le_of_ble_eq_true rfl) ⟨(Nat.le_of_ble_eq_true rfl), (Nat.le_of_ble_eq_true rfl)⟩ ⟨(Nat.le_of_ble_eq_true rfl), (Nat.le_of_ble_eq_true rfl)⟩ dX12_extra_48) ?_
      refine tt_iload_n (pc := 51) (i := 3) (j := 0) E dX12_extra_51 rfl rfl ?_
      exact tt_zret (pc := 52) E z_11 hr hlk dX12_extra_52 (Nat.le_of_ble_eq_true rfl) (Nat.le_of_ble_eq_true rfl) hf
  · have hf := ip c_16 hf
    refine tt_iconst (pc := 31) (v := 0) E dX12_extra_31 ic_0 ?_
    exact tt_zret (pc := 32) E ((Or.inl rfl)) hr hlk dX12_extra_32 (Nat.le_of_ble_eq_true rfl) (Nat.le_of_ble_eq_true rfl) hf
set_option maxHeartbeats 4000000 in
theorem tX12_extra_24 {p : Program} {l : Launch} {e : Env} {s : State} {m : MethodId} {args : Array Value} {below : List Frame} {meth : Method} {c : Code} {B : Nat} {D : va_G} {cT : Nat → ClassId} {n : Nat} {adK adV : Nat → Nat} {res : Int32 × Mem} (E : EE p s m args c cX12_extra 4 RX12 B D cT (XW B adK adV)) (hr : meth.sig.returnType = some .boolean) (hlk : meth.locks = false) {o0 : Nat} {v1 : Int32} {ot0 : Nat} {vt1 : Int32} (h0 : isK n o0 9) (ht0 : isK n ot0 9) (ht1 : zb vt1) {μ : Mem} (hf : fX12_extra_24 o0 v1 ot0 vt1 μ = some res) : TT p l e rmX12_extra s m args below meth c (QZ B D cT n below args s res) 4 B D cT n 0 0 μ 24 [(0, .ref (B + o0)), (1, .int v1)] [.int vt1, .ref (B + ot0)] := by
  unfold fX12_extra_24 at hf
  refine tt_iconst (pc := 24) (v := 0) E dX12_extra_24 ic_0 ?_
  exact tX12_extra_25 E hr hlk h0 ht0 ht1 ((Or.inl rfl)) hf
set_option maxHeartbeats 4000000 in
theorem cX12_extra_ok {l : Launch} {B : Nat} {D : va_G} {cT : Nat → ClassId} {n : Nat} {adK adV : Nat → Nat} {o0 : Nat} {v1 : Int32} {μ : Mem} {res : Int32 × Mem} (h0 : isK n o0 9) (hf : fX12_extra o0 v1 μ = some res) : MZ l yX12_extra cX12_extra 4 (some .boolean) rmX12_extra B D cT (XW B adK adV) n [.ref (B + o0), .int v1] μ res := by
  refine tt_ofW mtX12_extra.1 (Nat.le_of_ble_eq_true rfl) rfl ?_
  intro p e s m below meth c E0 hr hlk
  have E : EE p s m _ c cX12_extra 4 RX12 B D cT (XW B adK adV) := E0
  unfold fX12_extra at hf
  refine tt_aload_n (pc := 0) (i := 0) (j := 0) E dX12_extra_0 rfl rfl ?_
  refine tt_iload_n (pc := 1) (i := 1) (j := 1) E dX12_extra_1 rfl rfl ?_
  obtain ⟨r_1, hr_2, hf⟩ := bd_some hf
  have hc_3 := cX12_isFighter_ok (l := l) (B := B) (D := D) (cT := cT) (n := n) (adK := adK) (adV := adV) h0 hr_2
  refine tt_cZ (pc := 2) (tt_vi E lmX12_345 mtX12_isFighter hc_3 h0 rfl rfl (Nat.le_of_ble_eq_true rfl) ⟨(Nat.le_of_ble_eq_true rfl), (Nat.le_of_ble_eq_true rfl)⟩ ⟨(Nat.le_of_ble_eq_true rfl), (Nat.le_of_ble_eq_true rfl)⟩ dX12_extra_2) (fun z_4 => ?_)
  refine tt_istore_n (pc := 5) (i := 2) (lv' := [(2, .int r_1), (0, .ref (B + o0)), (1, .int v1)]) E dX12_extra_5 rfl (Nat.le_of_ble_eq_true rfl) rfl ?_
  refine tt_aload_n (pc := 6) (i := 0) (j := 1) E dX12_extra_6 rfl rfl ?_
  refine tt_iload_n (pc := 7) (i := 2) (j := 0) E dX12_extra_7 rfl rfl ?_
  refine tt_iload_n (pc := 8) (i := 2) (j := 0) E dX12_extra_8 rfl rfl ?_
  refine tt_if_eq (pc := 9) (tgt := 24) E dX12_extra_9 rfl (fun c_10 => ?_) (fun c_10 => ?_)
  · have hf := ip c_10 hf
    refine tt_sub [1, 2] (lv' := [(0, .ref (B + o0)), (1, .int v1)]) rfl ?_
    exact tX12_extra_24 E hr hlk h0 h0 z_4 hf
  · have hf := ine c_10 hf
    refine tt_aload_n (pc := 12) (i := 0) (j := 1) E dX12_extra_12 rfl rfl ?_
    refine tt_iload_n (pc := 13) (i := 1) (j := 2) E dX12_extra_13 rfl rfl ?_
    obtain ⟨r_5, hr_6, hf⟩ := bd_some hf
    have hc_7 := cX12_lives_ok (l := l) (B := B) (D := D) (cT := cT) (n := n) (adK := adK) (adV := adV) h0 hr_6
    refine tt_cZ (pc := 14) (tt_vi E lmX12_263 mtX12_lives hc_7 h0 rfl rfl (Nat.le_of_ble_eq_true rfl) ⟨(Nat.le_of_ble_eq_true rfl), (Nat.le_of_ble_eq_true rfl)⟩ ⟨(Nat.le_of_ble_eq_true rfl), (Nat.le_of_ble_eq_true rfl)⟩ dX12_extra_14) (fun z_8 => ?_)
    refine tt_if_eq (pc := 17) (tgt := 24) E dX12_extra_17 rfl (fun c_9 => ?_) (fun c_9 => ?_)
    · have hf := ip c_9 hf
      refine tt_sub [1, 2] (lv' := [(0, .ref (B + o0)), (1, .int v1)]) rfl ?_
      exact tX12_extra_24 E hr hlk h0 h0 z_4 hf
    · have hf := ine c_9 hf
      refine tt_iconst (pc := 20) (v := 1) E dX12_extra_20 ic_1 ?_
      refine tt_goto (pc := 21) (tgt := 25) E dX12_extra_21 rfl ?_
      refine tt_sub [1, 2] (lv' := [(0, .ref (B + o0)), (1, .int v1)]) rfl ?_
      exact tX12_extra_25 E hr hlk h0 h0 z_4 ((Or.inr rfl)) hf
set_option maxHeartbeats 4000000 in
theorem cX12_swapsCell_ok {l : Launch} {B : Nat} {D : va_G} {cT : Nat → ClassId} {n : Nat} {adK adV : Nat → Nat} {o0 : Nat} {v1 : Int32} {v2 : Int32} {μ : Mem} {res : Int32 × Mem} (h0 : isK n o0 9) (hf : fX12_swapsCell o0 v1 v2 μ = some res) : MI l yX12_swapsCell cX12_swapsCell 4 (some .int) rmX12_swapsCell B D cT (XW B adK adV) n [.ref (B + o0), .int v1, .int v2] μ res := by
  refine tt_ofW mtX12_swapsCell.1 (Nat.le_of_ble_eq_true rfl) rfl ?_
  intro p e s m below meth c E0 hr hlk
  have E : EE p s m _ c cX12_swapsCell 4 RX12 B D cT (XW B adK adV) := E0
  unfold fX12_swapsCell at hf
  refine tt_aload_n (pc := 0) (i := 0) (j := 0) E dX12_swapsCell_0 rfl rfl ?_
  obtain ⟨q_1, hq_2, hf⟩ := bd_some hf
  refine tt_getP (pc := 1) (t := 11) E lfX12_20 rfl rfl h0 dX12_swapsCell_1 hq_2 (fun kq_3 => ?_)
  refine tt_iload_n (pc := 4) (i := 1) (j := 1) E dX12_swapsCell_4 rfl rfl ?_
  obtain ⟨g_4, hf⟩ := gd_some hf
  refine tt_iald (pc := 5) E kq_3 g_4 dX12_swapsCell_5 ?_
  refine tt_nmI hf (fun v_5 hf => ?_)
  refine tt_istore_n (pc := 6) (i := 3) (lv' := [(3, .int v_5), (0, .ref (B + o0)), (1, .int v1), (2, .int v2)]) E dX12_swapsCell_6 rfl (Nat.le_of_ble_eq_true rfl) rfl ?_
  refine tt_aload_n (pc := 7) (i := 0) (j := 1) E dX12_swapsCell_7 rfl rfl ?_
  obtain ⟨q_6, hq_7, hf⟩ := bd_some hf
  refine tt_getP (pc := 8) (t := 11) E lfX12_20 rfl rfl h0 dX12_swapsCell_8 hq_7 (fun kq_8 => ?_)
  refine tt_iload_n (pc := 11) (i := 1) (j := 2) E dX12_swapsCell_11 rfl rfl ?_
  refine tt_iload_n (pc := 12) (i := 2) (j := 3) E dX12_swapsCell_12 rfl rfl ?_
  obtain ⟨g_10, hf⟩ := gd_some hf
  refine tt_iast (pc := 13) E kq_8 g_10 dX12_swapsCell_13 (tt_nmM hf (fun m_9 hf => ?_))
  refine tt_iload_n (pc := 14) (i := 3) (j := 0) E dX12_swapsCell_14 rfl rfl ?_
  exact tt_iret (pc := 15) E hr hlk dX12_swapsCell_15 (Nat.le_of_ble_eq_true rfl) (Nat.le_of_ble_eq_true rfl) hf
set_option maxHeartbeats 4000000 in
theorem cX12_setSpeed_ok {l : Launch} {B : Nat} {D : va_G} {cT : Nat → ClassId} {n : Nat} {adK adV : Nat → Nat} {o0 : Nat} {v1 : Int32} {v2 : Int32} {μ : Mem} {res : Int32 × Mem} (h0 : isK n o0 9) (hf : fX12_setSpeed o0 v1 v2 μ = some res) : MI l yX12_setSpeed cX12_setSpeed 3 (some .int) rmX12_setSpeed B D cT (XW B adK adV) n [.ref (B + o0), .int v1, .int v2] μ res := by
  refine tt_ofW mtX12_setSpeed.1 (Nat.le_of_ble_eq_true rfl) rfl ?_
  intro p e s m below meth c E0 hr hlk
  have E : EE p s m _ c cX12_setSpeed 3 RX12 B D cT (XW B adK adV) := E0
  unfold fX12_setSpeed at hf
  refine tt_aload_n (pc := 0) (i := 0) (j := 0) E dX12_setSpeed_0 rfl rfl ?_
  refine tt_aload_n (pc := 1) (i := 0) (j := 0) E dX12_setSpeed_1 rfl rfl ?_
  refine tt_iload_n (pc := 2) (i := 1) (j := 1) E dX12_setSpeed_2 rfl rfl ?_
  obtain ⟨r_1, hr_2, hf⟩ := bd_some hf
  have hc_3 := cX12_isFighter_ok (l := l) (B := B) (D := D) (cT := cT) (n := n) (adK := adK) (adV := adV) h0 hr_2
  refine tt_cZ (pc := 3) (tt_vi E lmX12_345 mtX12_isFighter hc_3 h0 rfl rfl (Nat.le_of_ble_eq_true rfl) ⟨(Nat.le_of_ble_eq_true rfl), (Nat.le_of_ble_eq_true rfl)⟩ ⟨(Nat.le_of_ble_eq_true rfl), (Nat.le_of_ble_eq_true rfl)⟩ dX12_setSpeed_3) (fun z_4 => ?_)
  refine tt_iload_n (pc := 6) (i := 2) (j := 2) E dX12_setSpeed_6 rfl rfl ?_
  refine tt_i2l (pc := 7) E dX12_setSpeed_7 ?_
  refine tt_lconst (pc := 8) (v := 1) E dX12_setSpeed_8 lc_1 ?_
  refine tt_ldc2 (pc := 9) (v := 99) E dX12_setSpeed_9 (gw_mem (mt8 (at_l 38 rfl)) rfl) ?_
  obtain ⟨r_5, hr_6, hf⟩ := bd_some hf
  have hc_7 := cX12_isIn_ok (l := l) (B := B) (D := D) (cT := cT) (n := n) (adK := adK) (adV := adV) hr_6
  refine tt_cZ (pc := 12) (tt_si E lmX12_92 mtX12_isIn hc_7 rfl rfl (Nat.le_of_ble_eq_true rfl) ⟨(Nat.le_of_ble_eq_true rfl), (Nat.le_of_ble_eq_true rfl)⟩ ⟨(Nat.le_of_ble_eq_true rfl), (Nat.le_of_ble_eq_true rfl)⟩ dX12_setSpeed_12) (fun z_8 => ?_)
  obtain ⟨r_9, hr_10, hf⟩ := bd_some hf
  have hc_11 := cX12_goesBoth_ok (l := l) (B := B) (D := D) (cT := cT) (n := n) (adK := adK) (adV := adV) h0 z_4 z_8 hr_10
  refine tt_cZ (pc := 15) (tt_vi E lmX12_350 mtX12_goesBoth hc_11 h0 rfl rfl (Nat.le_of_ble_eq_true rfl) ⟨(Nat.le_of_ble_eq_true rfl), (Nat.le_of_ble_eq_true rfl)⟩ ⟨(Nat.le_of_ble_eq_true rfl), (Nat.le_of_ble_eq_true rfl)⟩ dX12_setSpeed_15) (fun z_12 => ?_)
  refine tt_if_ne (pc := 18) (tgt := 23) E dX12_setSpeed_18 rfl (fun c_25 => ?_) (fun c_25 => ?_)
  · have hf := ine c_25 hf
    refine tt_aload_n (pc := 23) (i := 0) (j := 0) E dX12_setSpeed_23 rfl rfl ?_
    obtain ⟨r_13, hr_14, hf⟩ := bd_some hf
    have hc_15 := cX12_laysAside_ok (l := l) (B := B) (D := D) (cT := cT) (n := n) (adK := adK) (adV := adV) h0 hr_14
    refine tt_cV (pc := 24) (tt_vi E lmX12_254 mtX12_laysAside hc_15 h0 rfl rfl (Nat.le_of_ble_eq_true rfl) ⟨(Nat.le_of_ble_eq_true rfl), (Nat.le_of_ble_eq_true rfl)⟩ ⟨(Nat.le_of_ble_eq_true rfl), (Nat.le_of_ble_eq_true rfl)⟩ dX12_setSpeed_24) ?_
    refine tt_aload_n (pc := 27) (i := 0) (j := 0) E dX12_setSpeed_27 rfl rfl ?_
    refine tt_aload_n (pc := 28) (i := 0) (j := 0) E dX12_setSpeed_28 rfl rfl ?_
    refine tt_iload_n (pc := 29) (i := 1) (j := 1) E dX12_setSpeed_29 rfl rfl ?_
    refine tt_iconst (pc := 30) (v := 1) E dX12_setSpeed_30 ic_1 ?_
    obtain ⟨r_16, hr_17, hf⟩ := bd_some hf
    have hc_18 := cX12_cellOf_ok (l := l) (B := B) (D := D) (cT := cT) (n := n) (adK := adK) (adV := adV) hr_17
    refine tt_cI (pc := 31) (tt_si E lmX12_171 mtX12_cellOf hc_18 rfl rfl (Nat.le_of_ble_eq_true rfl) ⟨(Nat.le_of_ble_eq_true rfl), (Nat.le_of_ble_eq_true rfl)⟩ ⟨(Nat.le_of_ble_eq_true rfl), (Nat.le_of_ble_eq_true rfl)⟩ dX12_setSpeed_31) ?_
    refine tt_iload_n (pc := 34) (i := 2) (j := 2) E dX12_setSpeed_34 rfl rfl ?_
    obtain ⟨r_19, hr_20, hf⟩ := bd_some hf
    have hc_21 := cX12_swapsCell_ok (l := l) (B := B) (D := D) (cT := cT) (n := n) (adK := adK) (adV := adV) h0 hr_20
    refine tt_cI (pc := 35) (tt_vi E lmX12_453 mtX12_swapsCell hc_21 h0 rfl rfl (Nat.le_of_ble_eq_true rfl) ⟨(Nat.le_of_ble_eq_true rfl), (Nat.le_of_ble_eq_true rfl)⟩ ⟨(Nat.le_of_ble_eq_true rfl), (Nat.le_of_ble_eq_true rfl)⟩ dX12_setSpeed_35) ?_
    obtain ⟨r_22, hr_23, hf⟩ := bd_some hf
    have hc_24 := cX12_kept_ok (l := l) (B := B) (D := D) (cT := cT) (n := n) (adK := adK) (adV := adV) h0 hr_23
    refine tt_cI (pc := 38) (tt_vi E lmX12_440 mtX12_kept hc_24 h0 rfl rfl (Nat.le_of_ble_eq_true rfl) ⟨(Nat.le_of_ble_eq_true rfl), (Nat.le_of_ble_eq_true rfl)⟩ ⟨(Nat.le_of_ble_eq_true rfl), (Nat.le_of_ble_eq_true rfl)⟩ dX12_setSpeed_38) ?_
    exact tt_iret (pc := 41) E hr hlk dX12_setSpeed_41 (Nat.le_of_ble_eq_true rfl) (Nat.le_of_ble_eq_true rfl) hf
  · have hf := ip c_25 hf
    refine tt_iconst (pc := 21) (v := 0) E dX12_setSpeed_21 ic_0 ?_
    exact tt_iret (pc := 22) E hr hlk dX12_setSpeed_22 (Nat.le_of_ble_eq_true rfl) (Nat.le_of_ble_eq_true rfl) hf
set_option maxHeartbeats 4000000 in
theorem cX12_heal_ok {l : Launch} {B : Nat} {D : va_G} {cT : Nat → ClassId} {n : Nat} {adK adV : Nat → Nat} {o0 : Nat} {v1 : Int32} {v2 : Int32} {μ : Mem} {res : Int32 × Mem} (h0 : isK n o0 9) (hf : fX12_heal o0 v1 v2 μ = some res) : MI l yX12_heal cX12_heal 3 (some .int) rmX12_heal B D cT (XW B adK adV) n [.ref (B + o0), .int v1, .int v2] μ res := by
  refine tt_ofW mtX12_heal.1 (Nat.le_of_ble_eq_true rfl) rfl ?_
  intro p e s m below meth c E0 hr hlk
  have E : EE p s m _ c cX12_heal 3 RX12 B D cT (XW B adK adV) := E0
  unfold fX12_heal at hf
  refine tt_aload_n (pc := 0) (i := 0) (j := 0) E dX12_heal_0 rfl rfl ?_
  refine tt_aload_n (pc := 1) (i := 0) (j := 0) E dX12_heal_1 rfl rfl ?_
  refine tt_iload_n (pc := 2) (i := 1) (j := 1) E dX12_heal_2 rfl rfl ?_
  obtain ⟨r_1, hr_2, hf⟩ := bd_some hf
  have hc_3 := cX12_isFighter_ok (l := l) (B := B) (D := D) (cT := cT) (n := n) (adK := adK) (adV := adV) h0 hr_2
  refine tt_cZ (pc := 3) (tt_vi E lmX12_345 mtX12_isFighter hc_3 h0 rfl rfl (Nat.le_of_ble_eq_true rfl) ⟨(Nat.le_of_ble_eq_true rfl), (Nat.le_of_ble_eq_true rfl)⟩ ⟨(Nat.le_of_ble_eq_true rfl), (Nat.le_of_ble_eq_true rfl)⟩ dX12_heal_3) (fun z_4 => ?_)
  refine tt_iload_n (pc := 6) (i := 2) (j := 2) E dX12_heal_6 rfl rfl ?_
  obtain ⟨r_5, hr_6, hf⟩ := bd_some hf
  have hc_7 := cX12_isBy_ok (l := l) (B := B) (D := D) (cT := cT) (n := n) (adK := adK) (adV := adV) hr_6
  refine tt_cZ (pc := 7) (tt_si E lmX12_443 mtX12_isBy hc_7 rfl rfl (Nat.le_of_ble_eq_true rfl) ⟨(Nat.le_of_ble_eq_true rfl), (Nat.le_of_ble_eq_true rfl)⟩ ⟨(Nat.le_of_ble_eq_true rfl), (Nat.le_of_ble_eq_true rfl)⟩ dX12_heal_7) (fun z_8 => ?_)
  obtain ⟨r_9, hr_10, hf⟩ := bd_some hf
  have hc_11 := cX12_goesBoth_ok (l := l) (B := B) (D := D) (cT := cT) (n := n) (adK := adK) (adV := adV) h0 z_4 z_8 hr_10
  refine tt_cZ (pc := 10) (tt_vi E lmX12_350 mtX12_goesBoth hc_11 h0 rfl rfl (Nat.le_of_ble_eq_true rfl) ⟨(Nat.le_of_ble_eq_true rfl), (Nat.le_of_ble_eq_true rfl)⟩ ⟨(Nat.le_of_ble_eq_true rfl), (Nat.le_of_ble_eq_true rfl)⟩ dX12_heal_10) (fun z_12 => ?_)
  refine tt_if_ne (pc := 13) (tgt := 18) E dX12_heal_13 rfl (fun c_22 => ?_) (fun c_22 => ?_)
  · have hf := ine c_22 hf
    refine tt_aload_n (pc := 18) (i := 0) (j := 0) E dX12_heal_18 rfl rfl ?_
    obtain ⟨r_13, hr_14, hf⟩ := bd_some hf
    have hc_15 := cX12_laysAside_ok (l := l) (B := B) (D := D) (cT := cT) (n := n) (adK := adK) (adV := adV) h0 hr_14
    refine tt_cV (pc := 19) (tt_vi E lmX12_254 mtX12_laysAside hc_15 h0 rfl rfl (Nat.le_of_ble_eq_true rfl) ⟨(Nat.le_of_ble_eq_true rfl), (Nat.le_of_ble_eq_true rfl)⟩ ⟨(Nat.le_of_ble_eq_true rfl), (Nat.le_of_ble_eq_true rfl)⟩ dX12_heal_19) ?_
    refine tt_aload_n (pc := 22) (i := 0) (j := 0) E dX12_heal_22 rfl rfl ?_
    refine tt_aload_n (pc := 23) (i := 0) (j := 0) E dX12_heal_23 rfl rfl ?_
    refine tt_iload_n (pc := 24) (i := 1) (j := 1) E dX12_heal_24 rfl rfl ?_
    refine tt_iload_n (pc := 25) (i := 2) (j := 2) E dX12_heal_25 rfl rfl ?_
    obtain ⟨r_16, hr_17, hf⟩ := bd_some hf
    have hc_18 := cX12_heals_ok (l := l) (B := B) (D := D) (cT := cT) (n := n) (adK := adK) (adV := adV) h0 hr_17
    refine tt_cI (pc := 26) (tt_vi E lmX12_316 mtX12_heals hc_18 h0 rfl rfl (Nat.le_of_ble_eq_true rfl) ⟨(Nat.le_of_ble_eq_true rfl), (Nat.le_of_ble_eq_true rfl)⟩ ⟨(Nat.le_of_ble_eq_true rfl), (Nat.le_of_ble_eq_true rfl)⟩ dX12_heal_26) ?_
    obtain ⟨r_19, hr_20, hf⟩ := bd_some hf
    have hc_21 := cX12_kept_ok (l := l) (B := B) (D := D) (cT := cT) (n := n) (adK := adK) (adV := adV) h0 hr_20
    refine tt_cI (pc := 29) (tt_vi E lmX12_440 mtX12_kept hc_21 h0 rfl rfl (Nat.le_of_ble_eq_true rfl) ⟨(Nat.le_of_ble_eq_true rfl), (Nat.le_of_ble_eq_true rfl)⟩ ⟨(Nat.le_of_ble_eq_true rfl), (Nat.le_of_ble_eq_true rfl)⟩ dX12_heal_29) ?_
    exact tt_iret (pc := 32) E hr hlk dX12_heal_32 (Nat.le_of_ble_eq_true rfl) (Nat.le_of_ble_eq_true rfl) hf
  · have hf := ip c_22 hf
    refine tt_iconst (pc := 16) (v := 0) E dX12_heal_16 ic_0 ?_
    exact tt_iret (pc := 17) E hr hlk dX12_heal_17 (Nat.le_of_ble_eq_true rfl) (Nat.le_of_ble_eq_true rfl) hf
set_option maxHeartbeats 4000000 in
theorem cX12_isWheel_ok {l : Launch} {B : Nat} {D : va_G} {cT : Nat → ClassId} {n : Nat} {adK adV : Nat → Nat} {v0 : Int32} {μ : Mem} {res : Int32} (hf : fX12_isWheel v0 μ = some res) : MZ l yX12_isWheel cX12_isWheel 1 (some .boolean) rmX12_isWheel B D cT (XW B adK adV) n [.int v0] μ (res, μ) := by
  refine tt_ofW mtX12_isWheel.1 (Nat.le_of_ble_eq_true rfl) rfl ?_
  intro p e s m below meth c E0 hr hlk
  have E : EE p s m _ c cX12_isWheel 1 RX12 B D cT (XW B adK adV) := E0
  unfold fX12_isWheel at hf
  refine tt_iload_n (pc := 0) (i := 0) (j := 0) E dX12_isWheel_0 rfl rfl ?_
  refine tt_i2l (pc := 1) E dX12_isWheel_1 ?_
  refine tt_ldc2 (pc := 2) (v := 100) E dX12_isWheel_2 (gw_mem (mt9 (at_l 52 rfl)) rfl) ?_
  refine tt_ldc2 (pc := 5) (v := 999) E dX12_isWheel_5 (gw_mem (mt8 (at_l 209 rfl)) rfl) ?_
  obtain ⟨r_1, hr_2, hf⟩ := bd_some hf
  have hc_3 := cX12_isIn_ok (l := l) (B := B) (D := D) (cT := cT) (n := n) (adK := adK) (adV := adV) hr_2
  refine tt_cZ (pc := 8) (tt_si E lmX12_92 mtX12_isIn hc_3 rfl rfl (Nat.le_of_ble_eq_true rfl) ⟨(Nat.le_of_ble_eq_true rfl), (Nat.le_of_ble_eq_true rfl)⟩ ⟨(Nat.le_of_ble_eq_true rfl), (Nat.le_of_ble_eq_true rfl)⟩ dX12_isWheel_8) (fun z_4 => ?_)
  exact tt_zret (pc := 11) E z_4 hr hlk dX12_isWheel_11 (Nat.le_of_ble_eq_true rfl) (Nat.le_of_ble_eq_true rfl) (pv hf)
set_option maxHeartbeats 4000000 in
theorem cX12_setWheel_ok {l : Launch} {B : Nat} {D : va_G} {cT : Nat → ClassId} {n : Nat} {adK adV : Nat → Nat} {o0 : Nat} {v1 : Int32} {μ : Mem} {res : Int32 × Mem} (h0 : isK n o0 9) (hf : fX12_setWheel o0 v1 μ = some res) : MI l yX12_setWheel cX12_setWheel 2 (some .int) rmX12_setWheel B D cT (XW B adK adV) n [.ref (B + o0), .int v1] μ res := by
  refine tt_ofW mtX12_setWheel.1 (Nat.le_of_ble_eq_true rfl) rfl ?_
  intro p e s m below meth c E0 hr hlk
  have E : EE p s m _ c cX12_setWheel 2 RX12 B D cT (XW B adK adV) := E0
  unfold fX12_setWheel at hf
  refine tt_aload_n (pc := 0) (i := 0) (j := 0) E dX12_setWheel_0 rfl rfl ?_
  refine tt_iload_n (pc := 1) (i := 1) (j := 1) E dX12_setWheel_1 rfl rfl ?_
  obtain ⟨r_1, hr_2, hf⟩ := bd_some hf
  have hc_3 := cX12_isWheel_ok (l := l) (B := B) (D := D) (cT := cT) (n := n) (adK := adK) (adV := adV) hr_2
  refine tt_cZ (pc := 2) (tt_si E lmX12_458 mtX12_isWheel hc_3 rfl rfl (Nat.le_of_ble_eq_true rfl) ⟨(Nat.le_of_ble_eq_true rfl), (Nat.le_of_ble_eq_true rfl)⟩ ⟨(Nat.le_of_ble_eq_true rfl), (Nat.le_of_ble_eq_true rfl)⟩ dX12_setWheel_2) (fun z_4 => ?_)
  obtain ⟨r_5, hr_6, hf⟩ := bd_some hf
  have hc_7 := cX12_goes_ok (l := l) (B := B) (D := D) (cT := cT) (n := n) (adK := adK) (adV := adV) h0 z_4 hr_6
  refine tt_cZ (pc := 5) (tt_vi E lmX12_85 mtX12_goes hc_7 h0 rfl rfl (Nat.le_of_ble_eq_true rfl) ⟨(Nat.le_of_ble_eq_true rfl), (Nat.le_of_ble_eq_true rfl)⟩ ⟨(Nat.le_of_ble_eq_true rfl), (Nat.le_of_ble_eq_true rfl)⟩ dX12_setWheel_5) (fun z_8 => ?_)
  refine tt_if_ne (pc := 8) (tgt := 13) E dX12_setWheel_8 rfl (fun c_18 => ?_) (fun c_18 => ?_)
  · have hf := ine c_18 hf
    refine tt_aload_n (pc := 13) (i := 0) (j := 0) E dX12_setWheel_13 rfl rfl ?_
    obtain ⟨r_9, hr_10, hf⟩ := bd_some hf
    have hc_11 := cX12_laysAside_ok (l := l) (B := B) (D := D) (cT := cT) (n := n) (adK := adK) (adV := adV) h0 hr_10
    refine tt_cV (pc := 14) (tt_vi E lmX12_254 mtX12_laysAside hc_11 h0 rfl rfl (Nat.le_of_ble_eq_true rfl) ⟨(Nat.le_of_ble_eq_true rfl), (Nat.le_of_ble_eq_true rfl)⟩ ⟨(Nat.le_of_ble_eq_true rfl), (Nat.le_of_ble_eq_true rfl)⟩ dX12_setWheel_14) ?_
    refine tt_aload_n (pc := 17) (i := 0) (j := 0) E dX12_setWheel_17 rfl rfl ?_
    refine tt_aload_n (pc := 18) (i := 0) (j := 0) E dX12_setWheel_18 rfl rfl ?_
    refine tt_iconst (pc := 19) (v := 1) E dX12_setWheel_19 ic_1 ?_
    refine tt_iload_n (pc := 20) (i := 1) (j := 1) E dX12_setWheel_20 rfl rfl ?_
    obtain ⟨r_12, hr_13, hf⟩ := bd_some hf
    have hc_14 := cX12_swapsCell_ok (l := l) (B := B) (D := D) (cT := cT) (n := n) (adK := adK) (adV := adV) h0 hr_13
    refine tt_cI (pc := 21) (tt_vi E lmX12_453 mtX12_swapsCell hc_14 h0 rfl rfl (Nat.le_of_ble_eq_true rfl) ⟨(Nat.le_of_ble_eq_true rfl), (Nat.le_of_ble_eq_true rfl)⟩ ⟨(Nat.le_of_ble_eq_true rfl), (Nat.le_of_ble_eq_true rfl)⟩ dX12_setWheel_21) ?_
    obtain ⟨r_15, hr_16, hf⟩ := bd_some hf
    have hc_17 := cX12_kept_ok (l := l) (B := B) (D := D) (cT := cT) (n := n) (adK := adK) (adV := adV) h0 hr_16
    refine tt_cI (pc := 24) (tt_vi E lmX12_440 mtX12_kept hc_17 h0 rfl rfl (Nat.le_of_ble_eq_true rfl) ⟨(Nat.le_of_ble_eq_true rfl), (Nat.le_of_ble_eq_true rfl)⟩ ⟨(Nat.le_of_ble_eq_true rfl), (Nat.le_of_ble_eq_true rfl)⟩ dX12_setWheel_24) ?_
    exact tt_iret (pc := 27) E hr hlk dX12_setWheel_27 (Nat.le_of_ble_eq_true rfl) (Nat.le_of_ble_eq_true rfl) hf
  · have hf := ip c_18 hf
    refine tt_iconst (pc := 11) (v := 0) E dX12_setWheel_11 ic_0 ?_
    exact tt_iret (pc := 12) E hr hlk dX12_setWheel_12 (Nat.le_of_ble_eq_true rfl) (Nat.le_of_ble_eq_true rfl) hf
set_option maxHeartbeats 4000000 in
theorem cX12_maySet_ok {l : Launch} {B : Nat} {D : va_G} {cT : Nat → ClassId} {n : Nat} {adK adV : Nat → Nat} {o0 : Nat} {v1 : Int32} {v2 : Int32} {v3 : Int32} {v4 : Int32} {μ : Mem} {res : Int32} (h0 : isK n o0 9) (hf : fX12_maySet o0 v1 v2 v3 v4 μ = some res) : MZ l yX12_maySet cX12_maySet 5 (some .boolean) rmX12_maySet B D cT (XW B adK adV) n [.ref (B + o0), .int v1, .int v2, .int v3, .int v4] μ (res, μ) := by
  refine tt_ofW mtX12_maySet.1 (Nat.le_of_ble_eq_true rfl) rfl ?_
  intro p e s m below meth c E0 hr hlk
  have E : EE p s m _ c cX12_maySet 5 RX12 B D cT (XW B adK adV) := E0
  unfold fX12_maySet at hf
  refine tt_aload_n (pc := 0) (i := 0) (j := 0) E dX12_maySet_0 rfl rfl ?_
  refine tt_iload_n (pc := 1) (i := 1) (j := 1) E dX12_maySet_1 rfl rfl ?_
  refine tt_iload_n (pc := 2) (i := 2) (j := 2) E dX12_maySet_2 rfl rfl ?_
  obtain ⟨r_1, hr_2, hf⟩ := bd_some hf
  have hc_3 := cX12_isAct_ok (l := l) (B := B) (D := D) (cT := cT) (n := n) (adK := adK) (adV := adV) h0 hr_2
  refine tt_cZ (pc := 3) (tt_vi E lmX12_354 mtX12_isAct hc_3 h0 rfl rfl (Nat.le_of_ble_eq_true rfl) ⟨(Nat.le_of_ble_eq_true rfl), (Nat.le_of_ble_eq_true rfl)⟩ ⟨(Nat.le_of_ble_eq_true rfl), (Nat.le_of_ble_eq_true rfl)⟩ dX12_maySet_3) (fun z_4 => ?_)
  refine tt_if_eq (pc := 6) (tgt := 40) E dX12_maySet_6 rfl (fun c_18 => ?_) (fun c_18 => ?_)
  · have hf := ip c_18 hf
    refine tt_iconst (pc := 40) (v := 0) E dX12_maySet_40 ic_0 ?_
    exact tt_zret (pc := 41) E ((Or.inl rfl)) hr hlk dX12_maySet_41 (Nat.le_of_ble_eq_true rfl) (Nat.le_of_ble_eq_true rfl) (pv hf)
  · have hf := ine c_18 hf
    refine tt_iload_n (pc := 9) (i := 3) (j := 3) E dX12_maySet_9 rfl rfl ?_
    refine tt_i2l (pc := 10) E dX12_maySet_10 ?_
    refine tt_lconst (pc := 11) (v := 0) E dX12_maySet_11 lc_0 ?_
    refine tt_ldc2 (pc := 12) (v := 6) E dX12_maySet_12 (gw_mem (mt9 (at_l 61 rfl)) rfl) ?_
    obtain ⟨r_5, hr_6, hf⟩ := bd_some hf
    have hc_7 := cX12_isIn_ok (l := l) (B := B) (D := D) (cT := cT) (n := n) (adK := adK) (adV := adV) hr_6
    refine tt_cZ (pc := 15) (tt_si E lmX12_92 mtX12_isIn hc_7 rfl rfl (Nat.le_of_ble_eq_true rfl) ⟨(Nat.le_of_ble_eq_true rfl), (Nat.le_of_ble_eq_true rfl)⟩ ⟨(Nat.le_of_ble_eq_true rfl), (Nat.le_of_ble_eq_true rfl)⟩ dX12_maySet_15) (fun z_8 => ?_)
    refine tt_if_eq (pc := 18) (tgt := 40) E dX12_maySet_18 rfl (fun c_17 => ?_) (fun c_17 => ?_)
    · have hf := ip c_17 hf
      refine tt_iconst (pc := 40) (v := 0) E dX12_maySet_40 ic_0 ?_
      exact tt_zret (pc := 41) E ((Or.inl rfl)) hr hlk dX12_maySet_41 (Nat.le_of_ble_eq_true rfl) (Nat.le_of_ble_eq_true rfl) (pv hf)
    · have hf := ine c_17 hf
      refine tt_iload (pc := 21) (i := 4) (j := 4) E dX12_maySet_21 rfl ?_
      refine tt_i2l (pc := 23) E dX12_maySet_23 ?_
      refine tt_lconst (pc := 24) (v := 1) E dX12_maySet_24 lc_1 ?_
      refine tt_iload_n (pc := 25) (i := 3) (j := 3) E dX12_maySet_25 rfl rfl ?_
      obtain ⟨r_9, hr_10, hf⟩ := bd_some hf
      have hc_11 := cX12_mostOf_ok (l := l) (B := B) (D := D) (cT := cT) (n := n) (adK := adK) (adV := adV) hr_10
      refine tt_cI (pc := 26) (tt_si E lmX12_195 mtX12_mostOf hc_11 rfl rfl (Nat.le_of_ble_eq_true rfl) ⟨(Nat.le_of_ble_eq_true rfl), (Nat.le_of_ble_eq_true rfl)⟩ ⟨(Nat.le_of_ble_eq_true rfl), (Nat.le_of_ble_eq_true rfl)⟩ dX12_maySet_26) ?_
      refine tt_i2l (pc := 29) E dX12_maySet_29 ?_
      obtain ⟨r_12, hr_13, hf⟩ := bd_some hf
      have hc_14 := cX12_isIn_ok (l := l) (B := B) (D := D) (cT := cT) (n := n) (adK := adK) (adV := adV) hr_13
      refine tt_cZ (pc := 30) (tt_si E lmX12_92 mtX12_isIn hc_14 rfl rfl (Nat.le_of_ble_eq_true rfl) ⟨(Nat.le_of_ble_eq_true rfl), (Nat.le_of_ble_eq_true rfl)⟩ ⟨(Nat.le_of_ble_eq_true rfl), (Nat.le_of_ble_eq_true rfl)⟩ dX12_maySet_30) (fun z_15 => ?_)
      refine tt_if_eq (pc := 33) (tgt := 40) E dX12_maySet_33 rfl (fun c_16 => ?_) (fun c_16 => ?_)
      · have hf := ip c_16 hf
        refine tt_iconst (pc := 40) (v := 0) E dX12_maySet_40 ic_0 ?_
        exact tt_zret (pc := 41) E ((Or.inl rfl)) hr hlk dX12_maySet_41 (Nat.le_of_ble_eq_true rfl) (Nat.le_of_ble_eq_true rfl) (pv hf)
      · have hf := ine c_16 hf
        refine tt_iconst (pc := 36) (v := 1) E dX12_maySet_36 ic_1 ?_
        refine tt_goto (pc := 37) (tgt := 41) E dX12_maySet_37 rfl ?_
        exact tt_zret (pc := 41) E ((Or.inr rfl)) hr hlk dX12_maySet_41 (Nat.le_of_ble_eq_true rfl) (Nat.le_of_ble_eq_true rfl) (pv hf)
set_option maxHeartbeats 4000000 in
theorem cX12_setsAct_ok {l : Launch} {B : Nat} {D : va_G} {cT : Nat → ClassId} {n : Nat} {adK adV : Nat → Nat} {o0 : Nat} {v1 : Int32} {v2 : Int32} {v3 : Int32} {v4 : Int32} {μ : Mem} {res : Int32 × Mem} (h0 : isK n o0 9) (hf : fX12_setsAct o0 v1 v2 v3 v4 μ = some res) : MI l yX12_setsAct cX12_setsAct 5 (some .int) rmX12_setsAct B D cT (XW B adK adV) n [.ref (B + o0), .int v1, .int v2, .int v3, .int v4] μ res := by
  refine tt_ofW mtX12_setsAct.1 (Nat.le_of_ble_eq_true rfl) rfl ?_
  intro p e s m below meth c E0 hr hlk
  have E : EE p s m _ c cX12_setsAct 5 RX12 B D cT (XW B adK adV) := E0
  unfold fX12_setsAct at hf
  refine tt_aload_n (pc := 0) (i := 0) (j := 0) E dX12_setsAct_0 rfl rfl ?_
  obtain ⟨q_1, hq_2, hf⟩ := bd_some hf
  refine tt_getP (pc := 1) (t := 11) E lfX12_20 rfl rfl h0 dX12_setsAct_1 hq_2 (fun kq_3 => ?_)
  refine tt_sipush (pc := 4) (v := 148) E dX12_setsAct_4 sc_148 ?_
  refine tt_bipush (pc := 7) (v := 6) E dX12_setsAct_7 bc_6 ?_
  refine tt_iload_n (pc := 9) (i := 1) (j := 1) E dX12_setsAct_9 rfl rfl ?_
  refine tt_imul (pc := 10) E dX12_setsAct_10 ?_
  refine tt_iadd (pc := 11) E dX12_setsAct_11 ?_
  refine tt_iload_n (pc := 12) (i := 2) (j := 2) E dX12_setsAct_12 rfl rfl ?_
  refine tt_iadd (pc := 13) E dX12_setsAct_13 ?_
  refine tt_iload (pc := 14) (i := 4) (j := 4) E dX12_setsAct_14 rfl ?_
  obtain ⟨g_5, hf⟩ := gd_some hf
  refine tt_iast (pc := 16) E kq_3 g_5 dX12_setsAct_16 (tt_nmM hf (fun m_4 hf => ?_))
  refine tt_aload_n (pc := 17) (i := 0) (j := 0) E dX12_setsAct_17 rfl rfl ?_
  refine tt_bipush (pc := 18) (v := 100) E dX12_setsAct_18 bc_100 ?_
  refine tt_bipush (pc := 20) (v := 6) E dX12_setsAct_20 bc_6 ?_
  refine tt_iload_n (pc := 22) (i := 1) (j := 1) E dX12_setsAct_22 rfl rfl ?_
  refine tt_imul (pc := 23) E dX12_setsAct_23 ?_
  refine tt_iadd (pc := 24) E dX12_setsAct_24 ?_
  refine tt_iload_n (pc := 25) (i := 2) (j := 2) E dX12_setsAct_25 rfl rfl ?_
  refine tt_iadd (pc := 26) E dX12_setsAct_26 ?_
  refine tt_iload_n (pc := 27) (i := 3) (j := 3) E dX12_setsAct_27 rfl rfl ?_
  obtain ⟨r_6, hr_7, hf⟩ := bd_some hf
  have hc_8 := cX12_swapsCell_ok (l := l) (B := B) (D := D) (cT := cT) (n := n) (adK := adK) (adV := adV) h0 hr_7
  refine tt_cI (pc := 28) (tt_vi E lmX12_453 mtX12_swapsCell hc_8 h0 rfl rfl (Nat.le_of_ble_eq_true rfl) ⟨(Nat.le_of_ble_eq_true rfl), (Nat.le_of_ble_eq_true rfl)⟩ ⟨(Nat.le_of_ble_eq_true rfl), (Nat.le_of_ble_eq_true rfl)⟩ dX12_setsAct_28) ?_
  exact tt_iret (pc := 31) E hr hlk dX12_setsAct_31 (Nat.le_of_ble_eq_true rfl) (Nat.le_of_ble_eq_true rfl) hf
set_option maxHeartbeats 4000000 in
theorem tX12_setAct_32 {p : Program} {l : Launch} {e : Env} {s : State} {m : MethodId} {args : Array Value} {below : List Frame} {meth : Method} {c : Code} {B : Nat} {D : va_G} {cT : Nat → ClassId} {n : Nat} {adK adV : Nat → Nat} {res : Int32 × Mem} (E : EE p s m args c cX12_setAct 6 RX12 B D cT (XW B adK adV)) (hr : meth.sig.returnType = some .int) (hlk : meth.locks = false) {o0 : Nat} {v1 : Int32} {v2 : Int32} {v3 : Int32} {v4 : Int32} {ot0 : Nat} {vt1 : Int32} {vt2 : Int32} (h0 : isK n o0 9) (ht0 : isK n ot0 9) (ht1 : zb vt1) (ht2 : zb vt2) {μ : Mem} (hf : fX12_setAct_32 o0 v1 v2 v3 v4 ot0 vt1 vt2 μ = some res) : TT p l e rmX12_setAct s m args below meth c (QI B D cT n below args s res) 6 B D cT n 0 0 μ 32 [(0, .ref (B + o0)), (1, .int v1), (2, .int v2), (3, .int v3), (4, .int v4)] [.int vt2, .int vt1, .ref (B + ot0)] := by
  unfold fX12_setAct_32 at hf
  obtain ⟨r_1, hr_2, hf⟩ := bd_some hf
  have hc_3 := cX12_goesBoth_ok (l := l) (B := B) (D := D) (cT := cT) (n := n) (adK := adK) (adV := adV) ht0 ht1 ht2 hr_2
  refine tt_cZ (pc := 32) (tt_vi E lmX12_350 mtX12_goesBoth hc_3 ht0 rfl rfl (Nat.le_of_ble_eq_true rfl) ⟨(Nat.le_of_ble_eq_true rfl), (Nat.le_of_ble_eq_true rfl)⟩ ⟨(Nat.le_of_ble_eq_true rfl), (Nat.le_of_ble_eq_true rfl)⟩ dX12_setAct_32) (fun z_4 => ?_)
  refine tt_if_ne (pc := 35) (tgt := 40) E dX12_setAct_35 rfl (fun c_14 => ?_) (fun c_14 => ?_)
  · have hf := ine c_14 hf
    refine tt_aload_n (pc := 40) (i := 0) (j := 0) E dX12_setAct_40 rfl rfl ?_
    obtain ⟨r_5, hr_6, hf⟩ := bd_some hf
    have hc_7 := cX12_laysAside_ok (l := l) (B := B) (D := D) (cT := cT) (n := n) (adK := adK) (adV := adV) h0 hr_6
    refine tt_cV (pc := 41) (tt_vi E lmX12_254 mtX12_laysAside hc_7 h0 rfl rfl (Nat.le_of_ble_eq_true rfl) ⟨(Nat.le_of_ble_eq_true rfl), (Nat.le_of_ble_eq_true rfl)⟩ ⟨(Nat.le_of_ble_eq_true rfl), (Nat.le_of_ble_eq_true rfl)⟩ dX12_setAct_41) ?_
    refine tt_aload_n (pc := 44) (i := 0) (j := 0) E dX12_setAct_44 rfl rfl ?_
    refine tt_aload_n (pc := 45) (i := 0) (j := 0) E dX12_setAct_45 rfl rfl ?_
    refine tt_iload_n (pc := 46) (i := 1) (j := 1) E dX12_setAct_46 rfl rfl ?_
    refine tt_iload_n (pc := 47) (i := 2) (j := 2) E dX12_setAct_47 rfl rfl ?_
    refine tt_iload_n (pc := 48) (i := 3) (j := 3) E dX12_setAct_48 rfl rfl ?_
    refine tt_iload (pc := 49) (i := 4) (j := 4) E dX12_setAct_49 rfl ?_
    obtain ⟨r_8, hr_9, hf⟩ := bd_some hf
    have hc_10 := cX12_setsAct_ok (l := l) (B := B) (D := D) (cT := cT) (n := n) (adK := adK) (adV := adV) h0 hr_9
    refine tt_cI (pc := 51) (tt_vi E lmX12_467 mtX12_setsAct hc_10 h0 rfl rfl (Nat.le_of_ble_eq_true rfl) ⟨(Nat.le_of_ble_eq_true rfl), (Nat.le_of_ble_eq_true rfl)⟩ ⟨(Nat.le_of_ble_eq_true rfl), (Nat.le_of_ble_eq_true rfl)⟩ dX12_setAct_51) ?_
    obtain ⟨r_11, hr_12, hf⟩ := bd_some hf
    have hc_13 := cX12_kept_ok (l := l) (B := B) (D := D) (cT := cT) (n := n) (adK := adK) (adV := adV) h0 hr_12
    refine tt_cI (pc := 54) (tt_vi E lmX12_440 mtX12_kept hc_13 h0 rfl rfl (Nat.le_of_ble_eq_true rfl) ⟨(Nat.le_of_ble_eq_true rfl), (Nat.le_of_ble_eq_true rfl)⟩ ⟨(Nat.le_of_ble_eq_true rfl), (Nat.le_of_ble_eq_true rfl)⟩ dX12_setAct_54) ?_
    exact tt_iret (pc := 57) E hr hlk dX12_setAct_57 (Nat.le_of_ble_eq_true rfl) (Nat.le_of_ble_eq_true rfl) hf
  · have hf := ip c_14 hf
    refine tt_iconst (pc := 38) (v := 0) E dX12_setAct_38 ic_0 ?_
    exact tt_iret (pc := 39) E hr hlk dX12_setAct_39 (Nat.le_of_ble_eq_true rfl) (Nat.le_of_ble_eq_true rfl) hf
set_option maxHeartbeats 4000000 in
theorem tX12_setAct_31 {p : Program} {l : Launch} {e : Env} {s : State} {m : MethodId} {args : Array Value} {below : List Frame} {meth : Method} {c : Code} {B : Nat} {D : va_G} {cT : Nat → ClassId} {n : Nat} {adK adV : Nat → Nat} {res : Int32 × Mem} (E : EE p s m args c cX12_setAct 6 RX12 B D cT (XW B adK adV)) (hr : meth.sig.returnType = some .int) (hlk : meth.locks = false) {o0 : Nat} {v1 : Int32} {v2 : Int32} {v3 : Int32} {v4 : Int32} {ot0 : Nat} {vt1 : Int32} (h0 : isK n o0 9) (ht0 : isK n ot0 9) (ht1 : zb vt1) {μ : Mem} (hf : fX12_setAct_31 o0 v1 v2 v3 v4 ot0 vt1 μ = some res) : TT p l e rmX12_setAct s m args below meth c (QI B D cT n below args s res) 6 B D cT n 0 0 μ 31 [(0, .ref (B + o0)), (1, .int v1), (2, .int v2), (3, .int v3), (4, .int v4)] [.int vt1, .ref (B + ot0)] := by
  unfold fX12_setAct_31 at hf
  refine tt_iconst (pc := 31) (v := 0) E dX12_setAct_31 ic_0 ?_
  exact tX12_setAct_32 E hr hlk h0 ht0 ht1 ((Or.inl rfl)) hf
set_option maxHeartbeats 4000000 in
theorem cX12_setAct_ok {l : Launch} {B : Nat} {D : va_G} {cT : Nat → ClassId} {n : Nat} {adK adV : Nat → Nat} {o0 : Nat} {v1 : Int32} {v2 : Int32} {v3 : Int32} {v4 : Int32} {μ : Mem} {res : Int32 × Mem} (h0 : isK n o0 9) (hf : fX12_setAct o0 v1 v2 v3 v4 μ = some res) : MI l yX12_setAct cX12_setAct 6 (some .int) rmX12_setAct B D cT (XW B adK adV) n [.ref (B + o0), .int v1, .int v2, .int v3, .int v4] μ res := by
  refine tt_ofW mtX12_setAct.1 (Nat.le_of_ble_eq_true rfl) rfl ?_
  intro p e s m below meth c E0 hr hlk
  have E : EE p s m _ c cX12_setAct 6 RX12 B D cT (XW B adK adV) := E0
  unfold fX12_setAct at hf
  refine tt_aload_n (pc := 0) (i := 0) (j := 0) E dX12_setAct_0 rfl rfl ?_
  refine tt_iload_n (pc := 1) (i := 1) (j := 1) E dX12_setAct_1 rfl rfl ?_
  obtain ⟨r_1, hr_2, hf⟩ := bd_some hf
  have hc_3 := cX12_isFighter_ok (l := l) (B := B) (D := D) (cT := cT) (n := n) (adK := adK) (adV := adV) h0 hr_2
  refine tt_cZ (pc := 2) (tt_vi E lmX12_345 mtX12_isFighter hc_3 h0 rfl rfl (Nat.le_of_ble_eq_true rfl) ⟨(Nat.le_of_ble_eq_true rfl), (Nat.le_of_ble_eq_true rfl)⟩ ⟨(Nat.le_of_ble_eq_true rfl), (Nat.le_of_ble_eq_true rfl)⟩ dX12_setAct_2) (fun z_4 => ?_)
  refine tt_istore (pc := 5) (i := 5) (lv' := [(5, .int r_1), (0, .ref (B + o0)), (1, .int v1), (2, .int v2), (3, .int v3), (4, .int v4)]) E dX12_setAct_5 (Nat.le_of_ble_eq_true rfl) rfl ?_
  refine tt_aload_n (pc := 7) (i := 0) (j := 1) E dX12_setAct_7 rfl rfl ?_
  refine tt_iload (pc := 8) (i := 5) (j := 0) E dX12_setAct_8 rfl ?_
  refine tt_iload (pc := 10) (i := 5) (j := 0) E dX12_setAct_10 rfl ?_
  refine tt_if_eq (pc := 12) (tgt := 31) E dX12_setAct_12 rfl (fun c_10 => ?_) (fun c_10 => ?_)
  · have hf := ip c_10 hf
    refine tt_sub [1, 2, 3, 4, 5] (lv' := [(0, .ref (B + o0)), (1, .int v1), (2, .int v2), (3, .int v3), (4, .int v4)]) rfl ?_
    exact tX12_setAct_31 E hr hlk h0 h0 z_4 hf
  · have hf := ine c_10 hf
    refine tt_aload_n (pc := 15) (i := 0) (j := 1) E dX12_setAct_15 rfl rfl ?_
    refine tt_iload_n (pc := 16) (i := 1) (j := 2) E dX12_setAct_16 rfl rfl ?_
    refine tt_iload_n (pc := 17) (i := 2) (j := 3) E dX12_setAct_17 rfl rfl ?_
    refine tt_iload_n (pc := 18) (i := 3) (j := 4) E dX12_setAct_18 rfl rfl ?_
    refine tt_iload (pc := 19) (i := 4) (j := 5) E dX12_setAct_19 rfl ?_
    obtain ⟨r_5, hr_6, hf⟩ := bd_some hf
    have hc_7 := cX12_maySet_ok (l := l) (B := B) (D := D) (cT := cT) (n := n) (adK := adK) (adV := adV) h0 hr_6
    refine tt_cZ (pc := 21) (tt_vi E lmX12_463 mtX12_maySet hc_7 h0 rfl rfl (Nat.le_of_ble_eq_true rfl) ⟨(Nat.le_of_ble_eq_true rfl), (Nat.le_of_ble_eq_true rfl)⟩ ⟨(Nat.le_of_ble_eq_true rfl), (Nat.le_of_ble_eq_true rfl)⟩ dX12_setAct_21) (fun z_8 => ?_)
    refine tt_if_eq (pc := 24) (tgt := 31) E dX12_setAct_24 rfl (fun c_9 => ?_) (fun c_9 => ?_)
    · have hf := ip c_9 hf
      refine tt_sub [1, 2, 3, 4, 5] (lv' := [(0, .ref (B + o0)), (1, .int v1), (2, .int v2), (3, .int v3), (4, .int v4)]) rfl ?_
      exact tX12_setAct_31 E hr hlk h0 h0 z_4 hf
    · have hf := ine c_9 hf
      refine tt_iconst (pc := 27) (v := 1) E dX12_setAct_27 ic_1 ?_
      refine tt_goto (pc := 28) (tgt := 32) E dX12_setAct_28 rfl ?_
      refine tt_sub [1, 2, 3, 4, 5] (lv' := [(0, .ref (B + o0)), (1, .int v1), (2, .int v2), (3, .int v3), (4, .int v4)]) rfl ?_
      exact tX12_setAct_32 E hr hlk h0 h0 z_4 ((Or.inr rfl)) hf
set_option maxHeartbeats 4000000 in
theorem cX12_commandHere_ok {l : Launch} {B : Nat} {D : va_G} {cT : Nat → ClassId} {n : Nat} {adK adV : Nat → Nat} {o0 : Nat} {μ : Mem} {res : Int32} (h0 : isK n o0 9) (hf : fX12_commandHere o0 μ = some res) : MI l yX12_commandHere cX12_commandHere 1 (some .int) rmX12_commandHere B D cT (XW B adK adV) n [.ref (B + o0)] μ (res, μ) := by
  refine tt_ofW mtX12_commandHere.1 (Nat.le_of_ble_eq_true rfl) rfl ?_
  intro p e s m below meth c E0 hr hlk
  have E : EE p s m _ c cX12_commandHere 1 RX12 B D cT (XW B adK adV) := E0
  unfold fX12_commandHere at hf
  refine tt_aload_n (pc := 0) (i := 0) (j := 0) E dX12_commandHere_0 rfl rfl ?_
  refine tt_ldc2 (pc := 1) (v := 677454) E dX12_commandHere_1 (gw_mem (mt9 (at_l 78 rfl)) rfl) ?_
  obtain ⟨r_1, hr_2, hf⟩ := bd_some hf
  have hc_3 := cX12_isWord_ok (l := l) (B := B) (D := D) (cT := cT) (n := n) (adK := adK) (adV := adV) h0 hr_2
  refine tt_cZ (pc := 4) (tt_vi E lmX12_142 mtX12_isWord hc_3 h0 rfl rfl (Nat.le_of_ble_eq_true rfl) ⟨(Nat.le_of_ble_eq_true rfl), (Nat.le_of_ble_eq_true rfl)⟩ ⟨(Nat.le_of_ble_eq_true rfl), (Nat.le_of_ble_eq_true rfl)⟩ dX12_commandHere_4) (fun z_4 => ?_)
  refine tt_if_eq (pc := 7) (tgt := 12) E dX12_commandHere_7 rfl (fun c_45 => ?_) (fun c_45 => ?_)
  · have hf := ip c_45 hf
    refine tt_aload_n (pc := 12) (i := 0) (j := 0) E dX12_commandHere_12 rfl rfl ?_
    refine tt_ldc2 (pc := 13) (v := 546408) E dX12_commandHere_13 (gw_mem (mt7 (at_l 158 rfl)) rfl) ?_
    obtain ⟨r_5, hr_6, hf⟩ := bd_some hf
    have hc_7 := cX12_isWord_ok (l := l) (B := B) (D := D) (cT := cT) (n := n) (adK := adK) (adV := adV) h0 hr_6
    refine tt_cZ (pc := 16) (tt_vi E lmX12_142 mtX12_isWord hc_7 h0 rfl rfl (Nat.le_of_ble_eq_true rfl) ⟨(Nat.le_of_ble_eq_true rfl), (Nat.le_of_ble_eq_true rfl)⟩ ⟨(Nat.le_of_ble_eq_true rfl), (Nat.le_of_ble_eq_true rfl)⟩ dX12_commandHere_16) (fun z_8 => ?_)
    refine tt_if_eq (pc := 19) (tgt := 24) E dX12_commandHere_19 rfl (fun c_44 => ?_) (fun c_44 => ?_)
    · have hf := ip c_44 hf
      refine tt_aload_n (pc := 24) (i := 0) (j := 0) E dX12_commandHere_24 rfl rfl ?_
      refine tt_ldc2 (pc := 25) (v := 402644) E dX12_commandHere_25 (gw_mem (mt7 (at_l 159 rfl)) rfl) ?_
      obtain ⟨r_9, hr_10, hf⟩ := bd_some hf
      have hc_11 := cX12_isWord_ok (l := l) (B := B) (D := D) (cT := cT) (n := n) (adK := adK) (adV := adV) h0 hr_10
      refine tt_cZ (pc := 28) (tt_vi E lmX12_142 mtX12_isWord hc_11 h0 rfl rfl (Nat.le_of_ble_eq_true rfl) ⟨(Nat.le_of_ble_eq_true rfl), (Nat.le_of_ble_eq_true rfl)⟩ ⟨(Nat.le_of_ble_eq_true rfl), (Nat.le_of_ble_eq_true rfl)⟩ dX12_commandHere_28) (fun z_12 => ?_)
      refine tt_if_eq (pc := 31) (tgt := 36) E dX12_commandHere_31 rfl (fun c_43 => ?_) (fun c_43 => ?_)
      · have hf := ip c_43 hf
        refine tt_aload_n (pc := 36) (i := 0) (j := 0) E dX12_commandHere_36 rfl rfl ?_
        refine tt_ldc2 (pc := 37) (v := 6050369) E dX12_commandHere_37 (gw_mem (mt9 (at_l 79 rfl)) rfl) ?_
        obtain ⟨r_13, hr_14, hf⟩ := bd_some hf
        have hc_15 := cX12_isWord_ok (l := l) (B := B) (D := D) (cT := cT) (n := n) (adK := adK) (adV := adV) h0 hr_14
        refine tt_cZ (pc := 40) (tt_vi E lmX12_142 mtX12_isWord hc_15 h0 rfl rfl (Nat.le_of_ble_eq_true rfl) ⟨(Nat.le_of_ble_eq_true rfl), (Nat.le_of_ble_eq_true rfl)⟩ ⟨(Nat.le_of_ble_eq_true rfl), (Nat.le_of_ble_eq_true rfl)⟩ dX12_commandHere_40) (fun z_16 => ?_)
        refine tt_if_eq (pc := 43) (tgt := 48) E dX12_commandHere_43 rfl (fun c_42 => ?_) (fun c_42 => ?_)
        · have hf := ip c_42 hf
          refine tt_aload_n (pc := 48) (i := 0) (j := 0) E dX12_commandHere_48 rfl rfl ?_
          refine tt_ldc2 (pc := 49) (v := 20452516) E dX12_commandHere_49 (gw_mem (mt7 (at_l 137 rfl)) rfl) ?_
          obtain ⟨r_17, hr_18, hf⟩ := bd_some hf
          have hc_19 := cX12_isWord_ok (l := l) (B := B) (D := D) (cT := cT) (n := n) (adK := adK) (adV := adV) h0 hr_18
          refine tt_cZ (pc := 52) (tt_vi E lmX12_142 mtX12_isWord hc_19 h0 rfl rfl (Nat.le_of_ble_eq_true rfl) ⟨(Nat.le_of_ble_eq_true rfl), (Nat.le_of_ble_eq_true rfl)⟩ ⟨(Nat.le_of_ble_eq_true rfl), (Nat.le_of_ble_eq_true rfl)⟩ dX12_commandHere_52) (fun z_20 => ?_)
          refine tt_if_eq (pc := 55) (tgt := 60) E dX12_commandHere_55 rfl (fun c_41 => ?_) (fun c_41 => ?_)
          · have hf := ip c_41 hf
            refine tt_aload_n (pc := 60) (i := 0) (j := 0) E dX12_commandHere_60 rfl rfl ?_
            refine tt_ldc2 (pc := 61) (v := 267308) E dX12_commandHere_61 (gw_mem (mt9 (at_l 80 rfl)) rfl) ?_
            obtain ⟨r_21, hr_22, hf⟩ := bd_some hf
            have hc_23 := cX12_isWord_ok (l := l) (B := B) (D := D) (cT := cT) (n := n) (adK := adK) (adV := adV) h0 hr_22
            refine tt_cZ (pc := 64) (tt_vi E lmX12_142 mtX12_isWord hc_23 h0 rfl rfl (Nat.le_of_ble_eq_true rfl) ⟨(Nat.le_of_ble_eq_true rfl), (Nat.le_of_ble_eq_true rfl)⟩ ⟨(Nat.le_of_ble_eq_true rfl), (Nat.le_of_ble_eq_true rfl)⟩ dX12_commandHere_64) (fun z_24 => ?_)
            refine tt_if_eq (pc := 67) (tgt := 72) E dX12_commandHere_67 rfl (fun c_40 => ?_) (fun c_40 => ?_)
            · have hf := ip c_40 hf
              refine tt_aload_n (pc := 72) (i := 0) (j := 0) E dX12_commandHere_72 rfl rfl ?_
              refine tt_ldc2 (pc := 73) (v := 24384684) E dX12_commandHere_73 (gw_mem (mt7 (at_l 90 rfl)) rfl) ?_
              obtain ⟨r_25, hr_26, hf⟩ := bd_some hf
              have hc_27 := cX12_isWord_ok (l := l) (B := B) (D := D) (cT := cT) (n := n) (adK := adK) (adV := adV) h0 hr_26
              refine tt_cZ (pc := 76) (tt_vi E lmX12_142 mtX12_isWord hc_27 h0 rfl rfl (Nat.le_of_ble_eq_true rfl) ⟨(Nat.le_of_ble_eq_true rfl), (Nat.le_of_ble_eq_true rfl)⟩ ⟨(Nat.le_of_ble_eq_true rfl), (Nat.le_of_ble_eq_true rfl)⟩ dX12_commandHere_76) (fun z_28 => ?_)
              refine tt_if_eq (pc := 79) (tgt := 85) E dX12_commandHere_79 rfl (fun c_39 => ?_) (fun c_39 => ?_)
              · have hf := ip c_39 hf
                refine tt_aload_n (pc := 85) (i := 0) (j := 0) E dX12_commandHere_85 rfl rfl ?_
                refine tt_ldc2 (pc := 86) (v := 1140) E dX12_commandHere_86 (gw_mem (mt9 (at_l 81 rfl)) rfl) ?_
                obtain ⟨r_29, hr_30, hf⟩ := bd_some hf
                have hc_31 := cX12_isWord_ok (l := l) (B := B) (D := D) (cT := cT) (n := n) (adK := adK) (adV := adV) h0 hr_30
                refine tt_cZ (pc := 89) (tt_vi E lmX12_142 mtX12_isWord hc_31 h0 rfl rfl (Nat.le_of_ble_eq_true rfl) ⟨(Nat.le_of_ble_eq_true rfl), (Nat.le_of_ble_eq_true rfl)⟩ ⟨(Nat.le_of_ble_eq_true rfl), (Nat.le_of_ble_eq_true rfl)⟩ dX12_commandHere_89) (fun z_32 => ?_)
                refine tt_if_eq (pc := 92) (tgt := 98) E dX12_commandHere_92 rfl (fun c_38 => ?_) (fun c_38 => ?_)
                · have hf := ip c_38 hf
                  refine tt_aload_n (pc := 98) (i := 0) (j := 0) E dX12_commandHere_98 rfl rfl ?_
                  refine tt_ldc2 (pc := 99) (v := 609752116) E dX12_commandHere_99 (gw_mem (mt9 (at_l 82 rfl)) rfl) ?_
                  obtain ⟨r_33, hr_34, hf⟩ := bd_some hf
                  have hc_35 := cX12_isWord_ok (l := l) (B := B) (D := D) (cT := cT) (n := n) (adK := adK) (adV := adV) h0 hr_34
                  refine tt_cZ (pc := 102) (tt_vi E lmX12_142 mtX12_isWord hc_35 h0 rfl rfl (Nat.le_of_ble_eq_true rfl) ⟨(Nat.le_of_ble_eq_true rfl), (Nat.le_of_ble_eq_true rfl)⟩ ⟨(Nat.le_of_ble_eq_true rfl), (Nat.le_of_ble_eq_true rfl)⟩ dX12_commandHere_102) (fun z_36 => ?_)
                  refine tt_if_eq (pc := 105) (tgt := 113) E dX12_commandHere_105 rfl (fun c_37 => ?_) (fun c_37 => ?_)
                  · have hf := ip c_37 hf
                    refine tt_iconst (pc := 113) (v := (-1)) E dX12_commandHere_113 ic_m1 ?_
                    exact tt_iret (pc := 114) E hr hlk dX12_commandHere_114 (Nat.le_of_ble_eq_true rfl) (Nat.le_of_ble_eq_true rfl) (pv hf)
                  · have hf := ine c_37 hf
                    refine tt_bipush (pc := 108) (v := 8) E dX12_commandHere_108 bc_8 ?_
                    refine tt_goto (pc := 110) (tgt := 114) E dX12_commandHere_110 rfl ?_
                    exact tt_iret (pc := 114) E hr hlk dX12_commandHere_114 (Nat.le_of_ble_eq_true rfl) (Nat.le_of_ble_eq_true rfl) (pv hf)
                · have hf := ine c_38 hf
                  refine tt_bipush (pc := 95) (v := 7) E dX12_commandHere_95 bc_7 ?_
                  exact tt_iret (pc := 97) E hr hlk dX12_commandHere_97 (Nat.le_of_ble_eq_true rfl) (Nat.le_of_ble_eq_true rfl) (pv hf)
              · have hf := ine c_39 hf
                refine tt_bipush (pc := 82) (v := 6) E dX12_commandHere_82 bc_6 ?_
                exact tt_iret (pc := 84) E hr hlk dX12_commandHere_84 (Nat.le_of_ble_eq_true rfl) (Nat.le_of_ble_eq_true rfl) (pv hf)
            · have hf := ine c_40 hf
              refine tt_iconst (pc := 70) (v := 5) E dX12_commandHere_70 ic_5 ?_
              exact tt_iret (pc := 71) E hr hlk dX12_commandHere_71 (Nat.le_of_ble_eq_true rfl) (Nat.le_of_ble_eq_true rfl) (pv hf)
          · have hf := ine c_41 hf
            refine tt_iconst (pc := 58) (v := 4) E dX12_commandHere_58 ic_4 ?_
            exact tt_iret (pc := 59) E hr hlk dX12_commandHere_59 (Nat.le_of_ble_eq_true rfl) (Nat.le_of_ble_eq_true rfl) (pv hf)
        · have hf := ine c_42 hf
          refine tt_iconst (pc := 46) (v := 3) E dX12_commandHere_46 ic_3 ?_
          exact tt_iret (pc := 47) E hr hlk dX12_commandHere_47 (Nat.le_of_ble_eq_true rfl) (Nat.le_of_ble_eq_true rfl) (pv hf)
      · have hf := ine c_43 hf
        refine tt_iconst (pc := 34) (v := 2) E dX12_commandHere_34 ic_2 ?_
        exact tt_iret (pc := 35) E hr hlk dX12_commandHere_35 (Nat.le_of_ble_eq_true rfl) (Nat.le_of_ble_eq_true rfl) (pv hf)
    · have hf := ine c_44 hf
      refine tt_iconst (pc := 22) (v := 1) E dX12_commandHere_22 ic_1 ?_
      exact tt_iret (pc := 23) E hr hlk dX12_commandHere_23 (Nat.le_of_ble_eq_true rfl) (Nat.le_of_ble_eq_true rfl) (pv hf)
  · have hf := ine c_45 hf
    refine tt_iconst (pc := 10) (v := 0) E dX12_commandHere_10 ic_0 ?_
    exact tt_iret (pc := 11) E hr hlk dX12_commandHere_11 (Nat.le_of_ble_eq_true rfl) (Nat.le_of_ble_eq_true rfl) (pv hf)
set_option maxHeartbeats 4000000 in
theorem tX12_told_19 {p : Program} {l : Launch} {e : Env} {s : State} {m : MethodId} {args : Array Value} {below : List Frame} {meth : Method} {c : Code} {B : Nat} {D : va_G} {cT : Nat → ClassId} {n : Nat} {adK adV : Nat → Nat} {res : Int32 × Mem} (E : EE p s m args c cX12_told 2 RX12 B D cT (XW B adK adV)) (hr : meth.sig.returnType = some .int) (hlk : meth.locks = false) {o0 : Nat} {vt0 : Int32} (h0 : isK n o0 9) {μ : Mem} (hf : fX12_told_19 o0 vt0 μ = some res) : TT p l e rmX12_told s m args below meth c (QI B D cT n below args s res) 2 B D cT n 0 0 μ 19 [(0, .ref (B + o0))] [.int vt0] := by
  unfold fX12_told_19 at hf
  refine tt_istore_n (pc := 19) (i := 1) (lv' := [(1, .int vt0), (0, .ref (B + o0))]) E dX12_told_19 rfl (Nat.le_of_ble_eq_true rfl) rfl ?_
  refine tt_aload_n (pc := 20) (i := 0) (j := 1) E dX12_told_20 rfl rfl ?_
  obtain ⟨r_1, hr_2, hf⟩ := bd_some hf
  have hc_3 := cX12_isGood_ok (l := l) (B := B) (D := D) (cT := cT) (n := n) (adK := adK) (adV := adV) h0 hr_2
  refine tt_cZ (pc := 21) (tt_vi E lmX12_129 mtX12_isGood hc_3 h0 rfl rfl (Nat.le_of_ble_eq_true rfl) ⟨(Nat.le_of_ble_eq_true rfl), (Nat.le_of_ble_eq_true rfl)⟩ ⟨(Nat.le_of_ble_eq_true rfl), (Nat.le_of_ble_eq_true rfl)⟩ dX12_told_21) (fun z_4 => ?_)
  refine tt_if_eq (pc := 24) (tgt := 37) E dX12_told_24 rfl (fun c_33 => ?_) (fun c_33 => ?_)
  · have hf := ip c_33 hf
    refine tt_aload_n (pc := 37) (i := 0) (j := 1) E dX12_told_37 rfl rfl ?_
    obtain ⟨r_5, hr_6, hf⟩ := bd_some hf
    have hc_7 := cX12_isGood_ok (l := l) (B := B) (D := D) (cT := cT) (n := n) (adK := adK) (adV := adV) h0 hr_6
    refine tt_cZ (pc := 38) (tt_vi E lmX12_129 mtX12_isGood hc_7 h0 rfl rfl (Nat.le_of_ble_eq_true rfl) ⟨(Nat.le_of_ble_eq_true rfl), (Nat.le_of_ble_eq_true rfl)⟩ ⟨(Nat.le_of_ble_eq_true rfl), (Nat.le_of_ble_eq_true rfl)⟩ dX12_told_38) (fun z_8 => ?_)
    refine tt_if_eq (pc := 41) (tgt := 48) E dX12_told_41 rfl (fun c_12 => ?_) (fun c_12 => ?_)
    · have hf := ip c_12 hf
      refine tt_iload_n (pc := 48) (i := 1) (j := 0) E dX12_told_48 rfl rfl ?_
      exact tt_iret (pc := 49) E hr hlk dX12_told_49 (Nat.le_of_ble_eq_true rfl) (Nat.le_of_ble_eq_true rfl) hf
    · have hf := ine c_12 hf
      refine tt_aload_n (pc := 44) (i := 0) (j := 1) E dX12_told_44 rfl rfl ?_
      obtain ⟨r_9, hr_10, hf⟩ := bd_some hf
      have hc_11 := cX12_goOn_ok (l := l) (B := B) (D := D) (cT := cT) (n := n) (adK := adK) (adV := adV) h0 hr_10
      refine tt_cV (pc := 45) (tt_vi E lmX12_139 mtX12_goOn hc_11 h0 rfl rfl (Nat.le_of_ble_eq_true rfl) ⟨(Nat.le_of_ble_eq_true rfl), (Nat.le_of_ble_eq_true rfl)⟩ ⟨(Nat.le_of_ble_eq_true rfl), (Nat.le_of_ble_eq_true rfl)⟩ dX12_told_45) ?_
      refine tt_iload_n (pc := 48) (i := 1) (j := 0) E dX12_told_48 rfl rfl ?_
      exact tt_iret (pc := 49) E hr hlk dX12_told_49 (Nat.le_of_ble_eq_true rfl) (Nat.le_of_ble_eq_true rfl) hf
  · have hf := ine c_33 hf
    refine tt_iload_n (pc := 27) (i := 1) (j := 0) E dX12_told_27 rfl rfl ?_
    refine tt_iconst (pc := 28) (v := (-1)) E dX12_told_28 ic_m1 ?_
    refine tt_icmp_ne (pc := 29) (tgt := 37) E dX12_told_29 rfl (fun c_32 => ?_) (fun c_32 => ?_)
    · have hf := ine c_32 hf
      refine tt_aload_n (pc := 37) (i := 0) (j := 1) E dX12_told_37 rfl rfl ?_
      obtain ⟨r_13, hr_14, hf⟩ := bd_some hf
      have hc_15 := cX12_isGood_ok (l := l) (B := B) (D := D) (cT := cT) (n := n) (adK := adK) (adV := adV) h0 hr_14
      refine tt_cZ (pc := 38) (tt_vi E lmX12_129 mtX12_isGood hc_15 h0 rfl rfl (Nat.le_of_ble_eq_true rfl) ⟨(Nat.le_of_ble_eq_true rfl), (Nat.le_of_ble_eq_true rfl)⟩ ⟨(Nat.le_of_ble_eq_true rfl), (Nat.le_of_ble_eq_true rfl)⟩ dX12_told_38) (fun z_16 => ?_)
      refine tt_if_eq (pc := 41) (tgt := 48) E dX12_told_41 rfl (fun c_20 => ?_) (fun c_20 => ?_)
      · have hf := ip c_20 hf
        refine tt_iload_n (pc := 48) (i := 1) (j := 0) E dX12_told_48 rfl rfl ?_
        exact tt_iret (pc := 49) E hr hlk dX12_told_49 (Nat.le_of_ble_eq_true rfl) (Nat.le_of_ble_eq_true rfl) hf
      · have hf := ine c_20 hf
        refine tt_aload_n (pc := 44) (i := 0) (j := 1) E dX12_told_44 rfl rfl ?_
        obtain ⟨r_17, hr_18, hf⟩ := bd_some hf
        have hc_19 := cX12_goOn_ok (l := l) (B := B) (D := D) (cT := cT) (n := n) (adK := adK) (adV := adV) h0 hr_18
        refine tt_cV (pc := 45) (tt_vi E lmX12_139 mtX12_goOn hc_19 h0 rfl rfl (Nat.le_of_ble_eq_true rfl) ⟨(Nat.le_of_ble_eq_true rfl), (Nat.le_of_ble_eq_true rfl)⟩ ⟨(Nat.le_of_ble_eq_true rfl), (Nat.le_of_ble_eq_true rfl)⟩ dX12_told_45) ?_
        refine tt_iload_n (pc := 48) (i := 1) (j := 0) E dX12_told_48 rfl rfl ?_
        exact tt_iret (pc := 49) E hr hlk dX12_told_49 (Nat.le_of_ble_eq_true rfl) (Nat.le_of_ble_eq_true rfl) hf
    · have hf := ip c_32 hf
      refine tt_aload_n (pc := 32) (i := 0) (j := 1) E dX12_told_32 rfl rfl ?_
      refine tt_iconst (pc := 33) (v := 4) E dX12_told_33 ic_4 ?_
      obtain ⟨r_21, hr_22, hf⟩ := bd_some hf
      have hc_23 := cX12_wrong_ok (l := l) (B := B) (D := D) (cT := cT) (n := n) (adK := adK) (adV := adV) h0 hr_22
      refine tt_cV (pc := 34) (tt_vi E lmX12_136 mtX12_wrong hc_23 h0 rfl rfl (Nat.le_of_ble_eq_true rfl) ⟨(Nat.le_of_ble_eq_true rfl), (Nat.le_of_ble_eq_true rfl)⟩ ⟨(Nat.le_of_ble_eq_true rfl), (Nat.le_of_ble_eq_true rfl)⟩ dX12_told_34) ?_
      refine tt_aload_n (pc := 37) (i := 0) (j := 1) E dX12_told_37 rfl rfl ?_
      obtain ⟨r_24, hr_25, hf⟩ := bd_some hf
      have hc_26 := cX12_isGood_ok (l := l) (B := B) (D := D) (cT := cT) (n := n) (adK := adK) (adV := adV) h0 hr_25
      refine tt_cZ (pc := 38) (tt_vi E lmX12_129 mtX12_isGood hc_26 h0 rfl rfl (Nat.le_of_ble_eq_true rfl) ⟨(Nat.le_of_ble_eq_true rfl), (Nat.le_of_ble_eq_true rfl)⟩ ⟨(Nat.le_of_ble_eq_true rfl), (Nat.le_of_ble_eq_true rfl)⟩ dX12_told_38) (fun z_27 => ?_)
      refine tt_if_eq (pc := 41) (tgt := 48) E dX12_told_41 rfl (fun c_31 => ?_) (fun c_31 => ?_)
      · have hf := ip c_31 hf
        refine tt_iload_n (pc := 48) (i := 1) (j := 0) E dX12_told_48 rfl rfl ?_
        exact tt_iret (pc := 49) E hr hlk dX12_told_49 (Nat.le_of_ble_eq_true rfl) (Nat.le_of_ble_eq_true rfl) hf
      · have hf := ine c_31 hf
        refine tt_aload_n (pc := 44) (i := 0) (j := 1) E dX12_told_44 rfl rfl ?_
        obtain ⟨r_28, hr_29, hf⟩ := bd_some hf
        have hc_30 := cX12_goOn_ok (l := l) (B := B) (D := D) (cT := cT) (n := n) (adK := adK) (adV := adV) h0 hr_29
        refine tt_cV (pc := 45) (tt_vi E lmX12_139 mtX12_goOn hc_30 h0 rfl rfl (Nat.le_of_ble_eq_true rfl) ⟨(Nat.le_of_ble_eq_true rfl), (Nat.le_of_ble_eq_true rfl)⟩ ⟨(Nat.le_of_ble_eq_true rfl), (Nat.le_of_ble_eq_true rfl)⟩ dX12_told_45) ?_
        refine tt_iload_n (pc := 48) (i := 1) (j := 0) E dX12_told_48 rfl rfl ?_
        exact tt_iret (pc := 49) E hr hlk dX12_told_49 (Nat.le_of_ble_eq_true rfl) (Nat.le_of_ble_eq_true rfl) hf
set_option maxHeartbeats 4000000 in
theorem cX12_told_ok {l : Launch} {B : Nat} {D : va_G} {cT : Nat → ClassId} {n : Nat} {adK adV : Nat → Nat} {o0 : Nat} {μ : Mem} {res : Int32 × Mem} (h0 : isK n o0 9) (hf : fX12_told o0 μ = some res) : MI l yX12_told cX12_told 2 (some .int) rmX12_told B D cT (XW B adK adV) n [.ref (B + o0)] μ res := by
  refine tt_ofW mtX12_told.1 (Nat.le_of_ble_eq_true rfl) rfl ?_
  intro p e s m below meth c E0 hr hlk
  have E : EE p s m _ c cX12_told 2 RX12 B D cT (XW B adK adV) := E0
  unfold fX12_told at hf
  refine tt_aload_n (pc := 0) (i := 0) (j := 0) E dX12_told_0 rfl rfl ?_
  obtain ⟨r_1, hr_2, hf⟩ := bd_some hf
  have hc_3 := cX12_mustBeWord_ok (l := l) (B := B) (D := D) (cT := cT) (n := n) (adK := adK) (adV := adV) h0 hr_2
  refine tt_cV (pc := 1) (tt_vi E lmX12_213 mtX12_mustBeWord hc_3 h0 rfl rfl (Nat.le_of_ble_eq_true rfl) ⟨(Nat.le_of_ble_eq_true rfl), (Nat.le_of_ble_eq_true rfl)⟩ ⟨(Nat.le_of_ble_eq_true rfl), (Nat.le_of_ble_eq_true rfl)⟩ dX12_told_1) ?_
  refine tt_aload_n (pc := 4) (i := 0) (j := 0) E dX12_told_4 rfl rfl ?_
  obtain ⟨r_4, hr_5, hf⟩ := bd_some hf
  have hc_6 := cX12_isGood_ok (l := l) (B := B) (D := D) (cT := cT) (n := n) (adK := adK) (adV := adV) h0 hr_5
  refine tt_cZ (pc := 5) (tt_vi E lmX12_129 mtX12_isGood hc_6 h0 rfl rfl (Nat.le_of_ble_eq_true rfl) ⟨(Nat.le_of_ble_eq_true rfl), (Nat.le_of_ble_eq_true rfl)⟩ ⟨(Nat.le_of_ble_eq_true rfl), (Nat.le_of_ble_eq_true rfl)⟩ dX12_told_5) (fun z_7 => ?_)
  refine tt_if_eq (pc := 8) (tgt := 18) E dX12_told_8 rfl (fun c_11 => ?_) (fun c_11 => ?_)
  · have hf := ip c_11 hf
    refine tt_iconst (pc := 18) (v := (-1)) E dX12_told_18 ic_m1 ?_
    exact tX12_told_19 E hr hlk h0 hf
  · have hf := ine c_11 hf
    refine tt_aload_n (pc := 11) (i := 0) (j := 0) E dX12_told_11 rfl rfl ?_
    obtain ⟨r_8, hr_9, hf⟩ := bd_some hf
    have hc_10 := cX12_named_ok (l := l) (B := B) (D := D) (cT := cT) (n := n) (adK := adK) (adV := adV) h0 hr_9
    refine tt_cI (pc := 12) (tt_vi E lmX12_216 mtX12_named hc_10 h0 rfl rfl (Nat.le_of_ble_eq_true rfl) ⟨(Nat.le_of_ble_eq_true rfl), (Nat.le_of_ble_eq_true rfl)⟩ ⟨(Nat.le_of_ble_eq_true rfl), (Nat.le_of_ble_eq_true rfl)⟩ dX12_told_12) ?_
    refine tt_goto (pc := 15) (tgt := 19) E dX12_told_15 rfl ?_
    exact tX12_told_19 E hr hlk h0 hf
set_option maxHeartbeats 4000000 in
theorem cX12_any_ok {l : Launch} {B : Nat} {D : va_G} {cT : Nat → ClassId} {n : Nat} {adK adV : Nat → Nat} {o0 : Nat} {μ : Mem} {res : Int32 × Mem} (h0 : isK n o0 9) (hf : fX12_any o0 μ = some res) : MI l yX12_any cX12_any 1 (some .int) rmX12_any B D cT (XW B adK adV) n [.ref (B + o0)] μ res := by
  refine tt_ofW mtX12_any.1 (Nat.le_of_ble_eq_true rfl) rfl ?_
  intro p e s m below meth c E0 hr hlk
  have E : EE p s m _ c cX12_any 1 RX12 B D cT (XW B adK adV) := E0
  unfold fX12_any at hf
  refine tt_aload_n (pc := 0) (i := 0) (j := 0) E dX12_any_0 rfl rfl ?_
  refine tt_iconst (pc := 1) (v := 0) E dX12_any_1 ic_0 ?_
  refine tt_sipush (pc := 2) (v := 999) E dX12_any_2 sc_999 ?_
  obtain ⟨r_1, hr_2, hf⟩ := bd_some hf
  have hc_3 := cX12_number_ok (l := l) (B := B) (D := D) (cT := cT) (n := n) (adK := adK) (adV := adV) h0 hr_2
  refine tt_cI (pc := 5) (tt_vi E lmX12_198 mtX12_number hc_3 h0 rfl rfl (Nat.le_of_ble_eq_true rfl) ⟨(Nat.le_of_ble_eq_true rfl), (Nat.le_of_ble_eq_true rfl)⟩ ⟨(Nat.le_of_ble_eq_true rfl), (Nat.le_of_ble_eq_true rfl)⟩ dX12_any_5) ?_
  exact tt_iret (pc := 8) E hr hlk dX12_any_8 (Nat.le_of_ble_eq_true rfl) (Nat.le_of_ble_eq_true rfl) hf
set_option maxHeartbeats 4000000 in
theorem cX12_kindTold_ok {l : Launch} {B : Nat} {D : va_G} {cT : Nat → ClassId} {n : Nat} {adK adV : Nat → Nat} {o0 : Nat} {μ : Mem} {res : Int32 × Mem} (h0 : isK n o0 9) (hf : fX12_kindTold o0 μ = some res) : MI l yX12_kindTold cX12_kindTold 2 (some .int) rmX12_kindTold B D cT (XW B adK adV) n [.ref (B + o0)] μ res := by
  refine tt_ofW mtX12_kindTold.1 (Nat.le_of_ble_eq_true rfl) rfl ?_
  intro p e s m below meth c E0 hr hlk
  have E : EE p s m _ c cX12_kindTold 2 RX12 B D cT (XW B adK adV) := E0
  unfold fX12_kindTold at hf
  refine tt_aload_n (pc := 0) (i := 0) (j := 0) E dX12_kindTold_0 rfl rfl ?_
  obtain ⟨r_1, hr_2, hf⟩ := bd_some hf
  have hc_3 := cX12_kindHere_ok (l := l) (B := B) (D := D) (cT := cT) (n := n) (adK := adK) (adV := adV) h0 hr_2
  refine tt_cI (pc := 1) (tt_vi E lmX12_188 mtX12_kindHere hc_3 h0 rfl rfl (Nat.le_of_ble_eq_true rfl) ⟨(Nat.le_of_ble_eq_true rfl), (Nat.le_of_ble_eq_true rfl)⟩ ⟨(Nat.le_of_ble_eq_true rfl), (Nat.le_of_ble_eq_true rfl)⟩ dX12_kindTold_1) ?_
  refine tt_istore_n (pc := 4) (i := 1) (lv' := [(1, .int r_1), (0, .ref (B + o0))]) E dX12_kindTold_4 rfl (Nat.le_of_ble_eq_true rfl) rfl ?_
  refine tt_aload_n (pc := 5) (i := 0) (j := 1) E dX12_kindTold_5 rfl rfl ?_
  obtain ⟨r_4, hr_5, hf⟩ := bd_some hf
  have hc_6 := cX12_isGood_ok (l := l) (B := B) (D := D) (cT := cT) (n := n) (adK := adK) (adV := adV) h0 hr_5
  refine tt_cZ (pc := 6) (tt_vi E lmX12_129 mtX12_isGood hc_6 h0 rfl rfl (Nat.le_of_ble_eq_true rfl) ⟨(Nat.le_of_ble_eq_true rfl), (Nat.le_of_ble_eq_true rfl)⟩ ⟨(Nat.le_of_ble_eq_true rfl), (Nat.le_of_ble_eq_true rfl)⟩ dX12_kindTold_6) (fun z_7 => ?_)
  refine tt_if_eq (pc := 9) (tgt := 22) E dX12_kindTold_9 rfl (fun c_36 => ?_) (fun c_36 => ?_)
  · have hf := ip c_36 hf
    refine tt_aload_n (pc := 22) (i := 0) (j := 1) E dX12_kindTold_22 rfl rfl ?_
    obtain ⟨r_8, hr_9, hf⟩ := bd_some hf
    have hc_10 := cX12_isGood_ok (l := l) (B := B) (D := D) (cT := cT) (n := n) (adK := adK) (adV := adV) h0 hr_9
    refine tt_cZ (pc := 23) (tt_vi E lmX12_129 mtX12_isGood hc_10 h0 rfl rfl (Nat.le_of_ble_eq_true rfl) ⟨(Nat.le_of_ble_eq_true rfl), (Nat.le_of_ble_eq_true rfl)⟩ ⟨(Nat.le_of_ble_eq_true rfl), (Nat.le_of_ble_eq_true rfl)⟩ dX12_kindTold_23) (fun z_11 => ?_)
    refine tt_if_eq (pc := 26) (tgt := 33) E dX12_kindTold_26 rfl (fun c_15 => ?_) (fun c_15 => ?_)
    · have hf := ip c_15 hf
      refine tt_iload_n (pc := 33) (i := 1) (j := 0) E dX12_kindTold_33 rfl rfl ?_
      exact tt_iret (pc := 34) E hr hlk dX12_kindTold_34 (Nat.le_of_ble_eq_true rfl) (Nat.le_of_ble_eq_true rfl) hf
    · have hf := ine c_15 hf
      refine tt_aload_n (pc := 29) (i := 0) (j := 1) E dX12_kindTold_29 rfl rfl ?_
      obtain ⟨r_12, hr_13, hf⟩ := bd_some hf
      have hc_14 := cX12_goOn_ok (l := l) (B := B) (D := D) (cT := cT) (n := n) (adK := adK) (adV := adV) h0 hr_13
      refine tt_cV (pc := 30) (tt_vi E lmX12_139 mtX12_goOn hc_14 h0 rfl rfl (Nat.le_of_ble_eq_true rfl) ⟨(Nat.le_of_ble_eq_true rfl), (Nat.le_of_ble_eq_true rfl)⟩ ⟨(Nat.le_of_ble_eq_true rfl), (Nat.le_of_ble_eq_true rfl)⟩ dX12_kindTold_30) ?_
      refine tt_iload_n (pc := 33) (i := 1) (j := 0) E dX12_kindTold_33 rfl rfl ?_
      exact tt_iret (pc := 34) E hr hlk dX12_kindTold_34 (Nat.le_of_ble_eq_true rfl) (Nat.le_of_ble_eq_true rfl) hf
  · have hf := ine c_36 hf
    refine tt_iload_n (pc := 12) (i := 1) (j := 0) E dX12_kindTold_12 rfl rfl ?_
    refine tt_iconst (pc := 13) (v := (-1)) E dX12_kindTold_13 ic_m1 ?_
    refine tt_icmp_ne (pc := 14) (tgt := 22) E dX12_kindTold_14 rfl (fun c_35 => ?_) (fun c_35 => ?_)
    · have hf := ine c_35 hf
      refine tt_aload_n (pc := 22) (i := 0) (j := 1) E dX12_kindTold_22 rfl rfl ?_
      obtain ⟨r_16, hr_17, hf⟩ := bd_some hf
      have hc_18 := cX12_isGood_ok (l := l) (B := B) (D := D) (cT := cT) (n := n) (adK := adK) (adV := adV) h0 hr_17
      refine tt_cZ (pc := 23) (tt_vi E lmX12_129 mtX12_isGood hc_18 h0 rfl rfl (Nat.le_of_ble_eq_true rfl) ⟨(Nat.le_of_ble_eq_true rfl), (Nat.le_of_ble_eq_true rfl)⟩ ⟨(Nat.le_of_ble_eq_true rfl), (Nat.le_of_ble_eq_true rfl)⟩ dX12_kindTold_23) (fun z_19 => ?_)
      refine tt_if_eq (pc := 26) (tgt := 33) E dX12_kindTold_26 rfl (fun c_23 => ?_) (fun c_23 => ?_)
      · have hf := ip c_23 hf
        refine tt_iload_n (pc := 33) (i := 1) (j := 0) E dX12_kindTold_33 rfl rfl ?_
        exact tt_iret (pc := 34) E hr hlk dX12_kindTold_34 (Nat.le_of_ble_eq_true rfl) (Nat.le_of_ble_eq_true rfl) hf
      · have hf := ine c_23 hf
        refine tt_aload_n (pc := 29) (i := 0) (j := 1) E dX12_kindTold_29 rfl rfl ?_
        obtain ⟨r_20, hr_21, hf⟩ := bd_some hf
        have hc_22 := cX12_goOn_ok (l := l) (B := B) (D := D) (cT := cT) (n := n) (adK := adK) (adV := adV) h0 hr_21
        refine tt_cV (pc := 30) (tt_vi E lmX12_139 mtX12_goOn hc_22 h0 rfl rfl (Nat.le_of_ble_eq_true rfl) ⟨(Nat.le_of_ble_eq_true rfl), (Nat.le_of_ble_eq_true rfl)⟩ ⟨(Nat.le_of_ble_eq_true rfl), (Nat.le_of_ble_eq_true rfl)⟩ dX12_kindTold_30) ?_
        refine tt_iload_n (pc := 33) (i := 1) (j := 0) E dX12_kindTold_33 rfl rfl ?_
        exact tt_iret (pc := 34) E hr hlk dX12_kindTold_34 (Nat.le_of_ble_eq_true rfl) (Nat.le_of_ble_eq_true rfl) hf
    · have hf := ip c_35 hf
      refine tt_aload_n (pc := 17) (i := 0) (j := 1) E dX12_kindTold_17 rfl rfl ?_
      refine tt_iconst (pc := 18) (v := 1) E dX12_kindTold_18 ic_1 ?_
      obtain ⟨r_24, hr_25, hf⟩ := bd_some hf
      have hc_26 := cX12_wrong_ok (l := l) (B := B) (D := D) (cT := cT) (n := n) (adK := adK) (adV := adV) h0 hr_25
      refine tt_cV (pc := 19) (tt_vi E lmX12_136 mtX12_wrong hc_26 h0 rfl rfl (Nat.le_of_ble_eq_true rfl) ⟨(Nat.le_of_ble_eq_true rfl), (Nat.le_of_ble_eq_true rfl)⟩ ⟨(Nat.le_of_ble_eq_true rfl), (Nat.le_of_ble_eq_true rfl)⟩ dX12_kindTold_19) ?_
      refine tt_aload_n (pc := 22) (i := 0) (j := 1) E dX12_kindTold_22 rfl rfl ?_
      obtain ⟨r_27, hr_28, hf⟩ := bd_some hf
      have hc_29 := cX12_isGood_ok (l := l) (B := B) (D := D) (cT := cT) (n := n) (adK := adK) (adV := adV) h0 hr_28
      refine tt_cZ (pc := 23) (tt_vi E lmX12_129 mtX12_isGood hc_29 h0 rfl rfl (Nat.le_of_ble_eq_true rfl) ⟨(Nat.le_of_ble_eq_true rfl), (Nat.le_of_ble_eq_true rfl)⟩ ⟨(Nat.le_of_ble_eq_true rfl), (Nat.le_of_ble_eq_true rfl)⟩ dX12_kindTold_23) (fun z_30 => ?_)
      refine tt_if_eq (pc := 26) (tgt := 33) E dX12_kindTold_26 rfl (fun c_34 => ?_) (fun c_34 => ?_)
      · have hf := ip c_34 hf
        refine tt_iload_n (pc := 33) (i := 1) (j := 0) E dX12_kindTold_33 rfl rfl ?_
        exact tt_iret (pc := 34) E hr hlk dX12_kindTold_34 (Nat.le_of_ble_eq_true rfl) (Nat.le_of_ble_eq_true rfl) hf
      · have hf := ine c_34 hf
        refine tt_aload_n (pc := 29) (i := 0) (j := 1) E dX12_kindTold_29 rfl rfl ?_
        obtain ⟨r_31, hr_32, hf⟩ := bd_some hf
        have hc_33 := cX12_goOn_ok (l := l) (B := B) (D := D) (cT := cT) (n := n) (adK := adK) (adV := adV) h0 hr_32
        refine tt_cV (pc := 30) (tt_vi E lmX12_139 mtX12_goOn hc_33 h0 rfl rfl (Nat.le_of_ble_eq_true rfl) ⟨(Nat.le_of_ble_eq_true rfl), (Nat.le_of_ble_eq_true rfl)⟩ ⟨(Nat.le_of_ble_eq_true rfl), (Nat.le_of_ble_eq_true rfl)⟩ dX12_kindTold_30) ?_
        refine tt_iload_n (pc := 33) (i := 1) (j := 0) E dX12_kindTold_33 rfl rfl ?_
        exact tt_iret (pc := 34) E hr hlk dX12_kindTold_34 (Nat.le_of_ble_eq_true rfl) (Nat.le_of_ble_eq_true rfl) hf
set_option maxHeartbeats 4000000 in
theorem tX12_readsNumbers_129 {p : Program} {l : Launch} {e : Env} {s : State} {m : MethodId} {args : Array Value} {below : List Frame} {meth : Method} {c : Code} {B : Nat} {D : va_G} {cT : Nat → ClassId} {n : Nat} {adK adV : Nat → Nat} {res : Mem} (E : EE p s m args c cX12_readsNumbers 3 RX12 B D cT (XW B adK adV)) (hr : meth.sig.returnType = none) (hlk : meth.locks = false) {o0 : Nat} {v1 : Int32} {v2 : Int32} (h0 : isK n o0 9) {μ : Mem} (hf : fX12_readsNumbers_129 o0 v1 v2 μ = some res) : TT p l e rmX12_readsNumbers s m args below meth c (QV B D cT n below args s res) 3 B D cT n 0 0 μ 129 [(0, .ref (B + o0)), (1, .int v1), (2, .int v2)] [] := by
  unfold fX12_readsNumbers_129 at hf
  refine tt_iload_n (pc := 129) (i := 2) (j := 2) E dX12_readsNumbers_129 rfl rfl ?_
  refine tt_bipush (pc := 130) (v := 8) E dX12_readsNumbers_130 bc_8 ?_
  refine tt_icmp_ne (pc := 132) (tgt := 148) E dX12_readsNumbers_132 rfl (fun c_17 => ?_) (fun c_17 => ?_)
  · have hf := ine c_17 hf
    refine tt_iload_n (pc := 148) (i := 2) (j := 2) E dX12_readsNumbers_148 rfl rfl ?_
    refine tt_bipush (pc := 149) (v := 8) E dX12_readsNumbers_149 bc_8 ?_
    refine tt_icmp_ne (pc := 151) (tgt := 160) E dX12_readsNumbers_151 rfl (fun c_4 => ?_) (fun c_4 => ?_)
    · have hf := ine c_4 hf
      exact tt_vret (pc := 160) E hr hlk dX12_readsNumbers_160 (Nat.le_of_ble_eq_true rfl) (Nat.le_of_ble_eq_true rfl) hf
    · have hf := ip c_4 hf
      refine tt_aload_n (pc := 154) (i := 0) (j := 0) E dX12_readsNumbers_154 rfl rfl ?_
      refine tt_bipush (pc := 155) (v := 40) E dX12_readsNumbers_155 bc_40 ?_
      obtain ⟨r_1, hr_2, hf⟩ := bd_some hf
      have hc_3 := cX12_mustSign_ok (l := l) (B := B) (D := D) (cT := cT) (n := n) (adK := adK) (adV := adV) h0 hr_2
      refine tt_cV (pc := 157) (tt_vi E lmX12_248 mtX12_mustSign hc_3 h0 rfl rfl (Nat.le_of_ble_eq_true rfl) ⟨(Nat.le_of_ble_eq_true rfl), (Nat.le_of_ble_eq_true rfl)⟩ ⟨(Nat.le_of_ble_eq_true rfl), (Nat.le_of_ble_eq_true rfl)⟩ dX12_readsNumbers_157) ?_
      exact tt_vret (pc := 160) E hr hlk dX12_readsNumbers_160 (Nat.le_of_ble_eq_true rfl) (Nat.le_of_ble_eq_true rfl) hf
  · have hf := ip c_17 hf
    refine tt_aload_n (pc := 135) (i := 0) (j := 0) E dX12_readsNumbers_135 rfl rfl ?_
    obtain ⟨q_5, hq_6, hf⟩ := bd_some hf
    refine tt_getP (pc := 136) (t := 11) E lfX12_51 rfl rfl h0 dX12_readsNumbers_136 hq_6 (fun kq_7 => ?_)
    refine tt_iload_n (pc := 139) (i := 1) (j := 1) E dX12_readsNumbers_139 rfl rfl ?_
    refine tt_aload_n (pc := 140) (i := 0) (j := 0) E dX12_readsNumbers_140 rfl rfl ?_
    refine tt_iconst (pc := 141) (v := 1) E dX12_readsNumbers_141 ic_1 ?_
    refine tt_bipush (pc := 142) (v := 20) E dX12_readsNumbers_142 bc_20 ?_
    obtain ⟨r_8, hr_9, hf⟩ := bd_some hf
    have hc_10 := cX12_number_ok (l := l) (B := B) (D := D) (cT := cT) (n := n) (adK := adK) (adV := adV) h0 hr_9
    refine tt_cI (pc := 144) (tt_vi E lmX12_198 mtX12_number hc_10 h0 rfl rfl (Nat.le_of_ble_eq_true rfl) ⟨(Nat.le_of_ble_eq_true rfl), (Nat.le_of_ble_eq_true rfl)⟩ ⟨(Nat.le_of_ble_eq_true rfl), (Nat.le_of_ble_eq_true rfl)⟩ dX12_readsNumbers_144) ?_
    obtain ⟨g_12, hf⟩ := gd_some hf
    refine tt_iast (pc := 147) E kq_7 g_12 dX12_readsNumbers_147 (tt_nmM hf (fun m_11 hf => ?_))
    refine tt_iload_n (pc := 148) (i := 2) (j := 2) E dX12_readsNumbers_148 rfl rfl ?_
    refine tt_bipush (pc := 149) (v := 8) E dX12_readsNumbers_149 bc_8 ?_
    refine tt_icmp_ne (pc := 151) (tgt := 160) E dX12_readsNumbers_151 rfl (fun c_16 => ?_) (fun c_16 => ?_)
    · have hf := ine c_16 hf
      exact tt_vret (pc := 160) E hr hlk dX12_readsNumbers_160 (Nat.le_of_ble_eq_true rfl) (Nat.le_of_ble_eq_true rfl) hf
    · have hf := ip c_16 hf
      refine tt_aload_n (pc := 154) (i := 0) (j := 0) E dX12_readsNumbers_154 rfl rfl ?_
      refine tt_bipush (pc := 155) (v := 40) E dX12_readsNumbers_155 bc_40 ?_
      obtain ⟨r_13, hr_14, hf⟩ := bd_some hf
      have hc_15 := cX12_mustSign_ok (l := l) (B := B) (D := D) (cT := cT) (n := n) (adK := adK) (adV := adV) h0 hr_14
      refine tt_cV (pc := 157) (tt_vi E lmX12_248 mtX12_mustSign hc_15 h0 rfl rfl (Nat.le_of_ble_eq_true rfl) ⟨(Nat.le_of_ble_eq_true rfl), (Nat.le_of_ble_eq_true rfl)⟩ ⟨(Nat.le_of_ble_eq_true rfl), (Nat.le_of_ble_eq_true rfl)⟩ dX12_readsNumbers_157) ?_
      exact tt_vret (pc := 160) E hr hlk dX12_readsNumbers_160 (Nat.le_of_ble_eq_true rfl) (Nat.le_of_ble_eq_true rfl) hf
set_option maxHeartbeats 4000000 in
theorem tX12_readsNumbers_113 {p : Program} {l : Launch} {e : Env} {s : State} {m : MethodId} {args : Array Value} {below : List Frame} {meth : Method} {c : Code} {B : Nat} {D : va_G} {cT : Nat → ClassId} {n : Nat} {adK adV : Nat → Nat} {res : Mem} (E : EE p s m args c cX12_readsNumbers 3 RX12 B D cT (XW B adK adV)) (hr : meth.sig.returnType = none) (hlk : meth.locks = false) {o0 : Nat} {v1 : Int32} {v2 : Int32} (h0 : isK n o0 9) {μ : Mem} (hf : fX12_readsNumbers_113 o0 v1 v2 μ = some res) : TT p l e rmX12_readsNumbers s m args below meth c (QV B D cT n below args s res) 3 B D cT n 0 0 μ 113 [(0, .ref (B + o0)), (1, .int v1), (2, .int v2)] [] := by
  unfold fX12_readsNumbers_113 at hf
  refine tt_iload_n (pc := 113) (i := 2) (j := 2) E dX12_readsNumbers_113 rfl rfl ?_
  refine tt_bipush (pc := 114) (v := 7) E dX12_readsNumbers_114 bc_7 ?_
  refine tt_icmp_ne (pc := 116) (tgt := 129) E dX12_readsNumbers_116 rfl (fun c_9 => ?_) (fun c_9 => ?_)
  · have hf := ine c_9 hf
    exact tX12_readsNumbers_129 E hr hlk h0 hf
  · have hf := ip c_9 hf
    refine tt_aload_n (pc := 119) (i := 0) (j := 0) E dX12_readsNumbers_119 rfl rfl ?_
    obtain ⟨q_1, hq_2, hf⟩ := bd_some hf
    refine tt_getP (pc := 120) (t := 11) E lfX12_60 rfl rfl h0 dX12_readsNumbers_120 hq_2 (fun kq_3 => ?_)
    refine tt_iload_n (pc := 123) (i := 1) (j := 1) E dX12_readsNumbers_123 rfl rfl ?_
    refine tt_aload_n (pc := 124) (i := 0) (j := 0) E dX12_readsNumbers_124 rfl rfl ?_
    obtain ⟨r_4, hr_5, hf⟩ := bd_some hf
    have hc_6 := cX12_any_ok (l := l) (B := B) (D := D) (cT := cT) (n := n) (adK := adK) (adV := adV) h0 hr_5
    refine tt_cI (pc := 125) (tt_vi E lmX12_481 mtX12_any hc_6 h0 rfl rfl (Nat.le_of_ble_eq_true rfl) ⟨(Nat.le_of_ble_eq_true rfl), (Nat.le_of_ble_eq_true rfl)⟩ ⟨(Nat.le_of_ble_eq_true rfl), (Nat.le_of_ble_eq_true rfl)⟩ dX12_readsNumbers_125) ?_
    obtain ⟨g_8, hf⟩ := gd_some hf
    refine tt_iast (pc := 128) E kq_3 g_8 dX12_readsNumbers_128 (tt_nmM hf (fun m_7 hf => ?_))
    exact tX12_readsNumbers_129 E hr hlk h0 hf
set_option maxHeartbeats 4000000 in
theorem tX12_readsNumbers_97 {p : Program} {l : Launch} {e : Env} {s : State} {m : MethodId} {args : Array Value} {below : List Frame} {meth : Method} {c : Code} {B : Nat} {D : va_G} {cT : Nat → ClassId} {n : Nat} {adK adV : Nat → Nat} {res : Mem} (E : EE p s m args c cX12_readsNumbers 3 RX12 B D cT (XW B adK adV)) (hr : meth.sig.returnType = none) (hlk : meth.locks = false) {o0 : Nat} {v1 : Int32} {v2 : Int32} (h0 : isK n o0 9) {μ : Mem} (hf : fX12_readsNumbers_97 o0 v1 v2 μ = some res) : TT p l e rmX12_readsNumbers s m args below meth c (QV B D cT n below args s res) 3 B D cT n 0 0 μ 97 [(0, .ref (B + o0)), (1, .int v1), (2, .int v2)] [] := by
  unfold fX12_readsNumbers_97 at hf
  refine tt_iload_n (pc := 97) (i := 2) (j := 2) E dX12_readsNumbers_97 rfl rfl ?_
  refine tt_bipush (pc := 98) (v := 7) E dX12_readsNumbers_98 bc_7 ?_
  refine tt_icmp_ne (pc := 100) (tgt := 113) E dX12_readsNumbers_100 rfl (fun c_9 => ?_) (fun c_9 => ?_)
  · have hf := ine c_9 hf
    exact tX12_readsNumbers_113 E hr hlk h0 hf
  · have hf := ip c_9 hf
    refine tt_aload_n (pc := 103) (i := 0) (j := 0) E dX12_readsNumbers_103 rfl rfl ?_
    obtain ⟨q_1, hq_2, hf⟩ := bd_some hf
    refine tt_getP (pc := 104) (t := 11) E lfX12_57 rfl rfl h0 dX12_readsNumbers_104 hq_2 (fun kq_3 => ?_)
    refine tt_iload_n (pc := 107) (i := 1) (j := 1) E dX12_readsNumbers_107 rfl rfl ?_
    refine tt_aload_n (pc := 108) (i := 0) (j := 0) E dX12_readsNumbers_108 rfl rfl ?_
    obtain ⟨r_4, hr_5, hf⟩ := bd_some hf
    have hc_6 := cX12_kindTold_ok (l := l) (B := B) (D := D) (cT := cT) (n := n) (adK := adK) (adV := adV) h0 hr_5
    refine tt_cI (pc := 109) (tt_vi E lmX12_487 mtX12_kindTold hc_6 h0 rfl rfl (Nat.le_of_ble_eq_true rfl) ⟨(Nat.le_of_ble_eq_true rfl), (Nat.le_of_ble_eq_true rfl)⟩ ⟨(Nat.le_of_ble_eq_true rfl), (Nat.le_of_ble_eq_true rfl)⟩ dX12_readsNumbers_109) ?_
    obtain ⟨g_8, hf⟩ := gd_some hf
    refine tt_iast (pc := 112) E kq_3 g_8 dX12_readsNumbers_112 (tt_nmM hf (fun m_7 hf => ?_))
    exact tX12_readsNumbers_113 E hr hlk h0 hf
set_option maxHeartbeats 4000000 in
theorem tX12_readsNumbers_87 {p : Program} {l : Launch} {e : Env} {s : State} {m : MethodId} {args : Array Value} {below : List Frame} {meth : Method} {c : Code} {B : Nat} {D : va_G} {cT : Nat → ClassId} {n : Nat} {adK adV : Nat → Nat} {res : Mem} (E : EE p s m args c cX12_readsNumbers 3 RX12 B D cT (XW B adK adV)) (hr : meth.sig.returnType = none) (hlk : meth.locks = false) {o0 : Nat} {v1 : Int32} {v2 : Int32} (h0 : isK n o0 9) {μ : Mem} (hf : fX12_readsNumbers_87 o0 v1 v2 μ = some res) : TT p l e rmX12_readsNumbers s m args below meth c (QV B D cT n below args s res) 3 B D cT n 0 0 μ 87 [(0, .ref (B + o0)), (1, .int v1), (2, .int v2)] [] := by
  unfold fX12_readsNumbers_87 at hf
  refine tt_aload_n (pc := 87) (i := 0) (j := 0) E dX12_readsNumbers_87 rfl rfl ?_
  obtain ⟨q_1, hq_2, hf⟩ := bd_some hf
  refine tt_getP (pc := 88) (t := 11) E lfX12_54 rfl rfl h0 dX12_readsNumbers_88 hq_2 (fun kq_3 => ?_)
  refine tt_iload_n (pc := 91) (i := 1) (j := 1) E dX12_readsNumbers_91 rfl rfl ?_
  refine tt_aload_n (pc := 92) (i := 0) (j := 0) E dX12_readsNumbers_92 rfl rfl ?_
  obtain ⟨r_4, hr_5, hf⟩ := bd_some hf
  have hc_6 := cX12_any_ok (l := l) (B := B) (D := D) (cT := cT) (n := n) (adK := adK) (adV := adV) h0 hr_5
  refine tt_cI (pc := 93) (tt_vi E lmX12_481 mtX12_any hc_6 h0 rfl rfl (Nat.le_of_ble_eq_true rfl) ⟨(Nat.le_of_ble_eq_true rfl), (Nat.le_of_ble_eq_true rfl)⟩ ⟨(Nat.le_of_ble_eq_true rfl), (Nat.le_of_ble_eq_true rfl)⟩ dX12_readsNumbers_93) ?_
  obtain ⟨g_8, hf⟩ := gd_some hf
  refine tt_iast (pc := 96) E kq_3 g_8 dX12_readsNumbers_96 (tt_nmM hf (fun m_7 hf => ?_))
  exact tX12_readsNumbers_97 E hr hlk h0 hf
set_option maxHeartbeats 4000000 in
theorem tX12_readsNumbers_61 {p : Program} {l : Launch} {e : Env} {s : State} {m : MethodId} {args : Array Value} {below : List Frame} {meth : Method} {c : Code} {B : Nat} {D : va_G} {cT : Nat → ClassId} {n : Nat} {adK adV : Nat → Nat} {res : Mem} (E : EE p s m args c cX12_readsNumbers 3 RX12 B D cT (XW B adK adV)) (hr : meth.sig.returnType = none) (hlk : meth.locks = false) {o0 : Nat} {v1 : Int32} {v2 : Int32} (h0 : isK n o0 9) {μ : Mem} (hf : fX12_readsNumbers_61 o0 v1 v2 μ = some res) : TT p l e rmX12_readsNumbers s m args below meth c (QV B D cT n below args s res) 3 B D cT n 0 0 μ 61 [(0, .ref (B + o0)), (1, .int v1), (2, .int v2)] [] := by
  unfold fX12_readsNumbers_61 at hf
  refine tt_iload_n (pc := 61) (i := 2) (j := 2) E dX12_readsNumbers_61 rfl rfl ?_
  refine tt_iconst (pc := 62) (v := 1) E dX12_readsNumbers_62 ic_1 ?_
  refine tt_icmp_eq (pc := 63) (tgt := 87) E dX12_readsNumbers_63 rfl (fun c_5 => ?_) (fun c_5 => ?_)
  · have hf := ip c_5 hf
    exact tX12_readsNumbers_87 E hr hlk h0 hf
  · have hf := ine c_5 hf
    refine tt_iload_n (pc := 66) (i := 2) (j := 2) E dX12_readsNumbers_66 rfl rfl ?_
    refine tt_iconst (pc := 67) (v := 2) E dX12_readsNumbers_67 ic_2 ?_
    refine tt_icmp_eq (pc := 68) (tgt := 87) E dX12_readsNumbers_68 rfl (fun c_4 => ?_) (fun c_4 => ?_)
    · have hf := ip c_4 hf
      exact tX12_readsNumbers_87 E hr hlk h0 hf
    · have hf := ine c_4 hf
      refine tt_iload_n (pc := 71) (i := 2) (j := 2) E dX12_readsNumbers_71 rfl rfl ?_
      refine tt_iconst (pc := 72) (v := 4) E dX12_readsNumbers_72 ic_4 ?_
      refine tt_icmp_eq (pc := 73) (tgt := 87) E dX12_readsNumbers_73 rfl (fun c_3 => ?_) (fun c_3 => ?_)
      · have hf := ip c_3 hf
        exact tX12_readsNumbers_87 E hr hlk h0 hf
      · have hf := ine c_3 hf
        refine tt_iload_n (pc := 76) (i := 2) (j := 2) E dX12_readsNumbers_76 rfl rfl ?_
        refine tt_iconst (pc := 77) (v := 5) E dX12_readsNumbers_77 ic_5 ?_
        refine tt_icmp_eq (pc := 78) (tgt := 87) E dX12_readsNumbers_78 rfl (fun c_2 => ?_) (fun c_2 => ?_)
        · have hf := ip c_2 hf
          exact tX12_readsNumbers_87 E hr hlk h0 hf
        · have hf := ine c_2 hf
          refine tt_iload_n (pc := 81) (i := 2) (j := 2) E dX12_readsNumbers_81 rfl rfl ?_
          refine tt_bipush (pc := 82) (v := 7) E dX12_readsNumbers_82 bc_7 ?_
          refine tt_icmp_ne (pc := 84) (tgt := 97) E dX12_readsNumbers_84 rfl (fun c_1 => ?_) (fun c_1 => ?_)
          · have hf := ine c_1 hf
            exact tX12_readsNumbers_97 E hr hlk h0 hf
          · have hf := ip c_1 hf
            exact tX12_readsNumbers_87 E hr hlk h0 hf
set_option maxHeartbeats 4000000 in
theorem tX12_readsNumbers_51 {p : Program} {l : Launch} {e : Env} {s : State} {m : MethodId} {args : Array Value} {below : List Frame} {meth : Method} {c : Code} {B : Nat} {D : va_G} {cT : Nat → ClassId} {n : Nat} {adK adV : Nat → Nat} {res : Mem} (E : EE p s m args c cX12_readsNumbers 3 RX12 B D cT (XW B adK adV)) (hr : meth.sig.returnType = none) (hlk : meth.locks = false) {o0 : Nat} {v1 : Int32} {v2 : Int32} (h0 : isK n o0 9) {μ : Mem} (hf : fX12_readsNumbers_51 o0 v1 v2 μ = some res) : TT p l e rmX12_readsNumbers s m args below meth c (QV B D cT n below args s res) 3 B D cT n 0 0 μ 51 [(0, .ref (B + o0)), (1, .int v1), (2, .int v2)] [] := by
  unfold fX12_readsNumbers_51 at hf
  refine tt_aload_n (pc := 51) (i := 0) (j := 0) E dX12_readsNumbers_51 rfl rfl ?_
  obtain ⟨q_1, hq_2, hf⟩ := bd_some hf
  refine tt_getP (pc := 52) (t := 11) E lfX12_51 rfl rfl h0 dX12_readsNumbers_52 hq_2 (fun kq_3 => ?_)
  refine tt_iload_n (pc := 55) (i := 1) (j := 1) E dX12_readsNumbers_55 rfl rfl ?_
  refine tt_aload_n (pc := 56) (i := 0) (j := 0) E dX12_readsNumbers_56 rfl rfl ?_
  obtain ⟨r_4, hr_5, hf⟩ := bd_some hf
  have hc_6 := cX12_told_ok (l := l) (B := B) (D := D) (cT := cT) (n := n) (adK := adK) (adV := adV) h0 hr_5
  refine tt_cI (pc := 57) (tt_vi E lmX12_484 mtX12_told hc_6 h0 rfl rfl (Nat.le_of_ble_eq_true rfl) ⟨(Nat.le_of_ble_eq_true rfl), (Nat.le_of_ble_eq_true rfl)⟩ ⟨(Nat.le_of_ble_eq_true rfl), (Nat.le_of_ble_eq_true rfl)⟩ dX12_readsNumbers_57) ?_
  obtain ⟨g_8, hf⟩ := gd_some hf
  refine tt_iast (pc := 60) E kq_3 g_8 dX12_readsNumbers_60 (tt_nmM hf (fun m_7 hf => ?_))
  exact tX12_readsNumbers_61 E hr hlk h0 hf
set_option maxHeartbeats 4000000 in
theorem tX12_readsNumbers_20 {p : Program} {l : Launch} {e : Env} {s : State} {m : MethodId} {args : Array Value} {below : List Frame} {meth : Method} {c : Code} {B : Nat} {D : va_G} {cT : Nat → ClassId} {n : Nat} {adK adV : Nat → Nat} {res : Mem} (E : EE p s m args c cX12_readsNumbers 3 RX12 B D cT (XW B adK adV)) (hr : meth.sig.returnType = none) (hlk : meth.locks = false) {o0 : Nat} {v1 : Int32} {v2 : Int32} (h0 : isK n o0 9) {μ : Mem} (hf : fX12_readsNumbers_20 o0 v1 v2 μ = some res) : TT p l e rmX12_readsNumbers s m args below meth c (QV B D cT n below args s res) 3 B D cT n 0 0 μ 20 [(0, .ref (B + o0)), (1, .int v1), (2, .int v2)] [] := by
  unfold fX12_readsNumbers_20 at hf
  refine tt_iload_n (pc := 20) (i := 2) (j := 2) E dX12_readsNumbers_20 rfl rfl ?_
  refine tt_iconst (pc := 21) (v := 1) E dX12_readsNumbers_21 ic_1 ?_
  refine tt_icmp_eq (pc := 22) (tgt := 51) E dX12_readsNumbers_22 rfl (fun c_6 => ?_) (fun c_6 => ?_)
  · have hf := ip c_6 hf
    exact tX12_readsNumbers_51 E hr hlk h0 hf
  · have hf := ine c_6 hf
    refine tt_iload_n (pc := 25) (i := 2) (j := 2) E dX12_readsNumbers_25 rfl rfl ?_
    refine tt_iconst (pc := 26) (v := 2) E dX12_readsNumbers_26 ic_2 ?_
    refine tt_icmp_eq (pc := 27) (tgt := 51) E dX12_readsNumbers_27 rfl (fun c_5 => ?_) (fun c_5 => ?_)
    · have hf := ip c_5 hf
      exact tX12_readsNumbers_51 E hr hlk h0 hf
    · have hf := ine c_5 hf
      refine tt_iload_n (pc := 30) (i := 2) (j := 2) E dX12_readsNumbers_30 rfl rfl ?_
      refine tt_iconst (pc := 31) (v := 3) E dX12_readsNumbers_31 ic_3 ?_
      refine tt_icmp_eq (pc := 32) (tgt := 51) E dX12_readsNumbers_32 rfl (fun c_4 => ?_) (fun c_4 => ?_)
      · have hf := ip c_4 hf
        exact tX12_readsNumbers_51 E hr hlk h0 hf
      · have hf := ine c_4 hf
        refine tt_iload_n (pc := 35) (i := 2) (j := 2) E dX12_readsNumbers_35 rfl rfl ?_
        refine tt_iconst (pc := 36) (v := 4) E dX12_readsNumbers_36 ic_4 ?_
        refine tt_icmp_eq (pc := 37) (tgt := 51) E dX12_readsNumbers_37 rfl (fun c_3 => ?_) (fun c_3 => ?_)
        · have hf := ip c_3 hf
          exact tX12_readsNumbers_51 E hr hlk h0 hf
        · have hf := ine c_3 hf
          refine tt_iload_n (pc := 40) (i := 2) (j := 2) E dX12_readsNumbers_40 rfl rfl ?_
          refine tt_iconst (pc := 41) (v := 5) E dX12_readsNumbers_41 ic_5 ?_
          refine tt_icmp_eq (pc := 42) (tgt := 51) E dX12_readsNumbers_42 rfl (fun c_2 => ?_) (fun c_2 => ?_)
          · have hf := ip c_2 hf
            exact tX12_readsNumbers_51 E hr hlk h0 hf
          · have hf := ine c_2 hf
            refine tt_iload_n (pc := 45) (i := 2) (j := 2) E dX12_readsNumbers_45 rfl rfl ?_
            refine tt_bipush (pc := 46) (v := 7) E dX12_readsNumbers_46 bc_7 ?_
            refine tt_icmp_ne (pc := 48) (tgt := 61) E dX12_readsNumbers_48 rfl (fun c_1 => ?_) (fun c_1 => ?_)
            · have hf := ine c_1 hf
              exact tX12_readsNumbers_61 E hr hlk h0 hf
            · have hf := ip c_1 hf
              exact tX12_readsNumbers_51 E hr hlk h0 hf
set_option maxHeartbeats 4000000 in
theorem tX12_readsNumbers_10 {p : Program} {l : Launch} {e : Env} {s : State} {m : MethodId} {args : Array Value} {below : List Frame} {meth : Method} {c : Code} {B : Nat} {D : va_G} {cT : Nat → ClassId} {n : Nat} {adK adV : Nat → Nat} {res : Mem} (E : EE p s m args c cX12_readsNumbers 3 RX12 B D cT (XW B adK adV)) (hr : meth.sig.returnType = none) (hlk : meth.locks = false) {o0 : Nat} {v1 : Int32} {v2 : Int32} (h0 : isK n o0 9) {μ : Mem} (hf : fX12_readsNumbers_10 o0 v1 v2 μ = some res) : TT p l e rmX12_readsNumbers s m args below meth c (QV B D cT n below args s res) 3 B D cT n 0 0 μ 10 [(0, .ref (B + o0)), (1, .int v1), (2, .int v2)] [] := by
  unfold fX12_readsNumbers_10 at hf
  refine tt_aload_n (pc := 10) (i := 0) (j := 0) E dX12_readsNumbers_10 rfl rfl ?_
  obtain ⟨q_1, hq_2, hf⟩ := bd_some hf
  refine tt_getP (pc := 11) (t := 11) E lfX12_51 rfl rfl h0 dX12_readsNumbers_11 hq_2 (fun kq_3 => ?_)
  refine tt_iload_n (pc := 14) (i := 1) (j := 1) E dX12_readsNumbers_14 rfl rfl ?_
  refine tt_aload_n (pc := 15) (i := 0) (j := 0) E dX12_readsNumbers_15 rfl rfl ?_
  obtain ⟨r_4, hr_5, hf⟩ := bd_some hf
  have hc_6 := cX12_any_ok (l := l) (B := B) (D := D) (cT := cT) (n := n) (adK := adK) (adV := adV) h0 hr_5
  refine tt_cI (pc := 16) (tt_vi E lmX12_481 mtX12_any hc_6 h0 rfl rfl (Nat.le_of_ble_eq_true rfl) ⟨(Nat.le_of_ble_eq_true rfl), (Nat.le_of_ble_eq_true rfl)⟩ ⟨(Nat.le_of_ble_eq_true rfl), (Nat.le_of_ble_eq_true rfl)⟩ dX12_readsNumbers_16) ?_
  obtain ⟨g_8, hf⟩ := gd_some hf
  refine tt_iast (pc := 19) E kq_3 g_8 dX12_readsNumbers_19 (tt_nmM hf (fun m_7 hf => ?_))
  exact tX12_readsNumbers_20 E hr hlk h0 hf
set_option maxHeartbeats 4000000 in
theorem cX12_readsNumbers_ok {l : Launch} {B : Nat} {D : va_G} {cT : Nat → ClassId} {n : Nat} {adK adV : Nat → Nat} {o0 : Nat} {v1 : Int32} {v2 : Int32} {μ : Mem} {res : Mem} (h0 : isK n o0 9) (hf : fX12_readsNumbers o0 v1 v2 μ = some res) : MV l yX12_readsNumbers cX12_readsNumbers 3 (none) rmX12_readsNumbers B D cT (XW B adK adV) n [.ref (B + o0), .int v1, .int v2] μ res := by
  refine tt_ofW mtX12_readsNumbers.1 (Nat.le_of_ble_eq_true rfl) rfl ?_
  intro p e s m below meth c E0 hr hlk
  have E : EE p s m _ c cX12_readsNumbers 3 RX12 B D cT (XW B adK adV) := E0
  unfold fX12_readsNumbers at hf
  refine tt_iload_n (pc := 0) (i := 2) (j := 2) E dX12_readsNumbers_0 rfl rfl ?_
  refine tt_if_eq (pc := 1) (tgt := 10) E dX12_readsNumbers_1 rfl (fun c_2 => ?_) (fun c_2 => ?_)
  · have hf := ip c_2 hf
    exact tX12_readsNumbers_10 E hr hlk h0 hf
  · have hf := ine c_2 hf
    refine tt_iload_n (pc := 4) (i := 2) (j := 2) E dX12_readsNumbers_4 rfl rfl ?_
    refine tt_bipush (pc := 5) (v := 6) E dX12_readsNumbers_5 bc_6 ?_
    refine tt_icmp_ne (pc := 7) (tgt := 20) E dX12_readsNumbers_7 rfl (fun c_1 => ?_) (fun c_1 => ?_)
    · have hf := ine c_1 hf
      exact tX12_readsNumbers_20 E hr hlk h0 hf
    · have hf := ip c_1 hf
      exact tX12_readsNumbers_10 E hr hlk h0 hf
set_option maxHeartbeats 4000000 in
theorem tX12_command_48 {p : Program} {l : Launch} {e : Env} {s : State} {m : MethodId} {args : Array Value} {below : List Frame} {meth : Method} {c : Code} {B : Nat} {D : va_G} {cT : Nat → ClassId} {n : Nat} {adK adV : Nat → Nat} {res : Mem} (E : EE p s m args c cX12_command 3 RX12 B D cT (XW B adK adV)) (hr : meth.sig.returnType = none) (hlk : meth.locks = false) {o0 : Nat} {v1 : Int32} (h0 : isK n o0 9) {μ : Mem} (hf : fX12_command_48 o0 v1 μ = some res) : TT p l e rmX12_command s m args below meth c (QV B D cT n below args s res) 3 B D cT n 0 0 μ 48 [(0, .ref (B + o0)), (1, .int v1)] [] := by
  unfold fX12_command_48 at hf
  refine tt_aload_n (pc := 48) (i := 0) (j := 0) E dX12_command_48 rfl rfl ?_
  obtain ⟨r_1, hr_2, hf⟩ := bd_some hf
  have hc_3 := cX12_isGood_ok (l := l) (B := B) (D := D) (cT := cT) (n := n) (adK := adK) (adV := adV) h0 hr_2
  refine tt_cZ (pc := 49) (tt_vi E lmX12_129 mtX12_isGood hc_3 h0 rfl rfl (Nat.le_of_ble_eq_true rfl) ⟨(Nat.le_of_ble_eq_true rfl), (Nat.le_of_ble_eq_true rfl)⟩ ⟨(Nat.le_of_ble_eq_true rfl), (Nat.le_of_ble_eq_true rfl)⟩ dX12_command_49) (fun z_4 => ?_)
  refine tt_if_ne (pc := 52) (tgt := 56) E dX12_command_52 rfl (fun c_33 => ?_) (fun c_33 => ?_)
  · have hf := ine c_33 hf
    refine tt_aload_n (pc := 56) (i := 0) (j := 0) E dX12_command_56 rfl rfl ?_
    refine tt_dup (pc := 57) E dX12_command_57 rfl ?_
    refine tt_getI (pc := 58) E lfX12_496 rfl h0 dX12_command_58 ?_
    refine tt_iconst (pc := 61) (v := 1) E dX12_command_61 ic_1 ?_
    refine tt_iadd (pc := 62) E dX12_command_62 ?_
    refine tt_putI (pc := 63) E lfX12_496 rfl h0 dX12_command_63 (tt_nmM hf (fun m_5 hf => ?_))
    refine tt_aload_n (pc := 66) (i := 0) (j := 0) E dX12_command_66 rfl rfl ?_
    obtain ⟨r_6, hr_7, hf⟩ := bd_some hf
    have hc_8 := cX12_goOn_ok (l := l) (B := B) (D := D) (cT := cT) (n := n) (adK := adK) (adV := adV) h0 hr_7
    refine tt_cV (pc := 67) (tt_vi E lmX12_139 mtX12_goOn hc_8 h0 rfl rfl (Nat.le_of_ble_eq_true rfl) ⟨(Nat.le_of_ble_eq_true rfl), (Nat.le_of_ble_eq_true rfl)⟩ ⟨(Nat.le_of_ble_eq_true rfl), (Nat.le_of_ble_eq_true rfl)⟩ dX12_command_67) ?_
    refine tt_aload_n (pc := 70) (i := 0) (j := 0) E dX12_command_70 rfl rfl ?_
    refine tt_getI (pc := 71) E lfX12_499 rfl h0 dX12_command_71 ?_
    refine tt_nmI hf (fun v_9 hf => ?_)
    refine tt_istore_n (pc := 74) (i := 2) (lv' := [(2, .int v_9), (0, .ref (B + o0)), (1, .int v1)]) E dX12_command_74 rfl (Nat.le_of_ble_eq_true rfl) rfl ?_
    refine tt_aload_n (pc := 75) (i := 0) (j := 1) E dX12_command_75 rfl rfl ?_
    obtain ⟨q_10, hq_11, hf⟩ := bd_some hf
    refine tt_getP (pc := 76) (t := 11) E lfX12_48 rfl rfl h0 dX12_command_76 hq_11 (fun kq_12 => ?_)
    refine tt_iload_n (pc := 79) (i := 2) (j := 0) E dX12_command_79 rfl rfl ?_
    refine tt_iload_n (pc := 80) (i := 1) (j := 2) E dX12_command_80 rfl rfl ?_
    obtain ⟨g_14, hf⟩ := gd_some hf
    refine tt_iast (pc := 81) E kq_12 g_14 dX12_command_81 (tt_nmM hf (fun m_13 hf => ?_))
    refine tt_aload_n (pc := 82) (i := 0) (j := 1) E dX12_command_82 rfl rfl ?_
    refine tt_iload_n (pc := 83) (i := 2) (j := 0) E dX12_command_83 rfl rfl ?_
    refine tt_iload_n (pc := 84) (i := 1) (j := 2) E dX12_command_84 rfl rfl ?_
    obtain ⟨r_15, hr_16, hf⟩ := bd_some hf
    have hc_17 := cX12_readsNumbers_ok (l := l) (B := B) (D := D) (cT := cT) (n := n) (adK := adK) (adV := adV) h0 hr_16
    refine tt_cV (pc := 85) (tt_vi E lmX12_502 mtX12_readsNumbers hc_17 h0 rfl rfl (Nat.le_of_ble_eq_true rfl) ⟨(Nat.le_of_ble_eq_true rfl), (Nat.le_of_ble_eq_true rfl)⟩ ⟨(Nat.le_of_ble_eq_true rfl), (Nat.le_of_ble_eq_true rfl)⟩ dX12_command_85) ?_
    refine tt_aload_n (pc := 88) (i := 0) (j := 1) E dX12_command_88 rfl rfl ?_
    obtain ⟨r_18, hr_19, hf⟩ := bd_some hf
    have hc_20 := cX12_isGood_ok (l := l) (B := B) (D := D) (cT := cT) (n := n) (adK := adK) (adV := adV) h0 hr_19
    refine tt_cZ (pc := 89) (tt_vi E lmX12_129 mtX12_isGood hc_20 h0 rfl rfl (Nat.le_of_ble_eq_true rfl) ⟨(Nat.le_of_ble_eq_true rfl), (Nat.le_of_ble_eq_true rfl)⟩ ⟨(Nat.le_of_ble_eq_true rfl), (Nat.le_of_ble_eq_true rfl)⟩ dX12_command_89) (fun z_21 => ?_)
    refine tt_if_ne (pc := 92) (tgt := 96) E dX12_command_92 rfl (fun c_32 => ?_) (fun c_32 => ?_)
    · have hf := ine c_32 hf
      refine tt_aload_n (pc := 96) (i := 0) (j := 1) E dX12_command_96 rfl rfl ?_
      refine tt_dup (pc := 97) E dX12_command_97 rfl ?_
      refine tt_getI (pc := 98) E lfX12_499 rfl h0 dX12_command_98 ?_
      refine tt_iconst (pc := 101) (v := 1) E dX12_command_101 ic_1 ?_
      refine tt_iadd (pc := 102) E dX12_command_102 ?_
      refine tt_putI (pc := 103) E lfX12_499 rfl h0 dX12_command_103 (tt_nmM hf (fun m_22 hf => ?_))
      refine tt_aload_n (pc := 106) (i := 0) (j := 1) E dX12_command_106 rfl rfl ?_
      refine tt_dup (pc := 107) E dX12_command_107 rfl ?_
      refine tt_getI (pc := 108) E lfX12_493 rfl h0 dX12_command_108 ?_
      refine tt_iload_n (pc := 111) (i := 1) (j := 2) E dX12_command_111 rfl rfl ?_
      refine tt_bipush (pc := 112) (v := 8) E dX12_command_112 bc_8 ?_
      refine tt_icmp_ne (pc := 114) (tgt := 121) E dX12_command_114 rfl (fun c_31 => ?_) (fun c_31 => ?_)
      · have hf := ine c_31 hf
        refine tt_iconst (pc := 121) (v := 0) E dX12_command_121 ic_0 ?_
        obtain ⟨r_23, hr_24, hf⟩ := bd_some hf
        have hc_25 := cX12_truth_ok (l := l) (B := B) (D := D) (cT := cT) (n := n) (adK := adK) (adV := adV) ((Or.inl rfl)) hr_24
        refine tt_cI (pc := 122) (tt_si E lmX12_78 mtX12_truth hc_25 rfl rfl (Nat.le_of_ble_eq_true rfl) ⟨(Nat.le_of_ble_eq_true rfl), (Nat.le_of_ble_eq_true rfl)⟩ ⟨(Nat.le_of_ble_eq_true rfl), (Nat.le_of_ble_eq_true rfl)⟩ dX12_command_122) ?_
        refine tt_iadd (pc := 125) E dX12_command_125 ?_
        refine tt_putI (pc := 126) E lfX12_493 rfl h0 dX12_command_126 (tt_nmM hf (fun m_26 hf => ?_))
        exact tt_vret (pc := 129) E hr hlk dX12_command_129 (Nat.le_of_ble_eq_true rfl) (Nat.le_of_ble_eq_true rfl) hf
      · have hf := ip c_31 hf
        refine tt_iconst (pc := 117) (v := 1) E dX12_command_117 ic_1 ?_
        refine tt_goto (pc := 118) (tgt := 122) E dX12_command_118 rfl ?_
        obtain ⟨r_27, hr_28, hf⟩ := bd_some hf
        have hc_29 := cX12_truth_ok (l := l) (B := B) (D := D) (cT := cT) (n := n) (adK := adK) (adV := adV) ((Or.inr rfl)) hr_28
        refine tt_cI (pc := 122) (tt_si E lmX12_78 mtX12_truth hc_29 rfl rfl (Nat.le_of_ble_eq_true rfl) ⟨(Nat.le_of_ble_eq_true rfl), (Nat.le_of_ble_eq_true rfl)⟩ ⟨(Nat.le_of_ble_eq_true rfl), (Nat.le_of_ble_eq_true rfl)⟩ dX12_command_122) ?_
        refine tt_iadd (pc := 125) E dX12_command_125 ?_
        refine tt_putI (pc := 126) E lfX12_493 rfl h0 dX12_command_126 (tt_nmM hf (fun m_30 hf => ?_))
        exact tt_vret (pc := 129) E hr hlk dX12_command_129 (Nat.le_of_ble_eq_true rfl) (Nat.le_of_ble_eq_true rfl) hf
    · have hf := ip c_32 hf
      exact tt_vret (pc := 95) E hr hlk dX12_command_95 (Nat.le_of_ble_eq_true rfl) (Nat.le_of_ble_eq_true rfl) hf
  · have hf := ip c_33 hf
    exact tt_vret (pc := 55) E hr hlk dX12_command_55 (Nat.le_of_ble_eq_true rfl) (Nat.le_of_ble_eq_true rfl) hf
set_option maxHeartbeats 4000000 in
theorem tX12_command_34 {p : Program} {l : Launch} {e : Env} {s : State} {m : MethodId} {args : Array Value} {below : List Frame} {meth : Method} {c : Code} {B : Nat} {D : va_G} {cT : Nat → ClassId} {n : Nat} {adK adV : Nat → Nat} {res : Mem} (E : EE p s m args c cX12_command 3 RX12 B D cT (XW B adK adV)) (hr : meth.sig.returnType = none) (hlk : meth.locks = false) {o0 : Nat} {v1 : Int32} (h0 : isK n o0 9) {μ : Mem} (hf : fX12_command_34 o0 v1 μ = some res) : TT p l e rmX12_command s m args below meth c (QV B D cT n below args s res) 3 B D cT n 0 0 μ 34 [(0, .ref (B + o0)), (1, .int v1)] [] := by
  unfold fX12_command_34 at hf
  refine tt_aload_n (pc := 34) (i := 0) (j := 0) E dX12_command_34 rfl rfl ?_
  refine tt_getI (pc := 35) E lfX12_496 rfl h0 dX12_command_35 ?_
  refine tt_bipush (pc := 38) (v := 30) E dX12_command_38 bc_30 ?_
  refine tt_icmp_ne (pc := 40) (tgt := 48) E dX12_command_40 rfl (fun c_4 => ?_) (fun c_4 => ?_)
  · have hf := ine c_4 hf
    exact tX12_command_48 E hr hlk h0 hf
  · have hf := ip c_4 hf
    refine tt_aload_n (pc := 43) (i := 0) (j := 0) E dX12_command_43 rfl rfl ?_
    refine tt_iconst (pc := 44) (v := 5) E dX12_command_44 ic_5 ?_
    obtain ⟨r_1, hr_2, hf⟩ := bd_some hf
    have hc_3 := cX12_wrong_ok (l := l) (B := B) (D := D) (cT := cT) (n := n) (adK := adK) (adV := adV) h0 hr_2
    refine tt_cV (pc := 45) (tt_vi E lmX12_136 mtX12_wrong hc_3 h0 rfl rfl (Nat.le_of_ble_eq_true rfl) ⟨(Nat.le_of_ble_eq_true rfl), (Nat.le_of_ble_eq_true rfl)⟩ ⟨(Nat.le_of_ble_eq_true rfl), (Nat.le_of_ble_eq_true rfl)⟩ dX12_command_45) ?_
    exact tX12_command_48 E hr hlk h0 hf
set_option maxHeartbeats 4000000 in
theorem tX12_command_15 {p : Program} {l : Launch} {e : Env} {s : State} {m : MethodId} {args : Array Value} {below : List Frame} {meth : Method} {c : Code} {B : Nat} {D : va_G} {cT : Nat → ClassId} {n : Nat} {adK adV : Nat → Nat} {res : Mem} (E : EE p s m args c cX12_command 3 RX12 B D cT (XW B adK adV)) (hr : meth.sig.returnType = none) (hlk : meth.locks = false) {o0 : Nat} {v1 : Int32} (h0 : isK n o0 9) {μ : Mem} (hf : fX12_command_15 o0 v1 μ = some res) : TT p l e rmX12_command s m args below meth c (QV B D cT n below args s res) 3 B D cT n 0 0 μ 15 [(0, .ref (B + o0)), (1, .int v1)] [] := by
  unfold fX12_command_15 at hf
  refine tt_iload_n (pc := 15) (i := 1) (j := 1) E dX12_command_15 rfl rfl ?_
  refine tt_bipush (pc := 16) (v := 8) E dX12_command_16 bc_8 ?_
  refine tt_icmp_ne (pc := 18) (tgt := 34) E dX12_command_18 rfl (fun c_5 => ?_) (fun c_5 => ?_)
  · have hf := ine c_5 hf
    exact tX12_command_34 E hr hlk h0 hf
  · have hf := ip c_5 hf
    refine tt_aload_n (pc := 21) (i := 0) (j := 0) E dX12_command_21 rfl rfl ?_
    refine tt_getI (pc := 22) E lfX12_493 rfl h0 dX12_command_22 ?_
    refine tt_iconst (pc := 25) (v := 2) E dX12_command_25 ic_2 ?_
    refine tt_icmp_ne (pc := 26) (tgt := 34) E dX12_command_26 rfl (fun c_4 => ?_) (fun c_4 => ?_)
    · have hf := ine c_4 hf
      exact tX12_command_34 E hr hlk h0 hf
    · have hf := ip c_4 hf
      refine tt_aload_n (pc := 29) (i := 0) (j := 0) E dX12_command_29 rfl rfl ?_
      refine tt_iconst (pc := 30) (v := 3) E dX12_command_30 ic_3 ?_
      obtain ⟨r_1, hr_2, hf⟩ := bd_some hf
      have hc_3 := cX12_wrong_ok (l := l) (B := B) (D := D) (cT := cT) (n := n) (adK := adK) (adV := adV) h0 hr_2
      refine tt_cV (pc := 31) (tt_vi E lmX12_136 mtX12_wrong hc_3 h0 rfl rfl (Nat.le_of_ble_eq_true rfl) ⟨(Nat.le_of_ble_eq_true rfl), (Nat.le_of_ble_eq_true rfl)⟩ ⟨(Nat.le_of_ble_eq_true rfl), (Nat.le_of_ble_eq_true rfl)⟩ dX12_command_31) ?_
      exact tX12_command_34 E hr hlk h0 hf
set_option maxHeartbeats 4000000 in
theorem cX12_command_ok {l : Launch} {B : Nat} {D : va_G} {cT : Nat → ClassId} {n : Nat} {adK adV : Nat → Nat} {o0 : Nat} {μ : Mem} {res : Mem} (h0 : isK n o0 9) (hf : fX12_command o0 μ = some res) : MV l yX12_command cX12_command 3 (none) rmX12_command B D cT (XW B adK adV) n [.ref (B + o0)] μ res := by
  refine tt_ofW mtX12_command.1 (Nat.le_of_ble_eq_true rfl) rfl ?_
  intro p e s m below meth c E0 hr hlk
  have E : EE p s m _ c cX12_command 3 RX12 B D cT (XW B adK adV) := E0
  unfold fX12_command at hf
  refine tt_aload_n (pc := 0) (i := 0) (j := 0) E dX12_command_0 rfl rfl ?_
  obtain ⟨r_1, hr_2, hf⟩ := bd_some hf
  have hc_3 := cX12_commandHere_ok (l := l) (B := B) (D := D) (cT := cT) (n := n) (adK := adK) (adV := adV) h0 hr_2
  refine tt_cI (pc := 1) (tt_vi E lmX12_490 mtX12_commandHere hc_3 h0 rfl rfl (Nat.le_of_ble_eq_true rfl) ⟨(Nat.le_of_ble_eq_true rfl), (Nat.le_of_ble_eq_true rfl)⟩ ⟨(Nat.le_of_ble_eq_true rfl), (Nat.le_of_ble_eq_true rfl)⟩ dX12_command_1) ?_
  refine tt_istore_n (pc := 4) (i := 1) (lv' := [(1, .int r_1), (0, .ref (B + o0))]) E dX12_command_4 rfl (Nat.le_of_ble_eq_true rfl) rfl ?_
  refine tt_iload_n (pc := 5) (i := 1) (j := 0) E dX12_command_5 rfl rfl ?_
  refine tt_iconst (pc := 6) (v := (-1)) E dX12_command_6 ic_m1 ?_
  refine tt_icmp_ne (pc := 7) (tgt := 15) E dX12_command_7 rfl (fun c_7 => ?_) (fun c_7 => ?_)
  · have hf := ine c_7 hf
    refine tt_sub [1, 0] (lv' := [(0, .ref (B + o0)), (1, .int r_1)]) rfl ?_
    exact tX12_command_15 E hr hlk h0 hf
  · have hf := ip c_7 hf
    refine tt_aload_n (pc := 10) (i := 0) (j := 1) E dX12_command_10 rfl rfl ?_
    refine tt_iconst (pc := 11) (v := 1) E dX12_command_11 ic_1 ?_
    obtain ⟨r_4, hr_5, hf⟩ := bd_some hf
    have hc_6 := cX12_wrong_ok (l := l) (B := B) (D := D) (cT := cT) (n := n) (adK := adK) (adV := adV) h0 hr_5
    refine tt_cV (pc := 12) (tt_vi E lmX12_136 mtX12_wrong hc_6 h0 rfl rfl (Nat.le_of_ble_eq_true rfl) ⟨(Nat.le_of_ble_eq_true rfl), (Nat.le_of_ble_eq_true rfl)⟩ ⟨(Nat.le_of_ble_eq_true rfl), (Nat.le_of_ble_eq_true rfl)⟩ dX12_command_12) ?_
    refine tt_sub [1, 0] (lv' := [(0, .ref (B + o0)), (1, .int r_1)]) rfl ?_
    exact tX12_command_15 E hr hlk h0 hf
set_option maxHeartbeats 4000000 in
theorem tX12_closes_0 {p : Program} {l : Launch} {e : Env} {s : State} {m : MethodId} {args : Array Value} {below : List Frame} {meth : Method} {c : Code} {B : Nat} {D : va_G} {cT : Nat → ClassId} {n : Nat} {adK adV : Nat → Nat} {res : Mem} (E : EE p s m args c cX12_closes 1 RX12 B D cT (XW B adK adV)) (hr : meth.sig.returnType = none) (hlk : meth.locks = false) {o0 : Nat} (h0 : isK n o0 9) : ∀ (fu : Nat) (μ : Mem), zl1 (gX12_closes_0 o0) fu μ = some res → TT p l e rmX12_closes s m args below meth c (QV B D cT n below args s res) 1 B D cT n 0 0 μ 0 [(0, .ref (B + o0))] [] := by
  intro fu
  induction fu with
  | zero => intro μ hf; exact absurd hf (fun h => by cases h)
  | succ fu ih =>
    intro μ hf
    have hf : gX12_closes_0 o0 (zl1 (gX12_closes_0 o0) fu) μ = some res := hf
    unfold gX12_closes_0 at hf
    refine tt_aload_n (pc := 0) (i := 0) (j := 0) E dX12_closes_0 rfl rfl ?_
    refine tt_getI (pc := 1) E lfX12_493 rfl h0 dX12_closes_1 ?_
    refine tt_if_le (pc := 4) (tgt := 60) E dX12_closes_4 rfl (fun c_19 => ?_) (fun c_19 => ?_)
    · have hf := ip c_19 hf
      exact tt_vret (pc := 60) E hr hlk dX12_closes_60 (Nat.le_of_ble_eq_true rfl) (Nat.le_of_ble_eq_true rfl) hf
    · have hf := ine c_19 hf
      refine tt_aload_n (pc := 7) (i := 0) (j := 0) E dX12_closes_7 rfl rfl ?_
      refine tt_bipush (pc := 8) (v := 41) E dX12_closes_8 bc_41 ?_
      obtain ⟨r_1, hr_2, hf⟩ := bd_some hf
      have hc_3 := cX12_isSign_ok (l := l) (B := B) (D := D) (cT := cT) (n := n) (adK := adK) (adV := adV) h0 hr_2
      refine tt_cZ (pc := 10) (tt_vi E lmX12_133 mtX12_isSign hc_3 h0 rfl rfl (Nat.le_of_ble_eq_true rfl) ⟨(Nat.le_of_ble_eq_true rfl), (Nat.le_of_ble_eq_true rfl)⟩ ⟨(Nat.le_of_ble_eq_true rfl), (Nat.le_of_ble_eq_true rfl)⟩ dX12_closes_10) (fun z_4 => ?_)
      refine tt_if_eq (pc := 13) (tgt := 60) E dX12_closes_13 rfl (fun c_18 => ?_) (fun c_18 => ?_)
      · have hf := ip c_18 hf
        exact tt_vret (pc := 60) E hr hlk dX12_closes_60 (Nat.le_of_ble_eq_true rfl) (Nat.le_of_ble_eq_true rfl) hf
      · have hf := ine c_18 hf
        refine tt_aload_n (pc := 16) (i := 0) (j := 0) E dX12_closes_16 rfl rfl ?_
        refine tt_dup (pc := 17) E dX12_closes_17 rfl ?_
        refine tt_getI (pc := 18) E lfX12_493 rfl h0 dX12_closes_18 ?_
        refine tt_iconst (pc := 21) (v := 1) E dX12_closes_21 ic_1 ?_
        refine tt_isub (pc := 22) E dX12_closes_22 ?_
        refine tt_putI (pc := 23) E lfX12_493 rfl h0 dX12_closes_23 (tt_nmM hf (fun m_5 hf => ?_))
        refine tt_aload_n (pc := 26) (i := 0) (j := 0) E dX12_closes_26 rfl rfl ?_
        obtain ⟨q_6, hq_7, hf⟩ := bd_some hf
        refine tt_getP (pc := 27) (t := 11) E lfX12_48 rfl rfl h0 dX12_closes_27 hq_7 (fun kq_8 => ?_)
        refine tt_aload_n (pc := 30) (i := 0) (j := 0) E dX12_closes_30 rfl rfl ?_
        refine tt_getI (pc := 31) E lfX12_499 rfl h0 dX12_closes_31 ?_
        refine tt_bipush (pc := 34) (v := 9) E dX12_closes_34 bc_9 ?_
        obtain ⟨g_10, hf⟩ := gd_some hf
        refine tt_iast (pc := 36) E kq_8 g_10 dX12_closes_36 (tt_nmM hf (fun m_9 hf => ?_))
        refine tt_aload_n (pc := 37) (i := 0) (j := 0) E dX12_closes_37 rfl rfl ?_
        refine tt_dup (pc := 38) E dX12_closes_38 rfl ?_
        refine tt_getI (pc := 39) E lfX12_499 rfl h0 dX12_closes_39 ?_
        refine tt_iconst (pc := 42) (v := 1) E dX12_closes_42 ic_1 ?_
        refine tt_iadd (pc := 43) E dX12_closes_43 ?_
        refine tt_putI (pc := 44) E lfX12_499 rfl h0 dX12_closes_44 (tt_nmM hf (fun m_11 hf => ?_))
        refine tt_aload_n (pc := 47) (i := 0) (j := 0) E dX12_closes_47 rfl rfl ?_
        obtain ⟨r_12, hr_13, hf⟩ := bd_some hf
        have hc_14 := cX12_goOn_ok (l := l) (B := B) (D := D) (cT := cT) (n := n) (adK := adK) (adV := adV) h0 hr_13
        refine tt_cV (pc := 48) (tt_vi E lmX12_139 mtX12_goOn hc_14 h0 rfl rfl (Nat.le_of_ble_eq_true rfl) ⟨(Nat.le_of_ble_eq_true rfl), (Nat.le_of_ble_eq_true rfl)⟩ ⟨(Nat.le_of_ble_eq_true rfl), (Nat.le_of_ble_eq_true rfl)⟩ dX12_closes_48) ?_
        refine tt_aload_n (pc := 51) (i := 0) (j := 0) E dX12_closes_51 rfl rfl ?_
        refine tt_bipush (pc := 52) (v := 59) E dX12_closes_52 bc_59 ?_
        obtain ⟨r_15, hr_16, hf⟩ := bd_some hf
        have hc_17 := cX12_mustSign_ok (l := l) (B := B) (D := D) (cT := cT) (n := n) (adK := adK) (adV := adV) h0 hr_16
        refine tt_cV (pc := 54) (tt_vi E lmX12_248 mtX12_mustSign hc_17 h0 rfl rfl (Nat.le_of_ble_eq_true rfl) ⟨(Nat.le_of_ble_eq_true rfl), (Nat.le_of_ble_eq_true rfl)⟩ ⟨(Nat.le_of_ble_eq_true rfl), (Nat.le_of_ble_eq_true rfl)⟩ dX12_closes_54) ?_
        refine tt_goto (pc := 57) (tgt := 0) E dX12_closes_57 rfl ?_
        exact ih r_15 hf
set_option maxHeartbeats 4000000 in
theorem cX12_closes_ok {l : Launch} {B : Nat} {D : va_G} {cT : Nat → ClassId} {n : Nat} {adK adV : Nat → Nat} {o0 : Nat} {μ : Mem} {res : Mem} (h0 : isK n o0 9) (hf : fX12_closes o0 μ = some res) : MV l yX12_closes cX12_closes 1 (none) rmX12_closes B D cT (XW B adK adV) n [.ref (B + o0)] μ res := by
  refine tt_ofW mtX12_closes.1 (Nat.le_of_ble_eq_true rfl) rfl ?_
  intro p e s m below meth c E0 hr hlk
  have E : EE p s m _ c cX12_closes 1 RX12 B D cT (XW B adK adV) := E0
  unfold fX12_closes at hf
  exact tX12_closes_0 E hr hlk h0 FU μ hf
set_option maxHeartbeats 4000000 in
theorem cX12_may_ok {l : Launch} {B : Nat} {D : va_G} {cT : Nat → ClassId} {n : Nat} {adK adV : Nat → Nat} {o0 : Nat} {v1 : Int32} {μ : Mem} {res : Int32} (h0 : isK n o0 9) (hf : fX12_may o0 v1 μ = some res) : MZ l yX12_may cX12_may 4 (some .boolean) rmX12_may B D cT (XW B adK adV) n [.ref (B + o0), .int v1] μ (res, μ) := by
  refine tt_ofW mtX12_may.1 (Nat.le_of_ble_eq_true rfl) rfl ?_
  intro p e s m below meth c E0 hr hlk
  have E : EE p s m _ c cX12_may 4 RX12 B D cT (XW B adK adV) := E0
  unfold fX12_may at hf
  refine tt_aload_n (pc := 0) (i := 0) (j := 0) E dX12_may_0 rfl rfl ?_
  obtain ⟨q_1, hq_2, hf⟩ := bd_some hf
  refine tt_getP (pc := 1) (t := 11) E lfX12_51 rfl rfl h0 dX12_may_1 hq_2 (fun kq_3 => ?_)
  refine tt_iload_n (pc := 4) (i := 1) (j := 1) E dX12_may_4 rfl rfl ?_
  obtain ⟨g_4, hf⟩ := gd_some hf
  refine tt_iald (pc := 5) E kq_3 g_4 dX12_may_5 ?_
  refine tt_nmI hf (fun v_5 hf => ?_)
  refine tt_istore_n (pc := 6) (i := 2) (lv' := [(2, .int v_5), (0, .ref (B + o0)), (1, .int v1)]) E dX12_may_6 rfl (Nat.le_of_ble_eq_true rfl) rfl ?_
  refine tt_aload_n (pc := 7) (i := 0) (j := 1) E dX12_may_7 rfl rfl ?_
  obtain ⟨q_6, hq_7, hf⟩ := bd_some hf
  refine tt_getP (pc := 8) (t := 11) E lfX12_54 rfl rfl h0 dX12_may_8 hq_7 (fun kq_8 => ?_)
  refine tt_iload_n (pc := 11) (i := 1) (j := 2) E dX12_may_11 rfl rfl ?_
  obtain ⟨g_9, hf⟩ := gd_some hf
  refine tt_iald (pc := 12) E kq_8 g_9 dX12_may_12 ?_
  refine tt_nmI hf (fun v_10 hf => ?_)
  refine tt_istore_n (pc := 13) (i := 3) (lv' := [(3, .int v_10), (2, .int v_5), (0, .ref (B + o0)), (1, .int v1)]) E dX12_may_13 rfl (Nat.le_of_ble_eq_true rfl) rfl ?_
  refine tt_aload_n (pc := 14) (i := 0) (j := 2) E dX12_may_14 rfl rfl ?_
  obtain ⟨q_11, hq_12, hf⟩ := bd_some hf
  refine tt_getP (pc := 15) (t := 11) E lfX12_48 rfl rfl h0 dX12_may_15 hq_12 (fun kq_13 => ?_)
  refine tt_iload_n (pc := 18) (i := 1) (j := 3) E dX12_may_18 rfl rfl ?_
  obtain ⟨g_14, hf⟩ := gd_some hf
  refine tt_iald (pc := 19) E kq_13 g_14 dX12_may_19 ?_
  by_cases s20_0 : (ldI μ q_11 (v1).toNatClampNeg) = 0
  · have hf := ip s20_0 hf
    refine tt_swIn (pc := 20) (tgt := 64) E dX12_may_20 (sw1 s20_0 (by decide)) (sw2 s20_0 (by decide)) (sw3 s20_0 rfl) rfl ?_
    refine tt_iload_n (pc := 64) (i := 2) (j := 1) E dX12_may_64 rfl rfl ?_
    refine tt_i2l (pc := 65) E dX12_may_65 ?_
    refine tt_lconst (pc := 66) (v := 1) E dX12_may_66 lc_1 ?_
    refine tt_ldc2 (pc := 67) (v := 99) E dX12_may_67 (gw_mem (mt8 (at_l 38 rfl)) rfl) ?_
    obtain ⟨r_63, hr_64, hf⟩ := bd_some hf
    have hc_65 := cX12_isIn_ok (l := l) (B := B) (D := D) (cT := cT) (n := n) (adK := adK) (adV := adV) hr_64
    refine tt_cZ (pc := 70) (tt_si E lmX12_92 mtX12_isIn hc_65 rfl rfl (Nat.le_of_ble_eq_true rfl) ⟨(Nat.le_of_ble_eq_true rfl), (Nat.le_of_ble_eq_true rfl)⟩ ⟨(Nat.le_of_ble_eq_true rfl), (Nat.le_of_ble_eq_true rfl)⟩ dX12_may_70) (fun z_66 => ?_)
    refine tt_if_eq (pc := 73) (tgt := 88) E dX12_may_73 rfl (fun c_72 => ?_) (fun c_72 => ?_)
    · have hf := ip c_72 hf
      refine tt_iconst (pc := 88) (v := 0) E dX12_may_88 ic_0 ?_
      exact tt_zret (pc := 89) E ((Or.inl rfl)) hr hlk dX12_may_89 (Nat.le_of_ble_eq_true rfl) (Nat.le_of_ble_eq_true rfl) (pv hf)
    · have hf := ine c_72 hf
      refine tt_aload_n (pc := 76) (i := 0) (j := 2) E dX12_may_76 rfl rfl ?_
      refine tt_iload_n (pc := 77) (i := 2) (j := 1) E dX12_may_77 rfl rfl ?_
      obtain ⟨r_67, hr_68, hf⟩ := bd_some hf
      have hc_69 := cX12_mayPlay_ok (l := l) (B := B) (D := D) (cT := cT) (n := n) (adK := adK) (adV := adV) h0 hr_68
      refine tt_cZ (pc := 78) (tt_vi E lmX12_437 mtX12_mayPlay hc_69 h0 rfl rfl (Nat.le_of_ble_eq_true rfl) ⟨(Nat.le_of_ble_eq_true rfl), (Nat.le_of_ble_eq_true rfl)⟩ ⟨(Nat.le_of_ble_eq_true rfl), (Nat.le_of_ble_eq_true rfl)⟩ dX12_may_78) (fun z_70 => ?_)
      refine tt_if_eq (pc := 81) (tgt := 88) E dX12_may_81 rfl (fun c_71 => ?_) (fun c_71 => ?_)
      · have hf := ip c_71 hf
        refine tt_iconst (pc := 88) (v := 0) E dX12_may_88 ic_0 ?_
        exact tt_zret (pc := 89) E ((Or.inl rfl)) hr hlk dX12_may_89 (Nat.le_of_ble_eq_true rfl) (Nat.le_of_ble_eq_true rfl) (pv hf)
      · have hf := ine c_71 hf
        refine tt_iconst (pc := 84) (v := 1) E dX12_may_84 ic_1 ?_
        refine tt_goto (pc := 85) (tgt := 89) E dX12_may_85 rfl ?_
        exact tt_zret (pc := 89) E ((Or.inr rfl)) hr hlk dX12_may_89 (Nat.le_of_ble_eq_true rfl) (Nat.le_of_ble_eq_true rfl) (pv hf)
  have hf := ine s20_0 hf
  by_cases s20_1 : (ldI μ q_11 (v1).toNatClampNeg) = 1
  · have hf := ip s20_1 hf
    refine tt_swIn (pc := 20) (tgt := 90) E dX12_may_20 (sw1 s20_1 (by decide)) (sw2 s20_1 (by decide)) (sw3 s20_1 rfl) rfl ?_
    refine tt_iload_n (pc := 90) (i := 3) (j := 0) E dX12_may_90 rfl rfl ?_
    obtain ⟨r_53, hr_54, hf⟩ := bd_some hf
    have hc_55 := cX12_isBy_ok (l := l) (B := B) (D := D) (cT := cT) (n := n) (adK := adK) (adV := adV) hr_54
    refine tt_cZ (pc := 91) (tt_si E lmX12_443 mtX12_isBy hc_55 rfl rfl (Nat.le_of_ble_eq_true rfl) ⟨(Nat.le_of_ble_eq_true rfl), (Nat.le_of_ble_eq_true rfl)⟩ ⟨(Nat.le_of_ble_eq_true rfl), (Nat.le_of_ble_eq_true rfl)⟩ dX12_may_91) (fun z_56 => ?_)
    refine tt_if_eq (pc := 94) (tgt := 109) E dX12_may_94 rfl (fun c_62 => ?_) (fun c_62 => ?_)
    · have hf := ip c_62 hf
      refine tt_iconst (pc := 109) (v := 0) E dX12_may_109 ic_0 ?_
      exact tt_zret (pc := 110) E ((Or.inl rfl)) hr hlk dX12_may_110 (Nat.le_of_ble_eq_true rfl) (Nat.le_of_ble_eq_true rfl) (pv hf)
    · have hf := ine c_62 hf
      refine tt_aload_n (pc := 97) (i := 0) (j := 2) E dX12_may_97 rfl rfl ?_
      refine tt_iload_n (pc := 98) (i := 2) (j := 1) E dX12_may_98 rfl rfl ?_
      obtain ⟨r_57, hr_58, hf⟩ := bd_some hf
      have hc_59 := cX12_lives_ok (l := l) (B := B) (D := D) (cT := cT) (n := n) (adK := adK) (adV := adV) h0 hr_58
      refine tt_cZ (pc := 99) (tt_vi E lmX12_263 mtX12_lives hc_59 h0 rfl rfl (Nat.le_of_ble_eq_true rfl) ⟨(Nat.le_of_ble_eq_true rfl), (Nat.le_of_ble_eq_true rfl)⟩ ⟨(Nat.le_of_ble_eq_true rfl), (Nat.le_of_ble_eq_true rfl)⟩ dX12_may_99) (fun z_60 => ?_)
      refine tt_if_eq (pc := 102) (tgt := 109) E dX12_may_102 rfl (fun c_61 => ?_) (fun c_61 => ?_)
      · have hf := ip c_61 hf
        refine tt_iconst (pc := 109) (v := 0) E dX12_may_109 ic_0 ?_
        exact tt_zret (pc := 110) E ((Or.inl rfl)) hr hlk dX12_may_110 (Nat.le_of_ble_eq_true rfl) (Nat.le_of_ble_eq_true rfl) (pv hf)
      · have hf := ine c_61 hf
        refine tt_iconst (pc := 105) (v := 1) E dX12_may_105 ic_1 ?_
        refine tt_goto (pc := 106) (tgt := 110) E dX12_may_106 rfl ?_
        exact tt_zret (pc := 110) E ((Or.inr rfl)) hr hlk dX12_may_110 (Nat.le_of_ble_eq_true rfl) (Nat.le_of_ble_eq_true rfl) (pv hf)
  have hf := ine s20_1 hf
  by_cases s20_2 : (ldI μ q_11 (v1).toNatClampNeg) = 2
  · have hf := ip s20_2 hf
    refine tt_swIn (pc := 20) (tgt := 90) E dX12_may_20 (sw1 s20_2 (by decide)) (sw2 s20_2 (by decide)) (sw3 s20_2 rfl) rfl ?_
    refine tt_iload_n (pc := 90) (i := 3) (j := 0) E dX12_may_90 rfl rfl ?_
    obtain ⟨r_43, hr_44, hf⟩ := bd_some hf
    have hc_45 := cX12_isBy_ok (l := l) (B := B) (D := D) (cT := cT) (n := n) (adK := adK) (adV := adV) hr_44
    refine tt_cZ (pc := 91) (tt_si E lmX12_443 mtX12_isBy hc_45 rfl rfl (Nat.le_of_ble_eq_true rfl) ⟨(Nat.le_of_ble_eq_true rfl), (Nat.le_of_ble_eq_true rfl)⟩ ⟨(Nat.le_of_ble_eq_true rfl), (Nat.le_of_ble_eq_true rfl)⟩ dX12_may_91) (fun z_46 => ?_)
    refine tt_if_eq (pc := 94) (tgt := 109) E dX12_may_94 rfl (fun c_52 => ?_) (fun c_52 => ?_)
    · have hf := ip c_52 hf
      refine tt_iconst (pc := 109) (v := 0) E dX12_may_109 ic_0 ?_
      exact tt_zret (pc := 110) E ((Or.inl rfl)) hr hlk dX12_may_110 (Nat.le_of_ble_eq_true rfl) (Nat.le_of_ble_eq_true rfl) (pv hf)
    · have hf := ine c_52 hf
      refine tt_aload_n (pc := 97) (i := 0) (j := 2) E dX12_may_97 rfl rfl ?_
      refine tt_iload_n (pc := 98) (i := 2) (j := 1) E dX12_may_98 rfl rfl ?_
      obtain ⟨r_47, hr_48, hf⟩ := bd_some hf
      have hc_49 := cX12_lives_ok (l := l) (B := B) (D := D) (cT := cT) (n := n) (adK := adK) (adV := adV) h0 hr_48
      refine tt_cZ (pc := 99) (tt_vi E lmX12_263 mtX12_lives hc_49 h0 rfl rfl (Nat.le_of_ble_eq_true rfl) ⟨(Nat.le_of_ble_eq_true rfl), (Nat.le_of_ble_eq_true rfl)⟩ ⟨(Nat.le_of_ble_eq_true rfl), (Nat.le_of_ble_eq_true rfl)⟩ dX12_may_99) (fun z_50 => ?_)
      refine tt_if_eq (pc := 102) (tgt := 109) E dX12_may_102 rfl (fun c_51 => ?_) (fun c_51 => ?_)
      · have hf := ip c_51 hf
        refine tt_iconst (pc := 109) (v := 0) E dX12_may_109 ic_0 ?_
        exact tt_zret (pc := 110) E ((Or.inl rfl)) hr hlk dX12_may_110 (Nat.le_of_ble_eq_true rfl) (Nat.le_of_ble_eq_true rfl) (pv hf)
      · have hf := ine c_51 hf
        refine tt_iconst (pc := 105) (v := 1) E dX12_may_105 ic_1 ?_
        refine tt_goto (pc := 106) (tgt := 110) E dX12_may_106 rfl ?_
        exact tt_zret (pc := 110) E ((Or.inr rfl)) hr hlk dX12_may_110 (Nat.le_of_ble_eq_true rfl) (Nat.le_of_ble_eq_true rfl) (pv hf)
  have hf := ine s20_2 hf
  by_cases s20_3 : (ldI μ q_11 (v1).toNatClampNeg) = 3
  · have hf := ip s20_3 hf
    refine tt_swIn (pc := 20) (tgt := 111) E dX12_may_20 (sw1 s20_3 (by decide)) (sw2 s20_3 (by decide)) (sw3 s20_3 rfl) rfl ?_
    refine tt_aload_n (pc := 111) (i := 0) (j := 2) E dX12_may_111 rfl rfl ?_
    refine tt_iload_n (pc := 112) (i := 2) (j := 1) E dX12_may_112 rfl rfl ?_
    obtain ⟨r_39, hr_40, hf⟩ := bd_some hf
    have hc_41 := cX12_lives_ok (l := l) (B := B) (D := D) (cT := cT) (n := n) (adK := adK) (adV := adV) h0 hr_40
    refine tt_cZ (pc := 113) (tt_vi E lmX12_263 mtX12_lives hc_41 h0 rfl rfl (Nat.le_of_ble_eq_true rfl) ⟨(Nat.le_of_ble_eq_true rfl), (Nat.le_of_ble_eq_true rfl)⟩ ⟨(Nat.le_of_ble_eq_true rfl), (Nat.le_of_ble_eq_true rfl)⟩ dX12_may_113) (fun z_42 => ?_)
    exact tt_zret (pc := 116) E z_42 hr hlk dX12_may_116 (Nat.le_of_ble_eq_true rfl) (Nat.le_of_ble_eq_true rfl) (pv hf)
  have hf := ine s20_3 hf
  by_cases s20_4 : (ldI μ q_11 (v1).toNatClampNeg) = 4
  · have hf := ip s20_4 hf
    refine tt_swIn (pc := 20) (tgt := 117) E dX12_may_20 (sw1 s20_4 (by decide)) (sw2 s20_4 (by decide)) (sw3 s20_4 rfl) rfl ?_
    refine tt_iload_n (pc := 117) (i := 3) (j := 0) E dX12_may_117 rfl rfl ?_
    refine tt_i2l (pc := 118) E dX12_may_118 ?_
    refine tt_lconst (pc := 119) (v := 1) E dX12_may_119 lc_1 ?_
    refine tt_ldc2 (pc := 120) (v := 99) E dX12_may_120 (gw_mem (mt8 (at_l 38 rfl)) rfl) ?_
    obtain ⟨r_35, hr_36, hf⟩ := bd_some hf
    have hc_37 := cX12_isIn_ok (l := l) (B := B) (D := D) (cT := cT) (n := n) (adK := adK) (adV := adV) hr_36
    refine tt_cZ (pc := 123) (tt_si E lmX12_92 mtX12_isIn hc_37 rfl rfl (Nat.le_of_ble_eq_true rfl) ⟨(Nat.le_of_ble_eq_true rfl), (Nat.le_of_ble_eq_true rfl)⟩ ⟨(Nat.le_of_ble_eq_true rfl), (Nat.le_of_ble_eq_true rfl)⟩ dX12_may_123) (fun z_38 => ?_)
    exact tt_zret (pc := 126) E z_38 hr hlk dX12_may_126 (Nat.le_of_ble_eq_true rfl) (Nat.le_of_ble_eq_true rfl) (pv hf)
  have hf := ine s20_4 hf
  by_cases s20_5 : (ldI μ q_11 (v1).toNatClampNeg) = 5
  · have hf := ip s20_5 hf
    refine tt_swIn (pc := 20) (tgt := 127) E dX12_may_20 (sw1 s20_5 (by decide)) (sw2 s20_5 (by decide)) (sw3 s20_5 rfl) rfl ?_
    refine tt_iload_n (pc := 127) (i := 3) (j := 0) E dX12_may_127 rfl rfl ?_
    obtain ⟨r_31, hr_32, hf⟩ := bd_some hf
    have hc_33 := cX12_isBy_ok (l := l) (B := B) (D := D) (cT := cT) (n := n) (adK := adK) (adV := adV) hr_32
    refine tt_cZ (pc := 128) (tt_si E lmX12_443 mtX12_isBy hc_33 rfl rfl (Nat.le_of_ble_eq_true rfl) ⟨(Nat.le_of_ble_eq_true rfl), (Nat.le_of_ble_eq_true rfl)⟩ ⟨(Nat.le_of_ble_eq_true rfl), (Nat.le_of_ble_eq_true rfl)⟩ dX12_may_128) (fun z_34 => ?_)
    exact tt_zret (pc := 131) E z_34 hr hlk dX12_may_131 (Nat.le_of_ble_eq_true rfl) (Nat.le_of_ble_eq_true rfl) (pv hf)
  have hf := ine s20_5 hf
  by_cases s20_6 : (ldI μ q_11 (v1).toNatClampNeg) = 6
  · have hf := ip s20_6 hf
    refine tt_swIn (pc := 20) (tgt := 132) E dX12_may_20 (sw1 s20_6 (by decide)) (sw2 s20_6 (by decide)) (sw3 s20_6 rfl) rfl ?_
    refine tt_iload_n (pc := 132) (i := 2) (j := 1) E dX12_may_132 rfl rfl ?_
    obtain ⟨r_27, hr_28, hf⟩ := bd_some hf
    have hc_29 := cX12_isWheel_ok (l := l) (B := B) (D := D) (cT := cT) (n := n) (adK := adK) (adV := adV) hr_28
    refine tt_cZ (pc := 133) (tt_si E lmX12_458 mtX12_isWheel hc_29 rfl rfl (Nat.le_of_ble_eq_true rfl) ⟨(Nat.le_of_ble_eq_true rfl), (Nat.le_of_ble_eq_true rfl)⟩ ⟨(Nat.le_of_ble_eq_true rfl), (Nat.le_of_ble_eq_true rfl)⟩ dX12_may_133) (fun z_30 => ?_)
    exact tt_zret (pc := 136) E z_30 hr hlk dX12_may_136 (Nat.le_of_ble_eq_true rfl) (Nat.le_of_ble_eq_true rfl) (pv hf)
  have hf := ine s20_6 hf
  refine tt_swOut (pc := 20) (tgt := 137) E dX12_may_20 (sw_out (N := 7) (fun j hj => by
    match j, hj with
    | 0, _ => exact s20_0
    | 1, _ => exact s20_1
    | 2, _ => exact s20_2
    | 3, _ => exact s20_3
    | 4, _ => exact s20_4
    | 5, _ => exact s20_5
    | 6, _ => exact s20_6
    | j + 7, hj => exact absurd hj (by omega))) rfl ?_
  refine tt_aload_n (pc := 137) (i := 0) (j := 2) E dX12_may_137 rfl rfl ?_
  refine tt_iload_n (pc := 138) (i := 2) (j := 1) E dX12_may_138 rfl rfl ?_
  refine tt_iload_n (pc := 139) (i := 3) (j := 0) E dX12_may_139 rfl rfl ?_
  refine tt_aload_n (pc := 140) (i := 0) (j := 2) E dX12_may_140 rfl rfl ?_
  obtain ⟨q_15, hq_16, hf⟩ := bd_some hf
  refine tt_getP (pc := 141) (t := 11) E lfX12_57 rfl rfl h0 dX12_may_141 hq_16 (fun kq_17 => ?_)
  refine tt_iload_n (pc := 144) (i := 1) (j := 3) E dX12_may_144 rfl rfl ?_
  obtain ⟨g_18, hf⟩ := gd_some hf
  refine tt_iald (pc := 145) E kq_17 g_18 dX12_may_145 ?_
  refine tt_aload_n (pc := 146) (i := 0) (j := 2) E dX12_may_146 rfl rfl ?_
  obtain ⟨q_19, hq_20, hf⟩ := bd_some hf
  refine tt_getP (pc := 147) (t := 11) E lfX12_60 rfl rfl h0 dX12_may_147 hq_20 (fun kq_21 => ?_)
  refine tt_iload_n (pc := 150) (i := 1) (j := 3) E dX12_may_150 rfl rfl ?_
  obtain ⟨g_22, hf⟩ := gd_some hf
  refine tt_iald (pc := 151) E kq_21 g_22 dX12_may_151 ?_
  obtain ⟨r_23, hr_24, hf⟩ := bd_some hf
  have hc_25 := cX12_maySet_ok (l := l) (B := B) (D := D) (cT := cT) (n := n) (adK := adK) (adV := adV) h0 hr_24
  refine tt_cZ (pc := 152) (tt_vi E lmX12_463 mtX12_maySet hc_25 h0 rfl rfl (Nat.le_of_ble_eq_true rfl) ⟨(Nat.le_of_ble_eq_true rfl), (Nat.le_of_ble_eq_true rfl)⟩ ⟨(Nat.le_of_ble_eq_true rfl), (Nat.le_of_ble_eq_true rfl)⟩ dX12_may_152) (fun z_26 => ?_)
  exact tt_zret (pc := 155) E z_26 hr hlk dX12_may_155 (Nat.le_of_ble_eq_true rfl) (Nat.le_of_ble_eq_true rfl) (pv hf)
set_option maxHeartbeats 4000000 in
theorem cX12_isDone_ok {l : Launch} {B : Nat} {D : va_G} {cT : Nat → ClassId} {n : Nat} {adK adV : Nat → Nat} {o0 : Nat} {v1 : Int32} {μ : Mem} {res : Int32 × Mem} (h0 : isK n o0 9) (hf : fX12_isDone o0 v1 μ = some res) : MZ l yX12_isDone cX12_isDone 5 (some .boolean) rmX12_isDone B D cT (XW B adK adV) n [.ref (B + o0), .int v1] μ res := by
  refine tt_ofW mtX12_isDone.1 (Nat.le_of_ble_eq_true rfl) rfl ?_
  intro p e s m below meth c E0 hr hlk
  have E : EE p s m _ c cX12_isDone 5 RX12 B D cT (XW B adK adV) := E0
  unfold fX12_isDone at hf
  refine tt_aload_n (pc := 0) (i := 0) (j := 0) E dX12_isDone_0 rfl rfl ?_
  obtain ⟨q_1, hq_2, hf⟩ := bd_some hf
  refine tt_getP (pc := 1) (t := 11) E lfX12_51 rfl rfl h0 dX12_isDone_1 hq_2 (fun kq_3 => ?_)
  refine tt_iload_n (pc := 4) (i := 1) (j := 1) E dX12_isDone_4 rfl rfl ?_
  obtain ⟨g_4, hf⟩ := gd_some hf
  refine tt_iald (pc := 5) E kq_3 g_4 dX12_isDone_5 ?_
  refine tt_nmI hf (fun v_5 hf => ?_)
  refine tt_istore_n (pc := 6) (i := 2) (lv' := [(2, .int v_5), (0, .ref (B + o0)), (1, .int v1)]) E dX12_isDone_6 rfl (Nat.le_of_ble_eq_true rfl) rfl ?_
  refine tt_aload_n (pc := 7) (i := 0) (j := 1) E dX12_isDone_7 rfl rfl ?_
  obtain ⟨q_6, hq_7, hf⟩ := bd_some hf
  refine tt_getP (pc := 8) (t := 11) E lfX12_54 rfl rfl h0 dX12_isDone_8 hq_7 (fun kq_8 => ?_)
  refine tt_iload_n (pc := 11) (i := 1) (j := 2) E dX12_isDone_11 rfl rfl ?_
  obtain ⟨g_9, hf⟩ := gd_some hf
  refine tt_iald (pc := 12) E kq_8 g_9 dX12_isDone_12 ?_
  refine tt_nmI hf (fun v_10 hf => ?_)
  refine tt_istore_n (pc := 13) (i := 3) (lv' := [(3, .int v_10), (2, .int v_5), (0, .ref (B + o0)), (1, .int v1)]) E dX12_isDone_13 rfl (Nat.le_of_ble_eq_true rfl) rfl ?_
  refine tt_iconst (pc := 14) (v := 0) E dX12_isDone_14 ic_0 ?_
  refine tt_istore (pc := 15) (i := 4) (lv' := [(4, .int 0), (3, .int v_10), (2, .int v_5), (0, .ref (B + o0)), (1, .int v1)]) E dX12_isDone_15 (Nat.le_of_ble_eq_true rfl) rfl ?_
  refine tt_aload_n (pc := 17) (i := 0) (j := 3) E dX12_isDone_17 rfl rfl ?_
  obtain ⟨q_11, hq_12, hf⟩ := bd_some hf
  refine tt_getP (pc := 18) (t := 11) E lfX12_48 rfl rfl h0 dX12_isDone_18 hq_12 (fun kq_13 => ?_)
  refine tt_iload_n (pc := 21) (i := 1) (j := 4) E dX12_isDone_21 rfl rfl ?_
  obtain ⟨g_14, hf⟩ := gd_some hf
  refine tt_iald (pc := 22) E kq_13 g_14 dX12_isDone_22 ?_
  by_cases s23_0 : (ldI μ q_11 (v1).toNatClampNeg) = 0
  · have hf := ip s23_0 hf
    refine tt_swIn (pc := 23) (tgt := 64) E dX12_isDone_23 (sw1 s23_0 (by decide)) (sw2 s23_0 (by decide)) (sw3 s23_0 rfl) rfl ?_
    refine tt_aload_n (pc := 64) (i := 0) (j := 3) E dX12_isDone_64 rfl rfl ?_
    refine tt_iload_n (pc := 65) (i := 2) (j := 2) E dX12_isDone_65 rfl rfl ?_
    obtain ⟨r_48, hr_49, hf⟩ := bd_some hf
    have hc_50 := cX12_plays_ok (l := l) (B := B) (D := D) (cT := cT) (n := n) (adK := adK) (adV := adV) h0 hr_49
    refine tt_cI (pc := 66) (tt_vi E lmX12_377 mtX12_plays hc_50 h0 rfl rfl (Nat.le_of_ble_eq_true rfl) ⟨(Nat.le_of_ble_eq_true rfl), (Nat.le_of_ble_eq_true rfl)⟩ ⟨(Nat.le_of_ble_eq_true rfl), (Nat.le_of_ble_eq_true rfl)⟩ dX12_isDone_66) ?_
    refine tt_istore (pc := 69) (i := 4) (lv' := [(4, .int r_48.1), (3, .int v_10), (2, .int v_5), (0, .ref (B + o0)), (1, .int v1)]) E dX12_isDone_69 (Nat.le_of_ble_eq_true rfl) rfl ?_
    refine tt_iconst (pc := 71) (v := 1) E dX12_isDone_71 ic_1 ?_
    exact tt_zret (pc := 72) E ((Or.inr rfl)) hr hlk dX12_isDone_72 (Nat.le_of_ble_eq_true rfl) (Nat.le_of_ble_eq_true rfl) hf
  have hf := ine s23_0 hf
  by_cases s23_1 : (ldI μ q_11 (v1).toNatClampNeg) = 1
  · have hf := ip s23_1 hf
    refine tt_swIn (pc := 23) (tgt := 73) E dX12_isDone_23 (sw1 s23_1 (by decide)) (sw2 s23_1 (by decide)) (sw3 s23_1 rfl) rfl ?_
    refine tt_aload_n (pc := 73) (i := 0) (j := 3) E dX12_isDone_73 rfl rfl ?_
    refine tt_iload_n (pc := 74) (i := 2) (j := 2) E dX12_isDone_74 rfl rfl ?_
    refine tt_iload_n (pc := 75) (i := 3) (j := 1) E dX12_isDone_75 rfl rfl ?_
    obtain ⟨r_45, hr_46, hf⟩ := bd_some hf
    have hc_47 := cX12_lowers_ok (l := l) (B := B) (D := D) (cT := cT) (n := n) (adK := adK) (adV := adV) h0 hr_46
    refine tt_cI (pc := 76) (tt_vi E lmX12_307 mtX12_lowers hc_47 h0 rfl rfl (Nat.le_of_ble_eq_true rfl) ⟨(Nat.le_of_ble_eq_true rfl), (Nat.le_of_ble_eq_true rfl)⟩ ⟨(Nat.le_of_ble_eq_true rfl), (Nat.le_of_ble_eq_true rfl)⟩ dX12_isDone_76) ?_
    refine tt_istore (pc := 79) (i := 4) (lv' := [(4, .int r_45.1), (3, .int v_10), (2, .int v_5), (0, .ref (B + o0)), (1, .int v1)]) E dX12_isDone_79 (Nat.le_of_ble_eq_true rfl) rfl ?_
    refine tt_iconst (pc := 81) (v := 1) E dX12_isDone_81 ic_1 ?_
    exact tt_zret (pc := 82) E ((Or.inr rfl)) hr hlk dX12_isDone_82 (Nat.le_of_ble_eq_true rfl) (Nat.le_of_ble_eq_true rfl) hf
  have hf := ine s23_1 hf
  by_cases s23_2 : (ldI μ q_11 (v1).toNatClampNeg) = 2
  · have hf := ip s23_2 hf
    refine tt_swIn (pc := 23) (tgt := 83) E dX12_isDone_23 (sw1 s23_2 (by decide)) (sw2 s23_2 (by decide)) (sw3 s23_2 rfl) rfl ?_
    refine tt_aload_n (pc := 83) (i := 0) (j := 3) E dX12_isDone_83 rfl rfl ?_
    refine tt_iload_n (pc := 84) (i := 2) (j := 2) E dX12_isDone_84 rfl rfl ?_
    refine tt_iload_n (pc := 85) (i := 3) (j := 1) E dX12_isDone_85 rfl rfl ?_
    obtain ⟨r_42, hr_43, hf⟩ := bd_some hf
    have hc_44 := cX12_raises_ok (l := l) (B := B) (D := D) (cT := cT) (n := n) (adK := adK) (adV := adV) h0 hr_43
    refine tt_cI (pc := 86) (tt_vi E lmX12_313 mtX12_raises hc_44 h0 rfl rfl (Nat.le_of_ble_eq_true rfl) ⟨(Nat.le_of_ble_eq_true rfl), (Nat.le_of_ble_eq_true rfl)⟩ ⟨(Nat.le_of_ble_eq_true rfl), (Nat.le_of_ble_eq_true rfl)⟩ dX12_isDone_86) ?_
    refine tt_istore (pc := 89) (i := 4) (lv' := [(4, .int r_42.1), (3, .int v_10), (2, .int v_5), (0, .ref (B + o0)), (1, .int v1)]) E dX12_isDone_89 (Nat.le_of_ble_eq_true rfl) rfl ?_
    refine tt_iconst (pc := 91) (v := 1) E dX12_isDone_91 ic_1 ?_
    exact tt_zret (pc := 92) E ((Or.inr rfl)) hr hlk dX12_isDone_92 (Nat.le_of_ble_eq_true rfl) (Nat.le_of_ble_eq_true rfl) hf
  have hf := ine s23_2 hf
  by_cases s23_3 : (ldI μ q_11 (v1).toNatClampNeg) = 3
  · have hf := ip s23_3 hf
    refine tt_swIn (pc := 23) (tgt := 93) E dX12_isDone_23 (sw1 s23_3 (by decide)) (sw2 s23_3 (by decide)) (sw3 s23_3 rfl) rfl ?_
    refine tt_aload_n (pc := 93) (i := 0) (j := 3) E dX12_isDone_93 rfl rfl ?_
    refine tt_iload_n (pc := 94) (i := 2) (j := 2) E dX12_isDone_94 rfl rfl ?_
    obtain ⟨r_38, hr_39, hf⟩ := bd_some hf
    have hc_40 := cX12_givesExtra_ok (l := l) (B := B) (D := D) (cT := cT) (n := n) (adK := adK) (adV := adV) h0 hr_39
    refine tt_cZ (pc := 95) (tt_vi E lmX12_450 mtX12_givesExtra hc_40 h0 rfl rfl (Nat.le_of_ble_eq_true rfl) ⟨(Nat.le_of_ble_eq_true rfl), (Nat.le_of_ble_eq_true rfl)⟩ ⟨(Nat.le_of_ble_eq_true rfl), (Nat.le_of_ble_eq_true rfl)⟩ dX12_isDone_95) (fun z_41 => ?_)
    exact tt_zret (pc := 98) E z_41 hr hlk dX12_isDone_98 (Nat.le_of_ble_eq_true rfl) (Nat.le_of_ble_eq_true rfl) hf
  have hf := ine s23_3 hf
  by_cases s23_4 : (ldI μ q_11 (v1).toNatClampNeg) = 4
  · have hf := ip s23_4 hf
    refine tt_swIn (pc := 23) (tgt := 99) E dX12_isDone_23 (sw1 s23_4 (by decide)) (sw2 s23_4 (by decide)) (sw3 s23_4 rfl) rfl ?_
    refine tt_aload_n (pc := 99) (i := 0) (j := 3) E dX12_isDone_99 rfl rfl ?_
    refine tt_iload_n (pc := 100) (i := 2) (j := 2) E dX12_isDone_100 rfl rfl ?_
    refine tt_iconst (pc := 101) (v := 1) E dX12_isDone_101 ic_1 ?_
    obtain ⟨r_32, hr_33, hf⟩ := bd_some hf
    have hc_34 := cX12_cellOf_ok (l := l) (B := B) (D := D) (cT := cT) (n := n) (adK := adK) (adV := adV) hr_33
    refine tt_cI (pc := 102) (tt_si E lmX12_171 mtX12_cellOf hc_34 rfl rfl (Nat.le_of_ble_eq_true rfl) ⟨(Nat.le_of_ble_eq_true rfl), (Nat.le_of_ble_eq_true rfl)⟩ ⟨(Nat.le_of_ble_eq_true rfl), (Nat.le_of_ble_eq_true rfl)⟩ dX12_isDone_102) ?_
    refine tt_iload_n (pc := 105) (i := 3) (j := 1) E dX12_isDone_105 rfl rfl ?_
    obtain ⟨r_35, hr_36, hf⟩ := bd_some hf
    have hc_37 := cX12_swapsCell_ok (l := l) (B := B) (D := D) (cT := cT) (n := n) (adK := adK) (adV := adV) h0 hr_36
    refine tt_cI (pc := 106) (tt_vi E lmX12_453 mtX12_swapsCell hc_37 h0 rfl rfl (Nat.le_of_ble_eq_true rfl) ⟨(Nat.le_of_ble_eq_true rfl), (Nat.le_of_ble_eq_true rfl)⟩ ⟨(Nat.le_of_ble_eq_true rfl), (Nat.le_of_ble_eq_true rfl)⟩ dX12_isDone_106) ?_
    refine tt_istore (pc := 109) (i := 4) (lv' := [(4, .int r_35.1), (3, .int v_10), (2, .int v_5), (0, .ref (B + o0)), (1, .int v1)]) E dX12_isDone_109 (Nat.le_of_ble_eq_true rfl) rfl ?_
    refine tt_iconst (pc := 111) (v := 1) E dX12_isDone_111 ic_1 ?_
    exact tt_zret (pc := 112) E ((Or.inr rfl)) hr hlk dX12_isDone_112 (Nat.le_of_ble_eq_true rfl) (Nat.le_of_ble_eq_true rfl) hf
  have hf := ine s23_4 hf
  by_cases s23_5 : (ldI μ q_11 (v1).toNatClampNeg) = 5
  · have hf := ip s23_5 hf
    refine tt_swIn (pc := 23) (tgt := 113) E dX12_isDone_23 (sw1 s23_5 (by decide)) (sw2 s23_5 (by decide)) (sw3 s23_5 rfl) rfl ?_
    refine tt_aload_n (pc := 113) (i := 0) (j := 3) E dX12_isDone_113 rfl rfl ?_
    refine tt_iload_n (pc := 114) (i := 2) (j := 2) E dX12_isDone_114 rfl rfl ?_
    refine tt_iload_n (pc := 115) (i := 3) (j := 1) E dX12_isDone_115 rfl rfl ?_
    obtain ⟨r_29, hr_30, hf⟩ := bd_some hf
    have hc_31 := cX12_heals_ok (l := l) (B := B) (D := D) (cT := cT) (n := n) (adK := adK) (adV := adV) h0 hr_30
    refine tt_cI (pc := 116) (tt_vi E lmX12_316 mtX12_heals hc_31 h0 rfl rfl (Nat.le_of_ble_eq_true rfl) ⟨(Nat.le_of_ble_eq_true rfl), (Nat.le_of_ble_eq_true rfl)⟩ ⟨(Nat.le_of_ble_eq_true rfl), (Nat.le_of_ble_eq_true rfl)⟩ dX12_isDone_116) ?_
    refine tt_istore (pc := 119) (i := 4) (lv' := [(4, .int r_29.1), (3, .int v_10), (2, .int v_5), (0, .ref (B + o0)), (1, .int v1)]) E dX12_isDone_119 (Nat.le_of_ble_eq_true rfl) rfl ?_
    refine tt_iconst (pc := 121) (v := 1) E dX12_isDone_121 ic_1 ?_
    exact tt_zret (pc := 122) E ((Or.inr rfl)) hr hlk dX12_isDone_122 (Nat.le_of_ble_eq_true rfl) (Nat.le_of_ble_eq_true rfl) hf
  have hf := ine s23_5 hf
  by_cases s23_6 : (ldI μ q_11 (v1).toNatClampNeg) = 6
  · have hf := ip s23_6 hf
    refine tt_swIn (pc := 23) (tgt := 123) E dX12_isDone_23 (sw1 s23_6 (by decide)) (sw2 s23_6 (by decide)) (sw3 s23_6 rfl) rfl ?_
    refine tt_aload_n (pc := 123) (i := 0) (j := 3) E dX12_isDone_123 rfl rfl ?_
    refine tt_iconst (pc := 124) (v := 1) E dX12_isDone_124 ic_1 ?_
    refine tt_iload_n (pc := 125) (i := 2) (j := 2) E dX12_isDone_125 rfl rfl ?_
    obtain ⟨r_26, hr_27, hf⟩ := bd_some hf
    have hc_28 := cX12_swapsCell_ok (l := l) (B := B) (D := D) (cT := cT) (n := n) (adK := adK) (adV := adV) h0 hr_27
    refine tt_cI (pc := 126) (tt_vi E lmX12_453 mtX12_swapsCell hc_28 h0 rfl rfl (Nat.le_of_ble_eq_true rfl) ⟨(Nat.le_of_ble_eq_true rfl), (Nat.le_of_ble_eq_true rfl)⟩ ⟨(Nat.le_of_ble_eq_true rfl), (Nat.le_of_ble_eq_true rfl)⟩ dX12_isDone_126) ?_
    refine tt_istore (pc := 129) (i := 4) (lv' := [(4, .int r_26.1), (3, .int v_10), (2, .int v_5), (0, .ref (B + o0)), (1, .int v1)]) E dX12_isDone_129 (Nat.le_of_ble_eq_true rfl) rfl ?_
    refine tt_iconst (pc := 131) (v := 1) E dX12_isDone_131 ic_1 ?_
    exact tt_zret (pc := 132) E ((Or.inr rfl)) hr hlk dX12_isDone_132 (Nat.le_of_ble_eq_true rfl) (Nat.le_of_ble_eq_true rfl) hf
  have hf := ine s23_6 hf
  refine tt_swOut (pc := 23) (tgt := 133) E dX12_isDone_23 (sw_out (N := 7) (fun j hj => by
    match j, hj with
    | 0, _ => exact s23_0
    | 1, _ => exact s23_1
    | 2, _ => exact s23_2
    | 3, _ => exact s23_3
    | 4, _ => exact s23_4
    | 5, _ => exact s23_5
    | 6, _ => exact s23_6
    | j + 7, hj => exact absurd hj (by omega))) rfl ?_
  refine tt_aload_n (pc := 133) (i := 0) (j := 3) E dX12_isDone_133 rfl rfl ?_
  refine tt_iload_n (pc := 134) (i := 2) (j := 2) E dX12_isDone_134 rfl rfl ?_
  refine tt_iload_n (pc := 135) (i := 3) (j := 1) E dX12_isDone_135 rfl rfl ?_
  refine tt_aload_n (pc := 136) (i := 0) (j := 3) E dX12_isDone_136 rfl rfl ?_
  obtain ⟨q_15, hq_16, hf⟩ := bd_some hf
  refine tt_getP (pc := 137) (t := 11) E lfX12_57 rfl rfl h0 dX12_isDone_137 hq_16 (fun kq_17 => ?_)
  refine tt_iload_n (pc := 140) (i := 1) (j := 4) E dX12_isDone_140 rfl rfl ?_
  obtain ⟨g_18, hf⟩ := gd_some hf
  refine tt_iald (pc := 141) E kq_17 g_18 dX12_isDone_141 ?_
  refine tt_aload_n (pc := 142) (i := 0) (j := 3) E dX12_isDone_142 rfl rfl ?_
  obtain ⟨q_19, hq_20, hf⟩ := bd_some hf
  refine tt_getP (pc := 143) (t := 11) E lfX12_60 rfl rfl h0 dX12_isDone_143 hq_20 (fun kq_21 => ?_)
  refine tt_iload_n (pc := 146) (i := 1) (j := 4) E dX12_isDone_146 rfl rfl ?_
  obtain ⟨g_22, hf⟩ := gd_some hf
  refine tt_iald (pc := 147) E kq_21 g_22 dX12_isDone_147 ?_
  obtain ⟨r_23, hr_24, hf⟩ := bd_some hf
  have hc_25 := cX12_setsAct_ok (l := l) (B := B) (D := D) (cT := cT) (n := n) (adK := adK) (adV := adV) h0 hr_24
  refine tt_cI (pc := 148) (tt_vi E lmX12_467 mtX12_setsAct hc_25 h0 rfl rfl (Nat.le_of_ble_eq_true rfl) ⟨(Nat.le_of_ble_eq_true rfl), (Nat.le_of_ble_eq_true rfl)⟩ ⟨(Nat.le_of_ble_eq_true rfl), (Nat.le_of_ble_eq_true rfl)⟩ dX12_isDone_148) ?_
  refine tt_istore (pc := 151) (i := 4) (lv' := [(4, .int r_23.1), (3, .int v_10), (2, .int v_5), (0, .ref (B + o0)), (1, .int v1)]) E dX12_isDone_151 (Nat.le_of_ble_eq_true rfl) rfl ?_
  refine tt_iconst (pc := 153) (v := 1) E dX12_isDone_153 ic_1 ?_
  exact tt_zret (pc := 154) E ((Or.inr rfl)) hr hlk dX12_isDone_154 (Nat.le_of_ble_eq_true rfl) (Nat.le_of_ble_eq_true rfl) hf
set_option maxHeartbeats 4000000 in
theorem tX12_runs_129 {p : Program} {l : Launch} {e : Env} {s : State} {m : MethodId} {args : Array Value} {below : List Frame} {meth : Method} {c : Code} {B : Nat} {D : va_G} {cT : Nat → ClassId} {n : Nat} {adK adV : Nat → Nat} {res : Int32 × Mem} (E : EE p s m args c cX12_runs 6 RX12 B D cT (XW B adK adV)) (hr : meth.sig.returnType = some .int) (hlk : meth.locks = false) {kb9 : Int32 → Int32 → Int32 → Int32 → Mem → Option (Int32 × Mem)} {o0 : Nat} {v1 : Int32} {v2 : Int32} {v4 : Int32} {v5 : Int32} {vt0 : Int32} (h0 : isK n o0 9) (h4 : zb v4) (h5 : zb v5) {μ : Mem} (hk9 : ∀ (v1b : Int32) (v2b : Int32) (v3b : Int32) (v4b : Int32) (μb : Mem), zb v4b → kb9 v1b v2b v3b v4b μb = some res → TT p l e rmX12_runs s m args below meth c (QI B D cT n below args s res) 6 B D cT n 0 0 μb 9 [(0, .ref (B + o0)), (1, .int v1b), (2, .int v2b), (3, .int v3b), (4, .int v4b)] []) (hf : fX12_runs_129 kb9 o0 v1 v2 v4 v5 vt0 μ = some res) : TT p l e rmX12_runs s m args below meth c (QI B D cT n below args s res) 6 B D cT n 0 0 μ 129 [(0, .ref (B + o0)), (1, .int v1), (2, .int v2), (4, .int v4), (5, .int v5)] [.int vt0] := by
  unfold fX12_runs_129 at hf
  refine tt_istore_n (pc := 129) (i := 3) (lv' := [(3, .int vt0), (0, .ref (B + o0)), (1, .int v1), (2, .int v2), (4, .int v4), (5, .int v5)]) E dX12_runs_129 rfl (Nat.le_of_ble_eq_true rfl) rfl ?_
  refine tt_iload_n (pc := 130) (i := 2) (j := 3) E dX12_runs_130 rfl rfl ?_
  refine tt_iload (pc := 131) (i := 5) (j := 5) E dX12_runs_131 rfl ?_
  refine tt_if_ne (pc := 133) (tgt := 140) E dX12_runs_133 rfl (fun c_9 => ?_) (fun c_9 => ?_)
  · have hf := ine c_9 hf
    refine tt_iconst (pc := 140) (v := 0) E dX12_runs_140 ic_0 ?_
    obtain ⟨r_1, hr_2, hf⟩ := bd_some hf
    have hc_3 := cX12_truth_ok (l := l) (B := B) (D := D) (cT := cT) (n := n) (adK := adK) (adV := adV) ((Or.inl rfl)) hr_2
    refine tt_cI (pc := 141) (tt_si E lmX12_78 mtX12_truth hc_3 rfl rfl (Nat.le_of_ble_eq_true rfl) ⟨(Nat.le_of_ble_eq_true rfl), (Nat.le_of_ble_eq_true rfl)⟩ ⟨(Nat.le_of_ble_eq_true rfl), (Nat.le_of_ble_eq_true rfl)⟩ dX12_runs_141) ?_
    refine tt_isub (pc := 144) E dX12_runs_144 ?_
    refine tt_nmI hf (fun v_4 hf => ?_)
    refine tt_istore_n (pc := 145) (i := 2) (lv' := [(2, .int v_4), (3, .int vt0), (0, .ref (B + o0)), (1, .int v1), (4, .int v4), (5, .int v5)]) E dX12_runs_145 rfl (Nat.le_of_ble_eq_true rfl) rfl ?_
    refine tt_goto (pc := 146) (tgt := 9) E dX12_runs_146 rfl ?_
    refine tt_sub [2, 3, 0, 1, 4] (lv' := [(0, .ref (B + o0)), (1, .int v1), (2, .int v_4), (3, .int vt0), (4, .int v4)]) rfl ?_
    exact hk9 v1 v_4 vt0 v4 μ h4 hf
  · have hf := ip c_9 hf
    refine tt_iconst (pc := 136) (v := 1) E dX12_runs_136 ic_1 ?_
    refine tt_goto (pc := 137) (tgt := 141) E dX12_runs_137 rfl ?_
    obtain ⟨r_5, hr_6, hf⟩ := bd_some hf
    have hc_7 := cX12_truth_ok (l := l) (B := B) (D := D) (cT := cT) (n := n) (adK := adK) (adV := adV) ((Or.inr rfl)) hr_6
    refine tt_cI (pc := 141) (tt_si E lmX12_78 mtX12_truth hc_7 rfl rfl (Nat.le_of_ble_eq_true rfl) ⟨(Nat.le_of_ble_eq_true rfl), (Nat.le_of_ble_eq_true rfl)⟩ ⟨(Nat.le_of_ble_eq_true rfl), (Nat.le_of_ble_eq_true rfl)⟩ dX12_runs_141) ?_
    refine tt_isub (pc := 144) E dX12_runs_144 ?_
    refine tt_nmI hf (fun v_8 hf => ?_)
    refine tt_istore_n (pc := 145) (i := 2) (lv' := [(2, .int v_8), (3, .int vt0), (0, .ref (B + o0)), (1, .int v1), (4, .int v4), (5, .int v5)]) E dX12_runs_145 rfl (Nat.le_of_ble_eq_true rfl) rfl ?_
    refine tt_goto (pc := 146) (tgt := 9) E dX12_runs_146 rfl ?_
    refine tt_sub [2, 3, 0, 1, 4] (lv' := [(0, .ref (B + o0)), (1, .int v1), (2, .int v_8), (3, .int vt0), (4, .int v4)]) rfl ?_
    exact hk9 v1 v_8 vt0 v4 μ h4 hf
set_option maxHeartbeats 4000000 in
theorem tX12_runs_106 {p : Program} {l : Launch} {e : Env} {s : State} {m : MethodId} {args : Array Value} {below : List Frame} {meth : Method} {c : Code} {B : Nat} {D : va_G} {cT : Nat → ClassId} {n : Nat} {adK adV : Nat → Nat} {res : Int32 × Mem} (E : EE p s m args c cX12_runs 6 RX12 B D cT (XW B adK adV)) (hr : meth.sig.returnType = some .int) (hlk : meth.locks = false) {kb9 : Int32 → Int32 → Int32 → Int32 → Mem → Option (Int32 × Mem)} {o0 : Nat} {v1 : Int32} {v2 : Int32} {v3 : Int32} {v4 : Int32} {vt0 : Int32} (h0 : isK n o0 9) (h4 : zb v4) (ht0 : zb vt0) {μ : Mem} (hk9 : ∀ (v1b : Int32) (v2b : Int32) (v3b : Int32) (v4b : Int32) (μb : Mem), zb v4b → kb9 v1b v2b v3b v4b μb = some res → TT p l e rmX12_runs s m args below meth c (QI B D cT n below args s res) 6 B D cT n 0 0 μb 9 [(0, .ref (B + o0)), (1, .int v1b), (2, .int v2b), (3, .int v3b), (4, .int v4b)] []) (hf : fX12_runs_106 kb9 o0 v1 v2 v3 v4 vt0 μ = some res) : TT p l e rmX12_runs s m args below meth c (QI B D cT n below args s res) 6 B D cT n 0 0 μ 106 [(0, .ref (B + o0)), (1, .int v1), (2, .int v2), (3, .int v3), (4, .int v4)] [.int vt0] := by
  unfold fX12_runs_106 at hf
  refine tt_istore (pc := 106) (i := 5) (lv' := [(5, .int vt0), (0, .ref (B + o0)), (1, .int v1), (2, .int v2), (3, .int v3), (4, .int v4)]) E dX12_runs_106 (Nat.le_of_ble_eq_true rfl) rfl ?_
  refine tt_iload (pc := 108) (i := 5) (j := 0) E dX12_runs_108 rfl ?_
  refine tt_if_eq (pc := 110) (tgt := 126) E dX12_runs_110 rfl (fun c_5 => ?_) (fun c_5 => ?_)
  · have hf := ip c_5 hf
    refine tt_iload_n (pc := 126) (i := 3) (j := 4) E dX12_runs_126 rfl rfl ?_
    refine tt_iconst (pc := 127) (v := 1) E dX12_runs_127 ic_1 ?_
    refine tt_iadd (pc := 128) E dX12_runs_128 ?_
    refine tt_sub [1, 2, 3, 5, 0] (lv' := [(0, .ref (B + o0)), (1, .int v1), (2, .int v2), (4, .int v4), (5, .int vt0)]) rfl ?_
    exact tX12_runs_129 E hr hlk h0 h4 ht0 hk9 hf
  · have hf := ine c_5 hf
    refine tt_aload_n (pc := 113) (i := 0) (j := 1) E dX12_runs_113 rfl rfl ?_
    obtain ⟨q_1, hq_2, hf⟩ := bd_some hf
    refine tt_getP (pc := 114) (t := 11) E lfX12_63 rfl rfl h0 dX12_runs_114 hq_2 (fun kq_3 => ?_)
    refine tt_iload_n (pc := 117) (i := 2) (j := 3) E dX12_runs_117 rfl rfl ?_
    refine tt_iconst (pc := 118) (v := 1) E dX12_runs_118 ic_1 ?_
    refine tt_isub (pc := 119) E dX12_runs_119 ?_
    obtain ⟨g_4, hf⟩ := gd_some hf
    refine tt_iald (pc := 120) E kq_3 g_4 dX12_runs_120 ?_
    refine tt_iconst (pc := 121) (v := 1) E dX12_runs_121 ic_1 ?_
    refine tt_iadd (pc := 122) E dX12_runs_122 ?_
    refine tt_goto (pc := 123) (tgt := 129) E dX12_runs_123 rfl ?_
    refine tt_sub [1, 2, 3, 5, 0] (lv' := [(0, .ref (B + o0)), (1, .int v1), (2, .int v2), (4, .int v4), (5, .int vt0)]) rfl ?_
    exact tX12_runs_129 E hr hlk h0 h4 ht0 hk9 hf
set_option maxHeartbeats 4000000 in
theorem tX12_runs_9 {p : Program} {l : Launch} {e : Env} {s : State} {m : MethodId} {args : Array Value} {below : List Frame} {meth : Method} {c : Code} {B : Nat} {D : va_G} {cT : Nat → ClassId} {n : Nat} {adK adV : Nat → Nat} {res : Int32 × Mem} (E : EE p s m args c cX12_runs 6 RX12 B D cT (XW B adK adV)) (hr : meth.sig.returnType = some .int) (hlk : meth.locks = false) {o0 : Nat} (h0 : isK n o0 9) : ∀ (fu : Nat) (v1 : Int32) (v2 : Int32) (v3 : Int32) (v4 : Int32) (μ : Mem) (h4 : zb v4), zl5 (gX12_runs_9 o0) fu v1 v2 v3 v4 μ = some res → TT p l e rmX12_runs s m args below meth c (QI B D cT n below args s res) 6 B D cT n 0 0 μ 9 [(0, .ref (B + o0)), (1, .int v1), (2, .int v2), (3, .int v3), (4, .int v4)] [] := by
  intro fu
  induction fu with
  | zero => intro v1 v2 v3 v4 μ h4 hf; exact absurd hf (fun h => by cases h)
  | succ fu ih =>
    intro v1 v2 v3 v4 μ h4 hf
    have hf : gX12_runs_9 o0 (zl5 (gX12_runs_9 o0) fu) v1 v2 v3 v4 μ = some res := hf
    unfold gX12_runs_9 at hf
    refine tt_iload (pc := 9) (i := 4) (j := 4) E dX12_runs_9 rfl ?_
    refine tt_if_eq (pc := 11) (tgt := 186) E dX12_runs_11 rfl (fun c_66 => ?_) (fun c_66 => ?_)
    · have hf := ip c_66 hf
      refine tt_iload_n (pc := 186) (i := 1) (j := 1) E dX12_runs_186 rfl rfl ?_
      exact tt_iret (pc := 187) E hr hlk dX12_runs_187 (Nat.le_of_ble_eq_true rfl) (Nat.le_of_ble_eq_true rfl) hf
    · have hf := ine c_66 hf
      refine tt_iload_n (pc := 14) (i := 3) (j := 3) E dX12_runs_14 rfl rfl ?_
      refine tt_aload_n (pc := 15) (i := 0) (j := 0) E dX12_runs_15 rfl rfl ?_
      refine tt_getI (pc := 16) E lfX12_499 rfl h0 dX12_runs_16 ?_
      refine tt_icmp_ge (pc := 19) (tgt := 186) E dX12_runs_19 rfl (fun c_65 => ?_) (fun c_65 => ?_)
      · have hf := ip c_65 hf
        refine tt_iload_n (pc := 186) (i := 1) (j := 1) E dX12_runs_186 rfl rfl ?_
        exact tt_iret (pc := 187) E hr hlk dX12_runs_187 (Nat.le_of_ble_eq_true rfl) (Nat.le_of_ble_eq_true rfl) hf
      · have hf := ine c_65 hf
        refine tt_iload_n (pc := 22) (i := 1) (j := 1) E dX12_runs_22 rfl rfl ?_
        refine tt_bipush (pc := 23) (v := 40) E dX12_runs_23 bc_40 ?_
        refine tt_icmp_ge (pc := 25) (tgt := 186) E dX12_runs_25 rfl (fun c_64 => ?_) (fun c_64 => ?_)
        · have hf := ip c_64 hf
          refine tt_iload_n (pc := 186) (i := 1) (j := 1) E dX12_runs_186 rfl rfl ?_
          exact tt_iret (pc := 187) E hr hlk dX12_runs_187 (Nat.le_of_ble_eq_true rfl) (Nat.le_of_ble_eq_true rfl) hf
        · have hf := ine c_64 hf
          refine tt_aload_n (pc := 28) (i := 0) (j := 0) E dX12_runs_28 rfl rfl ?_
          obtain ⟨q_1, hq_2, hf⟩ := bd_some hf
          refine tt_getP (pc := 29) (t := 11) E lfX12_48 rfl rfl h0 dX12_runs_29 hq_2 (fun kq_3 => ?_)
          refine tt_iload_n (pc := 32) (i := 3) (j := 3) E dX12_runs_32 rfl rfl ?_
          obtain ⟨g_4, hf⟩ := gd_some hf
          refine tt_iald (pc := 33) E kq_3 g_4 dX12_runs_33 ?_
          refine tt_bipush (pc := 34) (v := 8) E dX12_runs_34 bc_8 ?_
          refine tt_icmp_ne (pc := 36) (tgt := 67) E dX12_runs_36 rfl (fun c_63 => ?_) (fun c_63 => ?_)
          · have hf := ine c_63 hf
            refine tt_aload_n (pc := 67) (i := 0) (j := 0) E dX12_runs_67 rfl rfl ?_
            obtain ⟨q_5, hq_6, hf⟩ := bd_some hf
            refine tt_getP (pc := 68) (t := 11) E lfX12_48 rfl rfl h0 dX12_runs_68 hq_6 (fun kq_7 => ?_)
            refine tt_iload_n (pc := 71) (i := 3) (j := 3) E dX12_runs_71 rfl rfl ?_
            obtain ⟨g_8, hf⟩ := gd_some hf
            refine tt_iald (pc := 72) E kq_7 g_8 dX12_runs_72 ?_
            refine tt_bipush (pc := 73) (v := 9) E dX12_runs_73 bc_9 ?_
            refine tt_icmp_ne (pc := 75) (tgt := 149) E dX12_runs_75 rfl (fun c_46 => ?_) (fun c_46 => ?_)
            · have hf := ine c_46 hf
              refine tt_aload_n (pc := 149) (i := 0) (j := 0) E dX12_runs_149 rfl rfl ?_
              refine tt_iload_n (pc := 150) (i := 3) (j := 3) E dX12_runs_150 rfl rfl ?_
              obtain ⟨r_9, hr_10, hf⟩ := bd_some hf
              have hc_11 := cX12_may_ok (l := l) (B := B) (D := D) (cT := cT) (n := n) (adK := adK) (adV := adV) h0 hr_10
              refine tt_cZ (pc := 151) (tt_vi E lmX12_514 mtX12_may hc_11 h0 rfl rfl (Nat.le_of_ble_eq_true rfl) ⟨(Nat.le_of_ble_eq_true rfl), (Nat.le_of_ble_eq_true rfl)⟩ ⟨(Nat.le_of_ble_eq_true rfl), (Nat.le_of_ble_eq_true rfl)⟩ dX12_runs_151) (fun z_12 => ?_)
              refine tt_if_eq (pc := 154) (tgt := 169) E dX12_runs_154 rfl (fun c_33 => ?_) (fun c_33 => ?_)
              · have hf := ip c_33 hf
                refine tt_iconst (pc := 169) (v := 0) E dX12_runs_169 ic_0 ?_
                refine tt_istore (pc := 170) (i := 4) (lv' := [(4, .int 0), (0, .ref (B + o0)), (1, .int v1), (2, .int v2), (3, .int v3)]) E dX12_runs_170 (Nat.le_of_ble_eq_true rfl) rfl ?_
                refine tt_iload_n (pc := 172) (i := 1) (j := 2) E dX12_runs_172 rfl rfl ?_
                refine tt_iload (pc := 173) (i := 4) (j := 0) E dX12_runs_173 rfl ?_
                obtain ⟨r_13, hr_14, hf⟩ := bd_some hf
                have hc_15 := cX12_truth_ok (l := l) (B := B) (D := D) (cT := cT) (n := n) (adK := adK) (adV := adV) ((Or.inl rfl)) hr_14
                refine tt_cI (pc := 175) (tt_si E lmX12_78 mtX12_truth hc_15 rfl rfl (Nat.le_of_ble_eq_true rfl) ⟨(Nat.le_of_ble_eq_true rfl), (Nat.le_of_ble_eq_true rfl)⟩ ⟨(Nat.le_of_ble_eq_true rfl), (Nat.le_of_ble_eq_true rfl)⟩ dX12_runs_175) ?_
                refine tt_iadd (pc := 178) E dX12_runs_178 ?_
                refine tt_nmI hf (fun v_16 hf => ?_)
                refine tt_istore_n (pc := 179) (i := 1) (lv' := [(1, .int v_16), (4, .int 0), (0, .ref (B + o0)), (2, .int v2), (3, .int v3)]) E dX12_runs_179 rfl (Nat.le_of_ble_eq_true rfl) rfl ?_
                obtain ⟨v_17, ev_17, hf⟩ := nm_ex hf
                refine tt_iinc (pc := 180) (i := 3) (j := 4) (lv' := [(3, .int v_17), (1, .int v_16), (4, .int 0), (0, .ref (B + o0)), (2, .int v2)]) E dX12_runs_180 rfl (ev_17).symm (Nat.le_of_ble_eq_true rfl) rfl ?_
                refine tt_goto (pc := 183) (tgt := 9) E dX12_runs_183 rfl ?_
                refine tt_sub [3, 1, 4, 0, 2] (lv' := [(0, .ref (B + o0)), (1, .int v_16), (2, .int v2), (3, .int v_17), (4, .int 0)]) rfl ?_
                exact ih v_16 v2 v_17 0 μ ((Or.inl rfl)) hf
              · have hf := ine c_33 hf
                refine tt_aload_n (pc := 157) (i := 0) (j := 0) E dX12_runs_157 rfl rfl ?_
                refine tt_iload_n (pc := 158) (i := 3) (j := 3) E dX12_runs_158 rfl rfl ?_
                obtain ⟨r_18, hr_19, hf⟩ := bd_some hf
                have hc_20 := cX12_isDone_ok (l := l) (B := B) (D := D) (cT := cT) (n := n) (adK := adK) (adV := adV) h0 hr_19
                refine tt_cZ (pc := 159) (tt_vi E lmX12_517 mtX12_isDone hc_20 h0 rfl rfl (Nat.le_of_ble_eq_true rfl) ⟨(Nat.le_of_ble_eq_true rfl), (Nat.le_of_ble_eq_true rfl)⟩ ⟨(Nat.le_of_ble_eq_true rfl), (Nat.le_of_ble_eq_true rfl)⟩ dX12_runs_159) (fun z_21 => ?_)
                refine tt_if_eq (pc := 162) (tgt := 169) E dX12_runs_162 rfl (fun c_32 => ?_) (fun c_32 => ?_)
                · have hf := ip c_32 hf
                  refine tt_iconst (pc := 169) (v := 0) E dX12_runs_169 ic_0 ?_
                  refine tt_istore (pc := 170) (i := 4) (lv' := [(4, .int 0), (0, .ref (B + o0)), (1, .int v1), (2, .int v2), (3, .int v3)]) E dX12_runs_170 (Nat.le_of_ble_eq_true rfl) rfl ?_
                  refine tt_iload_n (pc := 172) (i := 1) (j := 2) E dX12_runs_172 rfl rfl ?_
                  refine tt_iload (pc := 173) (i := 4) (j := 0) E dX12_runs_173 rfl ?_
                  obtain ⟨r_22, hr_23, hf⟩ := bd_some hf
                  have hc_24 := cX12_truth_ok (l := l) (B := B) (D := D) (cT := cT) (n := n) (adK := adK) (adV := adV) ((Or.inl rfl)) hr_23
                  refine tt_cI (pc := 175) (tt_si E lmX12_78 mtX12_truth hc_24 rfl rfl (Nat.le_of_ble_eq_true rfl) ⟨(Nat.le_of_ble_eq_true rfl), (Nat.le_of_ble_eq_true rfl)⟩ ⟨(Nat.le_of_ble_eq_true rfl), (Nat.le_of_ble_eq_true rfl)⟩ dX12_runs_175) ?_
                  refine tt_iadd (pc := 178) E dX12_runs_178 ?_
                  refine tt_nmI hf (fun v_25 hf => ?_)
                  refine tt_istore_n (pc := 179) (i := 1) (lv' := [(1, .int v_25), (4, .int 0), (0, .ref (B + o0)), (2, .int v2), (3, .int v3)]) E dX12_runs_179 rfl (Nat.le_of_ble_eq_true rfl) rfl ?_
                  obtain ⟨v_26, ev_26, hf⟩ := nm_ex hf
                  refine tt_iinc (pc := 180) (i := 3) (j := 4) (lv' := [(3, .int v_26), (1, .int v_25), (4, .int 0), (0, .ref (B + o0)), (2, .int v2)]) E dX12_runs_180 rfl (ev_26).symm (Nat.le_of_ble_eq_true rfl) rfl ?_
                  refine tt_goto (pc := 183) (tgt := 9) E dX12_runs_183 rfl ?_
                  refine tt_sub [3, 1, 4, 0, 2] (lv' := [(0, .ref (B + o0)), (1, .int v_25), (2, .int v2), (3, .int v_26), (4, .int 0)]) rfl ?_
                  exact ih v_25 v2 v_26 0 r_18.2 ((Or.inl rfl)) hf
                · have hf := ine c_32 hf
                  refine tt_iconst (pc := 165) (v := 1) E dX12_runs_165 ic_1 ?_
                  refine tt_goto (pc := 166) (tgt := 170) E dX12_runs_166 rfl ?_
                  refine tt_istore (pc := 170) (i := 4) (lv' := [(4, .int 1), (0, .ref (B + o0)), (1, .int v1), (2, .int v2), (3, .int v3)]) E dX12_runs_170 (Nat.le_of_ble_eq_true rfl) rfl ?_
                  refine tt_iload_n (pc := 172) (i := 1) (j := 2) E dX12_runs_172 rfl rfl ?_
                  refine tt_iload (pc := 173) (i := 4) (j := 0) E dX12_runs_173 rfl ?_
                  obtain ⟨r_27, hr_28, hf⟩ := bd_some hf
                  have hc_29 := cX12_truth_ok (l := l) (B := B) (D := D) (cT := cT) (n := n) (adK := adK) (adV := adV) ((Or.inr rfl)) hr_28
                  refine tt_cI (pc := 175) (tt_si E lmX12_78 mtX12_truth hc_29 rfl rfl (Nat.le_of_ble_eq_true rfl) ⟨(Nat.le_of_ble_eq_true rfl), (Nat.le_of_ble_eq_true rfl)⟩ ⟨(Nat.le_of_ble_eq_true rfl), (Nat.le_of_ble_eq_true rfl)⟩ dX12_runs_175) ?_
                  refine tt_iadd (pc := 178) E dX12_runs_178 ?_
                  refine tt_nmI hf (fun v_30 hf => ?_)
                  refine tt_istore_n (pc := 179) (i := 1) (lv' := [(1, .int v_30), (4, .int 1), (0, .ref (B + o0)), (2, .int v2), (3, .int v3)]) E dX12_runs_179 rfl (Nat.le_of_ble_eq_true rfl) rfl ?_
                  obtain ⟨v_31, ev_31, hf⟩ := nm_ex hf
                  refine tt_iinc (pc := 180) (i := 3) (j := 4) (lv' := [(3, .int v_31), (1, .int v_30), (4, .int 1), (0, .ref (B + o0)), (2, .int v2)]) E dX12_runs_180 rfl (ev_31).symm (Nat.le_of_ble_eq_true rfl) rfl ?_
                  refine tt_goto (pc := 183) (tgt := 9) E dX12_runs_183 rfl ?_
                  refine tt_sub [3, 1, 4, 0, 2] (lv' := [(0, .ref (B + o0)), (1, .int v_30), (2, .int v2), (3, .int v_31), (4, .int 1)]) rfl ?_
                  exact ih v_30 v2 v_31 1 r_18.2 ((Or.inr rfl)) hf
            · have hf := ip c_46 hf
              refine tt_aload_n (pc := 78) (i := 0) (j := 0) E dX12_runs_78 rfl rfl ?_
              obtain ⟨q_34, hq_35, hf⟩ := bd_some hf
              refine tt_getP (pc := 79) (t := 11) E lfX12_66 rfl rfl h0 dX12_runs_79 hq_35 (fun kq_36 => ?_)
              refine tt_iload_n (pc := 82) (i := 2) (j := 2) E dX12_runs_82 rfl rfl ?_
              refine tt_iconst (pc := 83) (v := 1) E dX12_runs_83 ic_1 ?_
              refine tt_isub (pc := 84) E dX12_runs_84 ?_
              refine tt_nmI hf (fun v_37 hf => ?_)
              refine tt_dup2 (pc := 85) E dX12_runs_85 rfl rfl ?_
              obtain ⟨g_38, hf⟩ := gd_some hf
              refine tt_iald (pc := 86) E kq_36 g_38 dX12_runs_86 ?_
              refine tt_iconst (pc := 87) (v := 1) E dX12_runs_87 ic_1 ?_
              refine tt_isub (pc := 88) E dX12_runs_88 ?_
              obtain ⟨g_40, hf⟩ := gd_some hf
              refine tt_iast (pc := 89) E kq_36 g_40 dX12_runs_89 (tt_nmM hf (fun m_39 hf => ?_))
              refine tt_aload_n (pc := 90) (i := 0) (j := 0) E dX12_runs_90 rfl rfl ?_
              obtain ⟨q_41, hq_42, hf⟩ := bd_some hf
              refine tt_getP (pc := 91) (t := 11) E lfX12_66 rfl rfl h0 dX12_runs_91 hq_42 (fun kq_43 => ?_)
              refine tt_iload_n (pc := 94) (i := 2) (j := 2) E dX12_runs_94 rfl rfl ?_
              refine tt_iconst (pc := 95) (v := 1) E dX12_runs_95 ic_1 ?_
              refine tt_isub (pc := 96) E dX12_runs_96 ?_
              obtain ⟨g_44, hf⟩ := gd_some hf
              refine tt_iald (pc := 97) E kq_43 g_44 dX12_runs_97 ?_
              refine tt_if_le (pc := 98) (tgt := 105) E dX12_runs_98 rfl (fun c_45 => ?_) (fun c_45 => ?_)
              · have hf := ip c_45 hf
                refine tt_iconst (pc := 105) (v := 0) E dX12_runs_105 ic_0 ?_
                exact tX12_runs_106 E hr hlk h0 h4 ((Or.inl rfl)) ih hf
              · have hf := ine c_45 hf
                refine tt_iconst (pc := 101) (v := 1) E dX12_runs_101 ic_1 ?_
                refine tt_goto (pc := 102) (tgt := 106) E dX12_runs_102 rfl ?_
                exact tX12_runs_106 E hr hlk h0 h4 ((Or.inr rfl)) ih hf
          · have hf := ip c_63 hf
            refine tt_aload_n (pc := 39) (i := 0) (j := 0) E dX12_runs_39 rfl rfl ?_
            obtain ⟨q_47, hq_48, hf⟩ := bd_some hf
            refine tt_getP (pc := 40) (t := 11) E lfX12_63 rfl rfl h0 dX12_runs_40 hq_48 (fun kq_49 => ?_)
            refine tt_iload_n (pc := 43) (i := 2) (j := 2) E dX12_runs_43 rfl rfl ?_
            refine tt_iload_n (pc := 44) (i := 3) (j := 3) E dX12_runs_44 rfl rfl ?_
            obtain ⟨g_51, hf⟩ := gd_some hf
            refine tt_iast (pc := 45) E kq_49 g_51 dX12_runs_45 (tt_nmM hf (fun m_50 hf => ?_))
            refine tt_aload_n (pc := 46) (i := 0) (j := 0) E dX12_runs_46 rfl rfl ?_
            obtain ⟨q_52, hq_53, hf⟩ := bd_some hf
            refine tt_getP (pc := 47) (t := 11) E lfX12_66 rfl rfl h0 dX12_runs_47 hq_53 (fun kq_54 => ?_)
            refine tt_iload_n (pc := 50) (i := 2) (j := 2) E dX12_runs_50 rfl rfl ?_
            refine tt_aload_n (pc := 51) (i := 0) (j := 0) E dX12_runs_51 rfl rfl ?_
            obtain ⟨q_55, hq_56, hf⟩ := bd_some hf
            refine tt_getP (pc := 52) (t := 11) E lfX12_51 rfl rfl h0 dX12_runs_52 hq_56 (fun kq_57 => ?_)
            refine tt_iload_n (pc := 55) (i := 3) (j := 3) E dX12_runs_55 rfl rfl ?_
            obtain ⟨g_58, hf⟩ := gd_some hf
            refine tt_iald (pc := 56) E kq_57 g_58 dX12_runs_56 ?_
            obtain ⟨g_60, hf⟩ := gd_some hf
            refine tt_iast (pc := 57) E kq_54 g_60 dX12_runs_57 (tt_nmM hf (fun m_59 hf => ?_))
            obtain ⟨v_61, ev_61, hf⟩ := nm_ex hf
            refine tt_iinc (pc := 58) (i := 2) (j := 2) (lv' := [(2, .int v_61), (0, .ref (B + o0)), (1, .int v1), (3, .int v3), (4, .int v4)]) E dX12_runs_58 rfl (ev_61).symm (Nat.le_of_ble_eq_true rfl) rfl ?_
            obtain ⟨v_62, ev_62, hf⟩ := nm_ex hf
            refine tt_iinc (pc := 61) (i := 3) (j := 3) (lv' := [(3, .int v_62), (2, .int v_61), (0, .ref (B + o0)), (1, .int v1), (4, .int v4)]) E dX12_runs_61 rfl (ev_62).symm (Nat.le_of_ble_eq_true rfl) rfl ?_
            refine tt_goto (pc := 64) (tgt := 9) E dX12_runs_64 rfl ?_
            refine tt_sub [2, 3, 1, 0, 4] (lv' := [(0, .ref (B + o0)), (1, .int v1), (2, .int v_61), (3, .int v_62), (4, .int v4)]) rfl ?_
            exact ih v1 v_61 v_62 v4 m_59 h4 hf
set_option maxHeartbeats 4000000 in
theorem cX12_runs_ok {l : Launch} {B : Nat} {D : va_G} {cT : Nat → ClassId} {n : Nat} {adK adV : Nat → Nat} {o0 : Nat} {μ : Mem} {res : Int32 × Mem} (h0 : isK n o0 9) (hf : fX12_runs o0 μ = some res) : MI l yX12_runs cX12_runs 6 (some .int) rmX12_runs B D cT (XW B adK adV) n [.ref (B + o0)] μ res := by
  refine tt_ofW mtX12_runs.1 (Nat.le_of_ble_eq_true rfl) rfl ?_
  intro p e s m below meth c E0 hr hlk
  have E : EE p s m _ c cX12_runs 6 RX12 B D cT (XW B adK adV) := E0
  unfold fX12_runs at hf
  refine tt_iconst (pc := 0) (v := 0) E dX12_runs_0 ic_0 ?_
  refine tt_istore_n (pc := 1) (i := 1) (lv' := [(1, .int 0), (0, .ref (B + o0))]) E dX12_runs_1 rfl (Nat.le_of_ble_eq_true rfl) rfl ?_
  refine tt_iconst (pc := 2) (v := 0) E dX12_runs_2 ic_0 ?_
  refine tt_istore_n (pc := 3) (i := 2) (lv' := [(2, .int 0), (1, .int 0), (0, .ref (B + o0))]) E dX12_runs_3 rfl (Nat.le_of_ble_eq_true rfl) rfl ?_
  refine tt_iconst (pc := 4) (v := 0) E dX12_runs_4 ic_0 ?_
  refine tt_istore_n (pc := 5) (i := 3) (lv' := [(3, .int 0), (2, .int 0), (1, .int 0), (0, .ref (B + o0))]) E dX12_runs_5 rfl (Nat.le_of_ble_eq_true rfl) rfl ?_
  refine tt_iconst (pc := 6) (v := 1) E dX12_runs_6 ic_1 ?_
  refine tt_istore (pc := 7) (i := 4) (lv' := [(4, .int 1), (3, .int 0), (2, .int 0), (1, .int 0), (0, .ref (B + o0))]) E dX12_runs_7 (Nat.le_of_ble_eq_true rfl) rfl ?_
  refine tt_sub [4, 3, 2, 1, 0] (lv' := [(0, .ref (B + o0)), (1, .int 0), (2, .int 0), (3, .int 0), (4, .int 1)]) rfl ?_
  exact tX12_runs_9 E hr hlk h0 FU 0 0 0 1 μ ((Or.inr rfl)) hf
set_option maxHeartbeats 4000000 in
theorem tX12_runScript_82 {p : Program} {l : Launch} {e : Env} {s : State} {m : MethodId} {args : Array Value} {below : List Frame} {meth : Method} {c : Code} {B : Nat} {D : va_G} {cT : Nat → ClassId} {n : Nat} {adK adV : Nat → Nat} {res : Int32 × Mem} (E : EE p s m args c cX12_runScript 2 RX12 B D cT (XW B adK adV)) (hr : meth.sig.returnType = some .int) (hlk : meth.locks = false) {o0 : Nat} (h0 : isK n o0 9) {μ : Mem} (hf : fX12_runScript_82 o0 μ = some res) : TT p l e rmX12_runScript s m args below meth c (QI B D cT n below args s res) 2 B D cT n 0 0 μ 82 [(0, .ref (B + o0))] [] := by
  unfold fX12_runScript_82 at hf
  refine tt_aload_n (pc := 82) (i := 0) (j := 0) E dX12_runScript_82 rfl rfl ?_
  obtain ⟨r_1, hr_2, hf⟩ := bd_some hf
  have hc_3 := cX12_endsText_ok (l := l) (B := B) (D := D) (cT := cT) (n := n) (adK := adK) (adV := adV) h0 hr_2
  refine tt_cZ (pc := 83) (tt_vi E lmX12_260 mtX12_endsText hc_3 h0 rfl rfl (Nat.le_of_ble_eq_true rfl) ⟨(Nat.le_of_ble_eq_true rfl), (Nat.le_of_ble_eq_true rfl)⟩ ⟨(Nat.le_of_ble_eq_true rfl), (Nat.le_of_ble_eq_true rfl)⟩ dX12_runScript_83) (fun z_4 => ?_)
  refine tt_if_ne (pc := 86) (tgt := 91) E dX12_runScript_86 rfl (fun c_14 => ?_) (fun c_14 => ?_)
  · have hf := ine c_14 hf
    refine tt_aload_n (pc := 91) (i := 0) (j := 0) E dX12_runScript_91 rfl rfl ?_
    obtain ⟨r_5, hr_6, hf⟩ := bd_some hf
    have hc_7 := cX12_laysAside_ok (l := l) (B := B) (D := D) (cT := cT) (n := n) (adK := adK) (adV := adV) h0 hr_6
    refine tt_cV (pc := 92) (tt_vi E lmX12_254 mtX12_laysAside hc_7 h0 rfl rfl (Nat.le_of_ble_eq_true rfl) ⟨(Nat.le_of_ble_eq_true rfl), (Nat.le_of_ble_eq_true rfl)⟩ ⟨(Nat.le_of_ble_eq_true rfl), (Nat.le_of_ble_eq_true rfl)⟩ dX12_runScript_92) ?_
    refine tt_aload_n (pc := 95) (i := 0) (j := 0) E dX12_runScript_95 rfl rfl ?_
    obtain ⟨r_8, hr_9, hf⟩ := bd_some hf
    have hc_10 := cX12_runs_ok (l := l) (B := B) (D := D) (cT := cT) (n := n) (adK := adK) (adV := adV) h0 hr_9
    refine tt_cI (pc := 96) (tt_vi E lmX12_511 mtX12_runs hc_10 h0 rfl rfl (Nat.le_of_ble_eq_true rfl) ⟨(Nat.le_of_ble_eq_true rfl), (Nat.le_of_ble_eq_true rfl)⟩ ⟨(Nat.le_of_ble_eq_true rfl), (Nat.le_of_ble_eq_true rfl)⟩ dX12_runScript_96) ?_
    refine tt_istore_n (pc := 99) (i := 1) (lv' := [(1, .int r_8.1), (0, .ref (B + o0))]) E dX12_runScript_99 rfl (Nat.le_of_ble_eq_true rfl) rfl ?_
    refine tt_aload_n (pc := 100) (i := 0) (j := 1) E dX12_runScript_100 rfl rfl ?_
    obtain ⟨r_11, hr_12, hf⟩ := bd_some hf
    have hc_13 := cX12_keeps_ok (l := l) (B := B) (D := D) (cT := cT) (n := n) (adK := adK) (adV := adV) h0 hr_12
    refine tt_cV (pc := 101) (tt_vi E lmX12_160 mtX12_keeps hc_13 h0 rfl rfl (Nat.le_of_ble_eq_true rfl) ⟨(Nat.le_of_ble_eq_true rfl), (Nat.le_of_ble_eq_true rfl)⟩ ⟨(Nat.le_of_ble_eq_true rfl), (Nat.le_of_ble_eq_true rfl)⟩ dX12_runScript_101) ?_
    refine tt_iload_n (pc := 104) (i := 1) (j := 0) E dX12_runScript_104 rfl rfl ?_
    exact tt_iret (pc := 105) E hr hlk dX12_runScript_105 (Nat.le_of_ble_eq_true rfl) (Nat.le_of_ble_eq_true rfl) hf
  · have hf := ip c_14 hf
    refine tt_iconst (pc := 89) (v := 0) E dX12_runScript_89 ic_0 ?_
    exact tt_iret (pc := 90) E hr hlk dX12_runScript_90 (Nat.le_of_ble_eq_true rfl) (Nat.le_of_ble_eq_true rfl) hf
set_option maxHeartbeats 4000000 in
theorem tX12_runScript_63 {p : Program} {l : Launch} {e : Env} {s : State} {m : MethodId} {args : Array Value} {below : List Frame} {meth : Method} {c : Code} {B : Nat} {D : va_G} {cT : Nat → ClassId} {n : Nat} {adK adV : Nat → Nat} {res : Int32 × Mem} (E : EE p s m args c cX12_runScript 2 RX12 B D cT (XW B adK adV)) (hr : meth.sig.returnType = some .int) (hlk : meth.locks = false) {o0 : Nat} (h0 : isK n o0 9) {μ : Mem} (hf : fX12_runScript_63 o0 μ = some res) : TT p l e rmX12_runScript s m args below meth c (QI B D cT n below args s res) 2 B D cT n 0 0 μ 63 [(0, .ref (B + o0))] [] := by
  unfold fX12_runScript_63 at hf
  refine tt_aload_n (pc := 63) (i := 0) (j := 0) E dX12_runScript_63 rfl rfl ?_
  obtain ⟨r_1, hr_2, hf⟩ := bd_some hf
  have hc_3 := cX12_isGood_ok (l := l) (B := B) (D := D) (cT := cT) (n := n) (adK := adK) (adV := adV) h0 hr_2
  refine tt_cZ (pc := 64) (tt_vi E lmX12_129 mtX12_isGood hc_3 h0 rfl rfl (Nat.le_of_ble_eq_true rfl) ⟨(Nat.le_of_ble_eq_true rfl), (Nat.le_of_ble_eq_true rfl)⟩ ⟨(Nat.le_of_ble_eq_true rfl), (Nat.le_of_ble_eq_true rfl)⟩ dX12_runScript_64) (fun z_4 => ?_)
  refine tt_if_eq (pc := 67) (tgt := 82) E dX12_runScript_67 rfl (fun c_9 => ?_) (fun c_9 => ?_)
  · have hf := ip c_9 hf
    exact tX12_runScript_82 E hr hlk h0 hf
  · have hf := ine c_9 hf
    refine tt_aload_n (pc := 70) (i := 0) (j := 0) E dX12_runScript_70 rfl rfl ?_
    refine tt_getI (pc := 71) E lfX12_493 rfl h0 dX12_runScript_71 ?_
    refine tt_if_le (pc := 74) (tgt := 82) E dX12_runScript_74 rfl (fun c_8 => ?_) (fun c_8 => ?_)
    · have hf := ip c_8 hf
      exact tX12_runScript_82 E hr hlk h0 hf
    · have hf := ine c_8 hf
      refine tt_aload_n (pc := 77) (i := 0) (j := 0) E dX12_runScript_77 rfl rfl ?_
      refine tt_iconst (pc := 78) (v := 1) E dX12_runScript_78 ic_1 ?_
      obtain ⟨r_5, hr_6, hf⟩ := bd_some hf
      have hc_7 := cX12_wrong_ok (l := l) (B := B) (D := D) (cT := cT) (n := n) (adK := adK) (adV := adV) h0 hr_6
      refine tt_cV (pc := 79) (tt_vi E lmX12_136 mtX12_wrong hc_7 h0 rfl rfl (Nat.le_of_ble_eq_true rfl) ⟨(Nat.le_of_ble_eq_true rfl), (Nat.le_of_ble_eq_true rfl)⟩ ⟨(Nat.le_of_ble_eq_true rfl), (Nat.le_of_ble_eq_true rfl)⟩ dX12_runScript_79) ?_
      exact tX12_runScript_82 E hr hlk h0 hf
set_option maxHeartbeats 4000000 in
theorem tX12_runScript_19 {p : Program} {l : Launch} {e : Env} {s : State} {m : MethodId} {args : Array Value} {below : List Frame} {meth : Method} {c : Code} {B : Nat} {D : va_G} {cT : Nat → ClassId} {n : Nat} {adK adV : Nat → Nat} {res : Int32 × Mem} (E : EE p s m args c cX12_runScript 2 RX12 B D cT (XW B adK adV)) (hr : meth.sig.returnType = some .int) (hlk : meth.locks = false) {o0 : Nat} (h0 : isK n o0 9) : ∀ (fu : Nat) (μ : Mem), zl1 (gX12_runScript_19 o0) fu μ = some res → TT p l e rmX12_runScript s m args below meth c (QI B D cT n below args s res) 2 B D cT n 0 0 μ 19 [(0, .ref (B + o0))] [] := by
  intro fu
  induction fu with
  | zero => intro μ hf; exact absurd hf (fun h => by cases h)
  | succ fu ih =>
    intro μ hf
    have hf : gX12_runScript_19 o0 (zl1 (gX12_runScript_19 o0) fu) μ = some res := hf
    unfold gX12_runScript_19 at hf
    refine tt_aload_n (pc := 19) (i := 0) (j := 0) E dX12_runScript_19 rfl rfl ?_
    obtain ⟨r_1, hr_2, hf⟩ := bd_some hf
    have hc_3 := cX12_isGood_ok (l := l) (B := B) (D := D) (cT := cT) (n := n) (adK := adK) (adV := adV) h0 hr_2
    refine tt_cZ (pc := 20) (tt_vi E lmX12_129 mtX12_isGood hc_3 h0 rfl rfl (Nat.le_of_ble_eq_true rfl) ⟨(Nat.le_of_ble_eq_true rfl), (Nat.le_of_ble_eq_true rfl)⟩ ⟨(Nat.le_of_ble_eq_true rfl), (Nat.le_of_ble_eq_true rfl)⟩ dX12_runScript_20) (fun z_4 => ?_)
    refine tt_if_eq (pc := 23) (tgt := 63) E dX12_runScript_23 rfl (fun c_20 => ?_) (fun c_20 => ?_)
    · have hf := ip c_20 hf
      exact tX12_runScript_63 E hr hlk h0 hf
    · have hf := ine c_20 hf
      refine tt_aload_n (pc := 26) (i := 0) (j := 0) E dX12_runScript_26 rfl rfl ?_
      refine tt_getI (pc := 27) E lfX12_116 rfl h0 dX12_runScript_27 ?_
      refine tt_if_eq (pc := 30) (tgt := 63) E dX12_runScript_30 rfl (fun c_19 => ?_) (fun c_19 => ?_)
      · have hf := ip c_19 hf
        exact tX12_runScript_63 E hr hlk h0 hf
      · have hf := ine c_19 hf
        refine tt_aload_n (pc := 33) (i := 0) (j := 0) E dX12_runScript_33 rfl rfl ?_
        refine tt_getI (pc := 34) E lfX12_493 rfl h0 dX12_runScript_34 ?_
        refine tt_nmI hf (fun v_5 hf => ?_)
        refine tt_istore_n (pc := 37) (i := 1) (lv' := [(1, .int v_5), (0, .ref (B + o0))]) E dX12_runScript_37 rfl (Nat.le_of_ble_eq_true rfl) rfl ?_
        refine tt_aload_n (pc := 38) (i := 0) (j := 1) E dX12_runScript_38 rfl rfl ?_
        obtain ⟨r_6, hr_7, hf⟩ := bd_some hf
        have hc_8 := cX12_command_ok (l := l) (B := B) (D := D) (cT := cT) (n := n) (adK := adK) (adV := adV) h0 hr_7
        refine tt_cV (pc := 39) (tt_vi E lmX12_505 mtX12_command hc_8 h0 rfl rfl (Nat.le_of_ble_eq_true rfl) ⟨(Nat.le_of_ble_eq_true rfl), (Nat.le_of_ble_eq_true rfl)⟩ ⟨(Nat.le_of_ble_eq_true rfl), (Nat.le_of_ble_eq_true rfl)⟩ dX12_runScript_39) ?_
        refine tt_aload_n (pc := 42) (i := 0) (j := 1) E dX12_runScript_42 rfl rfl ?_
        refine tt_getI (pc := 43) E lfX12_493 rfl h0 dX12_runScript_43 ?_
        refine tt_iload_n (pc := 46) (i := 1) (j := 0) E dX12_runScript_46 rfl rfl ?_
        refine tt_icmp_ne (pc := 47) (tgt := 56) E dX12_runScript_47 rfl (fun c_18 => ?_) (fun c_18 => ?_)
        · have hf := ine c_18 hf
          refine tt_aload_n (pc := 56) (i := 0) (j := 1) E dX12_runScript_56 rfl rfl ?_
          obtain ⟨r_9, hr_10, hf⟩ := bd_some hf
          have hc_11 := cX12_closes_ok (l := l) (B := B) (D := D) (cT := cT) (n := n) (adK := adK) (adV := adV) h0 hr_10
          refine tt_cV (pc := 57) (tt_vi E lmX12_508 mtX12_closes hc_11 h0 rfl rfl (Nat.le_of_ble_eq_true rfl) ⟨(Nat.le_of_ble_eq_true rfl), (Nat.le_of_ble_eq_true rfl)⟩ ⟨(Nat.le_of_ble_eq_true rfl), (Nat.le_of_ble_eq_true rfl)⟩ dX12_runScript_57) ?_
          refine tt_goto (pc := 60) (tgt := 19) E dX12_runScript_60 rfl ?_
          refine tt_sub [1] (lv' := [(0, .ref (B + o0))]) rfl ?_
          exact ih r_9 hf
        · have hf := ip c_18 hf
          refine tt_aload_n (pc := 50) (i := 0) (j := 1) E dX12_runScript_50 rfl rfl ?_
          refine tt_bipush (pc := 51) (v := 59) E dX12_runScript_51 bc_59 ?_
          obtain ⟨r_12, hr_13, hf⟩ := bd_some hf
          have hc_14 := cX12_mustSign_ok (l := l) (B := B) (D := D) (cT := cT) (n := n) (adK := adK) (adV := adV) h0 hr_13
          refine tt_cV (pc := 53) (tt_vi E lmX12_248 mtX12_mustSign hc_14 h0 rfl rfl (Nat.le_of_ble_eq_true rfl) ⟨(Nat.le_of_ble_eq_true rfl), (Nat.le_of_ble_eq_true rfl)⟩ ⟨(Nat.le_of_ble_eq_true rfl), (Nat.le_of_ble_eq_true rfl)⟩ dX12_runScript_53) ?_
          refine tt_aload_n (pc := 56) (i := 0) (j := 1) E dX12_runScript_56 rfl rfl ?_
          obtain ⟨r_15, hr_16, hf⟩ := bd_some hf
          have hc_17 := cX12_closes_ok (l := l) (B := B) (D := D) (cT := cT) (n := n) (adK := adK) (adV := adV) h0 hr_16
          refine tt_cV (pc := 57) (tt_vi E lmX12_508 mtX12_closes hc_17 h0 rfl rfl (Nat.le_of_ble_eq_true rfl) ⟨(Nat.le_of_ble_eq_true rfl), (Nat.le_of_ble_eq_true rfl)⟩ ⟨(Nat.le_of_ble_eq_true rfl), (Nat.le_of_ble_eq_true rfl)⟩ dX12_runScript_57) ?_
          refine tt_goto (pc := 60) (tgt := 19) E dX12_runScript_60 rfl ?_
          refine tt_sub [1] (lv' := [(0, .ref (B + o0))]) rfl ?_
          exact ih r_15 hf
set_option maxHeartbeats 4000000 in
theorem cX12_runScript_ok {l : Launch} {B : Nat} {D : va_G} {cT : Nat → ClassId} {n : Nat} {adK adV : Nat → Nat} {o0 : Nat} {μ : Mem} {res : Int32 × Mem} (h0 : isK n o0 9) (hf : fX12_runScript o0 μ = some res) : MI l yX12_runScript cX12_runScript 2 (some .int) rmX12_runScript B D cT (XW B adK adV) n [.ref (B + o0)] μ res := by
  refine tt_ofW mtX12_runScript.1 (Nat.le_of_ble_eq_true rfl) rfl ?_
  intro p e s m below meth c E0 hr hlk
  have E : EE p s m _ c cX12_runScript 2 RX12 B D cT (XW B adK adV) := E0
  unfold fX12_runScript at hf
  refine tt_aload_n (pc := 0) (i := 0) (j := 0) E dX12_runScript_0 rfl rfl ?_
  obtain ⟨r_1, hr_2, hf⟩ := bd_some hf
  have hc_3 := cX12_beginsText_ok (l := l) (B := B) (D := D) (cT := cT) (n := n) (adK := adK) (adV := adV) h0 hr_2
  refine tt_cV (pc := 1) (tt_vi E lmX12_251 mtX12_beginsText hc_3 h0 rfl rfl (Nat.le_of_ble_eq_true rfl) ⟨(Nat.le_of_ble_eq_true rfl), (Nat.le_of_ble_eq_true rfl)⟩ ⟨(Nat.le_of_ble_eq_true rfl), (Nat.le_of_ble_eq_true rfl)⟩ dX12_runScript_1) ?_
  refine tt_aload_n (pc := 4) (i := 0) (j := 0) E dX12_runScript_4 rfl rfl ?_
  refine tt_iconst (pc := 5) (v := 0) E dX12_runScript_5 ic_0 ?_
  refine tt_putI (pc := 6) E lfX12_499 rfl h0 dX12_runScript_6 (tt_nmM hf (fun m_4 hf => ?_))
  refine tt_aload_n (pc := 9) (i := 0) (j := 0) E dX12_runScript_9 rfl rfl ?_
  refine tt_iconst (pc := 10) (v := 0) E dX12_runScript_10 ic_0 ?_
  refine tt_putI (pc := 11) E lfX12_496 rfl h0 dX12_runScript_11 (tt_nmM hf (fun m_5 hf => ?_))
  refine tt_aload_n (pc := 14) (i := 0) (j := 0) E dX12_runScript_14 rfl rfl ?_
  refine tt_iconst (pc := 15) (v := 0) E dX12_runScript_15 ic_0 ?_
  refine tt_putI (pc := 16) E lfX12_493 rfl h0 dX12_runScript_16 (tt_nmM hf (fun m_6 hf => ?_))
  exact tX12_runScript_19 E hr hlk h0 FU m_6 hf
set_option maxHeartbeats 4000000 in
theorem cX12_tell_ok {l : Launch} {B : Nat} {D : va_G} {cT : Nat → ClassId} {n : Nat} {adK adV : Nat → Nat} {o0 : Nat} {v1 : Int32} {μ : Mem} {res : Mem} (h0 : isK n o0 9) (hf : fX12_tell o0 v1 μ = some res) : MV l yX12_tell cX12_tell 2 (none) rmX12_tell B D cT (XW B adK adV) n [.ref (B + o0), .int v1] μ res := by
  refine tt_ofW mtX12_tell.1 (Nat.le_of_ble_eq_true rfl) rfl ?_
  intro p e s m below meth c E0 hr hlk
  have E : EE p s m _ c cX12_tell 2 RX12 B D cT (XW B adK adV) := E0
  unfold fX12_tell at hf
  refine tt_aload_n (pc := 0) (i := 0) (j := 0) E dX12_tell_0 rfl rfl ?_
  obtain ⟨q_1, hq_2, hf⟩ := bd_some hf
  refine tt_getP (pc := 1) (t := 11) E lfX12_69 rfl rfl h0 dX12_tell_1 hq_2 (fun kq_3 => ?_)
  refine tt_aload_n (pc := 4) (i := 0) (j := 0) E dX12_tell_4 rfl rfl ?_
  refine tt_getI (pc := 5) E lfX12_520 rfl h0 dX12_tell_5 ?_
  refine tt_iload_n (pc := 8) (i := 1) (j := 1) E dX12_tell_8 rfl rfl ?_
  obtain ⟨g_5, hf⟩ := gd_some hf
  refine tt_iast (pc := 9) E kq_3 g_5 dX12_tell_9 (tt_nmM hf (fun m_4 hf => ?_))
  refine tt_aload_n (pc := 10) (i := 0) (j := 0) E dX12_tell_10 rfl rfl ?_
  refine tt_dup (pc := 11) E dX12_tell_11 rfl ?_
  refine tt_getI (pc := 12) E lfX12_520 rfl h0 dX12_tell_12 ?_
  refine tt_iconst (pc := 15) (v := 1) E dX12_tell_15 ic_1 ?_
  refine tt_iadd (pc := 16) E dX12_tell_16 ?_
  refine tt_putI (pc := 17) E lfX12_520 rfl h0 dX12_tell_17 (tt_nmM hf (fun m_6 hf => ?_))
  exact tt_vret (pc := 20) E hr hlk dX12_tell_20 (Nat.le_of_ble_eq_true rfl) (Nat.le_of_ble_eq_true rfl) hf
set_option maxHeartbeats 4000000 in
theorem tX12_tellNumber_20 {p : Program} {l : Launch} {e : Env} {s : State} {m : MethodId} {args : Array Value} {below : List Frame} {meth : Method} {c : Code} {B : Nat} {D : va_G} {cT : Nat → ClassId} {n : Nat} {adK adV : Nat → Nat} {res : Mem} (E : EE p s m args c cX12_tellNumber 4 RX12 B D cT (XW B adK adV)) (hr : meth.sig.returnType = none) (hlk : meth.locks = false) {o0 : Nat} {v1 : Int32} (h0 : isK n o0 9) : ∀ (fu : Nat) (v3 : Int32) (μ : Mem), zl2 (gX12_tellNumber_20 o0 v1) fu v3 μ = some res → TT p l e rmX12_tellNumber s m args below meth c (QV B D cT n below args s res) 4 B D cT n 0 0 μ 20 [(0, .ref (B + o0)), (1, .int v1), (3, .int v3)] [] := by
  intro fu
  induction fu with
  | zero => intro v3 μ hf; exact absurd hf (fun h => by cases h)
  | succ fu ih =>
    intro v3 μ hf
    have hf : gX12_tellNumber_20 o0 v1 (zl2 (gX12_tellNumber_20 o0 v1) fu) v3 μ = some res := hf
    unfold gX12_tellNumber_20 at hf
    refine tt_iload_n (pc := 20) (i := 3) (j := 2) E dX12_tellNumber_20 rfl rfl ?_
    refine tt_if_le (pc := 21) (tgt := 45) E dX12_tellNumber_21 rfl (fun c_6 => ?_) (fun c_6 => ?_)
    · have hf := ip c_6 hf
      exact tt_vret (pc := 45) E hr hlk dX12_tellNumber_45 (Nat.le_of_ble_eq_true rfl) (Nat.le_of_ble_eq_true rfl) hf
    · have hf := ine c_6 hf
      refine tt_aload_n (pc := 24) (i := 0) (j := 0) E dX12_tellNumber_24 rfl rfl ?_
      refine tt_bipush (pc := 25) (v := 48) E dX12_tellNumber_25 bc_48 ?_
      refine tt_iload_n (pc := 27) (i := 1) (j := 1) E dX12_tellNumber_27 rfl rfl ?_
      refine tt_iload_n (pc := 28) (i := 3) (j := 2) E dX12_tellNumber_28 rfl rfl ?_
      obtain ⟨g_1, hf⟩ := gd_some hf
      refine tt_idiv (pc := 29) E dX12_tellNumber_29 (nz_ne g_1) ?_
      refine tt_bipush (pc := 30) (v := 10) E dX12_tellNumber_30 bc_10 ?_
      refine tt_irem (pc := 32) E dX12_tellNumber_32 (by decide) ?_
      refine tt_iadd (pc := 33) E dX12_tellNumber_33 ?_
      obtain ⟨r_2, hr_3, hf⟩ := bd_some hf
      have hc_4 := cX12_tell_ok (l := l) (B := B) (D := D) (cT := cT) (n := n) (adK := adK) (adV := adV) h0 hr_3
      refine tt_cV (pc := 34) (tt_vi E lmX12_523 mtX12_tell hc_4 h0 rfl rfl (Nat.le_of_ble_eq_true rfl) ⟨(Nat.le_of_ble_eq_true rfl), (Nat.le_of_ble_eq_true rfl)⟩ ⟨(Nat.le_of_ble_eq_true rfl), (Nat.le_of_ble_eq_true rfl)⟩ dX12_tellNumber_34) ?_
      refine tt_iload_n (pc := 37) (i := 3) (j := 2) E dX12_tellNumber_37 rfl rfl ?_
      refine tt_bipush (pc := 38) (v := 10) E dX12_tellNumber_38 bc_10 ?_
      refine tt_idiv (pc := 40) E dX12_tellNumber_40 (by decide) ?_
      refine tt_nmI hf (fun v_5 hf => ?_)
      refine tt_istore_n (pc := 41) (i := 3) (lv' := [(3, .int v_5), (0, .ref (B + o0)), (1, .int v1)]) E dX12_tellNumber_41 rfl (Nat.le_of_ble_eq_true rfl) rfl ?_
      refine tt_goto (pc := 42) (tgt := 20) E dX12_tellNumber_42 rfl ?_
      refine tt_sub [1, 2, 0] (lv' := [(0, .ref (B + o0)), (1, .int v1), (3, .int v_5)]) rfl ?_
      exact ih v_5 r_2 hf
set_option maxHeartbeats 4000000 in
theorem tX12_tellNumber_2 {p : Program} {l : Launch} {e : Env} {s : State} {m : MethodId} {args : Array Value} {below : List Frame} {meth : Method} {c : Code} {B : Nat} {D : va_G} {cT : Nat → ClassId} {n : Nat} {adK adV : Nat → Nat} {res : Mem} (E : EE p s m args c cX12_tellNumber 4 RX12 B D cT (XW B adK adV)) (hr : meth.sig.returnType = none) (hlk : meth.locks = false) {o0 : Nat} {v1 : Int32} (h0 : isK n o0 9) : ∀ (fu : Nat) (v2 : Int32) (μ : Mem), zl2 (gX12_tellNumber_2 o0 v1) fu v2 μ = some res → TT p l e rmX12_tellNumber s m args below meth c (QV B D cT n below args s res) 4 B D cT n 0 0 μ 2 [(0, .ref (B + o0)), (1, .int v1), (2, .int v2)] [] := by
  intro fu
  induction fu with
  | zero => intro v2 μ hf; exact absurd hf (fun h => by cases h)
  | succ fu ih =>
    intro v2 μ hf
    have hf : gX12_tellNumber_2 o0 v1 (zl2 (gX12_tellNumber_2 o0 v1) fu) v2 μ = some res := hf
    unfold gX12_tellNumber_2 at hf
    refine tt_iload_n (pc := 2) (i := 1) (j := 1) E dX12_tellNumber_2 rfl rfl ?_
    refine tt_iload_n (pc := 3) (i := 2) (j := 2) E dX12_tellNumber_3 rfl rfl ?_
    obtain ⟨g_1, hf⟩ := gd_some hf
    refine tt_idiv (pc := 4) E dX12_tellNumber_4 (nz_ne g_1) ?_
    refine tt_bipush (pc := 5) (v := 9) E dX12_tellNumber_5 bc_9 ?_
    refine tt_icmp_le (pc := 7) (tgt := 18) E dX12_tellNumber_7 rfl (fun c_3 => ?_) (fun c_3 => ?_)
    · have hf := ip c_3 hf
      refine tt_iload_n (pc := 18) (i := 2) (j := 2) E dX12_tellNumber_18 rfl rfl ?_
      refine tt_istore_n (pc := 19) (i := 3) (lv' := [(3, .int v2), (0, .ref (B + o0)), (1, .int v1), (2, .int v2)]) E dX12_tellNumber_19 rfl (Nat.le_of_ble_eq_true rfl) rfl ?_
      refine tt_sub [1, 2, 0] (lv' := [(0, .ref (B + o0)), (1, .int v1), (3, .int v2)]) rfl ?_
      exact tX12_tellNumber_20 E hr hlk h0 FU v2 μ hf
    · have hf := ine c_3 hf
      refine tt_iload_n (pc := 10) (i := 2) (j := 2) E dX12_tellNumber_10 rfl rfl ?_
      refine tt_bipush (pc := 11) (v := 10) E dX12_tellNumber_11 bc_10 ?_
      refine tt_imul (pc := 13) E dX12_tellNumber_13 ?_
      refine tt_nmI hf (fun v_2 hf => ?_)
      refine tt_istore_n (pc := 14) (i := 2) (lv' := [(2, .int v_2), (0, .ref (B + o0)), (1, .int v1)]) E dX12_tellNumber_14 rfl (Nat.le_of_ble_eq_true rfl) rfl ?_
      refine tt_goto (pc := 15) (tgt := 2) E dX12_tellNumber_15 rfl ?_
      refine tt_sub [1, 2, 0] (lv' := [(0, .ref (B + o0)), (1, .int v1), (2, .int v_2)]) rfl ?_
      exact ih v_2 μ hf
set_option maxHeartbeats 4000000 in
theorem cX12_tellNumber_ok {l : Launch} {B : Nat} {D : va_G} {cT : Nat → ClassId} {n : Nat} {adK adV : Nat → Nat} {o0 : Nat} {v1 : Int32} {μ : Mem} {res : Mem} (h0 : isK n o0 9) (hf : fX12_tellNumber o0 v1 μ = some res) : MV l yX12_tellNumber cX12_tellNumber 4 (none) rmX12_tellNumber B D cT (XW B adK adV) n [.ref (B + o0), .int v1] μ res := by
  refine tt_ofW mtX12_tellNumber.1 (Nat.le_of_ble_eq_true rfl) rfl ?_
  intro p e s m below meth c E0 hr hlk
  have E : EE p s m _ c cX12_tellNumber 4 RX12 B D cT (XW B adK adV) := E0
  unfold fX12_tellNumber at hf
  refine tt_iconst (pc := 0) (v := 1) E dX12_tellNumber_0 ic_1 ?_
  refine tt_istore_n (pc := 1) (i := 2) (lv' := [(2, .int 1), (0, .ref (B + o0)), (1, .int v1)]) E dX12_tellNumber_1 rfl (Nat.le_of_ble_eq_true rfl) rfl ?_
  refine tt_sub [1, 2, 0] (lv' := [(0, .ref (B + o0)), (1, .int v1), (2, .int 1)]) rfl ?_
  exact tX12_tellNumber_2 E hr hlk h0 FU 1 μ hf
set_option maxHeartbeats 4000000 in
theorem cX12_nextTurn_ok {l : Launch} {B : Nat} {D : va_G} {cT : Nat → ClassId} {n : Nat} {adK adV : Nat → Nat} {o0 : Nat} {μ : Mem} {res : Int32 × Mem} (h0 : isK n o0 9) (hf : fX12_nextTurn o0 μ = some res) : MI l yX12_nextTurn cX12_nextTurn 2 (some .int) rmX12_nextTurn B D cT (XW B adK adV) n [.ref (B + o0)] μ res := by
  refine tt_ofW mtX12_nextTurn.1 (Nat.le_of_ble_eq_true rfl) rfl ?_
  intro p e s m below meth c E0 hr hlk
  have E : EE p s m _ c cX12_nextTurn 2 RX12 B D cT (XW B adK adV) := E0
  unfold fX12_nextTurn at hf
  refine tt_aload_n (pc := 0) (i := 0) (j := 0) E dX12_nextTurn_0 rfl rfl ?_
  obtain ⟨r_1, hr_2, hf⟩ := bd_some hf
  have hc_3 := cX12_leaves_ok (l := l) (B := B) (D := D) (cT := cT) (n := n) (adK := adK) (adV := adV) h0 hr_2
  refine tt_cV (pc := 1) (tt_vi E lmX12_374 mtX12_leaves hc_3 h0 rfl rfl (Nat.le_of_ble_eq_true rfl) ⟨(Nat.le_of_ble_eq_true rfl), (Nat.le_of_ble_eq_true rfl)⟩ ⟨(Nat.le_of_ble_eq_true rfl), (Nat.le_of_ble_eq_true rfl)⟩ dX12_nextTurn_1) ?_
  refine tt_aload_n (pc := 4) (i := 0) (j := 0) E dX12_nextTurn_4 rfl rfl ?_
  refine tt_iconst (pc := 5) (v := 1) E dX12_nextTurn_5 ic_1 ?_
  obtain ⟨r_4, hr_5, hf⟩ := bd_some hf
  have hc_6 := cX12_plays_ok (l := l) (B := B) (D := D) (cT := cT) (n := n) (adK := adK) (adV := adV) h0 hr_5
  refine tt_cI (pc := 6) (tt_vi E lmX12_377 mtX12_plays hc_6 h0 rfl rfl (Nat.le_of_ble_eq_true rfl) ⟨(Nat.le_of_ble_eq_true rfl), (Nat.le_of_ble_eq_true rfl)⟩ ⟨(Nat.le_of_ble_eq_true rfl), (Nat.le_of_ble_eq_true rfl)⟩ dX12_nextTurn_6) ?_
  refine tt_istore_n (pc := 9) (i := 1) (lv' := [(1, .int r_4.1), (0, .ref (B + o0))]) E dX12_nextTurn_9 rfl (Nat.le_of_ble_eq_true rfl) rfl ?_
  refine tt_aload_n (pc := 10) (i := 0) (j := 1) E dX12_nextTurn_10 rfl rfl ?_
  refine tt_iload_n (pc := 11) (i := 1) (j := 0) E dX12_nextTurn_11 rfl rfl ?_
  refine tt_if_ne (pc := 12) (tgt := 19) E dX12_nextTurn_12 rfl (fun c_13 => ?_) (fun c_13 => ?_)
  · have hf := ine c_13 hf
    refine tt_aload_n (pc := 19) (i := 0) (j := 1) E dX12_nextTurn_19 rfl rfl ?_
    refine tt_getI (pc := 20) E lfX12_322 rfl h0 dX12_nextTurn_20 ?_
    obtain ⟨r_7, hr_8, hf⟩ := bd_some hf
    have hc_9 := cX12_comesBack_ok (l := l) (B := B) (D := D) (cT := cT) (n := n) (adK := adK) (adV := adV) h0 hr_8
    refine tt_cI (pc := 23) (tt_vi E lmX12_386 mtX12_comesBack hc_9 h0 rfl rfl (Nat.le_of_ble_eq_true rfl) ⟨(Nat.le_of_ble_eq_true rfl), (Nat.le_of_ble_eq_true rfl)⟩ ⟨(Nat.le_of_ble_eq_true rfl), (Nat.le_of_ble_eq_true rfl)⟩ dX12_nextTurn_23) ?_
    exact tt_iret (pc := 26) E hr hlk dX12_nextTurn_26 (Nat.le_of_ble_eq_true rfl) (Nat.le_of_ble_eq_true rfl) hf
  · have hf := ip c_13 hf
    refine tt_iconst (pc := 15) (v := (-1)) E dX12_nextTurn_15 ic_m1 ?_
    refine tt_goto (pc := 16) (tgt := 23) E dX12_nextTurn_16 rfl ?_
    obtain ⟨r_10, hr_11, hf⟩ := bd_some hf
    have hc_12 := cX12_comesBack_ok (l := l) (B := B) (D := D) (cT := cT) (n := n) (adK := adK) (adV := adV) h0 hr_11
    refine tt_cI (pc := 23) (tt_vi E lmX12_386 mtX12_comesBack hc_12 h0 rfl rfl (Nat.le_of_ble_eq_true rfl) ⟨(Nat.le_of_ble_eq_true rfl), (Nat.le_of_ble_eq_true rfl)⟩ ⟨(Nat.le_of_ble_eq_true rfl), (Nat.le_of_ble_eq_true rfl)⟩ dX12_nextTurn_23) ?_
    exact tt_iret (pc := 26) E hr hlk dX12_nextTurn_26 (Nat.le_of_ble_eq_true rfl) (Nat.le_of_ble_eq_true rfl) hf
set_option maxHeartbeats 4000000 in
theorem tX12_tellFighter_69 {p : Program} {l : Launch} {e : Env} {s : State} {m : MethodId} {args : Array Value} {below : List Frame} {meth : Method} {c : Code} {B : Nat} {D : va_G} {cT : Nat → ClassId} {n : Nat} {adK adV : Nat → Nat} {res : Mem} (E : EE p s m args c cX12_tellFighter 4 RX12 B D cT (XW B adK adV)) (hr : meth.sig.returnType = none) (hlk : meth.locks = false) {o0 : Nat} {v1 : Int32} {v2 : Int32} (h0 : isK n o0 9) : ∀ (fu : Nat) (v3 : Int32) (μ : Mem), zl2 (gX12_tellFighter_69 o0 v1 v2) fu v3 μ = some res → TT p l e rmX12_tellFighter s m args below meth c (QV B D cT n below args s res) 4 B D cT n 0 0 μ 69 [(0, .ref (B + o0)), (1, .int v1), (2, .int v2), (3, .int v3)] [] := by
  intro fu
  induction fu with
  | zero => intro v3 μ hf; exact absurd hf (fun h => by cases h)
  | succ fu ih =>
    intro v3 μ hf
    have hf : gX12_tellFighter_69 o0 v1 v2 (zl2 (gX12_tellFighter_69 o0 v1 v2) fu) v3 μ = some res := hf
    unfold gX12_tellFighter_69 at hf
    refine tt_iload_n (pc := 69) (i := 3) (j := 3) E dX12_tellFighter_69 rfl rfl ?_
    refine tt_aload_n (pc := 70) (i := 0) (j := 0) E dX12_tellFighter_70 rfl rfl ?_
    refine tt_iload_n (pc := 71) (i := 1) (j := 1) E dX12_tellFighter_71 rfl rfl ?_
    refine tt_bipush (pc := 72) (v := 6) E dX12_tellFighter_72 bc_6 ?_
    obtain ⟨r_1, hr_2, hf⟩ := bd_some hf
    have hc_3 := cX12_of_ok (l := l) (B := B) (D := D) (cT := cT) (n := n) (adK := adK) (adV := adV) h0 hr_2
    refine tt_cI (pc := 74) (tt_vi E lmX12_192 mtX12_of hc_3 h0 rfl rfl (Nat.le_of_ble_eq_true rfl) ⟨(Nat.le_of_ble_eq_true rfl), (Nat.le_of_ble_eq_true rfl)⟩ ⟨(Nat.le_of_ble_eq_true rfl), (Nat.le_of_ble_eq_true rfl)⟩ dX12_tellFighter_74) ?_
    refine tt_icmp_ge (pc := 77) (tgt := 92) E dX12_tellFighter_77 rfl (fun c_18 => ?_) (fun c_18 => ?_)
    · have hf := ip c_18 hf
      refine tt_iload_n (pc := 92) (i := 1) (j := 1) E dX12_tellFighter_92 rfl rfl ?_
      refine tt_iload_n (pc := 93) (i := 2) (j := 2) E dX12_tellFighter_93 rfl rfl ?_
      refine tt_icmp_ne (pc := 94) (tgt := 103) E dX12_tellFighter_94 rfl (fun c_13 => ?_) (fun c_13 => ?_)
      · have hf := ine c_13 hf
        refine tt_aload_n (pc := 103) (i := 0) (j := 0) E dX12_tellFighter_103 rfl rfl ?_
        refine tt_bipush (pc := 104) (v := 10) E dX12_tellFighter_104 bc_10 ?_
        obtain ⟨r_4, hr_5, hf⟩ := bd_some hf
        have hc_6 := cX12_tell_ok (l := l) (B := B) (D := D) (cT := cT) (n := n) (adK := adK) (adV := adV) h0 hr_5
        refine tt_cV (pc := 106) (tt_vi E lmX12_523 mtX12_tell hc_6 h0 rfl rfl (Nat.le_of_ble_eq_true rfl) ⟨(Nat.le_of_ble_eq_true rfl), (Nat.le_of_ble_eq_true rfl)⟩ ⟨(Nat.le_of_ble_eq_true rfl), (Nat.le_of_ble_eq_true rfl)⟩ dX12_tellFighter_106) ?_
        exact tt_vret (pc := 109) E hr hlk dX12_tellFighter_109 (Nat.le_of_ble_eq_true rfl) (Nat.le_of_ble_eq_true rfl) hf
      · have hf := ip c_13 hf
        refine tt_aload_n (pc := 97) (i := 0) (j := 0) E dX12_tellFighter_97 rfl rfl ?_
        refine tt_bipush (pc := 98) (v := 42) E dX12_tellFighter_98 bc_42 ?_
        obtain ⟨r_7, hr_8, hf⟩ := bd_some hf
        have hc_9 := cX12_tell_ok (l := l) (B := B) (D := D) (cT := cT) (n := n) (adK := adK) (adV := adV) h0 hr_8
        refine tt_cV (pc := 100) (tt_vi E lmX12_523 mtX12_tell hc_9 h0 rfl rfl (Nat.le_of_ble_eq_true rfl) ⟨(Nat.le_of_ble_eq_true rfl), (Nat.le_of_ble_eq_true rfl)⟩ ⟨(Nat.le_of_ble_eq_true rfl), (Nat.le_of_ble_eq_true rfl)⟩ dX12_tellFighter_100) ?_
        refine tt_aload_n (pc := 103) (i := 0) (j := 0) E dX12_tellFighter_103 rfl rfl ?_
        refine tt_bipush (pc := 104) (v := 10) E dX12_tellFighter_104 bc_10 ?_
        obtain ⟨r_10, hr_11, hf⟩ := bd_some hf
        have hc_12 := cX12_tell_ok (l := l) (B := B) (D := D) (cT := cT) (n := n) (adK := adK) (adV := adV) h0 hr_11
        refine tt_cV (pc := 106) (tt_vi E lmX12_523 mtX12_tell hc_12 h0 rfl rfl (Nat.le_of_ble_eq_true rfl) ⟨(Nat.le_of_ble_eq_true rfl), (Nat.le_of_ble_eq_true rfl)⟩ ⟨(Nat.le_of_ble_eq_true rfl), (Nat.le_of_ble_eq_true rfl)⟩ dX12_tellFighter_106) ?_
        exact tt_vret (pc := 109) E hr hlk dX12_tellFighter_109 (Nat.le_of_ble_eq_true rfl) (Nat.le_of_ble_eq_true rfl) hf
    · have hf := ine c_18 hf
      refine tt_aload_n (pc := 80) (i := 0) (j := 0) E dX12_tellFighter_80 rfl rfl ?_
      refine tt_bipush (pc := 81) (v := 43) E dX12_tellFighter_81 bc_43 ?_
      obtain ⟨r_14, hr_15, hf⟩ := bd_some hf
      have hc_16 := cX12_tell_ok (l := l) (B := B) (D := D) (cT := cT) (n := n) (adK := adK) (adV := adV) h0 hr_15
      refine tt_cV (pc := 83) (tt_vi E lmX12_523 mtX12_tell hc_16 h0 rfl rfl (Nat.le_of_ble_eq_true rfl) ⟨(Nat.le_of_ble_eq_true rfl), (Nat.le_of_ble_eq_true rfl)⟩ ⟨(Nat.le_of_ble_eq_true rfl), (Nat.le_of_ble_eq_true rfl)⟩ dX12_tellFighter_83) ?_
      obtain ⟨v_17, ev_17, hf⟩ := nm_ex hf
      refine tt_iinc (pc := 86) (i := 3) (j := 3) (lv' := [(3, .int v_17), (0, .ref (B + o0)), (1, .int v1), (2, .int v2)]) E dX12_tellFighter_86 rfl (ev_17).symm (Nat.le_of_ble_eq_true rfl) rfl ?_
      refine tt_goto (pc := 89) (tgt := 69) E dX12_tellFighter_89 rfl ?_
      refine tt_sub [1, 2, 3, 0] (lv' := [(0, .ref (B + o0)), (1, .int v1), (2, .int v2), (3, .int v_17)]) rfl ?_
      exact ih v_17 r_14 hf
set_option maxHeartbeats 4000000 in
theorem tX12_tellFighter_2 {p : Program} {l : Launch} {e : Env} {s : State} {m : MethodId} {args : Array Value} {below : List Frame} {meth : Method} {c : Code} {B : Nat} {D : va_G} {cT : Nat → ClassId} {n : Nat} {adK adV : Nat → Nat} {res : Mem} (E : EE p s m args c cX12_tellFighter 4 RX12 B D cT (XW B adK adV)) (hr : meth.sig.returnType = none) (hlk : meth.locks = false) {o0 : Nat} {v1 : Int32} {v2 : Int32} (h0 : isK n o0 9) : ∀ (fu : Nat) (v3 : Int32) (μ : Mem), zl2 (gX12_tellFighter_2 o0 v1 v2) fu v3 μ = some res → TT p l e rmX12_tellFighter s m args below meth c (QV B D cT n below args s res) 4 B D cT n 0 0 μ 2 [(0, .ref (B + o0)), (1, .int v1), (2, .int v2), (3, .int v3)] [] := by
  intro fu
  induction fu with
  | zero => intro v3 μ hf; exact absurd hf (fun h => by cases h)
  | succ fu ih =>
    intro v3 μ hf
    have hf : gX12_tellFighter_2 o0 v1 v2 (zl2 (gX12_tellFighter_2 o0 v1 v2) fu) v3 μ = some res := hf
    unfold gX12_tellFighter_2 at hf
    refine tt_iload_n (pc := 2) (i := 3) (j := 3) E dX12_tellFighter_2 rfl rfl ?_
    refine tt_aload_n (pc := 3) (i := 0) (j := 0) E dX12_tellFighter_3 rfl rfl ?_
    obtain ⟨q_1, hq_2, hf⟩ := bd_some hf
    refine tt_getP (pc := 4) (t := 12) E lfX12_35 rfl rfl h0 dX12_tellFighter_4 hq_2 (fun kq_3 => ?_)
    refine tt_iload_n (pc := 7) (i := 1) (j := 1) E dX12_tellFighter_7 rfl rfl ?_
    obtain ⟨g_4, hf⟩ := gd_some hf
    refine tt_lald (pc := 8) E kq_3 g_4 dX12_tellFighter_8 ?_
    obtain ⟨r_5, hr_6, hf⟩ := bd_some hf
    have hc_7 := cX12_lettersOf_ok (l := l) (B := B) (D := D) (cT := cT) (n := n) (adK := adK) (adV := adV) hr_6
    refine tt_cI (pc := 9) (tt_si E lmX12_357 mtX12_lettersOf hc_7 rfl rfl (Nat.le_of_ble_eq_true rfl) ⟨(Nat.le_of_ble_eq_true rfl), (Nat.le_of_ble_eq_true rfl)⟩ ⟨(Nat.le_of_ble_eq_true rfl), (Nat.le_of_ble_eq_true rfl)⟩ dX12_tellFighter_9) ?_
    refine tt_icmp_ge (pc := 12) (tgt := 35) E dX12_tellFighter_12 rfl (fun c_37 => ?_) (fun c_37 => ?_)
    · have hf := ip c_37 hf
      refine tt_aload_n (pc := 35) (i := 0) (j := 0) E dX12_tellFighter_35 rfl rfl ?_
      refine tt_bipush (pc := 36) (v := 32) E dX12_tellFighter_36 bc_32 ?_
      obtain ⟨r_8, hr_9, hf⟩ := bd_some hf
      have hc_10 := cX12_tell_ok (l := l) (B := B) (D := D) (cT := cT) (n := n) (adK := adK) (adV := adV) h0 hr_9
      refine tt_cV (pc := 38) (tt_vi E lmX12_523 mtX12_tell hc_10 h0 rfl rfl (Nat.le_of_ble_eq_true rfl) ⟨(Nat.le_of_ble_eq_true rfl), (Nat.le_of_ble_eq_true rfl)⟩ ⟨(Nat.le_of_ble_eq_true rfl), (Nat.le_of_ble_eq_true rfl)⟩ dX12_tellFighter_38) ?_
      refine tt_aload_n (pc := 41) (i := 0) (j := 0) E dX12_tellFighter_41 rfl rfl ?_
      refine tt_aload_n (pc := 42) (i := 0) (j := 0) E dX12_tellFighter_42 rfl rfl ?_
      refine tt_iload_n (pc := 43) (i := 1) (j := 1) E dX12_tellFighter_43 rfl rfl ?_
      refine tt_iconst (pc := 44) (v := 2) E dX12_tellFighter_44 ic_2 ?_
      obtain ⟨r_11, hr_12, hf⟩ := bd_some hf
      have hc_13 := cX12_of_ok (l := l) (B := B) (D := D) (cT := cT) (n := n) (adK := adK) (adV := adV) h0 hr_12
      refine tt_cI (pc := 45) (tt_vi E lmX12_192 mtX12_of hc_13 h0 rfl rfl (Nat.le_of_ble_eq_true rfl) ⟨(Nat.le_of_ble_eq_true rfl), (Nat.le_of_ble_eq_true rfl)⟩ ⟨(Nat.le_of_ble_eq_true rfl), (Nat.le_of_ble_eq_true rfl)⟩ dX12_tellFighter_45) ?_
      obtain ⟨r_14, hr_15, hf⟩ := bd_some hf
      have hc_16 := cX12_tellNumber_ok (l := l) (B := B) (D := D) (cT := cT) (n := n) (adK := adK) (adV := adV) h0 hr_15
      refine tt_cV (pc := 48) (tt_vi E lmX12_526 mtX12_tellNumber hc_16 h0 rfl rfl (Nat.le_of_ble_eq_true rfl) ⟨(Nat.le_of_ble_eq_true rfl), (Nat.le_of_ble_eq_true rfl)⟩ ⟨(Nat.le_of_ble_eq_true rfl), (Nat.le_of_ble_eq_true rfl)⟩ dX12_tellFighter_48) ?_
      refine tt_aload_n (pc := 51) (i := 0) (j := 0) E dX12_tellFighter_51 rfl rfl ?_
      refine tt_bipush (pc := 52) (v := 47) E dX12_tellFighter_52 bc_47 ?_
      obtain ⟨r_17, hr_18, hf⟩ := bd_some hf
      have hc_19 := cX12_tell_ok (l := l) (B := B) (D := D) (cT := cT) (n := n) (adK := adK) (adV := adV) h0 hr_18
      refine tt_cV (pc := 54) (tt_vi E lmX12_523 mtX12_tell hc_19 h0 rfl rfl (Nat.le_of_ble_eq_true rfl) ⟨(Nat.le_of_ble_eq_true rfl), (Nat.le_of_ble_eq_true rfl)⟩ ⟨(Nat.le_of_ble_eq_true rfl), (Nat.le_of_ble_eq_true rfl)⟩ dX12_tellFighter_54) ?_
      refine tt_aload_n (pc := 57) (i := 0) (j := 0) E dX12_tellFighter_57 rfl rfl ?_
      refine tt_aload_n (pc := 58) (i := 0) (j := 0) E dX12_tellFighter_58 rfl rfl ?_
      refine tt_iload_n (pc := 59) (i := 1) (j := 1) E dX12_tellFighter_59 rfl rfl ?_
      refine tt_iconst (pc := 60) (v := 4) E dX12_tellFighter_60 ic_4 ?_
      obtain ⟨r_20, hr_21, hf⟩ := bd_some hf
      have hc_22 := cX12_of_ok (l := l) (B := B) (D := D) (cT := cT) (n := n) (adK := adK) (adV := adV) h0 hr_21
      refine tt_cI (pc := 61) (tt_vi E lmX12_192 mtX12_of hc_22 h0 rfl rfl (Nat.le_of_ble_eq_true rfl) ⟨(Nat.le_of_ble_eq_true rfl), (Nat.le_of_ble_eq_true rfl)⟩ ⟨(Nat.le_of_ble_eq_true rfl), (Nat.le_of_ble_eq_true rfl)⟩ dX12_tellFighter_61) ?_
      obtain ⟨r_23, hr_24, hf⟩ := bd_some hf
      have hc_25 := cX12_tellNumber_ok (l := l) (B := B) (D := D) (cT := cT) (n := n) (adK := adK) (adV := adV) h0 hr_24
      refine tt_cV (pc := 64) (tt_vi E lmX12_526 mtX12_tellNumber hc_25 h0 rfl rfl (Nat.le_of_ble_eq_true rfl) ⟨(Nat.le_of_ble_eq_true rfl), (Nat.le_of_ble_eq_true rfl)⟩ ⟨(Nat.le_of_ble_eq_true rfl), (Nat.le_of_ble_eq_true rfl)⟩ dX12_tellFighter_64) ?_
      refine tt_iconst (pc := 67) (v := 0) E dX12_tellFighter_67 ic_0 ?_
      refine tt_istore_n (pc := 68) (i := 3) (lv' := [(3, .int 0), (0, .ref (B + o0)), (1, .int v1), (2, .int v2)]) E dX12_tellFighter_68 rfl (Nat.le_of_ble_eq_true rfl) rfl ?_
      refine tt_sub [1, 2, 3, 0] (lv' := [(0, .ref (B + o0)), (1, .int v1), (2, .int v2), (3, .int 0)]) rfl ?_
      exact tX12_tellFighter_69 E hr hlk h0 FU 0 r_23 hf
    · have hf := ine c_37 hf
      refine tt_aload_n (pc := 15) (i := 0) (j := 0) E dX12_tellFighter_15 rfl rfl ?_
      refine tt_aload_n (pc := 16) (i := 0) (j := 0) E dX12_tellFighter_16 rfl rfl ?_
      obtain ⟨q_26, hq_27, hf⟩ := bd_some hf
      refine tt_getP (pc := 17) (t := 12) E lfX12_35 rfl rfl h0 dX12_tellFighter_17 hq_27 (fun kq_28 => ?_)
      refine tt_iload_n (pc := 20) (i := 1) (j := 1) E dX12_tellFighter_20 rfl rfl ?_
      obtain ⟨g_29, hf⟩ := gd_some hf
      refine tt_lald (pc := 21) E kq_28 g_29 dX12_tellFighter_21 ?_
      refine tt_iload_n (pc := 22) (i := 3) (j := 3) E dX12_tellFighter_22 rfl rfl ?_
      obtain ⟨r_30, hr_31, hf⟩ := bd_some hf
      have hc_32 := cX12_letterOf_ok (l := l) (B := B) (D := D) (cT := cT) (n := n) (adK := adK) (adV := adV) hr_31
      refine tt_cI (pc := 23) (tt_si E lmX12_363 mtX12_letterOf hc_32 rfl rfl (Nat.le_of_ble_eq_true rfl) ⟨(Nat.le_of_ble_eq_true rfl), (Nat.le_of_ble_eq_true rfl)⟩ ⟨(Nat.le_of_ble_eq_true rfl), (Nat.le_of_ble_eq_true rfl)⟩ dX12_tellFighter_23) ?_
      obtain ⟨r_33, hr_34, hf⟩ := bd_some hf
      have hc_35 := cX12_tell_ok (l := l) (B := B) (D := D) (cT := cT) (n := n) (adK := adK) (adV := adV) h0 hr_34
      refine tt_cV (pc := 26) (tt_vi E lmX12_523 mtX12_tell hc_35 h0 rfl rfl (Nat.le_of_ble_eq_true rfl) ⟨(Nat.le_of_ble_eq_true rfl), (Nat.le_of_ble_eq_true rfl)⟩ ⟨(Nat.le_of_ble_eq_true rfl), (Nat.le_of_ble_eq_true rfl)⟩ dX12_tellFighter_26) ?_
      obtain ⟨v_36, ev_36, hf⟩ := nm_ex hf
      refine tt_iinc (pc := 29) (i := 3) (j := 3) (lv' := [(3, .int v_36), (0, .ref (B + o0)), (1, .int v1), (2, .int v2)]) E dX12_tellFighter_29 rfl (ev_36).symm (Nat.le_of_ble_eq_true rfl) rfl ?_
      refine tt_goto (pc := 32) (tgt := 2) E dX12_tellFighter_32 rfl ?_
      refine tt_sub [1, 2, 3, 0] (lv' := [(0, .ref (B + o0)), (1, .int v1), (2, .int v2), (3, .int v_36)]) rfl ?_
      exact ih v_36 r_33 hf
set_option maxHeartbeats 4000000 in
theorem cX12_tellFighter_ok {l : Launch} {B : Nat} {D : va_G} {cT : Nat → ClassId} {n : Nat} {adK adV : Nat → Nat} {o0 : Nat} {v1 : Int32} {v2 : Int32} {μ : Mem} {res : Mem} (h0 : isK n o0 9) (hf : fX12_tellFighter o0 v1 v2 μ = some res) : MV l yX12_tellFighter cX12_tellFighter 4 (none) rmX12_tellFighter B D cT (XW B adK adV) n [.ref (B + o0), .int v1, .int v2] μ res := by
  refine tt_ofW mtX12_tellFighter.1 (Nat.le_of_ble_eq_true rfl) rfl ?_
  intro p e s m below meth c E0 hr hlk
  have E : EE p s m _ c cX12_tellFighter 4 RX12 B D cT (XW B adK adV) := E0
  unfold fX12_tellFighter at hf
  refine tt_iconst (pc := 0) (v := 0) E dX12_tellFighter_0 ic_0 ?_
  refine tt_istore_n (pc := 1) (i := 3) (lv' := [(3, .int 0), (0, .ref (B + o0)), (1, .int v1), (2, .int v2)]) E dX12_tellFighter_1 rfl (Nat.le_of_ble_eq_true rfl) rfl ?_
  refine tt_sub [1, 2, 3, 0] (lv' := [(0, .ref (B + o0)), (1, .int v1), (2, .int v2), (3, .int 0)]) rfl ?_
  exact tX12_tellFighter_2 E hr hlk h0 FU 0 μ hf
set_option maxHeartbeats 4000000 in
theorem tX12_report_22 {p : Program} {l : Launch} {e : Env} {s : State} {m : MethodId} {args : Array Value} {below : List Frame} {meth : Method} {c : Code} {B : Nat} {D : va_G} {cT : Nat → ClassId} {n : Nat} {adK adV : Nat → Nat} {res : Int32 × Mem} (E : EE p s m args c cX12_report 3 RX12 B D cT (XW B adK adV)) (hr : meth.sig.returnType = some .int) (hlk : meth.locks = false) {o0 : Nat} {v1 : Int32} (h0 : isK n o0 9) : ∀ (fu : Nat) (v2 : Int32) (μ : Mem), zl2 (gX12_report_22 o0 v1) fu v2 μ = some res → TT p l e rmX12_report s m args below meth c (QI B D cT n below args s res) 3 B D cT n 0 0 μ 22 [(0, .ref (B + o0)), (1, .int v1), (2, .int v2)] [] := by
  intro fu
  induction fu with
  | zero => intro v2 μ hf; exact absurd hf (fun h => by cases h)
  | succ fu ih =>
    intro v2 μ hf
    have hf : gX12_report_22 o0 v1 (zl2 (gX12_report_22 o0 v1) fu) v2 μ = some res := hf
    unfold gX12_report_22 at hf
    refine tt_iload_n (pc := 22) (i := 2) (j := 2) E dX12_report_22 rfl rfl ?_
    refine tt_aload_n (pc := 23) (i := 0) (j := 0) E dX12_report_23 rfl rfl ?_
    obtain ⟨q_1, hq_2, hf⟩ := bd_some hf
    refine tt_getP (pc := 24) (t := 11) E lfX12_20 rfl rfl h0 dX12_report_24 hq_2 (fun kq_3 => ?_)
    refine tt_iconst (pc := 27) (v := 0) E dX12_report_27 ic_0 ?_
    obtain ⟨g_4, hf⟩ := gd_some hf
    refine tt_iald (pc := 28) E kq_3 g_4 dX12_report_28 ?_
    refine tt_icmp_ge (pc := 29) (tgt := 44) E dX12_report_29 rfl (fun c_9 => ?_) (fun c_9 => ?_)
    · have hf := ip c_9 hf
      refine tt_aload_n (pc := 44) (i := 0) (j := 0) E dX12_report_44 rfl rfl ?_
      refine tt_getI (pc := 45) E lfX12_520 rfl h0 dX12_report_45 ?_
      exact tt_iret (pc := 48) E hr hlk dX12_report_48 (Nat.le_of_ble_eq_true rfl) (Nat.le_of_ble_eq_true rfl) hf
    · have hf := ine c_9 hf
      refine tt_aload_n (pc := 32) (i := 0) (j := 0) E dX12_report_32 rfl rfl ?_
      refine tt_iload_n (pc := 33) (i := 2) (j := 2) E dX12_report_33 rfl rfl ?_
      refine tt_iload_n (pc := 34) (i := 1) (j := 1) E dX12_report_34 rfl rfl ?_
      obtain ⟨r_5, hr_6, hf⟩ := bd_some hf
      have hc_7 := cX12_tellFighter_ok (l := l) (B := B) (D := D) (cT := cT) (n := n) (adK := adK) (adV := adV) h0 hr_6
      refine tt_cV (pc := 35) (tt_vi E lmX12_535 mtX12_tellFighter hc_7 h0 rfl rfl (Nat.le_of_ble_eq_true rfl) ⟨(Nat.le_of_ble_eq_true rfl), (Nat.le_of_ble_eq_true rfl)⟩ ⟨(Nat.le_of_ble_eq_true rfl), (Nat.le_of_ble_eq_true rfl)⟩ dX12_report_35) ?_
      obtain ⟨v_8, ev_8, hf⟩ := nm_ex hf
      refine tt_iinc (pc := 38) (i := 2) (j := 2) (lv' := [(2, .int v_8), (0, .ref (B + o0)), (1, .int v1)]) E dX12_report_38 rfl (ev_8).symm (Nat.le_of_ble_eq_true rfl) rfl ?_
      refine tt_goto (pc := 41) (tgt := 22) E dX12_report_41 rfl ?_
      refine tt_sub [1, 2, 0] (lv' := [(0, .ref (B + o0)), (1, .int v1), (2, .int v_8)]) rfl ?_
      exact ih v_8 r_5 hf
set_option maxHeartbeats 4000000 in
theorem cX12_report_ok {l : Launch} {B : Nat} {D : va_G} {cT : Nat → ClassId} {n : Nat} {adK adV : Nat → Nat} {o0 : Nat} {μ : Mem} {res : Int32 × Mem} (h0 : isK n o0 9) (hf : fX12_report o0 μ = some res) : MI l yX12_report cX12_report 3 (some .int) rmX12_report B D cT (XW B adK adV) n [.ref (B + o0)] μ res := by
  refine tt_ofW mtX12_report.1 (Nat.le_of_ble_eq_true rfl) rfl ?_
  intro p e s m below meth c E0 hr hlk
  have E : EE p s m _ c cX12_report 3 RX12 B D cT (XW B adK adV) := E0
  unfold fX12_report at hf
  refine tt_aload_n (pc := 0) (i := 0) (j := 0) E dX12_report_0 rfl rfl ?_
  refine tt_iconst (pc := 1) (v := 0) E dX12_report_1 ic_0 ?_
  refine tt_putI (pc := 2) E lfX12_75 rfl h0 dX12_report_2 (tt_nmM hf (fun m_1 hf => ?_))
  refine tt_aload_n (pc := 5) (i := 0) (j := 0) E dX12_report_5 rfl rfl ?_
  refine tt_iconst (pc := 6) (v := 0) E dX12_report_6 ic_0 ?_
  refine tt_putI (pc := 7) E lfX12_520 rfl h0 dX12_report_7 (tt_nmM hf (fun m_2 hf => ?_))
  refine tt_aload_n (pc := 10) (i := 0) (j := 0) E dX12_report_10 rfl rfl ?_
  refine tt_iconst (pc := 11) (v := 1) E dX12_report_11 ic_1 ?_
  refine tt_putZ (pc := 12) E ((Or.inr rfl)) lfX12_529 rfl h0 dX12_report_12 (tt_nmM hf (fun m_3 hf => ?_))
  refine tt_aload_n (pc := 15) (i := 0) (j := 0) E dX12_report_15 rfl rfl ?_
  obtain ⟨r_4, hr_5, hf⟩ := bd_some hf
  have hc_6 := cX12_nextTurn_ok (l := l) (B := B) (D := D) (cT := cT) (n := n) (adK := adK) (adV := adV) h0 hr_5
  refine tt_cI (pc := 16) (tt_vi E lmX12_532 mtX12_nextTurn hc_6 h0 rfl rfl (Nat.le_of_ble_eq_true rfl) ⟨(Nat.le_of_ble_eq_true rfl), (Nat.le_of_ble_eq_true rfl)⟩ ⟨(Nat.le_of_ble_eq_true rfl), (Nat.le_of_ble_eq_true rfl)⟩ dX12_report_16) ?_
  refine tt_istore_n (pc := 19) (i := 1) (lv' := [(1, .int r_4.1), (0, .ref (B + o0))]) E dX12_report_19 rfl (Nat.le_of_ble_eq_true rfl) rfl ?_
  refine tt_iconst (pc := 20) (v := 0) E dX12_report_20 ic_0 ?_
  refine tt_istore_n (pc := 21) (i := 2) (lv' := [(2, .int 0), (1, .int r_4.1), (0, .ref (B + o0))]) E dX12_report_21 rfl (Nat.le_of_ble_eq_true rfl) rfl ?_
  refine tt_sub [2, 1, 0] (lv' := [(0, .ref (B + o0)), (1, .int r_4.1), (2, .int 0)]) rfl ?_
  exact tX12_report_22 E hr hlk h0 FU 0 r_4.2 hf
