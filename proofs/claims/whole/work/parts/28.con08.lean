/-! contracts -/
set_option maxHeartbeats 4000000 in
theorem tX12_reportByte_29 {p : Program} {l : Launch} {e : Env} {s : State} {m : MethodId} {args : Array Value} {below : List Frame} {meth : Method} {c : Code} {B : Nat} {D : va_G} {cT : Nat → ClassId} {n : Nat} {adK adV : Nat → Nat} {res : Int32 × Mem} (E : EE p s m args c cX12_reportByte 2 RX12 B D cT (XW B adK adV)) (hr : meth.sig.returnType = some .int) (hlk : meth.locks = false) {o0 : Nat} {v1 : Int32} {ot0 : Nat} {vt1 : Int32} (h0 : isK n o0 9) (ht0 : isK n ot0 9) (ht1 : zb vt1) {μ : Mem} (hf : fX12_reportByte_29 o0 v1 ot0 vt1 μ = some res) : TT p l e rmX12_reportByte s m args below meth c (QI B D cT n below args s res) 2 B D cT n 0 0 μ 29 [(0, .ref (B + o0)), (1, .int v1)] [.int vt1, .ref (B + ot0)] := by
  unfold fX12_reportByte_29 at hf
  obtain ⟨r_1, hr_2, hf⟩ := bd_some hf
  have hc_3 := cX12_goes_ok (l := l) (B := B) (D := D) (cT := cT) (n := n) (adK := adK) (adV := adV) ht0 ht1 hr_2
  refine tt_cZ (pc := 29) (tt_vi E lmX12_85 mtX12_goes hc_3 ht0 rfl rfl (Nat.le_of_ble_eq_true rfl) ⟨(Nat.le_of_ble_eq_true rfl), (Nat.le_of_ble_eq_true rfl)⟩ ⟨(Nat.le_of_ble_eq_true rfl), (Nat.le_of_ble_eq_true rfl)⟩ dX12_reportByte_29) (fun z_4 => ?_)
  refine tt_if_eq (pc := 32) (tgt := 44) E dX12_reportByte_32 rfl (fun c_9 => ?_) (fun c_9 => ?_)
  · have hf := ip c_9 hf
    refine tt_iconst (pc := 44) (v := 0) E dX12_reportByte_44 ic_0 ?_
    exact tt_iret (pc := 45) E hr hlk dX12_reportByte_45 (Nat.le_of_ble_eq_true rfl) (Nat.le_of_ble_eq_true rfl) hf
  · have hf := ine c_9 hf
    refine tt_aload_n (pc := 35) (i := 0) (j := 0) E dX12_reportByte_35 rfl rfl ?_
    obtain ⟨q_5, hq_6, hf⟩ := bd_some hf
    refine tt_getP (pc := 36) (t := 11) E lfX12_69 rfl rfl h0 dX12_reportByte_36 hq_6 (fun kq_7 => ?_)
    refine tt_iload_n (pc := 39) (i := 1) (j := 1) E dX12_reportByte_39 rfl rfl ?_
    obtain ⟨g_8, hf⟩ := gd_some hf
    refine tt_iald (pc := 40) E kq_7 g_8 dX12_reportByte_40 ?_
    refine tt_goto (pc := 41) (tgt := 45) E dX12_reportByte_41 rfl ?_
    exact tt_iret (pc := 45) E hr hlk dX12_reportByte_45 (Nat.le_of_ble_eq_true rfl) (Nat.le_of_ble_eq_true rfl) hf
set_option maxHeartbeats 4000000 in
theorem tX12_reportByte_28 {p : Program} {l : Launch} {e : Env} {s : State} {m : MethodId} {args : Array Value} {below : List Frame} {meth : Method} {c : Code} {B : Nat} {D : va_G} {cT : Nat → ClassId} {n : Nat} {adK adV : Nat → Nat} {res : Int32 × Mem} (E : EE p s m args c cX12_reportByte 2 RX12 B D cT (XW B adK adV)) (hr : meth.sig.returnType = some .int) (hlk : meth.locks = false) {o0 : Nat} {v1 : Int32} {ot0 : Nat} (h0 : isK n o0 9) (ht0 : isK n ot0 9) {μ : Mem} (hf : fX12_reportByte_28 o0 v1 ot0 μ = some res) : TT p l e rmX12_reportByte s m args below meth c (QI B D cT n below args s res) 2 B D cT n 0 0 μ 28 [(0, .ref (B + o0)), (1, .int v1)] [.ref (B + ot0)] := by
  unfold fX12_reportByte_28 at hf
  refine tt_iconst (pc := 28) (v := 0) E dX12_reportByte_28 ic_0 ?_
  exact tX12_reportByte_29 E hr hlk h0 ht0 ((Or.inl rfl)) hf
set_option maxHeartbeats 4000000 in
theorem cX12_reportByte_ok {l : Launch} {B : Nat} {D : va_G} {cT : Nat → ClassId} {n : Nat} {adK adV : Nat → Nat} {o0 : Nat} {v1 : Int32} {μ : Mem} {res : Int32 × Mem} (h0 : isK n o0 9) (hf : fX12_reportByte o0 v1 μ = some res) : MI l yX12_reportByte cX12_reportByte 2 (some .int) rmX12_reportByte B D cT (XW B adK adV) n [.ref (B + o0), .int v1] μ res := by
  refine tt_ofW mtX12_reportByte.1 (Nat.le_of_ble_eq_true rfl) rfl ?_
  intro p e s m below meth c E0 hr hlk
  have E : EE p s m _ c cX12_reportByte 2 RX12 B D cT (XW B adK adV) := E0
  unfold fX12_reportByte at hf
  refine tt_aload_n (pc := 0) (i := 0) (j := 0) E dX12_reportByte_0 rfl rfl ?_
  refine tt_aload_n (pc := 1) (i := 0) (j := 0) E dX12_reportByte_1 rfl rfl ?_
  refine tt_getZ (pc := 2) E lfX12_529 rfl h0 dX12_reportByte_2 (fun z_1 => ?_)
  refine tt_if_eq (pc := 5) (tgt := 28) E dX12_reportByte_5 rfl (fun c_7 => ?_) (fun c_7 => ?_)
  · have hf := ip c_7 hf
    exact tX12_reportByte_28 E hr hlk h0 h0 hf
  · have hf := ine c_7 hf
    refine tt_iload_n (pc := 8) (i := 1) (j := 1) E dX12_reportByte_8 rfl rfl ?_
    refine tt_i2l (pc := 9) E dX12_reportByte_9 ?_
    refine tt_lconst (pc := 10) (v := 0) E dX12_reportByte_10 lc_0 ?_
    refine tt_aload_n (pc := 11) (i := 0) (j := 0) E dX12_reportByte_11 rfl rfl ?_
    refine tt_getI (pc := 12) E lfX12_520 rfl h0 dX12_reportByte_12 ?_
    refine tt_iconst (pc := 15) (v := 1) E dX12_reportByte_15 ic_1 ?_
    refine tt_isub (pc := 16) E dX12_reportByte_16 ?_
    refine tt_i2l (pc := 17) E dX12_reportByte_17 ?_
    obtain ⟨r_2, hr_3, hf⟩ := bd_some hf
    have hc_4 := cX12_isIn_ok (l := l) (B := B) (D := D) (cT := cT) (n := n) (adK := adK) (adV := adV) hr_3
    refine tt_cZ (pc := 18) (tt_si E lmX12_92 mtX12_isIn hc_4 rfl rfl (Nat.le_of_ble_eq_true rfl) ⟨(Nat.le_of_ble_eq_true rfl), (Nat.le_of_ble_eq_true rfl)⟩ ⟨(Nat.le_of_ble_eq_true rfl), (Nat.le_of_ble_eq_true rfl)⟩ dX12_reportByte_18) (fun z_5 => ?_)
    refine tt_if_eq (pc := 21) (tgt := 28) E dX12_reportByte_21 rfl (fun c_6 => ?_) (fun c_6 => ?_)
    · have hf := ip c_6 hf
      exact tX12_reportByte_28 E hr hlk h0 h0 hf
    · have hf := ine c_6 hf
      refine tt_iconst (pc := 24) (v := 1) E dX12_reportByte_24 ic_1 ?_
      refine tt_goto (pc := 25) (tgt := 29) E dX12_reportByte_25 rfl ?_
      exact tX12_reportByte_29 E hr hlk h0 h0 ((Or.inr rfl)) hf
