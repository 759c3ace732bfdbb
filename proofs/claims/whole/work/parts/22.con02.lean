/-! contracts -/
set_option maxHeartbeats 4000000 in
theorem tX9_readWord_79 {p : Program} {l : Launch} {e : Env} {s : State} {m : MethodId} {args : Array Value} {below : List Frame} {meth : Method} {c : Code} {B : Nat} {D : va_G} {cT : Nat → ClassId} {n : Nat} {adK adV : Nat → Nat} {res : Mem} (E : EE p s m args c cX9_readWord 2 RX9 B D cT (XW B adK adV)) (hr : meth.sig.returnType = none) (hlk : meth.locks = false) {o0 : Nat} (h0 : isK n o0 7) : ∀ (fu : Nat) (v1 : Int32) (μ : Mem), zl2 (gX9_readWord_79 o0) fu v1 μ = some res → TT p l e rmX9_readWord s m args below meth c (QV B D cT n below args s res) 2 B D cT n 0 0 μ 79 [(0, .ref (B + o0)), (1, .int v1)] [] := by
  intro fu
  induction fu with
  | zero => intro v1 μ hf; exact absurd hf (fun h => by cases h)
  | succ fu ih =>
    intro v1 μ hf
    have hf : gX9_readWord_79 o0 (zl2 (gX9_readWord_79 o0) fu) v1 μ = some res := hf
    unfold gX9_readWord_79 at hf
    refine tt_iload_n (pc := 79) (i := 1) (j := 1) E dX9_readWord_79 rfl rfl ?_
    refine tt_aload_n (pc := 80) (i := 0) (j := 0) E dX9_readWord_80 rfl rfl ?_
    refine tt_getI (pc := 81) E lfX9_28 rfl h0 dX9_readWord_81 ?_
    refine tt_bipush (pc := 84) (v := 8) E dX9_readWord_84 bc_8 ?_
    refine tt_iadd (pc := 86) E dX9_readWord_86 ?_
    refine tt_icmp_ge (pc := 87) (tgt := 126) E dX9_readWord_87 rfl (fun c_9 => ?_) (fun c_9 => ?_)
    · have hf := ip c_9 hf
      exact tt_vret (pc := 126) E hr hlk dX9_readWord_126 (Nat.le_of_ble_eq_true rfl) (Nat.le_of_ble_eq_true rfl) hf
    · have hf := ine c_9 hf
      refine tt_aload_n (pc := 90) (i := 0) (j := 0) E dX9_readWord_90 rfl rfl ?_
      refine tt_aload_n (pc := 91) (i := 0) (j := 0) E dX9_readWord_91 rfl rfl ?_
      refine tt_getJ (pc := 92) E lfX9_37 rfl h0 dX9_readWord_92 ?_
      refine tt_bipush (pc := 95) (v := 8) E dX9_readWord_95 bc_8 ?_
      refine tt_lshl (pc := 97) E dX9_readWord_97 ?_
      refine tt_iload_n (pc := 98) (i := 1) (j := 1) E dX9_readWord_98 rfl rfl ?_
      refine tt_aload_n (pc := 99) (i := 0) (j := 0) E dX9_readWord_99 rfl rfl ?_
      refine tt_getI (pc := 100) E lfX9_31 rfl h0 dX9_readWord_100 ?_
      refine tt_icmp_ge (pc := 103) (tgt := 114) E dX9_readWord_103 rfl (fun c_8 => ?_) (fun c_8 => ?_)
      · have hf := ip c_8 hf
        refine tt_iconst (pc := 114) (v := 0) E dX9_readWord_114 ic_0 ?_
        refine tt_i2l (pc := 115) E dX9_readWord_115 ?_
        refine tt_lor (pc := 116) E dX9_readWord_116 ?_
        refine tt_putJ (pc := 117) E lfX9_37 rfl h0 dX9_readWord_117 (tt_nmM hf (fun m_1 hf => ?_))
        obtain ⟨v_2, ev_2, hf⟩ := nm_ex hf
        refine tt_iinc (pc := 120) (i := 1) (j := 1) (lv' := [(1, .int v_2), (0, .ref (B + o0))]) E dX9_readWord_120 rfl (ev_2).symm (Nat.le_of_ble_eq_true rfl) rfl ?_
        refine tt_goto (pc := 123) (tgt := 79) E dX9_readWord_123 rfl ?_
        refine tt_sub [1, 0] (lv' := [(0, .ref (B + o0)), (1, .int v_2)]) rfl ?_
        exact ih v_2 m_1 hf
      · have hf := ine c_8 hf
        refine tt_aload_n (pc := 106) (i := 0) (j := 0) E dX9_readWord_106 rfl rfl ?_
        refine tt_iload_n (pc := 107) (i := 1) (j := 1) E dX9_readWord_107 rfl rfl ?_
        obtain ⟨r_3, hr_4, hf⟩ := bd_some hf
        have hc_5 := cX9_byteAt_ok (l := l) (B := B) (D := D) (cT := cT) (n := n) (adK := adK) (adV := adV) h0 hr_4
        refine tt_cI (pc := 108) (tt_vi E lmX9_57 mtX9_byteAt hc_5 h0 rfl rfl (Nat.le_of_ble_eq_true rfl) ⟨(Nat.le_of_ble_eq_true rfl), (Nat.le_of_ble_eq_true rfl)⟩ ⟨(Nat.le_of_ble_eq_true rfl), (Nat.le_of_ble_eq_true rfl)⟩ dX9_readWord_108) ?_
        refine tt_goto (pc := 111) (tgt := 115) E dX9_readWord_111 rfl ?_
        refine tt_i2l (pc := 115) E dX9_readWord_115 ?_
        refine tt_lor (pc := 116) E dX9_readWord_116 ?_
        refine tt_putJ (pc := 117) E lfX9_37 rfl h0 dX9_readWord_117 (tt_nmM hf (fun m_6 hf => ?_))
        obtain ⟨v_7, ev_7, hf⟩ := nm_ex hf
        refine tt_iinc (pc := 120) (i := 1) (j := 1) (lv' := [(1, .int v_7), (0, .ref (B + o0))]) E dX9_readWord_120 rfl (ev_7).symm (Nat.le_of_ble_eq_true rfl) rfl ?_
        refine tt_goto (pc := 123) (tgt := 79) E dX9_readWord_123 rfl ?_
        refine tt_sub [1, 0] (lv' := [(0, .ref (B + o0)), (1, .int v_7)]) rfl ?_
        exact ih v_7 m_6 hf
set_option maxHeartbeats 4000000 in
theorem tX9_readWord_66 {p : Program} {l : Launch} {e : Env} {s : State} {m : MethodId} {args : Array Value} {below : List Frame} {meth : Method} {c : Code} {B : Nat} {D : va_G} {cT : Nat → ClassId} {n : Nat} {adK adV : Nat → Nat} {res : Mem} (E : EE p s m args c cX9_readWord 2 RX9 B D cT (XW B adK adV)) (hr : meth.sig.returnType = none) (hlk : meth.locks = false) {o0 : Nat} {ot0 : Nat} {vt1 : Int32} (h0 : isK n o0 7) (ht0 : isK n ot0 7) {μ : Mem} (hf : fX9_readWord_66 o0 ot0 vt1 μ = some res) : TT p l e rmX9_readWord s m args below meth c (QV B D cT n below args s res) 2 B D cT n 0 0 μ 66 [(0, .ref (B + o0))] [.int vt1, .ref (B + ot0)] := by
  unfold fX9_readWord_66 at hf
  refine tt_putI (pc := 66) E lfX9_34 rfl ht0 dX9_readWord_66 (tt_nmM hf (fun m_1 hf => ?_))
  refine tt_aload_n (pc := 69) (i := 0) (j := 0) E dX9_readWord_69 rfl rfl ?_
  refine tt_lconst (pc := 70) (v := 0) E dX9_readWord_70 lc_0 ?_
  refine tt_putJ (pc := 71) E lfX9_37 rfl h0 dX9_readWord_71 (tt_nmM hf (fun m_2 hf => ?_))
  refine tt_aload_n (pc := 74) (i := 0) (j := 0) E dX9_readWord_74 rfl rfl ?_
  refine tt_getI (pc := 75) E lfX9_28 rfl h0 dX9_readWord_75 ?_
  refine tt_nmI hf (fun v_3 hf => ?_)
  refine tt_istore_n (pc := 78) (i := 1) (lv' := [(1, .int v_3), (0, .ref (B + o0))]) E dX9_readWord_78 rfl (Nat.le_of_ble_eq_true rfl) rfl ?_
  refine tt_sub [1, 0] (lv' := [(0, .ref (B + o0)), (1, .int v_3)]) rfl ?_
  exact tX9_readWord_79 E hr hlk h0 FU v_3 m_2 hf
set_option maxHeartbeats 4000000 in
theorem tX9_readWord_46 {p : Program} {l : Launch} {e : Env} {s : State} {m : MethodId} {args : Array Value} {below : List Frame} {meth : Method} {c : Code} {B : Nat} {D : va_G} {cT : Nat → ClassId} {n : Nat} {adK adV : Nat → Nat} {res : Mem} (E : EE p s m args c cX9_readWord 2 RX9 B D cT (XW B adK adV)) (hr : meth.sig.returnType = none) (hlk : meth.locks = false) {o0 : Nat} (h0 : isK n o0 7) {μ : Mem} (hf : fX9_readWord_46 o0 μ = some res) : TT p l e rmX9_readWord s m args below meth c (QV B D cT n below args s res) 2 B D cT n 0 0 μ 46 [(0, .ref (B + o0))] [] := by
  unfold fX9_readWord_46 at hf
  refine tt_aload_n (pc := 46) (i := 0) (j := 0) E dX9_readWord_46 rfl rfl ?_
  refine tt_aload_n (pc := 47) (i := 0) (j := 0) E dX9_readWord_47 rfl rfl ?_
  refine tt_getI (pc := 48) E lfX9_31 rfl h0 dX9_readWord_48 ?_
  refine tt_aload_n (pc := 51) (i := 0) (j := 0) E dX9_readWord_51 rfl rfl ?_
  refine tt_getI (pc := 52) E lfX9_28 rfl h0 dX9_readWord_52 ?_
  refine tt_isub (pc := 55) E dX9_readWord_55 ?_
  refine tt_bipush (pc := 56) (v := 8) E dX9_readWord_56 bc_8 ?_
  refine tt_icmp_gt (pc := 58) (tgt := 65) E dX9_readWord_58 rfl (fun c_1 => ?_) (fun c_1 => ?_)
  · have hf := ip c_1 hf
    refine tt_iconst (pc := 65) (v := 4) E dX9_readWord_65 ic_4 ?_
    exact tX9_readWord_66 E hr hlk h0 h0 hf
  · have hf := ine c_1 hf
    refine tt_iconst (pc := 61) (v := 1) E dX9_readWord_61 ic_1 ?_
    refine tt_goto (pc := 62) (tgt := 66) E dX9_readWord_62 rfl ?_
    exact tX9_readWord_66 E hr hlk h0 h0 hf
set_option maxHeartbeats 4000000 in
theorem tX9_readWord_8 {p : Program} {l : Launch} {e : Env} {s : State} {m : MethodId} {args : Array Value} {below : List Frame} {meth : Method} {c : Code} {B : Nat} {D : va_G} {cT : Nat → ClassId} {n : Nat} {adK adV : Nat → Nat} {res : Mem} (E : EE p s m args c cX9_readWord 2 RX9 B D cT (XW B adK adV)) (hr : meth.sig.returnType = none) (hlk : meth.locks = false) {o0 : Nat} (h0 : isK n o0 7) : ∀ (fu : Nat) (μ : Mem), zl1 (gX9_readWord_8 o0) fu μ = some res → TT p l e rmX9_readWord s m args below meth c (QV B D cT n below args s res) 2 B D cT n 0 0 μ 8 [(0, .ref (B + o0))] [] := by
  intro fu
  induction fu with
  | zero => intro μ hf; exact absurd hf (fun h => by cases h)
  | succ fu ih =>
    intro μ hf
    have hf : gX9_readWord_8 o0 (zl1 (gX9_readWord_8 o0) fu) μ = some res := hf
    unfold gX9_readWord_8 at hf
    refine tt_aload_n (pc := 8) (i := 0) (j := 0) E dX9_readWord_8 rfl rfl ?_
    refine tt_getI (pc := 9) E lfX9_31 rfl h0 dX9_readWord_9 ?_
    refine tt_aload_n (pc := 12) (i := 0) (j := 0) E dX9_readWord_12 rfl rfl ?_
    refine tt_getI (pc := 13) E lfX9_25 rfl h0 dX9_readWord_13 ?_
    refine tt_icmp_ge (pc := 16) (tgt := 46) E dX9_readWord_16 rfl (fun c_10 => ?_) (fun c_10 => ?_)
    · have hf := ip c_10 hf
      exact tX9_readWord_46 E hr hlk h0 hf
    · have hf := ine c_10 hf
      refine tt_aload_n (pc := 19) (i := 0) (j := 0) E dX9_readWord_19 rfl rfl ?_
      refine tt_aload_n (pc := 20) (i := 0) (j := 0) E dX9_readWord_20 rfl rfl ?_
      refine tt_getI (pc := 21) E lfX9_31 rfl h0 dX9_readWord_21 ?_
      obtain ⟨r_1, hr_2, hf⟩ := bd_some hf
      have hc_3 := cX9_byteAt_ok (l := l) (B := B) (D := D) (cT := cT) (n := n) (adK := adK) (adV := adV) h0 hr_2
      refine tt_cI (pc := 24) (tt_vi E lmX9_57 mtX9_byteAt hc_3 h0 rfl rfl (Nat.le_of_ble_eq_true rfl) ⟨(Nat.le_of_ble_eq_true rfl), (Nat.le_of_ble_eq_true rfl)⟩ ⟨(Nat.le_of_ble_eq_true rfl), (Nat.le_of_ble_eq_true rfl)⟩ dX9_readWord_24) ?_
      obtain ⟨r_4, hr_5, hf⟩ := bd_some hf
      have hc_6 := cX9_isLetter_ok (l := l) (B := B) (D := D) (cT := cT) (n := n) (adK := adK) (adV := adV) hr_5
      refine tt_cZ (pc := 27) (tt_si E lmX9_61 mtX9_isLetter hc_6 rfl rfl (Nat.le_of_ble_eq_true rfl) ⟨(Nat.le_of_ble_eq_true rfl), (Nat.le_of_ble_eq_true rfl)⟩ ⟨(Nat.le_of_ble_eq_true rfl), (Nat.le_of_ble_eq_true rfl)⟩ dX9_readWord_27) (fun z_7 => ?_)
      refine tt_if_eq (pc := 30) (tgt := 46) E dX9_readWord_30 rfl (fun c_9 => ?_) (fun c_9 => ?_)
      · have hf := ip c_9 hf
        exact tX9_readWord_46 E hr hlk h0 hf
      · have hf := ine c_9 hf
        refine tt_aload_n (pc := 33) (i := 0) (j := 0) E dX9_readWord_33 rfl rfl ?_
        refine tt_dup (pc := 34) E dX9_readWord_34 rfl ?_
        refine tt_getI (pc := 35) E lfX9_31 rfl h0 dX9_readWord_35 ?_
        refine tt_iconst (pc := 38) (v := 1) E dX9_readWord_38 ic_1 ?_
        refine tt_iadd (pc := 39) E dX9_readWord_39 ?_
        refine tt_putI (pc := 40) E lfX9_31 rfl h0 dX9_readWord_40 (tt_nmM hf (fun m_8 hf => ?_))
        refine tt_goto (pc := 43) (tgt := 8) E dX9_readWord_43 rfl ?_
        exact ih m_8 hf
set_option maxHeartbeats 4000000 in
theorem cX9_readWord_ok {l : Launch} {B : Nat} {D : va_G} {cT : Nat → ClassId} {n : Nat} {adK adV : Nat → Nat} {o0 : Nat} {μ : Mem} {res : Mem} (h0 : isK n o0 7) (hf : fX9_readWord o0 μ = some res) : MV l yX9_readWord cX9_readWord 2 (none) rmX9_readWord B D cT (XW B adK adV) n [.ref (B + o0)] μ res := by
  refine tt_ofW mtX9_readWord.1 (Nat.le_of_ble_eq_true rfl) rfl ?_
  intro p e s m below meth c E0 hr hlk
  have E : EE p s m _ c cX9_readWord 2 RX9 B D cT (XW B adK adV) := E0
  unfold fX9_readWord at hf
  refine tt_aload_n (pc := 0) (i := 0) (j := 0) E dX9_readWord_0 rfl rfl ?_
  refine tt_aload_n (pc := 1) (i := 0) (j := 0) E dX9_readWord_1 rfl rfl ?_
  refine tt_getI (pc := 2) E lfX9_28 rfl h0 dX9_readWord_2 ?_
  refine tt_putI (pc := 5) E lfX9_31 rfl h0 dX9_readWord_5 (tt_nmM hf (fun m_1 hf => ?_))
  exact tX9_readWord_8 E hr hlk h0 FU m_1 hf
set_option maxHeartbeats 4000000 in
theorem cX9_isDigit_ok {l : Launch} {B : Nat} {D : va_G} {cT : Nat → ClassId} {n : Nat} {adK adV : Nat → Nat} {v0 : Int32} {μ : Mem} {res : Int32} (hf : fX9_isDigit v0 μ = some res) : MZ l yX9_isDigit cX9_isDigit 1 (some .boolean) rmX9_isDigit B D cT (XW B adK adV) n [.int v0] μ (res, μ) := by
  refine tt_ofW mtX9_isDigit.1 (Nat.le_of_ble_eq_true rfl) rfl ?_
  intro p e s m below meth c E0 hr hlk
  have E : EE p s m _ c cX9_isDigit 1 RX9 B D cT (XW B adK adV) := E0
  unfold fX9_isDigit at hf
  refine tt_iload_n (pc := 0) (i := 0) (j := 0) E dX9_isDigit_0 rfl rfl ?_
  refine tt_bipush (pc := 1) (v := 48) E dX9_isDigit_1 bc_48 ?_
  refine tt_icmp_lt (pc := 3) (tgt := 16) E dX9_isDigit_3 rfl (fun c_2 => ?_) (fun c_2 => ?_)
  · have hf := ip c_2 hf
    refine tt_iconst (pc := 16) (v := 0) E dX9_isDigit_16 ic_0 ?_
    exact tt_zret (pc := 17) E ((Or.inl rfl)) hr hlk dX9_isDigit_17 (Nat.le_of_ble_eq_true rfl) (Nat.le_of_ble_eq_true rfl) (pv hf)
  · have hf := ine c_2 hf
    refine tt_iload_n (pc := 6) (i := 0) (j := 0) E dX9_isDigit_6 rfl rfl ?_
    refine tt_bipush (pc := 7) (v := 57) E dX9_isDigit_7 bc_57 ?_
    refine tt_icmp_gt (pc := 9) (tgt := 16) E dX9_isDigit_9 rfl (fun c_1 => ?_) (fun c_1 => ?_)
    · have hf := ip c_1 hf
      refine tt_iconst (pc := 16) (v := 0) E dX9_isDigit_16 ic_0 ?_
      exact tt_zret (pc := 17) E ((Or.inl rfl)) hr hlk dX9_isDigit_17 (Nat.le_of_ble_eq_true rfl) (Nat.le_of_ble_eq_true rfl) (pv hf)
    · have hf := ine c_1 hf
      refine tt_iconst (pc := 12) (v := 1) E dX9_isDigit_12 ic_1 ?_
      refine tt_goto (pc := 13) (tgt := 17) E dX9_isDigit_13 rfl ?_
      exact tt_zret (pc := 17) E ((Or.inr rfl)) hr hlk dX9_isDigit_17 (Nat.le_of_ble_eq_true rfl) (Nat.le_of_ble_eq_true rfl) (pv hf)
set_option maxHeartbeats 4000000 in
theorem tX9_readNumber_78 {p : Program} {l : Launch} {e : Env} {s : State} {m : MethodId} {args : Array Value} {below : List Frame} {meth : Method} {c : Code} {B : Nat} {D : va_G} {cT : Nat → ClassId} {n : Nat} {adK adV : Nat → Nat} {res : Mem} (E : EE p s m args c cX9_readNumber 2 RX9 B D cT (XW B adK adV)) (hr : meth.sig.returnType = none) (hlk : meth.locks = false) {o0 : Nat} (h0 : isK n o0 7) : ∀ (fu : Nat) (v1 : Int32) (μ : Mem), zl2 (gX9_readNumber_78 o0) fu v1 μ = some res → TT p l e rmX9_readNumber s m args below meth c (QV B D cT n below args s res) 2 B D cT n 0 0 μ 78 [(0, .ref (B + o0)), (1, .int v1)] [] := by
  intro fu
  induction fu with
  | zero => intro v1 μ hf; exact absurd hf (fun h => by cases h)
  | succ fu ih =>
    intro v1 μ hf
    have hf : gX9_readNumber_78 o0 (zl2 (gX9_readNumber_78 o0) fu) v1 μ = some res := hf
    unfold gX9_readNumber_78 at hf
    refine tt_iload_n (pc := 78) (i := 1) (j := 1) E dX9_readNumber_78 rfl rfl ?_
    refine tt_aload_n (pc := 79) (i := 0) (j := 0) E dX9_readNumber_79 rfl rfl ?_
    refine tt_getI (pc := 80) E lfX9_31 rfl h0 dX9_readNumber_80 ?_
    refine tt_icmp_ge (pc := 83) (tgt := 122) E dX9_readNumber_83 rfl (fun c_7 => ?_) (fun c_7 => ?_)
    · have hf := ip c_7 hf
      exact tt_vret (pc := 122) E hr hlk dX9_readNumber_122 (Nat.le_of_ble_eq_true rfl) (Nat.le_of_ble_eq_true rfl) hf
    · have hf := ine c_7 hf
      refine tt_iload_n (pc := 86) (i := 1) (j := 1) E dX9_readNumber_86 rfl rfl ?_
      refine tt_aload_n (pc := 87) (i := 0) (j := 0) E dX9_readNumber_87 rfl rfl ?_
      refine tt_getI (pc := 88) E lfX9_28 rfl h0 dX9_readNumber_88 ?_
      refine tt_iconst (pc := 91) (v := 3) E dX9_readNumber_91 ic_3 ?_
      refine tt_iadd (pc := 92) E dX9_readNumber_92 ?_
      refine tt_icmp_ge (pc := 93) (tgt := 122) E dX9_readNumber_93 rfl (fun c_6 => ?_) (fun c_6 => ?_)
      · have hf := ip c_6 hf
        exact tt_vret (pc := 122) E hr hlk dX9_readNumber_122 (Nat.le_of_ble_eq_true rfl) (Nat.le_of_ble_eq_true rfl) hf
      · have hf := ine c_6 hf
        refine tt_aload_n (pc := 96) (i := 0) (j := 0) E dX9_readNumber_96 rfl rfl ?_
        refine tt_aload_n (pc := 97) (i := 0) (j := 0) E dX9_readNumber_97 rfl rfl ?_
        refine tt_getI (pc := 98) E lfX9_41 rfl h0 dX9_readNumber_98 ?_
        refine tt_bipush (pc := 101) (v := 10) E dX9_readNumber_101 bc_10 ?_
        refine tt_imul (pc := 103) E dX9_readNumber_103 ?_
        refine tt_aload_n (pc := 104) (i := 0) (j := 0) E dX9_readNumber_104 rfl rfl ?_
        refine tt_iload_n (pc := 105) (i := 1) (j := 1) E dX9_readNumber_105 rfl rfl ?_
        obtain ⟨r_1, hr_2, hf⟩ := bd_some hf
        have hc_3 := cX9_byteAt_ok (l := l) (B := B) (D := D) (cT := cT) (n := n) (adK := adK) (adV := adV) h0 hr_2
        refine tt_cI (pc := 106) (tt_vi E lmX9_57 mtX9_byteAt hc_3 h0 rfl rfl (Nat.le_of_ble_eq_true rfl) ⟨(Nat.le_of_ble_eq_true rfl), (Nat.le_of_ble_eq_true rfl)⟩ ⟨(Nat.le_of_ble_eq_true rfl), (Nat.le_of_ble_eq_true rfl)⟩ dX9_readNumber_106) ?_
        refine tt_iadd (pc := 109) E dX9_readNumber_109 ?_
        refine tt_bipush (pc := 110) (v := 48) E dX9_readNumber_110 bc_48 ?_
        refine tt_isub (pc := 112) E dX9_readNumber_112 ?_
        refine tt_putI (pc := 113) E lfX9_41 rfl h0 dX9_readNumber_113 (tt_nmM hf (fun m_4 hf => ?_))
        obtain ⟨v_5, ev_5, hf⟩ := nm_ex hf
        refine tt_iinc (pc := 116) (i := 1) (j := 1) (lv' := [(1, .int v_5), (0, .ref (B + o0))]) E dX9_readNumber_116 rfl (ev_5).symm (Nat.le_of_ble_eq_true rfl) rfl ?_
        refine tt_goto (pc := 119) (tgt := 78) E dX9_readNumber_119 rfl ?_
        refine tt_sub [1, 0] (lv' := [(0, .ref (B + o0)), (1, .int v_5)]) rfl ?_
        exact ih v_5 m_4 hf
set_option maxHeartbeats 4000000 in
theorem tX9_readNumber_65 {p : Program} {l : Launch} {e : Env} {s : State} {m : MethodId} {args : Array Value} {below : List Frame} {meth : Method} {c : Code} {B : Nat} {D : va_G} {cT : Nat → ClassId} {n : Nat} {adK adV : Nat → Nat} {res : Mem} (E : EE p s m args c cX9_readNumber 2 RX9 B D cT (XW B adK adV)) (hr : meth.sig.returnType = none) (hlk : meth.locks = false) {o0 : Nat} {ot0 : Nat} {vt1 : Int32} (h0 : isK n o0 7) (ht0 : isK n ot0 7) {μ : Mem} (hf : fX9_readNumber_65 o0 ot0 vt1 μ = some res) : TT p l e rmX9_readNumber s m args below meth c (QV B D cT n below args s res) 2 B D cT n 0 0 μ 65 [(0, .ref (B + o0))] [.int vt1, .ref (B + ot0)] := by
  unfold fX9_readNumber_65 at hf
  refine tt_putI (pc := 65) E lfX9_34 rfl ht0 dX9_readNumber_65 (tt_nmM hf (fun m_1 hf => ?_))
  refine tt_aload_n (pc := 68) (i := 0) (j := 0) E dX9_readNumber_68 rfl rfl ?_
  refine tt_iconst (pc := 69) (v := 0) E dX9_readNumber_69 ic_0 ?_
  refine tt_putI (pc := 70) E lfX9_41 rfl h0 dX9_readNumber_70 (tt_nmM hf (fun m_2 hf => ?_))
  refine tt_aload_n (pc := 73) (i := 0) (j := 0) E dX9_readNumber_73 rfl rfl ?_
  refine tt_getI (pc := 74) E lfX9_28 rfl h0 dX9_readNumber_74 ?_
  refine tt_nmI hf (fun v_3 hf => ?_)
  refine tt_istore_n (pc := 77) (i := 1) (lv' := [(1, .int v_3), (0, .ref (B + o0))]) E dX9_readNumber_77 rfl (Nat.le_of_ble_eq_true rfl) rfl ?_
  refine tt_sub [1, 0] (lv' := [(0, .ref (B + o0)), (1, .int v_3)]) rfl ?_
  exact tX9_readNumber_78 E hr hlk h0 FU v_3 m_2 hf
set_option maxHeartbeats 4000000 in
theorem tX9_readNumber_46 {p : Program} {l : Launch} {e : Env} {s : State} {m : MethodId} {args : Array Value} {below : List Frame} {meth : Method} {c : Code} {B : Nat} {D : va_G} {cT : Nat → ClassId} {n : Nat} {adK adV : Nat → Nat} {res : Mem} (E : EE p s m args c cX9_readNumber 2 RX9 B D cT (XW B adK adV)) (hr : meth.sig.returnType = none) (hlk : meth.locks = false) {o0 : Nat} (h0 : isK n o0 7) {μ : Mem} (hf : fX9_readNumber_46 o0 μ = some res) : TT p l e rmX9_readNumber s m args below meth c (QV B D cT n below args s res) 2 B D cT n 0 0 μ 46 [(0, .ref (B + o0))] [] := by
  unfold fX9_readNumber_46 at hf
  refine tt_aload_n (pc := 46) (i := 0) (j := 0) E dX9_readNumber_46 rfl rfl ?_
  refine tt_aload_n (pc := 47) (i := 0) (j := 0) E dX9_readNumber_47 rfl rfl ?_
  refine tt_getI (pc := 48) E lfX9_31 rfl h0 dX9_readNumber_48 ?_
  refine tt_aload_n (pc := 51) (i := 0) (j := 0) E dX9_readNumber_51 rfl rfl ?_
  refine tt_getI (pc := 52) E lfX9_28 rfl h0 dX9_readNumber_52 ?_
  refine tt_isub (pc := 55) E dX9_readNumber_55 ?_
  refine tt_iconst (pc := 56) (v := 3) E dX9_readNumber_56 ic_3 ?_
  refine tt_icmp_gt (pc := 57) (tgt := 64) E dX9_readNumber_57 rfl (fun c_1 => ?_) (fun c_1 => ?_)
  · have hf := ip c_1 hf
    refine tt_iconst (pc := 64) (v := 4) E dX9_readNumber_64 ic_4 ?_
    exact tX9_readNumber_65 E hr hlk h0 h0 hf
  · have hf := ine c_1 hf
    refine tt_iconst (pc := 60) (v := 2) E dX9_readNumber_60 ic_2 ?_
    refine tt_goto (pc := 61) (tgt := 65) E dX9_readNumber_61 rfl ?_
    exact tX9_readNumber_65 E hr hlk h0 h0 hf
set_option maxHeartbeats 4000000 in
theorem tX9_readNumber_8 {p : Program} {l : Launch} {e : Env} {s : State} {m : MethodId} {args : Array Value} {below : List Frame} {meth : Method} {c : Code} {B : Nat} {D : va_G} {cT : Nat → ClassId} {n : Nat} {adK adV : Nat → Nat} {res : Mem} (E : EE p s m args c cX9_readNumber 2 RX9 B D cT (XW B adK adV)) (hr : meth.sig.returnType = none) (hlk : meth.locks = false) {o0 : Nat} (h0 : isK n o0 7) : ∀ (fu : Nat) (μ : Mem), zl1 (gX9_readNumber_8 o0) fu μ = some res → TT p l e rmX9_readNumber s m args below meth c (QV B D cT n below args s res) 2 B D cT n 0 0 μ 8 [(0, .ref (B + o0))] [] := by
  intro fu
  induction fu with
  | zero => intro μ hf; exact absurd hf (fun h => by cases h)
  | succ fu ih =>
    intro μ hf
    have hf : gX9_readNumber_8 o0 (zl1 (gX9_readNumber_8 o0) fu) μ = some res := hf
    unfold gX9_readNumber_8 at hf
    refine tt_aload_n (pc := 8) (i := 0) (j := 0) E dX9_readNumber_8 rfl rfl ?_
    refine tt_getI (pc := 9) E lfX9_31 rfl h0 dX9_readNumber_9 ?_
    refine tt_aload_n (pc := 12) (i := 0) (j := 0) E dX9_readNumber_12 rfl rfl ?_
    refine tt_getI (pc := 13) E lfX9_25 rfl h0 dX9_readNumber_13 ?_
    refine tt_icmp_ge (pc := 16) (tgt := 46) E dX9_readNumber_16 rfl (fun c_10 => ?_) (fun c_10 => ?_)
    · have hf := ip c_10 hf
      exact tX9_readNumber_46 E hr hlk h0 hf
    · have hf := ine c_10 hf
      refine tt_aload_n (pc := 19) (i := 0) (j := 0) E dX9_readNumber_19 rfl rfl ?_
      refine tt_aload_n (pc := 20) (i := 0) (j := 0) E dX9_readNumber_20 rfl rfl ?_
      refine tt_getI (pc := 21) E lfX9_31 rfl h0 dX9_readNumber_21 ?_
      obtain ⟨r_1, hr_2, hf⟩ := bd_some hf
      have hc_3 := cX9_byteAt_ok (l := l) (B := B) (D := D) (cT := cT) (n := n) (adK := adK) (adV := adV) h0 hr_2
      refine tt_cI (pc := 24) (tt_vi E lmX9_57 mtX9_byteAt hc_3 h0 rfl rfl (Nat.le_of_ble_eq_true rfl) ⟨(Nat.le_of_ble_eq_true rfl), (Nat.le_of_ble_eq_true rfl)⟩ ⟨(Nat.le_of_ble_eq_true rfl), (Nat.le_of_ble_eq_true rfl)⟩ dX9_readNumber_24) ?_
      obtain ⟨r_4, hr_5, hf⟩ := bd_some hf
      have hc_6 := cX9_isDigit_ok (l := l) (B := B) (D := D) (cT := cT) (n := n) (adK := adK) (adV := adV) hr_5
      refine tt_cZ (pc := 27) (tt_si E lmX9_68 mtX9_isDigit hc_6 rfl rfl (Nat.le_of_ble_eq_true rfl) ⟨(Nat.le_of_ble_eq_true rfl), (Nat.le_of_ble_eq_true rfl)⟩ ⟨(Nat.le_of_ble_eq_true rfl), (Nat.le_of_ble_eq_true rfl)⟩ dX9_readNumber_27) (fun z_7 => ?_)
      refine tt_if_eq (pc := 30) (tgt := 46) E dX9_readNumber_30 rfl (fun c_9 => ?_) (fun c_9 => ?_)
      · have hf := ip c_9 hf
        exact tX9_readNumber_46 E hr hlk h0 hf
      · have hf := ine c_9 hf
        refine tt_aload_n (pc := 33) (i := 0) (j := 0) E dX9_readNumber_33 rfl rfl ?_
        refine tt_dup (pc := 34) E dX9_readNumber_34 rfl ?_
        refine tt_getI (pc := 35) E lfX9_31 rfl h0 dX9_readNumber_35 ?_
        refine tt_iconst (pc := 38) (v := 1) E dX9_readNumber_38 ic_1 ?_
        refine tt_iadd (pc := 39) E dX9_readNumber_39 ?_
        refine tt_putI (pc := 40) E lfX9_31 rfl h0 dX9_readNumber_40 (tt_nmM hf (fun m_8 hf => ?_))
        refine tt_goto (pc := 43) (tgt := 8) E dX9_readNumber_43 rfl ?_
        exact ih m_8 hf
set_option maxHeartbeats 4000000 in
theorem cX9_readNumber_ok {l : Launch} {B : Nat} {D : va_G} {cT : Nat → ClassId} {n : Nat} {adK adV : Nat → Nat} {o0 : Nat} {μ : Mem} {res : Mem} (h0 : isK n o0 7) (hf : fX9_readNumber o0 μ = some res) : MV l yX9_readNumber cX9_readNumber 2 (none) rmX9_readNumber B D cT (XW B adK adV) n [.ref (B + o0)] μ res := by
  refine tt_ofW mtX9_readNumber.1 (Nat.le_of_ble_eq_true rfl) rfl ?_
  intro p e s m below meth c E0 hr hlk
  have E : EE p s m _ c cX9_readNumber 2 RX9 B D cT (XW B adK adV) := E0
  unfold fX9_readNumber at hf
  refine tt_aload_n (pc := 0) (i := 0) (j := 0) E dX9_readNumber_0 rfl rfl ?_
  refine tt_aload_n (pc := 1) (i := 0) (j := 0) E dX9_readNumber_1 rfl rfl ?_
  refine tt_getI (pc := 2) E lfX9_28 rfl h0 dX9_readNumber_2 ?_
  refine tt_putI (pc := 5) E lfX9_31 rfl h0 dX9_readNumber_5 (tt_nmM hf (fun m_1 hf => ?_))
  exact tX9_readNumber_8 E hr hlk h0 FU m_1 hf
set_option maxHeartbeats 4000000 in
theorem tX9_step_58 {p : Program} {l : Launch} {e : Env} {s : State} {m : MethodId} {args : Array Value} {below : List Frame} {meth : Method} {c : Code} {B : Nat} {D : va_G} {cT : Nat → ClassId} {n : Nat} {adK adV : Nat → Nat} {res : Mem} (E : EE p s m args c cX9_step 2 RX9 B D cT (XW B adK adV)) (hr : meth.sig.returnType = none) (hlk : meth.locks = false) {o0 : Nat} (h0 : isK n o0 7) {μ : Mem} (hf : fX9_step_58 o0 μ = some res) : TT p l e rmX9_step s m args below meth c (QV B D cT n below args s res) 2 B D cT n 0 0 μ 58 [(0, .ref (B + o0))] [] := by
  unfold fX9_step_58 at hf
  refine tt_aload_n (pc := 58) (i := 0) (j := 0) E dX9_step_58 rfl rfl ?_
  refine tt_aload_n (pc := 59) (i := 0) (j := 0) E dX9_step_59 rfl rfl ?_
  refine tt_getI (pc := 60) E lfX9_28 rfl h0 dX9_step_60 ?_
  obtain ⟨r_1, hr_2, hf⟩ := bd_some hf
  have hc_3 := cX9_byteAt_ok (l := l) (B := B) (D := D) (cT := cT) (n := n) (adK := adK) (adV := adV) h0 hr_2
  refine tt_cI (pc := 63) (tt_vi E lmX9_57 mtX9_byteAt hc_3 h0 rfl rfl (Nat.le_of_ble_eq_true rfl) ⟨(Nat.le_of_ble_eq_true rfl), (Nat.le_of_ble_eq_true rfl)⟩ ⟨(Nat.le_of_ble_eq_true rfl), (Nat.le_of_ble_eq_true rfl)⟩ dX9_step_63) ?_
  refine tt_istore_n (pc := 66) (i := 1) (lv' := [(1, .int r_1), (0, .ref (B + o0))]) E dX9_step_66 rfl (Nat.le_of_ble_eq_true rfl) rfl ?_
  refine tt_aload_n (pc := 67) (i := 0) (j := 1) E dX9_step_67 rfl rfl ?_
  refine tt_aload_n (pc := 68) (i := 0) (j := 1) E dX9_step_68 rfl rfl ?_
  refine tt_getI (pc := 69) E lfX9_28 rfl h0 dX9_step_69 ?_
  refine tt_iconst (pc := 72) (v := 1) E dX9_step_72 ic_1 ?_
  refine tt_iadd (pc := 73) E dX9_step_73 ?_
  refine tt_putI (pc := 74) E lfX9_31 rfl h0 dX9_step_74 (tt_nmM hf (fun m_4 hf => ?_))
  refine tt_aload_n (pc := 77) (i := 0) (j := 1) E dX9_step_77 rfl rfl ?_
  refine tt_getI (pc := 78) E lfX9_28 rfl h0 dX9_step_78 ?_
  refine tt_aload_n (pc := 81) (i := 0) (j := 1) E dX9_step_81 rfl rfl ?_
  refine tt_getI (pc := 82) E lfX9_25 rfl h0 dX9_step_82 ?_
  refine tt_icmp_lt (pc := 85) (tgt := 104) E dX9_step_85 rfl (fun c_34 => ?_) (fun c_34 => ?_)
  · have hf := ip c_34 hf
    refine tt_iload_n (pc := 104) (i := 1) (j := 0) E dX9_step_104 rfl rfl ?_
    obtain ⟨r_5, hr_6, hf⟩ := bd_some hf
    have hc_7 := cX9_isLetter_ok (l := l) (B := B) (D := D) (cT := cT) (n := n) (adK := adK) (adV := adV) hr_6
    refine tt_cZ (pc := 105) (tt_si E lmX9_61 mtX9_isLetter hc_7 rfl rfl (Nat.le_of_ble_eq_true rfl) ⟨(Nat.le_of_ble_eq_true rfl), (Nat.le_of_ble_eq_true rfl)⟩ ⟨(Nat.le_of_ble_eq_true rfl), (Nat.le_of_ble_eq_true rfl)⟩ dX9_step_105) (fun z_8 => ?_)
    refine tt_if_eq (pc := 108) (tgt := 118) E dX9_step_108 rfl (fun c_31 => ?_) (fun c_31 => ?_)
    · have hf := ip c_31 hf
      refine tt_iload_n (pc := 118) (i := 1) (j := 0) E dX9_step_118 rfl rfl ?_
      obtain ⟨r_9, hr_10, hf⟩ := bd_some hf
      have hc_11 := cX9_isDigit_ok (l := l) (B := B) (D := D) (cT := cT) (n := n) (adK := adK) (adV := adV) hr_10
      refine tt_cZ (pc := 119) (tt_si E lmX9_68 mtX9_isDigit hc_11 rfl rfl (Nat.le_of_ble_eq_true rfl) ⟨(Nat.le_of_ble_eq_true rfl), (Nat.le_of_ble_eq_true rfl)⟩ ⟨(Nat.le_of_ble_eq_true rfl), (Nat.le_of_ble_eq_true rfl)⟩ dX9_step_119) (fun z_12 => ?_)
      refine tt_if_eq (pc := 122) (tgt := 132) E dX9_step_122 rfl (fun c_27 => ?_) (fun c_27 => ?_)
      · have hf := ip c_27 hf
        refine tt_aload_n (pc := 132) (i := 0) (j := 1) E dX9_step_132 rfl rfl ?_
        refine tt_iload_n (pc := 133) (i := 1) (j := 0) E dX9_step_133 rfl rfl ?_
        refine tt_bipush (pc := 134) (v := 59) E dX9_step_134 bc_59 ?_
        refine tt_icmp_eq (pc := 136) (tgt := 151) E dX9_step_136 rfl (fun c_23 => ?_) (fun c_23 => ?_)
        · have hf := ip c_23 hf
          refine tt_iconst (pc := 151) (v := 3) E dX9_step_151 ic_3 ?_
          refine tt_goto (pc := 152) (tgt := 156) E dX9_step_152 rfl ?_
          refine tt_putI (pc := 156) E lfX9_34 rfl h0 dX9_step_156 (tt_nmM hf (fun m_13 hf => ?_))
          refine tt_aload_n (pc := 159) (i := 0) (j := 1) E dX9_step_159 rfl rfl ?_
          refine tt_iload_n (pc := 160) (i := 1) (j := 0) E dX9_step_160 rfl rfl ?_
          refine tt_putI (pc := 161) E lfX9_44 rfl h0 dX9_step_161 (tt_nmM hf (fun m_14 hf => ?_))
          exact tt_vret (pc := 164) E hr hlk dX9_step_164 (Nat.le_of_ble_eq_true rfl) (Nat.le_of_ble_eq_true rfl) hf
        · have hf := ine c_23 hf
          refine tt_iload_n (pc := 139) (i := 1) (j := 0) E dX9_step_139 rfl rfl ?_
          refine tt_bipush (pc := 140) (v := 40) E dX9_step_140 bc_40 ?_
          refine tt_icmp_eq (pc := 142) (tgt := 151) E dX9_step_142 rfl (fun c_22 => ?_) (fun c_22 => ?_)
          · have hf := ip c_22 hf
            refine tt_iconst (pc := 151) (v := 3) E dX9_step_151 ic_3 ?_
            refine tt_goto (pc := 152) (tgt := 156) E dX9_step_152 rfl ?_
            refine tt_putI (pc := 156) E lfX9_34 rfl h0 dX9_step_156 (tt_nmM hf (fun m_15 hf => ?_))
            refine tt_aload_n (pc := 159) (i := 0) (j := 1) E dX9_step_159 rfl rfl ?_
            refine tt_iload_n (pc := 160) (i := 1) (j := 0) E dX9_step_160 rfl rfl ?_
            refine tt_putI (pc := 161) E lfX9_44 rfl h0 dX9_step_161 (tt_nmM hf (fun m_16 hf => ?_))
            exact tt_vret (pc := 164) E hr hlk dX9_step_164 (Nat.le_of_ble_eq_true rfl) (Nat.le_of_ble_eq_true rfl) hf
          · have hf := ine c_22 hf
            refine tt_iload_n (pc := 145) (i := 1) (j := 0) E dX9_step_145 rfl rfl ?_
            refine tt_bipush (pc := 146) (v := 41) E dX9_step_146 bc_41 ?_
            refine tt_icmp_ne (pc := 148) (tgt := 155) E dX9_step_148 rfl (fun c_21 => ?_) (fun c_21 => ?_)
            · have hf := ine c_21 hf
              refine tt_iconst (pc := 155) (v := 4) E dX9_step_155 ic_4 ?_
              refine tt_putI (pc := 156) E lfX9_34 rfl h0 dX9_step_156 (tt_nmM hf (fun m_17 hf => ?_))
              refine tt_aload_n (pc := 159) (i := 0) (j := 1) E dX9_step_159 rfl rfl ?_
              refine tt_iload_n (pc := 160) (i := 1) (j := 0) E dX9_step_160 rfl rfl ?_
              refine tt_putI (pc := 161) E lfX9_44 rfl h0 dX9_step_161 (tt_nmM hf (fun m_18 hf => ?_))
              exact tt_vret (pc := 164) E hr hlk dX9_step_164 (Nat.le_of_ble_eq_true rfl) (Nat.le_of_ble_eq_true rfl) hf
            · have hf := ip c_21 hf
              refine tt_iconst (pc := 151) (v := 3) E dX9_step_151 ic_3 ?_
              refine tt_goto (pc := 152) (tgt := 156) E dX9_step_152 rfl ?_
              refine tt_putI (pc := 156) E lfX9_34 rfl h0 dX9_step_156 (tt_nmM hf (fun m_19 hf => ?_))
              refine tt_aload_n (pc := 159) (i := 0) (j := 1) E dX9_step_159 rfl rfl ?_
              refine tt_iload_n (pc := 160) (i := 1) (j := 0) E dX9_step_160 rfl rfl ?_
              refine tt_putI (pc := 161) E lfX9_44 rfl h0 dX9_step_161 (tt_nmM hf (fun m_20 hf => ?_))
              exact tt_vret (pc := 164) E hr hlk dX9_step_164 (Nat.le_of_ble_eq_true rfl) (Nat.le_of_ble_eq_true rfl) hf
      · have hf := ine c_27 hf
        refine tt_aload_n (pc := 125) (i := 0) (j := 1) E dX9_step_125 rfl rfl ?_
        obtain ⟨r_24, hr_25, hf⟩ := bd_some hf
        have hc_26 := cX9_readNumber_ok (l := l) (B := B) (D := D) (cT := cT) (n := n) (adK := adK) (adV := adV) h0 hr_25
        refine tt_cV (pc := 126) (tt_vi E lmX9_71 mtX9_readNumber hc_26 h0 rfl rfl (Nat.le_of_ble_eq_true rfl) ⟨(Nat.le_of_ble_eq_true rfl), (Nat.le_of_ble_eq_true rfl)⟩ ⟨(Nat.le_of_ble_eq_true rfl), (Nat.le_of_ble_eq_true rfl)⟩ dX9_step_126) ?_
        refine tt_goto (pc := 129) (tgt := 164) E dX9_step_129 rfl ?_
        exact tt_vret (pc := 164) E hr hlk dX9_step_164 (Nat.le_of_ble_eq_true rfl) (Nat.le_of_ble_eq_true rfl) hf
    · have hf := ine c_31 hf
      refine tt_aload_n (pc := 111) (i := 0) (j := 1) E dX9_step_111 rfl rfl ?_
      obtain ⟨r_28, hr_29, hf⟩ := bd_some hf
      have hc_30 := cX9_readWord_ok (l := l) (B := B) (D := D) (cT := cT) (n := n) (adK := adK) (adV := adV) h0 hr_29
      refine tt_cV (pc := 112) (tt_vi E lmX9_65 mtX9_readWord hc_30 h0 rfl rfl (Nat.le_of_ble_eq_true rfl) ⟨(Nat.le_of_ble_eq_true rfl), (Nat.le_of_ble_eq_true rfl)⟩ ⟨(Nat.le_of_ble_eq_true rfl), (Nat.le_of_ble_eq_true rfl)⟩ dX9_step_112) ?_
      refine tt_goto (pc := 115) (tgt := 164) E dX9_step_115 rfl ?_
      exact tt_vret (pc := 164) E hr hlk dX9_step_164 (Nat.le_of_ble_eq_true rfl) (Nat.le_of_ble_eq_true rfl) hf
  · have hf := ine c_34 hf
    refine tt_aload_n (pc := 88) (i := 0) (j := 1) E dX9_step_88 rfl rfl ?_
    refine tt_iconst (pc := 89) (v := 0) E dX9_step_89 ic_0 ?_
    refine tt_putI (pc := 90) E lfX9_34 rfl h0 dX9_step_90 (tt_nmM hf (fun m_32 hf => ?_))
    refine tt_aload_n (pc := 93) (i := 0) (j := 1) E dX9_step_93 rfl rfl ?_
    refine tt_aload_n (pc := 94) (i := 0) (j := 1) E dX9_step_94 rfl rfl ?_
    refine tt_getI (pc := 95) E lfX9_25 rfl h0 dX9_step_95 ?_
    refine tt_putI (pc := 98) E lfX9_31 rfl h0 dX9_step_98 (tt_nmM hf (fun m_33 hf => ?_))
    refine tt_goto (pc := 101) (tgt := 164) E dX9_step_101 rfl ?_
    exact tt_vret (pc := 164) E hr hlk dX9_step_164 (Nat.le_of_ble_eq_true rfl) (Nat.le_of_ble_eq_true rfl) hf
set_option maxHeartbeats 4000000 in
theorem tX9_step_8 {p : Program} {l : Launch} {e : Env} {s : State} {m : MethodId} {args : Array Value} {below : List Frame} {meth : Method} {c : Code} {B : Nat} {D : va_G} {cT : Nat → ClassId} {n : Nat} {adK adV : Nat → Nat} {res : Mem} (E : EE p s m args c cX9_step 2 RX9 B D cT (XW B adK adV)) (hr : meth.sig.returnType = none) (hlk : meth.locks = false) {o0 : Nat} (h0 : isK n o0 7) : ∀ (fu : Nat) (μ : Mem), zl1 (gX9_step_8 o0) fu μ = some res → TT p l e rmX9_step s m args below meth c (QV B D cT n below args s res) 2 B D cT n 0 0 μ 8 [(0, .ref (B + o0))] [] := by
  intro fu
  induction fu with
  | zero => intro μ hf; exact absurd hf (fun h => by cases h)
  | succ fu ih =>
    intro μ hf
    have hf : gX9_step_8 o0 (zl1 (gX9_step_8 o0) fu) μ = some res := hf
    unfold gX9_step_8 at hf
    refine tt_aload_n (pc := 8) (i := 0) (j := 0) E dX9_step_8 rfl rfl ?_
    refine tt_getI (pc := 9) E lfX9_28 rfl h0 dX9_step_9 ?_
    refine tt_aload_n (pc := 12) (i := 0) (j := 0) E dX9_step_12 rfl rfl ?_
    refine tt_getI (pc := 13) E lfX9_25 rfl h0 dX9_step_13 ?_
    refine tt_icmp_ge (pc := 16) (tgt := 58) E dX9_step_16 rfl (fun c_11 => ?_) (fun c_11 => ?_)
    · have hf := ip c_11 hf
      exact tX9_step_58 E hr hlk h0 hf
    · have hf := ine c_11 hf
      refine tt_aload_n (pc := 19) (i := 0) (j := 0) E dX9_step_19 rfl rfl ?_
      refine tt_aload_n (pc := 20) (i := 0) (j := 0) E dX9_step_20 rfl rfl ?_
      refine tt_getI (pc := 21) E lfX9_28 rfl h0 dX9_step_21 ?_
      obtain ⟨r_1, hr_2, hf⟩ := bd_some hf
      have hc_3 := cX9_byteAt_ok (l := l) (B := B) (D := D) (cT := cT) (n := n) (adK := adK) (adV := adV) h0 hr_2
      refine tt_cI (pc := 24) (tt_vi E lmX9_57 mtX9_byteAt hc_3 h0 rfl rfl (Nat.le_of_ble_eq_true rfl) ⟨(Nat.le_of_ble_eq_true rfl), (Nat.le_of_ble_eq_true rfl)⟩ ⟨(Nat.le_of_ble_eq_true rfl), (Nat.le_of_ble_eq_true rfl)⟩ dX9_step_24) ?_
      refine tt_bipush (pc := 27) (v := 32) E dX9_step_27 bc_32 ?_
      refine tt_icmp_eq (pc := 29) (tgt := 45) E dX9_step_29 rfl (fun c_10 => ?_) (fun c_10 => ?_)
      · have hf := ip c_10 hf
        refine tt_aload_n (pc := 45) (i := 0) (j := 0) E dX9_step_45 rfl rfl ?_
        refine tt_dup (pc := 46) E dX9_step_46 rfl ?_
        refine tt_getI (pc := 47) E lfX9_28 rfl h0 dX9_step_47 ?_
        refine tt_iconst (pc := 50) (v := 1) E dX9_step_50 ic_1 ?_
        refine tt_iadd (pc := 51) E dX9_step_51 ?_
        refine tt_putI (pc := 52) E lfX9_28 rfl h0 dX9_step_52 (tt_nmM hf (fun m_4 hf => ?_))
        refine tt_goto (pc := 55) (tgt := 8) E dX9_step_55 rfl ?_
        exact ih m_4 hf
      · have hf := ine c_10 hf
        refine tt_aload_n (pc := 32) (i := 0) (j := 0) E dX9_step_32 rfl rfl ?_
        refine tt_aload_n (pc := 33) (i := 0) (j := 0) E dX9_step_33 rfl rfl ?_
        refine tt_getI (pc := 34) E lfX9_28 rfl h0 dX9_step_34 ?_
        obtain ⟨r_5, hr_6, hf⟩ := bd_some hf
        have hc_7 := cX9_byteAt_ok (l := l) (B := B) (D := D) (cT := cT) (n := n) (adK := adK) (adV := adV) h0 hr_6
        refine tt_cI (pc := 37) (tt_vi E lmX9_57 mtX9_byteAt hc_7 h0 rfl rfl (Nat.le_of_ble_eq_true rfl) ⟨(Nat.le_of_ble_eq_true rfl), (Nat.le_of_ble_eq_true rfl)⟩ ⟨(Nat.le_of_ble_eq_true rfl), (Nat.le_of_ble_eq_true rfl)⟩ dX9_step_37) ?_
        refine tt_bipush (pc := 40) (v := 10) E dX9_step_40 bc_10 ?_
        refine tt_icmp_ne (pc := 42) (tgt := 58) E dX9_step_42 rfl (fun c_9 => ?_) (fun c_9 => ?_)
        · have hf := ine c_9 hf
          exact tX9_step_58 E hr hlk h0 hf
        · have hf := ip c_9 hf
          refine tt_aload_n (pc := 45) (i := 0) (j := 0) E dX9_step_45 rfl rfl ?_
          refine tt_dup (pc := 46) E dX9_step_46 rfl ?_
          refine tt_getI (pc := 47) E lfX9_28 rfl h0 dX9_step_47 ?_
          refine tt_iconst (pc := 50) (v := 1) E dX9_step_50 ic_1 ?_
          refine tt_iadd (pc := 51) E dX9_step_51 ?_
          refine tt_putI (pc := 52) E lfX9_28 rfl h0 dX9_step_52 (tt_nmM hf (fun m_8 hf => ?_))
          refine tt_goto (pc := 55) (tgt := 8) E dX9_step_55 rfl ?_
          exact ih m_8 hf
set_option maxHeartbeats 4000000 in
theorem cX9_step_ok {l : Launch} {B : Nat} {D : va_G} {cT : Nat → ClassId} {n : Nat} {adK adV : Nat → Nat} {o0 : Nat} {μ : Mem} {res : Mem} (h0 : isK n o0 7) (hf : fX9_step o0 μ = some res) : MV l yX9_step cX9_step 2 (none) rmX9_step B D cT (XW B adK adV) n [.ref (B + o0)] μ res := by
  refine tt_ofW mtX9_step.1 (Nat.le_of_ble_eq_true rfl) rfl ?_
  intro p e s m below meth c E0 hr hlk
  have E : EE p s m _ c cX9_step 2 RX9 B D cT (XW B adK adV) := E0
  unfold fX9_step at hf
  refine tt_aload_n (pc := 0) (i := 0) (j := 0) E dX9_step_0 rfl rfl ?_
  refine tt_aload_n (pc := 1) (i := 0) (j := 0) E dX9_step_1 rfl rfl ?_
  refine tt_getI (pc := 2) E lfX9_31 rfl h0 dX9_step_2 ?_
  refine tt_putI (pc := 5) E lfX9_28 rfl h0 dX9_step_5 (tt_nmM hf (fun m_1 hf => ?_))
  exact tX9_step_8 E hr hlk h0 FU m_1 hf
set_option maxHeartbeats 4000000 in
theorem cX9_fail_ok {l : Launch} {B : Nat} {D : va_G} {cT : Nat → ClassId} {n : Nat} {adK adV : Nat → Nat} {o0 : Nat} {v1 : Int32} (hl0 : l.stackTraces = false) {μ : Mem} {res : (Unit ⊕ Nat) × Mem} (h0 : isK n o0 7) (hf : fX9_fail o0 v1 μ = some res) : XV l yX9_fail cX9_fail 2 (none) rmX9_fail B D cT (XW B adK adV) n [.ref (B + o0), .int v1] μ res := by
  refine tx_ofW mtX9_fail.1 (Nat.le_of_ble_eq_true rfl) rfl ?_
  intro p e s m below meth c E0 hr hlk hno
  have E : EE p s m _ c cX9_fail 2 RX9 B D cT (XW B adK adV) := E0
  unfold fX9_fail at hf
  refine tt_aload_n (pc := 0) (i := 0) (j := 0) E dX9_fail_0 rfl rfl ?_
  refine tt_iload_n (pc := 1) (i := 1) (j := 1) E dX9_fail_1 rfl rfl ?_
  refine tt_putI (pc := 2) E lfX9_19 rfl h0 dX9_fail_2 (tt_nmM hf (fun m_1 hf => ?_))
  refine tt_aload_n (pc := 5) (i := 0) (j := 0) E dX9_fail_5 rfl rfl ?_
  refine tt_aload_n (pc := 6) (i := 0) (j := 0) E dX9_fail_6 rfl rfl ?_
  refine tt_getI (pc := 7) E lfX9_28 rfl h0 dX9_fail_7 ?_
  refine tt_putI (pc := 10) E lfX9_22 rfl h0 dX9_fail_10 (tt_nmM hf (fun m_2 hf => ?_))
  exact tx_throw (pc := 13) E hl0 twX9_50052 (i := 3) rfl hno hlk dX9_fail_13 dX9_fail_16 dX9_fail_17 dX9_fail_19 dX9_fail_22 (Nat.le_of_ble_eq_true rfl) (Nat.le_of_ble_eq_true rfl) (Nat.le_of_ble_eq_true rfl) (Nat.le_of_ble_eq_true rfl) (Nat.le_of_ble_eq_true rfl) (Nat.le_of_ble_eq_true rfl) hf
set_option maxHeartbeats 4000000 in
theorem cX9_takeSign_ok {l : Launch} {B : Nat} {D : va_G} {cT : Nat → ClassId} {n : Nat} {adK adV : Nat → Nat} {o0 : Nat} {v1 : Int32} (hl0 : l.stackTraces = false) {μ : Mem} {res : (Unit ⊕ Nat) × Mem} (h0 : isK n o0 7) (hf : fX9_takeSign o0 v1 μ = some res) : XV l yX9_takeSign cX9_takeSign 2 (none) rmX9_takeSign B D cT (XW B adK adV) n [.ref (B + o0), .int v1] μ res := by
  refine tx_ofW mtX9_takeSign.1 (Nat.le_of_ble_eq_true rfl) rfl ?_
  intro p e s m below meth c E0 hr hlk hno
  have E : EE p s m _ c cX9_takeSign 2 RX9 B D cT (XW B adK adV) := E0
  unfold fX9_takeSign at hf
  refine tt_aload_n (pc := 0) (i := 0) (j := 0) E dX9_takeSign_0 rfl rfl ?_
  refine tt_iload_n (pc := 1) (i := 1) (j := 1) E dX9_takeSign_1 rfl rfl ?_
  obtain ⟨r_1, hr_2, hf⟩ := bd_some hf
  have hc_3 := cX9_isSign_ok (l := l) (B := B) (D := D) (cT := cT) (n := n) (adK := adK) (adV := adV) h0 hr_2
  refine tt_cZ (pc := 2) (tt_vi E lmX9_88 mtX9_isSign hc_3 h0 rfl rfl (Nat.le_of_ble_eq_true rfl) ⟨(Nat.le_of_ble_eq_true rfl), (Nat.le_of_ble_eq_true rfl)⟩ ⟨(Nat.le_of_ble_eq_true rfl), (Nat.le_of_ble_eq_true rfl)⟩ dX9_takeSign_2) (fun z_4 => ?_)
  refine tt_if_ne (pc := 5) (tgt := 13) E dX9_takeSign_5 rfl (fun c_18 => ?_) (fun c_18 => ?_)
  · have hf := ine c_18 hf
    refine tt_aload_n (pc := 13) (i := 0) (j := 0) E dX9_takeSign_13 rfl rfl ?_
    obtain ⟨r_5, hr_6, hf⟩ := bd_some hf
    have hc_7 := cX9_step_ok (l := l) (B := B) (D := D) (cT := cT) (n := n) (adK := adK) (adV := adV) h0 hr_6
    refine tt_cV (pc := 14) (tt_vi E lmX9_47 mtX9_step hc_7 h0 rfl rfl (Nat.le_of_ble_eq_true rfl) ⟨(Nat.le_of_ble_eq_true rfl), (Nat.le_of_ble_eq_true rfl)⟩ ⟨(Nat.le_of_ble_eq_true rfl), (Nat.le_of_ble_eq_true rfl)⟩ dX9_takeSign_14) ?_
    exact tx_vret (pc := 17) E hr hlk dX9_takeSign_17 hf
  · have hf := ip c_18 hf
    refine tt_aload_n (pc := 8) (i := 0) (j := 0) E dX9_takeSign_8 rfl rfl ?_
    refine tt_iconst (pc := 9) (v := 1) E dX9_takeSign_9 ic_1 ?_
    obtain ⟨r_8, hr_9, hf⟩ := bd_some hf
    have hc_10 := cX9_fail_ok (l := l) (B := B) (D := D) (cT := cT) (n := n) (adK := adK) (adV := adV) hl0 h0 hr_9
    refine tx_cV (pc := 10) (tx_vi E lmX9_84 mtX9_fail hc_10 h0 rfl rfl (Nat.le_of_ble_eq_true rfl) ⟨(Nat.le_of_ble_eq_true rfl), (Nat.le_of_ble_eq_true rfl)⟩ ⟨(Nat.le_of_ble_eq_true rfl), (Nat.le_of_ble_eq_true rfl)⟩ dX9_takeSign_10) (fun k_11 m_12 hx_13 => ?_) (fun m_12 hx_13 => ?_)
    · subst hx_13; exact tx_out hno hlk (Nat.le_of_ble_eq_true rfl) (Nat.le_of_ble_eq_true rfl) hf
    subst hx_13
    have hf := xb_l hf
    refine tt_aload_n (pc := 13) (i := 0) (j := 0) E dX9_takeSign_13 rfl rfl ?_
    obtain ⟨r_15, hr_16, hf⟩ := bd_some hf
    have hc_17 := cX9_step_ok (l := l) (B := B) (D := D) (cT := cT) (n := n) (adK := adK) (adV := adV) h0 hr_16
    refine tt_cV (pc := 14) (tt_vi E lmX9_47 mtX9_step hc_17 h0 rfl rfl (Nat.le_of_ble_eq_true rfl) ⟨(Nat.le_of_ble_eq_true rfl), (Nat.le_of_ble_eq_true rfl)⟩ ⟨(Nat.le_of_ble_eq_true rfl), (Nat.le_of_ble_eq_true rfl)⟩ dX9_takeSign_14) ?_
    exact tx_vret (pc := 17) E hr hlk dX9_takeSign_17 hf
set_option maxHeartbeats 4000000 in
theorem cX6_added_ok {l : Launch} {B : Nat} {D : va_G} {cT : Nat → ClassId} {n : Nat} {adK adV : Nat → Nat} {o0 : Nat} {v1 : Int32} {μ : Mem} {res : Nat × Mem} (h0 : isK n o0 5) (hf : fX6_added o0 v1 μ = some res) : MP 0 l yX6_added cX6_added 3 (some (.object "TurnWheel$Command")) rmX6_added B D cT (XW B adK adV) n [.ref (B + o0), .int v1] μ res := by
  refine tt_ofW mtX6_added.1 (Nat.le_of_ble_eq_true rfl) rfl ?_
  intro p e s m below meth c E0 hr hlk
  have E : EE p s m _ c cX6_added 3 RX6 B D cT (XW B adK adV) := E0
  unfold fX6_added at hf
  refine tt_iconst (pc := 0) (v := 0) E dX6_added_0 ic_0 ?_
  refine tt_aload_n (pc := 1) (i := 0) (j := 0) E dX6_added_1 rfl rfl ?_
  refine tt_getI (pc := 2) E lfX6_21 rfl h0 dX6_added_2 ?_
  refine tt_aload_n (pc := 5) (i := 0) (j := 0) E dX6_added_5 rfl rfl ?_
  obtain ⟨q_1, hq_2, hf⟩ := bd_some hf
  refine tt_getP (pc := 6) (t := 13) E lfX6_13 rfl rfl h0 dX6_added_6 hq_2 (fun kq_3 => ?_)
  refine tt_alen (pc := 9) (v := Int32.ofNat (Ln q_1)) E (k := 13) ⟨(Nat.le_of_ble_eq_true rfl), (Nat.le_of_ble_eq_true rfl)⟩ kq_3 rfl dX6_added_9 ?_
  refine tt_iconst (pc := 10) (v := 1) E dX6_added_10 ic_1 ?_
  refine tt_isub (pc := 11) E dX6_added_11 ?_
  refine tt_mmin (pc := 12) E lmX6_120 (Nat.le_of_ble_eq_true rfl) (Nat.le_of_ble_eq_true rfl) ⟨(Nat.le_of_ble_eq_true rfl), (Nat.le_of_ble_eq_true rfl)⟩ dX6_added_12 ?_
  refine tt_mmax (pc := 15) E lmX6_125 (Nat.le_of_ble_eq_true rfl) (Nat.le_of_ble_eq_true rfl) ⟨(Nat.le_of_ble_eq_true rfl), (Nat.le_of_ble_eq_true rfl)⟩ dX6_added_15 ?_
  refine tt_nmI hf (fun v_4 hf => ?_)
  refine tt_istore_n (pc := 18) (i := 2) (lv' := [(2, .int v_4), (0, .ref (B + o0)), (1, .int v1)]) E dX6_added_18 rfl (Nat.le_of_ble_eq_true rfl) rfl ?_
  refine tt_aload_n (pc := 19) (i := 0) (j := 1) E dX6_added_19 rfl rfl ?_
  refine tt_iload_n (pc := 20) (i := 2) (j := 0) E dX6_added_20 rfl rfl ?_
  refine tt_iconst (pc := 21) (v := 1) E dX6_added_21 ic_1 ?_
  refine tt_iadd (pc := 22) E dX6_added_22 ?_
  refine tt_putI (pc := 23) E lfX6_21 rfl h0 dX6_added_23 (tt_nmM hf (fun m_5 hf => ?_))
  refine tt_aload_n (pc := 26) (i := 0) (j := 1) E dX6_added_26 rfl rfl ?_
  obtain ⟨q_6, hq_7, hf⟩ := bd_some hf
  refine tt_getP (pc := 27) (t := 13) E lfX6_13 rfl rfl h0 dX6_added_27 hq_7 (fun kq_8 => ?_)
  refine tt_iload_n (pc := 30) (i := 2) (j := 0) E dX6_added_30 rfl rfl ?_
  obtain ⟨g_9, hf⟩ := gd_some hf
  obtain ⟨q_10, hq_11, hf⟩ := bd_some hf
  refine tt_aald13 (pc := 31) E kq_8 g_9 dX6_added_31 hq_11 (fun kq_12 => ?_)
  refine tt_iload_n (pc := 32) (i := 1) (j := 2) E dX6_added_32 rfl rfl ?_
  obtain ⟨r_13, hr_14, hf⟩ := bd_some hf
  have hc_15 := cX1_become_ok (l := l) (B := B) (D := D) (cT := cT) (n := n) (adK := adK) (adV := adV) kq_12 hr_14
  refine tt_cV (pc := 33) (tt_vi E lmX6_128 mtX1_become hc_15 kq_12 rfl rfl (Nat.le_of_ble_eq_true rfl) ⟨(Nat.le_of_ble_eq_true rfl), (Nat.le_of_ble_eq_true rfl)⟩ ⟨(Nat.le_of_ble_eq_true rfl), (Nat.le_of_ble_eq_true rfl)⟩ dX6_added_33) ?_
  refine tt_aload_n (pc := 36) (i := 0) (j := 1) E dX6_added_36 rfl rfl ?_
  obtain ⟨q_16, hq_17, hf⟩ := bd_some hf
  refine tt_getP (pc := 37) (t := 13) E lfX6_13 rfl rfl h0 dX6_added_37 hq_17 (fun kq_18 => ?_)
  refine tt_iload_n (pc := 40) (i := 2) (j := 0) E dX6_added_40 rfl rfl ?_
  obtain ⟨g_19, hf⟩ := gd_some hf
  obtain ⟨q_20, hq_21, hf⟩ := bd_some hf
  refine tt_aald13 (pc := 41) E kq_18 g_19 dX6_added_41 hq_21 (fun kq_22 => ?_)
  exact tt_aret (pc := 42) E kq_22 hr hlk dX6_added_42 (Nat.le_of_ble_eq_true rfl) (Nat.le_of_ble_eq_true rfl) hf
set_option maxHeartbeats 4000000 in
theorem cX6_closeRepeat_ok {l : Launch} {B : Nat} {D : va_G} {cT : Nat → ClassId} {n : Nat} {adK adV : Nat → Nat} {o0 : Nat} {μ : Mem} {res : Mem} (h0 : isK n o0 5) (hf : fX6_closeRepeat o0 μ = some res) : MV l yX6_closeRepeat cX6_closeRepeat 1 (none) rmX6_closeRepeat B D cT (XW B adK adV) n [.ref (B + o0)] μ res := by
  refine tt_ofW mtX6_closeRepeat.1 (Nat.le_of_ble_eq_true rfl) rfl ?_
  intro p e s m below meth c E0 hr hlk
  have E : EE p s m _ c cX6_closeRepeat 1 RX6 B D cT (XW B adK adV) := E0
  unfold fX6_closeRepeat at hf
  refine tt_aload_n (pc := 0) (i := 0) (j := 0) E dX6_closeRepeat_0 rfl rfl ?_
  refine tt_getI (pc := 1) E lfX6_28 rfl h0 dX6_closeRepeat_1 ?_
  refine tt_if_le (pc := 4) (tgt := 47) E dX6_closeRepeat_4 rfl (fun c_15 => ?_) (fun c_15 => ?_)
  · have hf := ip c_15 hf
    exact tt_vret (pc := 47) E hr hlk dX6_closeRepeat_47 (Nat.le_of_ble_eq_true rfl) (Nat.le_of_ble_eq_true rfl) hf
  · have hf := ine c_15 hf
    refine tt_aload_n (pc := 7) (i := 0) (j := 0) E dX6_closeRepeat_7 rfl rfl ?_
    refine tt_getI (pc := 8) E lfX6_28 rfl h0 dX6_closeRepeat_8 ?_
    refine tt_aload_n (pc := 11) (i := 0) (j := 0) E dX6_closeRepeat_11 rfl rfl ?_
    obtain ⟨q_1, hq_2, hf⟩ := bd_some hf
    refine tt_getP (pc := 12) (t := 11) E lfX6_17 rfl rfl h0 dX6_closeRepeat_12 hq_2 (fun kq_3 => ?_)
    refine tt_alen (pc := 15) (v := Int32.ofNat (Ln q_1)) E (k := 11) ⟨(Nat.le_of_ble_eq_true rfl), (Nat.le_of_ble_eq_true rfl)⟩ kq_3 rfl dX6_closeRepeat_15 ?_
    refine tt_icmp_gt (pc := 16) (tgt := 47) E dX6_closeRepeat_16 rfl (fun c_14 => ?_) (fun c_14 => ?_)
    · have hf := ip c_14 hf
      exact tt_vret (pc := 47) E hr hlk dX6_closeRepeat_47 (Nat.le_of_ble_eq_true rfl) (Nat.le_of_ble_eq_true rfl) hf
    · have hf := ine c_14 hf
      refine tt_aload_n (pc := 19) (i := 0) (j := 0) E dX6_closeRepeat_19 rfl rfl ?_
      refine tt_dup (pc := 20) E dX6_closeRepeat_20 rfl ?_
      refine tt_getI (pc := 21) E lfX6_28 rfl h0 dX6_closeRepeat_21 ?_
      refine tt_iconst (pc := 24) (v := 1) E dX6_closeRepeat_24 ic_1 ?_
      refine tt_isub (pc := 25) E dX6_closeRepeat_25 ?_
      refine tt_putI (pc := 26) E lfX6_28 rfl h0 dX6_closeRepeat_26 (tt_nmM hf (fun m_4 hf => ?_))
      refine tt_aload_n (pc := 29) (i := 0) (j := 0) E dX6_closeRepeat_29 rfl rfl ?_
      refine tt_bipush (pc := 30) (v := 9) E dX6_closeRepeat_30 bc_9 ?_
      obtain ⟨r_5, hr_6, hf⟩ := bd_some hf
      have hc_7 := cX6_added_ok (l := l) (B := B) (D := D) (cT := cT) (n := n) (adK := adK) (adV := adV) h0 hr_6
      refine tt_cP (pc := 32) (tt_vi E lmX6_63 mtX6_added hc_7 h0 rfl rfl (Nat.le_of_ble_eq_true rfl) ⟨(Nat.le_of_ble_eq_true rfl), (Nat.le_of_ble_eq_true rfl)⟩ ⟨(Nat.le_of_ble_eq_true rfl), (Nat.le_of_ble_eq_true rfl)⟩ dX6_closeRepeat_32) (fun kq_8 => ?_)
      refine tt_aload_n (pc := 35) (i := 0) (j := 0) E dX6_closeRepeat_35 rfl rfl ?_
      obtain ⟨q_9, hq_10, hf⟩ := bd_some hf
      refine tt_getP (pc := 36) (t := 11) E lfX6_17 rfl rfl h0 dX6_closeRepeat_36 hq_10 (fun kq_11 => ?_)
      refine tt_aload_n (pc := 39) (i := 0) (j := 0) E dX6_closeRepeat_39 rfl rfl ?_
      refine tt_getI (pc := 40) E lfX6_28 rfl h0 dX6_closeRepeat_40 ?_
      obtain ⟨g_12, hf⟩ := gd_some hf
      refine tt_iald (pc := 43) E kq_11 g_12 dX6_closeRepeat_43 ?_
      refine tt_putI (pc := 44) E lfX6_131 rfl kq_8 dX6_closeRepeat_44 (tt_nmM hf (fun m_13 hf => ?_))
      exact tt_vret (pc := 47) E hr hlk dX6_closeRepeat_47 (Nat.le_of_ble_eq_true rfl) (Nat.le_of_ble_eq_true rfl) hf
set_option maxHeartbeats 4000000 in
theorem tX6_whatHere_2 {p : Program} {l : Launch} {e : Env} {s : State} {m : MethodId} {args : Array Value} {below : List Frame} {meth : Method} {c : Code} {B : Nat} {D : va_G} {cT : Nat → ClassId} {n : Nat} {adK adV : Nat → Nat} {res : Int32} (E : EE p s m args c cX6_whatHere 2 RX6 B D cT (XW B adK adV)) (hr : meth.sig.returnType = some .int) (hlk : meth.locks = false) {o0 : Nat} (h0 : isK n o0 7) {μ : Mem} : ∀ (fu : Nat) (v1 : Int32), zl1 (gX6_whatHere_2 o0 μ) fu v1 = some res → TT p l e rmX6_whatHere s m args below meth c (QI B D cT n below args s (res, μ)) 2 B D cT n 0 0 μ 2 [(0, .ref (B + o0)), (1, .int v1)] [] := by
  intro fu
  induction fu with
  | zero => intro v1 hf; exact absurd hf (fun h => by cases h)
  | succ fu ih =>
    intro v1 hf
    have hf : gX6_whatHere_2 o0 μ (zl1 (gX6_whatHere_2 o0 μ) fu) v1 = some res := hf
    unfold gX6_whatHere_2 at hf
    refine tt_iload_n (pc := 2) (i := 1) (j := 1) E dX6_whatHere_2 rfl rfl ?_
    refine tt_bipush (pc := 3) (v := 9) E dX6_whatHere_3 bc_9 ?_
    refine tt_icmp_ge (pc := 5) (tgt := 27) E dX6_whatHere_5 rfl (fun c_10 => ?_) (fun c_10 => ?_)
    · have hf := ip c_10 hf
      refine tt_iconst (pc := 27) (v := (-1)) E dX6_whatHere_27 ic_m1 ?_
      exact tt_iret (pc := 28) E hr hlk dX6_whatHere_28 (Nat.le_of_ble_eq_true rfl) (Nat.le_of_ble_eq_true rfl) (pv hf)
    · have hf := ine c_10 hf
      refine tt_aload_n (pc := 8) (i := 0) (j := 0) E dX6_whatHere_8 rfl rfl ?_
      refine tt_iload_n (pc := 9) (i := 1) (j := 1) E dX6_whatHere_9 rfl rfl ?_
      obtain ⟨r_1, hr_2, hf⟩ := bd_some hf
      have hc_3 := cX1_wordOf_ok (l := l) (B := B) (D := D) (cT := cT) (n := n) (adK := adK) (adV := adV) hr_2
      refine tt_cS (pc := 10) (tt_si E lmX6_81 mtX1_wordOf hc_3 rfl rfl (Nat.le_of_ble_eq_true rfl) ⟨(Nat.le_of_ble_eq_true rfl), (Nat.le_of_ble_eq_true rfl)⟩ ⟨(Nat.le_of_ble_eq_true rfl), (Nat.le_of_ble_eq_true rfl)⟩ dX6_whatHere_10) ?_
      obtain ⟨r_4, hr_5, hf⟩ := bd_some hf
      have hc_6 := cX9_isWord_ok (l := l) (B := B) (D := D) (cT := cT) (n := n) (adK := adK) (adV := adV) h0 hr_5
      refine tt_cZ (pc := 13) (tt_vi E lmX6_85 mtX9_isWord hc_6 h0 rfl rfl (Nat.le_of_ble_eq_true rfl) ⟨(Nat.le_of_ble_eq_true rfl), (Nat.le_of_ble_eq_true rfl)⟩ ⟨(Nat.le_of_ble_eq_true rfl), (Nat.le_of_ble_eq_true rfl)⟩ dX6_whatHere_13) (fun z_7 => ?_)
      refine tt_if_eq (pc := 16) (tgt := 21) E dX6_whatHere_16 rfl (fun c_9 => ?_) (fun c_9 => ?_)
      · have hf := ip c_9 hf
        obtain ⟨v_8, ev_8, hf⟩ := nm_ex hf
        refine tt_iinc (pc := 21) (i := 1) (j := 1) (lv' := [(1, .int v_8), (0, .ref (B + o0))]) E dX6_whatHere_21 rfl (ev_8).symm (Nat.le_of_ble_eq_true rfl) rfl ?_
        refine tt_goto (pc := 24) (tgt := 2) E dX6_whatHere_24 rfl ?_
        refine tt_sub [1, 0] (lv' := [(0, .ref (B + o0)), (1, .int v_8)]) rfl ?_
        exact ih v_8 hf
      · have hf := ine c_9 hf
        refine tt_iload_n (pc := 19) (i := 1) (j := 1) E dX6_whatHere_19 rfl rfl ?_
        exact tt_iret (pc := 20) E hr hlk dX6_whatHere_20 (Nat.le_of_ble_eq_true rfl) (Nat.le_of_ble_eq_true rfl) (pv hf)
set_option maxHeartbeats 4000000 in
theorem cX6_whatHere_ok {l : Launch} {B : Nat} {D : va_G} {cT : Nat → ClassId} {n : Nat} {adK adV : Nat → Nat} {o0 : Nat} {μ : Mem} {res : Int32} (h0 : isK n o0 7) (hf : fX6_whatHere o0 μ = some res) : MI l yX6_whatHere cX6_whatHere 2 (some .int) rmX6_whatHere B D cT (XW B adK adV) n [.ref (B + o0)] μ (res, μ) := by
  refine tt_ofW mtX6_whatHere.1 (Nat.le_of_ble_eq_true rfl) rfl ?_
  intro p e s m below meth c E0 hr hlk
  have E : EE p s m _ c cX6_whatHere 2 RX6 B D cT (XW B adK adV) := E0
  unfold fX6_whatHere at hf
  refine tt_iconst (pc := 0) (v := 0) E dX6_whatHere_0 ic_0 ?_
  refine tt_istore_n (pc := 1) (i := 1) (lv' := [(1, .int 0), (0, .ref (B + o0))]) E dX6_whatHere_1 rfl (Nat.le_of_ble_eq_true rfl) rfl ?_
  refine tt_sub [1, 0] (lv' := [(0, .ref (B + o0)), (1, .int 0)]) rfl ?_
  exact tX6_whatHere_2 E hr hlk h0 FU 0 hf
set_option maxHeartbeats 4000000 in
theorem tX9_takeNumber_29 {p : Program} {l : Launch} {e : Env} {s : State} {m : MethodId} {args : Array Value} {below : List Frame} {meth : Method} {c : Code} {B : Nat} {D : va_G} {cT : Nat → ClassId} {n : Nat} {adK adV : Nat → Nat} {res : (Int32 ⊕ Nat) × Mem} (E : EE p s m args c cX9_takeNumber 4 RX9 B D cT (XW B adK adV)) (hr : meth.sig.returnType = some .int) (hlk : meth.locks = false) (hl0 : l.stackTraces = false) (hno : ∀ x ∈ c.exceptionTable.toList, False) {o0 : Nat} (h0 : isK n o0 7) {μ : Mem} (hf : fX9_takeNumber_29 o0 μ = some res) : TT p l e rmX9_takeNumber s m args below meth c (XQI B D cT n below args s res) 4 B D cT n 0 0 μ 29 [(0, .ref (B + o0))] [] := by
  unfold fX9_takeNumber_29 at hf
  refine tt_aload_n (pc := 29) (i := 0) (j := 0) E dX9_takeNumber_29 rfl rfl ?_
  refine tt_iconst (pc := 30) (v := 2) E dX9_takeNumber_30 ic_2 ?_
  obtain ⟨r_1, hr_2, hf⟩ := bd_some hf
  have hc_3 := cX9_fail_ok (l := l) (B := B) (D := D) (cT := cT) (n := n) (adK := adK) (adV := adV) hl0 h0 hr_2
  refine tx_cV (pc := 31) (tx_vi E lmX9_84 mtX9_fail hc_3 h0 rfl rfl (Nat.le_of_ble_eq_true rfl) ⟨(Nat.le_of_ble_eq_true rfl), (Nat.le_of_ble_eq_true rfl)⟩ ⟨(Nat.le_of_ble_eq_true rfl), (Nat.le_of_ble_eq_true rfl)⟩ dX9_takeNumber_31) (fun k_4 m_5 hx_6 => ?_) (fun m_5 hx_6 => ?_)
  · subst hx_6; exact tx_out hno hlk (Nat.le_of_ble_eq_true rfl) (Nat.le_of_ble_eq_true rfl) hf
  subst hx_6
  have hf := xb_l hf
  refine tt_aload_n (pc := 34) (i := 0) (j := 0) E dX9_takeNumber_34 rfl rfl ?_
  refine tt_getI (pc := 35) E lfX9_41 rfl h0 dX9_takeNumber_35 ?_
  refine tt_nmI hf (fun v_8 hf => ?_)
  refine tt_istore_n (pc := 38) (i := 3) (lv' := [(3, .int v_8), (0, .ref (B + o0))]) E dX9_takeNumber_38 rfl (Nat.le_of_ble_eq_true rfl) rfl ?_
  refine tt_aload_n (pc := 39) (i := 0) (j := 1) E dX9_takeNumber_39 rfl rfl ?_
  obtain ⟨r_9, hr_10, hf⟩ := bd_some hf
  have hc_11 := cX9_step_ok (l := l) (B := B) (D := D) (cT := cT) (n := n) (adK := adK) (adV := adV) h0 hr_10
  refine tt_cV (pc := 40) (tt_vi E lmX9_47 mtX9_step hc_11 h0 rfl rfl (Nat.le_of_ble_eq_true rfl) ⟨(Nat.le_of_ble_eq_true rfl), (Nat.le_of_ble_eq_true rfl)⟩ ⟨(Nat.le_of_ble_eq_true rfl), (Nat.le_of_ble_eq_true rfl)⟩ dX9_takeNumber_40) ?_
  refine tt_iload_n (pc := 43) (i := 3) (j := 0) E dX9_takeNumber_43 rfl rfl ?_
  exact tx_iret (pc := 44) E hr hlk dX9_takeNumber_44 hf
set_option maxHeartbeats 4000000 in
theorem tX9_takeNumber_13 {p : Program} {l : Launch} {e : Env} {s : State} {m : MethodId} {args : Array Value} {below : List Frame} {meth : Method} {c : Code} {B : Nat} {D : va_G} {cT : Nat → ClassId} {n : Nat} {adK adV : Nat → Nat} {res : (Int32 ⊕ Nat) × Mem} (E : EE p s m args c cX9_takeNumber 4 RX9 B D cT (XW B adK adV)) (hr : meth.sig.returnType = some .int) (hlk : meth.locks = false) (hl0 : l.stackTraces = false) (hno : ∀ x ∈ c.exceptionTable.toList, False) {o0 : Nat} {v1 : Int32} {v2 : Int32} (h0 : isK n o0 7) {μ : Mem} (hf : fX9_takeNumber_13 o0 v1 v2 μ = some res) : TT p l e rmX9_takeNumber s m args below meth c (XQI B D cT n below args s res) 4 B D cT n 0 0 μ 13 [(0, .ref (B + o0)), (1, .int v1), (2, .int v2)] [] := by
  unfold fX9_takeNumber_13 at hf
  refine tt_aload_n (pc := 13) (i := 0) (j := 0) E dX9_takeNumber_13 rfl rfl ?_
  refine tt_getI (pc := 14) E lfX9_41 rfl h0 dX9_takeNumber_14 ?_
  refine tt_iload_n (pc := 17) (i := 1) (j := 1) E dX9_takeNumber_17 rfl rfl ?_
  refine tt_icmp_lt (pc := 18) (tgt := 29) E dX9_takeNumber_18 rfl (fun c_6 => ?_) (fun c_6 => ?_)
  · have hf := ip c_6 hf
    refine tt_sub [0] (lv' := [(0, .ref (B + o0))]) rfl ?_
    exact tX9_takeNumber_29 E hr hlk hl0 hno h0 hf
  · have hf := ine c_6 hf
    refine tt_aload_n (pc := 21) (i := 0) (j := 0) E dX9_takeNumber_21 rfl rfl ?_
    refine tt_getI (pc := 22) E lfX9_41 rfl h0 dX9_takeNumber_22 ?_
    refine tt_iload_n (pc := 25) (i := 2) (j := 2) E dX9_takeNumber_25 rfl rfl ?_
    refine tt_icmp_le (pc := 26) (tgt := 34) E dX9_takeNumber_26 rfl (fun c_5 => ?_) (fun c_5 => ?_)
    · have hf := ip c_5 hf
      refine tt_aload_n (pc := 34) (i := 0) (j := 0) E dX9_takeNumber_34 rfl rfl ?_
      refine tt_getI (pc := 35) E lfX9_41 rfl h0 dX9_takeNumber_35 ?_
      refine tt_nmI hf (fun v_1 hf => ?_)
      refine tt_istore_n (pc := 38) (i := 3) (lv' := [(3, .int v_1), (0, .ref (B + o0)), (1, .int v1), (2, .int v2)]) E dX9_takeNumber_38 rfl (Nat.le_of_ble_eq_true rfl) rfl ?_
      refine tt_aload_n (pc := 39) (i := 0) (j := 1) E dX9_takeNumber_39 rfl rfl ?_
      obtain ⟨r_2, hr_3, hf⟩ := bd_some hf
      have hc_4 := cX9_step_ok (l := l) (B := B) (D := D) (cT := cT) (n := n) (adK := adK) (adV := adV) h0 hr_3
      refine tt_cV (pc := 40) (tt_vi E lmX9_47 mtX9_step hc_4 h0 rfl rfl (Nat.le_of_ble_eq_true rfl) ⟨(Nat.le_of_ble_eq_true rfl), (Nat.le_of_ble_eq_true rfl)⟩ ⟨(Nat.le_of_ble_eq_true rfl), (Nat.le_of_ble_eq_true rfl)⟩ dX9_takeNumber_40) ?_
      refine tt_iload_n (pc := 43) (i := 3) (j := 0) E dX9_takeNumber_43 rfl rfl ?_
      exact tx_iret (pc := 44) E hr hlk dX9_takeNumber_44 hf
    · have hf := ine c_5 hf
      refine tt_sub [0] (lv' := [(0, .ref (B + o0))]) rfl ?_
      exact tX9_takeNumber_29 E hr hlk hl0 hno h0 hf
set_option maxHeartbeats 4000000 in
theorem cX9_takeNumber_ok {l : Launch} {B : Nat} {D : va_G} {cT : Nat → ClassId} {n : Nat} {adK adV : Nat → Nat} {o0 : Nat} {v1 : Int32} {v2 : Int32} (hl0 : l.stackTraces = false) {μ : Mem} {res : (Int32 ⊕ Nat) × Mem} (h0 : isK n o0 7) (hf : fX9_takeNumber o0 v1 v2 μ = some res) : XI l yX9_takeNumber cX9_takeNumber 4 (some .int) rmX9_takeNumber B D cT (XW B adK adV) n [.ref (B + o0), .int v1, .int v2] μ res := by
  refine tx_ofW mtX9_takeNumber.1 (Nat.le_of_ble_eq_true rfl) rfl ?_
  intro p e s m below meth c E0 hr hlk hno
  have E : EE p s m _ c cX9_takeNumber 4 RX9 B D cT (XW B adK adV) := E0
  unfold fX9_takeNumber at hf
  refine tt_aload_n (pc := 0) (i := 0) (j := 0) E dX9_takeNumber_0 rfl rfl ?_
  refine tt_getI (pc := 1) E lfX9_34 rfl h0 dX9_takeNumber_1 ?_
  refine tt_iconst (pc := 4) (v := 2) E dX9_takeNumber_4 ic_2 ?_
  refine tt_icmp_eq (pc := 5) (tgt := 13) E dX9_takeNumber_5 rfl (fun c_8 => ?_) (fun c_8 => ?_)
  · have hf := ip c_8 hf
    exact tX9_takeNumber_13 E hr hlk hl0 hno h0 hf
  · have hf := ine c_8 hf
    refine tt_aload_n (pc := 8) (i := 0) (j := 0) E dX9_takeNumber_8 rfl rfl ?_
    refine tt_iconst (pc := 9) (v := 1) E dX9_takeNumber_9 ic_1 ?_
    obtain ⟨r_1, hr_2, hf⟩ := bd_some hf
    have hc_3 := cX9_fail_ok (l := l) (B := B) (D := D) (cT := cT) (n := n) (adK := adK) (adV := adV) hl0 h0 hr_2
    refine tx_cV (pc := 10) (tx_vi E lmX9_84 mtX9_fail hc_3 h0 rfl rfl (Nat.le_of_ble_eq_true rfl) ⟨(Nat.le_of_ble_eq_true rfl), (Nat.le_of_ble_eq_true rfl)⟩ ⟨(Nat.le_of_ble_eq_true rfl), (Nat.le_of_ble_eq_true rfl)⟩ dX9_takeNumber_10) (fun k_4 m_5 hx_6 => ?_) (fun m_5 hx_6 => ?_)
    · subst hx_6; exact tx_out hno hlk (Nat.le_of_ble_eq_true rfl) (Nat.le_of_ble_eq_true rfl) hf
    subst hx_6
    have hf := xb_l hf
    exact tX9_takeNumber_13 E hr hlk hl0 hno h0 hf
set_option maxHeartbeats 4000000 in
theorem cX6_openRepeat_ok {l : Launch} {B : Nat} {D : va_G} {cT : Nat → ClassId} {n : Nat} {adK adV : Nat → Nat} {o0 : Nat} {μ : Mem} {res : Mem} (h0 : isK n o0 5) (hf : fX6_openRepeat o0 μ = some res) : MV l yX6_openRepeat cX6_openRepeat 1 (none) rmX6_openRepeat B D cT (XW B adK adV) n [.ref (B + o0)] μ res := by
  refine tt_ofW mtX6_openRepeat.1 (Nat.le_of_ble_eq_true rfl) rfl ?_
  intro p e s m below meth c E0 hr hlk
  have E : EE p s m _ c cX6_openRepeat 1 RX6 B D cT (XW B adK adV) := E0
  unfold fX6_openRepeat at hf
  refine tt_aload_n (pc := 0) (i := 0) (j := 0) E dX6_openRepeat_0 rfl rfl ?_
  refine tt_getI (pc := 1) E lfX6_28 rfl h0 dX6_openRepeat_1 ?_
  refine tt_if_lt (pc := 4) (tgt := 44) E dX6_openRepeat_4 rfl (fun c_11 => ?_) (fun c_11 => ?_)
  · have hf := ip c_11 hf
    exact tt_vret (pc := 44) E hr hlk dX6_openRepeat_44 (Nat.le_of_ble_eq_true rfl) (Nat.le_of_ble_eq_true rfl) hf
  · have hf := ine c_11 hf
    refine tt_aload_n (pc := 7) (i := 0) (j := 0) E dX6_openRepeat_7 rfl rfl ?_
    refine tt_getI (pc := 8) E lfX6_28 rfl h0 dX6_openRepeat_8 ?_
    refine tt_aload_n (pc := 11) (i := 0) (j := 0) E dX6_openRepeat_11 rfl rfl ?_
    obtain ⟨q_1, hq_2, hf⟩ := bd_some hf
    refine tt_getP (pc := 12) (t := 11) E lfX6_17 rfl rfl h0 dX6_openRepeat_12 hq_2 (fun kq_3 => ?_)
    refine tt_alen (pc := 15) (v := Int32.ofNat (Ln q_1)) E (k := 11) ⟨(Nat.le_of_ble_eq_true rfl), (Nat.le_of_ble_eq_true rfl)⟩ kq_3 rfl dX6_openRepeat_15 ?_
    refine tt_icmp_ge (pc := 16) (tgt := 44) E dX6_openRepeat_16 rfl (fun c_10 => ?_) (fun c_10 => ?_)
    · have hf := ip c_10 hf
      exact tt_vret (pc := 44) E hr hlk dX6_openRepeat_44 (Nat.le_of_ble_eq_true rfl) (Nat.le_of_ble_eq_true rfl) hf
    · have hf := ine c_10 hf
      refine tt_aload_n (pc := 19) (i := 0) (j := 0) E dX6_openRepeat_19 rfl rfl ?_
      obtain ⟨q_4, hq_5, hf⟩ := bd_some hf
      refine tt_getP (pc := 20) (t := 11) E lfX6_17 rfl rfl h0 dX6_openRepeat_20 hq_5 (fun kq_6 => ?_)
      refine tt_aload_n (pc := 23) (i := 0) (j := 0) E dX6_openRepeat_23 rfl rfl ?_
      refine tt_getI (pc := 24) E lfX6_28 rfl h0 dX6_openRepeat_24 ?_
      refine tt_aload_n (pc := 27) (i := 0) (j := 0) E dX6_openRepeat_27 rfl rfl ?_
      refine tt_getI (pc := 28) E lfX6_21 rfl h0 dX6_openRepeat_28 ?_
      refine tt_iconst (pc := 31) (v := 1) E dX6_openRepeat_31 ic_1 ?_
      refine tt_isub (pc := 32) E dX6_openRepeat_32 ?_
      obtain ⟨g_8, hf⟩ := gd_some hf
      refine tt_iast (pc := 33) E kq_6 g_8 dX6_openRepeat_33 (tt_nmM hf (fun m_7 hf => ?_))
      refine tt_aload_n (pc := 34) (i := 0) (j := 0) E dX6_openRepeat_34 rfl rfl ?_
      refine tt_dup (pc := 35) E dX6_openRepeat_35 rfl ?_
      refine tt_getI (pc := 36) E lfX6_28 rfl h0 dX6_openRepeat_36 ?_
      refine tt_iconst (pc := 39) (v := 1) E dX6_openRepeat_39 ic_1 ?_
      refine tt_iadd (pc := 40) E dX6_openRepeat_40 ?_
      refine tt_putI (pc := 41) E lfX6_28 rfl h0 dX6_openRepeat_41 (tt_nmM hf (fun m_9 hf => ?_))
      exact tt_vret (pc := 44) E hr hlk dX6_openRepeat_44 (Nat.le_of_ble_eq_true rfl) (Nat.le_of_ble_eq_true rfl) hf
set_option maxHeartbeats 4000000 in
theorem tX6_readName_13 {p : Program} {l : Launch} {e : Env} {s : State} {m : MethodId} {args : Array Value} {below : List Frame} {meth : Method} {c : Code} {B : Nat} {D : va_G} {cT : Nat → ClassId} {n : Nat} {adK adV : Nat → Nat} {res : (Int32 ⊕ Nat) × Mem} (E : EE p s m args c cX6_readName 3 RX6 B D cT (XW B adK adV)) (hr : meth.sig.returnType = some .int) (hlk : meth.locks = false) (hl0 : l.stackTraces = false) (hno : ∀ x ∈ c.exceptionTable.toList, False) {o0 : Nat} {o1 : Nat} (h0 : isK n o0 7) (h1 : isK n o1 1) {μ : Mem} (hf : fX6_readName_13 o0 o1 μ = some res) : TT p l e rmX6_readName s m args below meth c (XQI B D cT n below args s res) 3 B D cT n 0 0 μ 13 [(0, .ref (B + o0)), (1, .ref (B + o1))] [] := by
  unfold fX6_readName_13 at hf
  refine tt_aload_n (pc := 13) (i := 1) (j := 1) E dX6_readName_13 rfl rfl ?_
  refine tt_aload_n (pc := 14) (i := 0) (j := 0) E dX6_readName_14 rfl rfl ?_
  refine tt_getJ (pc := 15) E lfX6_110 rfl h0 dX6_readName_15 ?_
  obtain ⟨r_1, hr_2, hf⟩ := bd_some hf
  have hc_3 := cX2_numberOf_ok (l := l) (B := B) (D := D) (cT := cT) (n := n) (adK := adK) (adV := adV) h1 hr_2
  refine tt_cI (pc := 18) (tt_vi E lmX6_114 mtX2_numberOf hc_3 h1 rfl rfl (Nat.le_of_ble_eq_true rfl) ⟨(Nat.le_of_ble_eq_true rfl), (Nat.le_of_ble_eq_true rfl)⟩ ⟨(Nat.le_of_ble_eq_true rfl), (Nat.le_of_ble_eq_true rfl)⟩ dX6_readName_18) ?_
  refine tt_istore_n (pc := 21) (i := 2) (lv' := [(2, .int r_1), (0, .ref (B + o0)), (1, .ref (B + o1))]) E dX6_readName_21 rfl (Nat.le_of_ble_eq_true rfl) rfl ?_
  refine tt_iload_n (pc := 22) (i := 2) (j := 0) E dX6_readName_22 rfl rfl ?_
  refine tt_iconst (pc := 23) (v := (-1)) E dX6_readName_23 ic_m1 ?_
  refine tt_icmp_ne (pc := 24) (tgt := 32) E dX6_readName_24 rfl (fun c_17 => ?_) (fun c_17 => ?_)
  · have hf := ine c_17 hf
    refine tt_aload_n (pc := 32) (i := 0) (j := 1) E dX6_readName_32 rfl rfl ?_
    obtain ⟨r_4, hr_5, hf⟩ := bd_some hf
    have hc_6 := cX9_step_ok (l := l) (B := B) (D := D) (cT := cT) (n := n) (adK := adK) (adV := adV) h0 hr_5
    refine tt_cV (pc := 33) (tt_vi E lmX6_41 mtX9_step hc_6 h0 rfl rfl (Nat.le_of_ble_eq_true rfl) ⟨(Nat.le_of_ble_eq_true rfl), (Nat.le_of_ble_eq_true rfl)⟩ ⟨(Nat.le_of_ble_eq_true rfl), (Nat.le_of_ble_eq_true rfl)⟩ dX6_readName_33) ?_
    refine tt_iload_n (pc := 36) (i := 2) (j := 0) E dX6_readName_36 rfl rfl ?_
    exact tx_iret (pc := 37) E hr hlk dX6_readName_37 hf
  · have hf := ip c_17 hf
    refine tt_aload_n (pc := 27) (i := 0) (j := 1) E dX6_readName_27 rfl rfl ?_
    refine tt_iconst (pc := 28) (v := 4) E dX6_readName_28 ic_4 ?_
    obtain ⟨r_7, hr_8, hf⟩ := bd_some hf
    have hc_9 := cX9_fail_ok (l := l) (B := B) (D := D) (cT := cT) (n := n) (adK := adK) (adV := adV) hl0 h0 hr_8
    refine tx_cV (pc := 29) (tx_vi E lmX6_55 mtX9_fail hc_9 h0 rfl rfl (Nat.le_of_ble_eq_true rfl) ⟨(Nat.le_of_ble_eq_true rfl), (Nat.le_of_ble_eq_true rfl)⟩ ⟨(Nat.le_of_ble_eq_true rfl), (Nat.le_of_ble_eq_true rfl)⟩ dX6_readName_29) (fun k_10 m_11 hx_12 => ?_) (fun m_11 hx_12 => ?_)
    · subst hx_12; exact tx_out hno hlk (Nat.le_of_ble_eq_true rfl) (Nat.le_of_ble_eq_true rfl) hf
    subst hx_12
    have hf := xb_l hf
    refine tt_aload_n (pc := 32) (i := 0) (j := 1) E dX6_readName_32 rfl rfl ?_
    obtain ⟨r_14, hr_15, hf⟩ := bd_some hf
    have hc_16 := cX9_step_ok (l := l) (B := B) (D := D) (cT := cT) (n := n) (adK := adK) (adV := adV) h0 hr_15
    refine tt_cV (pc := 33) (tt_vi E lmX6_41 mtX9_step hc_16 h0 rfl rfl (Nat.le_of_ble_eq_true rfl) ⟨(Nat.le_of_ble_eq_true rfl), (Nat.le_of_ble_eq_true rfl)⟩ ⟨(Nat.le_of_ble_eq_true rfl), (Nat.le_of_ble_eq_true rfl)⟩ dX6_readName_33) ?_
    refine tt_iload_n (pc := 36) (i := 2) (j := 0) E dX6_readName_36 rfl rfl ?_
    exact tx_iret (pc := 37) E hr hlk dX6_readName_37 hf
set_option maxHeartbeats 4000000 in
theorem cX6_readName_ok {l : Launch} {B : Nat} {D : va_G} {cT : Nat → ClassId} {n : Nat} {adK adV : Nat → Nat} {o0 : Nat} {o1 : Nat} (hl0 : l.stackTraces = false) {μ : Mem} {res : (Int32 ⊕ Nat) × Mem} (h0 : isK n o0 7) (h1 : isK n o1 1) (hf : fX6_readName o0 o1 μ = some res) : XI l yX6_readName cX6_readName 3 (some .int) rmX6_readName B D cT (XW B adK adV) n [.ref (B + o0), .ref (B + o1)] μ res := by
  refine tx_ofW mtX6_readName.1 (Nat.le_of_ble_eq_true rfl) rfl ?_
  intro p e s m below meth c E0 hr hlk hno
  have E : EE p s m _ c cX6_readName 3 RX6 B D cT (XW B adK adV) := E0
  unfold fX6_readName at hf
  refine tt_aload_n (pc := 0) (i := 0) (j := 0) E dX6_readName_0 rfl rfl ?_
  refine tt_getI (pc := 1) E lfX6_32 rfl h0 dX6_readName_1 ?_
  refine tt_iconst (pc := 4) (v := 1) E dX6_readName_4 ic_1 ?_
  refine tt_icmp_eq (pc := 5) (tgt := 13) E dX6_readName_5 rfl (fun c_8 => ?_) (fun c_8 => ?_)
  · have hf := ip c_8 hf
    exact tX6_readName_13 E hr hlk hl0 hno h0 h1 hf
  · have hf := ine c_8 hf
    refine tt_aload_n (pc := 8) (i := 0) (j := 0) E dX6_readName_8 rfl rfl ?_
    refine tt_iconst (pc := 9) (v := 1) E dX6_readName_9 ic_1 ?_
    obtain ⟨r_1, hr_2, hf⟩ := bd_some hf
    have hc_3 := cX9_fail_ok (l := l) (B := B) (D := D) (cT := cT) (n := n) (adK := adK) (adV := adV) hl0 h0 hr_2
    refine tx_cV (pc := 10) (tx_vi E lmX6_55 mtX9_fail hc_3 h0 rfl rfl (Nat.le_of_ble_eq_true rfl) ⟨(Nat.le_of_ble_eq_true rfl), (Nat.le_of_ble_eq_true rfl)⟩ ⟨(Nat.le_of_ble_eq_true rfl), (Nat.le_of_ble_eq_true rfl)⟩ dX6_readName_10) (fun k_4 m_5 hx_6 => ?_) (fun m_5 hx_6 => ?_)
    · subst hx_6; exact tx_out hno hlk (Nat.le_of_ble_eq_true rfl) (Nat.le_of_ble_eq_true rfl) hf
    subst hx_6
    have hf := xb_l hf
    exact tX6_readName_13 E hr hlk hl0 hno h0 h1 hf
set_option maxHeartbeats 4000000 in
theorem tX6_readArguments_45 {p : Program} {l : Launch} {e : Env} {s : State} {m : MethodId} {args : Array Value} {below : List Frame} {meth : Method} {c : Code} {B : Nat} {D : va_G} {cT : Nat → ClassId} {n : Nat} {adK adV : Nat → Nat} {res : (Unit ⊕ Nat) × Mem} (E : EE p s m args c cX6_readArguments 3 RX6 B D cT (XW B adK adV)) (hr : meth.sig.returnType = none) (hlk : meth.locks = false) (hl0 : l.stackTraces = false) (hno : ∀ x ∈ c.exceptionTable.toList, False) {o0 : Nat} {o1 : Nat} (h0 : isK n o0 0) (h1 : isK n o1 7) {μ : Mem} (hf : fX6_readArguments_45 o0 o1 μ = some res) : TT p l e rmX6_readArguments s m args below meth c (XQV B D cT n below args s res) 3 B D cT n 0 0 μ 45 [(0, .ref (B + o0)), (1, .ref (B + o1))] [] := by
  unfold fX6_readArguments_45 at hf
  refine tt_aload_n (pc := 45) (i := 0) (j := 0) E dX6_readArguments_45 rfl rfl ?_
  refine tt_getI (pc := 46) E lfX6_89 rfl h0 dX6_readArguments_46 ?_
  refine tt_bipush (pc := 49) (v := 7) E dX6_readArguments_49 bc_7 ?_
  refine tt_icmp_ne (pc := 51) (tgt := 91) E dX6_readArguments_51 rfl (fun c_35 => ?_) (fun c_35 => ?_)
  · have hf := ine c_35 hf
    exact tx_vret (pc := 91) E hr hlk dX6_readArguments_91 hf
  · have hf := ip c_35 hf
    refine tt_aload_n (pc := 54) (i := 0) (j := 0) E dX6_readArguments_54 rfl rfl ?_
    refine tt_aload_n (pc := 55) (i := 1) (j := 1) E dX6_readArguments_55 rfl rfl ?_
    obtain ⟨r_1, hr_2, hf⟩ := bd_some hf
    have hc_3 := cX0_kindHere_ok (l := l) (B := B) (D := D) (cT := cT) (n := n) (adK := adK) (adV := adV) h1 hr_2
    refine tt_cI (pc := 56) (tt_si E lmX6_99 mtX0_kindHere hc_3 rfl rfl (Nat.le_of_ble_eq_true rfl) ⟨(Nat.le_of_ble_eq_true rfl), (Nat.le_of_ble_eq_true rfl)⟩ ⟨(Nat.le_of_ble_eq_true rfl), (Nat.le_of_ble_eq_true rfl)⟩ dX6_readArguments_56) ?_
    refine tt_putI (pc := 59) E lfX6_104 rfl h0 dX6_readArguments_59 (tt_nmM hf (fun m_4 hf => ?_))
    refine tt_aload_n (pc := 62) (i := 0) (j := 0) E dX6_readArguments_62 rfl rfl ?_
    refine tt_getI (pc := 63) E lfX6_104 rfl h0 dX6_readArguments_63 ?_
    refine tt_iconst (pc := 66) (v := (-1)) E dX6_readArguments_66 ic_m1 ?_
    refine tt_icmp_ne (pc := 67) (tgt := 75) E dX6_readArguments_67 rfl (fun c_34 => ?_) (fun c_34 => ?_)
    · have hf := ine c_34 hf
      refine tt_aload_n (pc := 75) (i := 1) (j := 1) E dX6_readArguments_75 rfl rfl ?_
      obtain ⟨r_5, hr_6, hf⟩ := bd_some hf
      have hc_7 := cX9_step_ok (l := l) (B := B) (D := D) (cT := cT) (n := n) (adK := adK) (adV := adV) h1 hr_6
      refine tt_cV (pc := 76) (tt_vi E lmX6_41 mtX9_step hc_7 h1 rfl rfl (Nat.le_of_ble_eq_true rfl) ⟨(Nat.le_of_ble_eq_true rfl), (Nat.le_of_ble_eq_true rfl)⟩ ⟨(Nat.le_of_ble_eq_true rfl), (Nat.le_of_ble_eq_true rfl)⟩ dX6_readArguments_76) ?_
      refine tt_aload_n (pc := 79) (i := 0) (j := 0) E dX6_readArguments_79 rfl rfl ?_
      refine tt_aload_n (pc := 80) (i := 1) (j := 1) E dX6_readArguments_80 rfl rfl ?_
      refine tt_iconst (pc := 81) (v := 0) E dX6_readArguments_81 ic_0 ?_
      refine tt_sipush (pc := 82) (v := 999) E dX6_readArguments_82 sc_999 ?_
      obtain ⟨r_8, hr_9, hf⟩ := bd_some hf
      have hc_10 := cX9_takeNumber_ok (l := l) (B := B) (D := D) (cT := cT) (n := n) (adK := adK) (adV := adV) hl0 h1 hr_9
      refine tx_cI (pc := 85) (tx_vi E lmX6_67 mtX9_takeNumber hc_10 h1 rfl rfl (Nat.le_of_ble_eq_true rfl) ⟨(Nat.le_of_ble_eq_true rfl), (Nat.le_of_ble_eq_true rfl)⟩ ⟨(Nat.le_of_ble_eq_true rfl), (Nat.le_of_ble_eq_true rfl)⟩ dX6_readArguments_85) (fun k_11 m_12 hx_13 => ?_) (fun v_14 m_12 hx_13 => ?_)
      · subst hx_13; exact tx_out hno hlk (Nat.le_of_ble_eq_true rfl) (Nat.le_of_ble_eq_true rfl) hf
      subst hx_13
      have hf := xb_l hf
      refine tt_putI (pc := 88) E lfX6_107 rfl h0 dX6_readArguments_88 (tt_nmM hf (fun m_15 hf => ?_))
      exact tx_vret (pc := 91) E hr hlk dX6_readArguments_91 hf
    · have hf := ip c_34 hf
      refine tt_aload_n (pc := 70) (i := 1) (j := 1) E dX6_readArguments_70 rfl rfl ?_
      refine tt_iconst (pc := 71) (v := 1) E dX6_readArguments_71 ic_1 ?_
      obtain ⟨r_16, hr_17, hf⟩ := bd_some hf
      have hc_18 := cX9_fail_ok (l := l) (B := B) (D := D) (cT := cT) (n := n) (adK := adK) (adV := adV) hl0 h1 hr_17
      refine tx_cV (pc := 72) (tx_vi E lmX6_55 mtX9_fail hc_18 h1 rfl rfl (Nat.le_of_ble_eq_true rfl) ⟨(Nat.le_of_ble_eq_true rfl), (Nat.le_of_ble_eq_true rfl)⟩ ⟨(Nat.le_of_ble_eq_true rfl), (Nat.le_of_ble_eq_true rfl)⟩ dX6_readArguments_72) (fun k_19 m_20 hx_21 => ?_) (fun m_20 hx_21 => ?_)
      · subst hx_21; exact tx_out hno hlk (Nat.le_of_ble_eq_true rfl) (Nat.le_of_ble_eq_true rfl) hf
      subst hx_21
      have hf := xb_l hf
      refine tt_aload_n (pc := 75) (i := 1) (j := 1) E dX6_readArguments_75 rfl rfl ?_
      obtain ⟨r_23, hr_24, hf⟩ := bd_some hf
      have hc_25 := cX9_step_ok (l := l) (B := B) (D := D) (cT := cT) (n := n) (adK := adK) (adV := adV) h1 hr_24
      refine tt_cV (pc := 76) (tt_vi E lmX6_41 mtX9_step hc_25 h1 rfl rfl (Nat.le_of_ble_eq_true rfl) ⟨(Nat.le_of_ble_eq_true rfl), (Nat.le_of_ble_eq_true rfl)⟩ ⟨(Nat.le_of_ble_eq_true rfl), (Nat.le_of_ble_eq_true rfl)⟩ dX6_readArguments_76) ?_
      refine tt_aload_n (pc := 79) (i := 0) (j := 0) E dX6_readArguments_79 rfl rfl ?_
      refine tt_aload_n (pc := 80) (i := 1) (j := 1) E dX6_readArguments_80 rfl rfl ?_
      refine tt_iconst (pc := 81) (v := 0) E dX6_readArguments_81 ic_0 ?_
      refine tt_sipush (pc := 82) (v := 999) E dX6_readArguments_82 sc_999 ?_
      obtain ⟨r_26, hr_27, hf⟩ := bd_some hf
      have hc_28 := cX9_takeNumber_ok (l := l) (B := B) (D := D) (cT := cT) (n := n) (adK := adK) (adV := adV) hl0 h1 hr_27
      refine tx_cI (pc := 85) (tx_vi E lmX6_67 mtX9_takeNumber hc_28 h1 rfl rfl (Nat.le_of_ble_eq_true rfl) ⟨(Nat.le_of_ble_eq_true rfl), (Nat.le_of_ble_eq_true rfl)⟩ ⟨(Nat.le_of_ble_eq_true rfl), (Nat.le_of_ble_eq_true rfl)⟩ dX6_readArguments_85) (fun k_29 m_30 hx_31 => ?_) (fun v_32 m_30 hx_31 => ?_)
      · subst hx_31; exact tx_out hno hlk (Nat.le_of_ble_eq_true rfl) (Nat.le_of_ble_eq_true rfl) hf
      subst hx_31
      have hf := xb_l hf
      refine tt_putI (pc := 88) E lfX6_107 rfl h0 dX6_readArguments_88 (tt_nmM hf (fun m_33 hf => ?_))
      exact tx_vret (pc := 91) E hr hlk dX6_readArguments_91 hf
set_option maxHeartbeats 4000000 in
theorem tX6_readArguments_25 {p : Program} {l : Launch} {e : Env} {s : State} {m : MethodId} {args : Array Value} {below : List Frame} {meth : Method} {c : Code} {B : Nat} {D : va_G} {cT : Nat → ClassId} {n : Nat} {adK adV : Nat → Nat} {res : (Unit ⊕ Nat) × Mem} (E : EE p s m args c cX6_readArguments 3 RX6 B D cT (XW B adK adV)) (hr : meth.sig.returnType = none) (hlk : meth.locks = false) (hl0 : l.stackTraces = false) (hno : ∀ x ∈ c.exceptionTable.toList, False) {o0 : Nat} {o1 : Nat} (h0 : isK n o0 0) (h1 : isK n o1 7) {μ : Mem} (hf : fX6_readArguments_25 o0 o1 μ = some res) : TT p l e rmX6_readArguments s m args below meth c (XQV B D cT n below args s res) 3 B D cT n 0 0 μ 25 [(0, .ref (B + o0)), (1, .ref (B + o1))] [] := by
  unfold fX6_readArguments_25 at hf
  refine tt_aload_n (pc := 25) (i := 0) (j := 0) E dX6_readArguments_25 rfl rfl ?_
  refine tt_getI (pc := 26) E lfX6_89 rfl h0 dX6_readArguments_26 ?_
  refine tt_iconst (pc := 29) (v := 3) E dX6_readArguments_29 ic_3 ?_
  refine tt_icmp_eq (pc := 30) (tgt := 45) E dX6_readArguments_30 rfl (fun c_9 => ?_) (fun c_9 => ?_)
  · have hf := ip c_9 hf
    exact tX6_readArguments_45 E hr hlk hl0 hno h0 h1 hf
  · have hf := ine c_9 hf
    refine tt_aload_n (pc := 33) (i := 0) (j := 0) E dX6_readArguments_33 rfl rfl ?_
    refine tt_aload_n (pc := 34) (i := 1) (j := 1) E dX6_readArguments_34 rfl rfl ?_
    refine tt_iconst (pc := 35) (v := 0) E dX6_readArguments_35 ic_0 ?_
    refine tt_sipush (pc := 36) (v := 999) E dX6_readArguments_36 sc_999 ?_
    obtain ⟨r_1, hr_2, hf⟩ := bd_some hf
    have hc_3 := cX9_takeNumber_ok (l := l) (B := B) (D := D) (cT := cT) (n := n) (adK := adK) (adV := adV) hl0 h1 hr_2
    refine tx_cI (pc := 39) (tx_vi E lmX6_67 mtX9_takeNumber hc_3 h1 rfl rfl (Nat.le_of_ble_eq_true rfl) ⟨(Nat.le_of_ble_eq_true rfl), (Nat.le_of_ble_eq_true rfl)⟩ ⟨(Nat.le_of_ble_eq_true rfl), (Nat.le_of_ble_eq_true rfl)⟩ dX6_readArguments_39) (fun k_4 m_5 hx_6 => ?_) (fun v_7 m_5 hx_6 => ?_)
    · subst hx_6; exact tx_out hno hlk (Nat.le_of_ble_eq_true rfl) (Nat.le_of_ble_eq_true rfl) hf
    subst hx_6
    have hf := xb_l hf
    refine tt_putI (pc := 42) E lfX6_71 rfl h0 dX6_readArguments_42 (tt_nmM hf (fun m_8 hf => ?_))
    exact tX6_readArguments_45 E hr hlk hl0 hno h0 h1 hf
set_option maxHeartbeats 4000000 in
theorem cX6_readArguments_ok {l : Launch} {B : Nat} {D : va_G} {cT : Nat → ClassId} {n : Nat} {adK adV : Nat → Nat} {o0 : Nat} {o1 : Nat} {o2 : Nat} (hl0 : l.stackTraces = false) {μ : Mem} {res : (Unit ⊕ Nat) × Mem} (h0 : isK n o0 0) (h1 : isK n o1 7) (h2 : isK n o2 1) (hf : fX6_readArguments o0 o1 o2 μ = some res) : XV l yX6_readArguments cX6_readArguments 3 (none) rmX6_readArguments B D cT (XW B adK adV) n [.ref (B + o0), .ref (B + o1), .ref (B + o2)] μ res := by
  refine tx_ofW mtX6_readArguments.1 (Nat.le_of_ble_eq_true rfl) rfl ?_
  intro p e s m below meth c E0 hr hlk hno
  have E : EE p s m _ c cX6_readArguments 3 RX6 B D cT (XW B adK adV) := E0
  unfold fX6_readArguments at hf
  refine tt_aload_n (pc := 0) (i := 0) (j := 0) E dX6_readArguments_0 rfl rfl ?_
  refine tt_getI (pc := 1) E lfX6_89 rfl h0 dX6_readArguments_1 ?_
  refine tt_if_eq (pc := 4) (tgt := 25) E dX6_readArguments_4 rfl (fun c_10 => ?_) (fun c_10 => ?_)
  · have hf := ip c_10 hf
    refine tt_sub [0, 1] (lv' := [(0, .ref (B + o0)), (1, .ref (B + o1))]) rfl ?_
    exact tX6_readArguments_25 E hr hlk hl0 hno h0 h1 hf
  · have hf := ine c_10 hf
    refine tt_aload_n (pc := 7) (i := 0) (j := 0) E dX6_readArguments_7 rfl rfl ?_
    refine tt_getI (pc := 8) E lfX6_89 rfl h0 dX6_readArguments_8 ?_
    refine tt_bipush (pc := 11) (v := 6) E dX6_readArguments_11 bc_6 ?_
    refine tt_icmp_eq (pc := 13) (tgt := 25) E dX6_readArguments_13 rfl (fun c_9 => ?_) (fun c_9 => ?_)
    · have hf := ip c_9 hf
      refine tt_sub [0, 1] (lv' := [(0, .ref (B + o0)), (1, .ref (B + o1))]) rfl ?_
      exact tX6_readArguments_25 E hr hlk hl0 hno h0 h1 hf
    · have hf := ine c_9 hf
      refine tt_aload_n (pc := 16) (i := 0) (j := 0) E dX6_readArguments_16 rfl rfl ?_
      refine tt_aload_n (pc := 17) (i := 1) (j := 1) E dX6_readArguments_17 rfl rfl ?_
      refine tt_aload_n (pc := 18) (i := 2) (j := 2) E dX6_readArguments_18 rfl rfl ?_
      obtain ⟨r_1, hr_2, hf⟩ := bd_some hf
      have hc_3 := cX6_readName_ok (l := l) (B := B) (D := D) (cT := cT) (n := n) (adK := adK) (adV := adV) hl0 h1 h2 hr_2
      refine tx_cI (pc := 19) (tx_si E lmX6_92 mtX6_readName hc_3 rfl rfl (Nat.le_of_ble_eq_true rfl) ⟨(Nat.le_of_ble_eq_true rfl), (Nat.le_of_ble_eq_true rfl)⟩ ⟨(Nat.le_of_ble_eq_true rfl), (Nat.le_of_ble_eq_true rfl)⟩ dX6_readArguments_19) (fun k_4 m_5 hx_6 => ?_) (fun v_7 m_5 hx_6 => ?_)
      · subst hx_6; exact tx_out hno hlk (Nat.le_of_ble_eq_true rfl) (Nat.le_of_ble_eq_true rfl) hf
      subst hx_6
      have hf := xb_l hf
      refine tt_putI (pc := 22) E lfX6_96 rfl h0 dX6_readArguments_22 (tt_nmM hf (fun m_8 hf => ?_))
      refine tt_sub [0, 1] (lv' := [(0, .ref (B + o0)), (1, .ref (B + o1))]) rfl ?_
      exact tX6_readArguments_25 E hr hlk hl0 hno h0 h1 hf
set_option maxHeartbeats 4000000 in
theorem tX6_readCommand_48 {p : Program} {l : Launch} {e : Env} {s : State} {m : MethodId} {args : Array Value} {below : List Frame} {meth : Method} {c : Code} {B : Nat} {D : va_G} {cT : Nat → ClassId} {n : Nat} {adK adV : Nat → Nat} {res : (Unit ⊕ Nat) × Mem} (E : EE p s m args c cX6_readCommand 5 RX6 B D cT (XW B adK adV)) (hr : meth.sig.returnType = none) (hlk : meth.locks = false) (hl0 : l.stackTraces = false) (hno : ∀ x ∈ c.exceptionTable.toList, False) {o0 : Nat} {o1 : Nat} {o2 : Nat} {v3 : Int32} (h0 : isK n o0 5) (h1 : isK n o1 7) (h2 : isK n o2 1) {μ : Mem} (hf : fX6_readCommand_48 o0 o1 o2 v3 μ = some res) : TT p l e rmX6_readCommand s m args below meth c (XQV B D cT n below args s res) 5 B D cT n 0 0 μ 48 [(0, .ref (B + o0)), (1, .ref (B + o1)), (2, .ref (B + o2)), (3, .int v3)] [] := by
  unfold fX6_readCommand_48 at hf
  refine tt_aload_n (pc := 48) (i := 0) (j := 0) E dX6_readCommand_48 rfl rfl ?_
  refine tt_dup (pc := 49) E dX6_readCommand_49 rfl ?_
  refine tt_getI (pc := 50) E lfX6_25 rfl h0 dX6_readCommand_50 ?_
  refine tt_iconst (pc := 53) (v := 1) E dX6_readCommand_53 ic_1 ?_
  refine tt_iadd (pc := 54) E dX6_readCommand_54 ?_
  refine tt_putI (pc := 55) E lfX6_25 rfl h0 dX6_readCommand_55 (tt_nmM hf (fun m_1 hf => ?_))
  refine tt_aload_n (pc := 58) (i := 1) (j := 1) E dX6_readCommand_58 rfl rfl ?_
  obtain ⟨r_2, hr_3, hf⟩ := bd_some hf
  have hc_4 := cX9_step_ok (l := l) (B := B) (D := D) (cT := cT) (n := n) (adK := adK) (adV := adV) h1 hr_3
  refine tt_cV (pc := 59) (tt_vi E lmX6_41 mtX9_step hc_4 h1 rfl rfl (Nat.le_of_ble_eq_true rfl) ⟨(Nat.le_of_ble_eq_true rfl), (Nat.le_of_ble_eq_true rfl)⟩ ⟨(Nat.le_of_ble_eq_true rfl), (Nat.le_of_ble_eq_true rfl)⟩ dX6_readCommand_59) ?_
  refine tt_aload_n (pc := 62) (i := 0) (j := 0) E dX6_readCommand_62 rfl rfl ?_
  refine tt_iload_n (pc := 63) (i := 3) (j := 3) E dX6_readCommand_63 rfl rfl ?_
  obtain ⟨r_5, hr_6, hf⟩ := bd_some hf
  have hc_7 := cX6_added_ok (l := l) (B := B) (D := D) (cT := cT) (n := n) (adK := adK) (adV := adV) h0 hr_6
  refine tt_cP (pc := 64) (tt_vi E lmX6_63 mtX6_added hc_7 h0 rfl rfl (Nat.le_of_ble_eq_true rfl) ⟨(Nat.le_of_ble_eq_true rfl), (Nat.le_of_ble_eq_true rfl)⟩ ⟨(Nat.le_of_ble_eq_true rfl), (Nat.le_of_ble_eq_true rfl)⟩ dX6_readCommand_64) (fun kq_8 => ?_)
  refine tt_astore (pc := 67) (i := 4) (lv' := [(4, .ref (B + r_5.1)), (0, .ref (B + o0)), (1, .ref (B + o1)), (2, .ref (B + o2)), (3, .int v3)]) E dX6_readCommand_67 (Nat.le_of_ble_eq_true rfl) rfl ?_
  refine tt_iload_n (pc := 69) (i := 3) (j := 4) E dX6_readCommand_69 rfl rfl ?_
  refine tt_bipush (pc := 70) (v := 8) E dX6_readCommand_70 bc_8 ?_
  refine tt_icmp_ne (pc := 72) (tgt := 100) E dX6_readCommand_72 rfl (fun c_41 => ?_) (fun c_41 => ?_)
  · have hf := ine c_41 hf
    refine tt_aload (pc := 100) (i := 4) (j := 0) E dX6_readCommand_100 rfl ?_
    refine tt_aload_n (pc := 102) (i := 1) (j := 2) E dX6_readCommand_102 rfl rfl ?_
    refine tt_aload_n (pc := 103) (i := 2) (j := 3) E dX6_readCommand_103 rfl rfl ?_
    obtain ⟨r_9, hr_10, hf⟩ := bd_some hf
    have hc_11 := cX6_readArguments_ok (l := l) (B := B) (D := D) (cT := cT) (n := n) (adK := adK) (adV := adV) hl0 kq_8 h1 h2 hr_10
    refine tx_cV (pc := 104) (tx_si E lmX6_77 mtX6_readArguments hc_11 rfl rfl (Nat.le_of_ble_eq_true rfl) ⟨(Nat.le_of_ble_eq_true rfl), (Nat.le_of_ble_eq_true rfl)⟩ ⟨(Nat.le_of_ble_eq_true rfl), (Nat.le_of_ble_eq_true rfl)⟩ dX6_readCommand_104) (fun k_12 m_13 hx_14 => ?_) (fun m_13 hx_14 => ?_)
    · subst hx_14; exact tx_out hno hlk (Nat.le_of_ble_eq_true rfl) (Nat.le_of_ble_eq_true rfl) hf
    subst hx_14
    have hf := xb_l hf
    refine tt_aload_n (pc := 107) (i := 1) (j := 2) E dX6_readCommand_107 rfl rfl ?_
    refine tt_bipush (pc := 108) (v := 59) E dX6_readCommand_108 bc_59 ?_
    obtain ⟨r_16, hr_17, hf⟩ := bd_some hf
    have hc_18 := cX9_takeSign_ok (l := l) (B := B) (D := D) (cT := cT) (n := n) (adK := adK) (adV := adV) hl0 h1 hr_17
    refine tx_cV (pc := 110) (tx_vi E lmX6_44 mtX9_takeSign hc_18 h1 rfl rfl (Nat.le_of_ble_eq_true rfl) ⟨(Nat.le_of_ble_eq_true rfl), (Nat.le_of_ble_eq_true rfl)⟩ ⟨(Nat.le_of_ble_eq_true rfl), (Nat.le_of_ble_eq_true rfl)⟩ dX6_readCommand_110) (fun k_19 m_20 hx_21 => ?_) (fun m_20 hx_21 => ?_)
    · subst hx_21; exact tx_out hno hlk (Nat.le_of_ble_eq_true rfl) (Nat.le_of_ble_eq_true rfl) hf
    subst hx_21
    have hf := xb_l hf
    exact tx_vret (pc := 113) E hr hlk dX6_readCommand_113 hf
  · have hf := ip c_41 hf
    refine tt_aload (pc := 75) (i := 4) (j := 0) E dX6_readCommand_75 rfl ?_
    refine tt_aload_n (pc := 77) (i := 1) (j := 2) E dX6_readCommand_77 rfl rfl ?_
    refine tt_iconst (pc := 78) (v := 1) E dX6_readCommand_78 ic_1 ?_
    refine tt_bipush (pc := 79) (v := 20) E dX6_readCommand_79 bc_20 ?_
    obtain ⟨r_23, hr_24, hf⟩ := bd_some hf
    have hc_25 := cX9_takeNumber_ok (l := l) (B := B) (D := D) (cT := cT) (n := n) (adK := adK) (adV := adV) hl0 h1 hr_24
    refine tx_cI (pc := 81) (tx_vi E lmX6_67 mtX9_takeNumber hc_25 h1 rfl rfl (Nat.le_of_ble_eq_true rfl) ⟨(Nat.le_of_ble_eq_true rfl), (Nat.le_of_ble_eq_true rfl)⟩ ⟨(Nat.le_of_ble_eq_true rfl), (Nat.le_of_ble_eq_true rfl)⟩ dX6_readCommand_81) (fun k_26 m_27 hx_28 => ?_) (fun v_29 m_27 hx_28 => ?_)
    · subst hx_28; exact tx_out hno hlk (Nat.le_of_ble_eq_true rfl) (Nat.le_of_ble_eq_true rfl) hf
    subst hx_28
    have hf := xb_l hf
    refine tt_putI (pc := 84) E lfX6_71 rfl kq_8 dX6_readCommand_84 (tt_nmM hf (fun m_30 hf => ?_))
    refine tt_aload_n (pc := 87) (i := 1) (j := 2) E dX6_readCommand_87 rfl rfl ?_
    refine tt_bipush (pc := 88) (v := 40) E dX6_readCommand_88 bc_40 ?_
    obtain ⟨r_31, hr_32, hf⟩ := bd_some hf
    have hc_33 := cX9_takeSign_ok (l := l) (B := B) (D := D) (cT := cT) (n := n) (adK := adK) (adV := adV) hl0 h1 hr_32
    refine tx_cV (pc := 90) (tx_vi E lmX6_44 mtX9_takeSign hc_33 h1 rfl rfl (Nat.le_of_ble_eq_true rfl) ⟨(Nat.le_of_ble_eq_true rfl), (Nat.le_of_ble_eq_true rfl)⟩ ⟨(Nat.le_of_ble_eq_true rfl), (Nat.le_of_ble_eq_true rfl)⟩ dX6_readCommand_90) (fun k_34 m_35 hx_36 => ?_) (fun m_35 hx_36 => ?_)
    · subst hx_36; exact tx_out hno hlk (Nat.le_of_ble_eq_true rfl) (Nat.le_of_ble_eq_true rfl) hf
    subst hx_36
    have hf := xb_l hf
    refine tt_aload_n (pc := 93) (i := 0) (j := 1) E dX6_readCommand_93 rfl rfl ?_
    obtain ⟨r_38, hr_39, hf⟩ := bd_some hf
    have hc_40 := cX6_openRepeat_ok (l := l) (B := B) (D := D) (cT := cT) (n := n) (adK := adK) (adV := adV) h0 hr_39
    refine tt_cV (pc := 94) (tt_vi E lmX6_74 mtX6_openRepeat hc_40 h0 rfl rfl (Nat.le_of_ble_eq_true rfl) ⟨(Nat.le_of_ble_eq_true rfl), (Nat.le_of_ble_eq_true rfl)⟩ ⟨(Nat.le_of_ble_eq_true rfl), (Nat.le_of_ble_eq_true rfl)⟩ dX6_readCommand_94) ?_
    refine tt_goto (pc := 97) (tgt := 113) E dX6_readCommand_97 rfl ?_
    exact tx_vret (pc := 113) E hr hlk dX6_readCommand_113 hf
set_option maxHeartbeats 4000000 in
theorem tX6_readCommand_34 {p : Program} {l : Launch} {e : Env} {s : State} {m : MethodId} {args : Array Value} {below : List Frame} {meth : Method} {c : Code} {B : Nat} {D : va_G} {cT : Nat → ClassId} {n : Nat} {adK adV : Nat → Nat} {res : (Unit ⊕ Nat) × Mem} (E : EE p s m args c cX6_readCommand 5 RX6 B D cT (XW B adK adV)) (hr : meth.sig.returnType = none) (hlk : meth.locks = false) (hl0 : l.stackTraces = false) (hno : ∀ x ∈ c.exceptionTable.toList, False) {o0 : Nat} {o1 : Nat} {o2 : Nat} {v3 : Int32} (h0 : isK n o0 5) (h1 : isK n o1 7) (h2 : isK n o2 1) {μ : Mem} (hf : fX6_readCommand_34 o0 o1 o2 v3 μ = some res) : TT p l e rmX6_readCommand s m args below meth c (XQV B D cT n below args s res) 5 B D cT n 0 0 μ 34 [(0, .ref (B + o0)), (1, .ref (B + o1)), (2, .ref (B + o2)), (3, .int v3)] [] := by
  unfold fX6_readCommand_34 at hf
  refine tt_aload_n (pc := 34) (i := 0) (j := 0) E dX6_readCommand_34 rfl rfl ?_
  refine tt_getI (pc := 35) E lfX6_25 rfl h0 dX6_readCommand_35 ?_
  refine tt_bipush (pc := 38) (v := 30) E dX6_readCommand_38 bc_30 ?_
  refine tt_icmp_lt (pc := 40) (tgt := 48) E dX6_readCommand_40 rfl (fun c_8 => ?_) (fun c_8 => ?_)
  · have hf := ip c_8 hf
    exact tX6_readCommand_48 E hr hlk hl0 hno h0 h1 h2 hf
  · have hf := ine c_8 hf
    refine tt_aload_n (pc := 43) (i := 1) (j := 1) E dX6_readCommand_43 rfl rfl ?_
    refine tt_iconst (pc := 44) (v := 5) E dX6_readCommand_44 ic_5 ?_
    obtain ⟨r_1, hr_2, hf⟩ := bd_some hf
    have hc_3 := cX9_fail_ok (l := l) (B := B) (D := D) (cT := cT) (n := n) (adK := adK) (adV := adV) hl0 h1 hr_2
    refine tx_cV (pc := 45) (tx_vi E lmX6_55 mtX9_fail hc_3 h1 rfl rfl (Nat.le_of_ble_eq_true rfl) ⟨(Nat.le_of_ble_eq_true rfl), (Nat.le_of_ble_eq_true rfl)⟩ ⟨(Nat.le_of_ble_eq_true rfl), (Nat.le_of_ble_eq_true rfl)⟩ dX6_readCommand_45) (fun k_4 m_5 hx_6 => ?_) (fun m_5 hx_6 => ?_)
    · subst hx_6; exact tx_out hno hlk (Nat.le_of_ble_eq_true rfl) (Nat.le_of_ble_eq_true rfl) hf
    subst hx_6
    have hf := xb_l hf
    exact tX6_readCommand_48 E hr hlk hl0 hno h0 h1 h2 hf
set_option maxHeartbeats 4000000 in
theorem tX6_readCommand_15 {p : Program} {l : Launch} {e : Env} {s : State} {m : MethodId} {args : Array Value} {below : List Frame} {meth : Method} {c : Code} {B : Nat} {D : va_G} {cT : Nat → ClassId} {n : Nat} {adK adV : Nat → Nat} {res : (Unit ⊕ Nat) × Mem} (E : EE p s m args c cX6_readCommand 5 RX6 B D cT (XW B adK adV)) (hr : meth.sig.returnType = none) (hlk : meth.locks = false) (hl0 : l.stackTraces = false) (hno : ∀ x ∈ c.exceptionTable.toList, False) {o0 : Nat} {o1 : Nat} {o2 : Nat} {v3 : Int32} (h0 : isK n o0 5) (h1 : isK n o1 7) (h2 : isK n o2 1) {μ : Mem} (hf : fX6_readCommand_15 o0 o1 o2 v3 μ = some res) : TT p l e rmX6_readCommand s m args below meth c (XQV B D cT n below args s res) 5 B D cT n 0 0 μ 15 [(0, .ref (B + o0)), (1, .ref (B + o1)), (2, .ref (B + o2)), (3, .int v3)] [] := by
  unfold fX6_readCommand_15 at hf
  refine tt_iload_n (pc := 15) (i := 3) (j := 3) E dX6_readCommand_15 rfl rfl ?_
  refine tt_bipush (pc := 16) (v := 8) E dX6_readCommand_16 bc_8 ?_
  refine tt_icmp_ne (pc := 18) (tgt := 34) E dX6_readCommand_18 rfl (fun c_9 => ?_) (fun c_9 => ?_)
  · have hf := ine c_9 hf
    exact tX6_readCommand_34 E hr hlk hl0 hno h0 h1 h2 hf
  · have hf := ip c_9 hf
    refine tt_aload_n (pc := 21) (i := 0) (j := 0) E dX6_readCommand_21 rfl rfl ?_
    refine tt_getI (pc := 22) E lfX6_28 rfl h0 dX6_readCommand_22 ?_
    refine tt_iconst (pc := 25) (v := 2) E dX6_readCommand_25 ic_2 ?_
    refine tt_icmp_lt (pc := 26) (tgt := 34) E dX6_readCommand_26 rfl (fun c_8 => ?_) (fun c_8 => ?_)
    · have hf := ip c_8 hf
      exact tX6_readCommand_34 E hr hlk hl0 hno h0 h1 h2 hf
    · have hf := ine c_8 hf
      refine tt_aload_n (pc := 29) (i := 1) (j := 1) E dX6_readCommand_29 rfl rfl ?_
      refine tt_iconst (pc := 30) (v := 3) E dX6_readCommand_30 ic_3 ?_
      obtain ⟨r_1, hr_2, hf⟩ := bd_some hf
      have hc_3 := cX9_fail_ok (l := l) (B := B) (D := D) (cT := cT) (n := n) (adK := adK) (adV := adV) hl0 h1 hr_2
      refine tx_cV (pc := 31) (tx_vi E lmX6_55 mtX9_fail hc_3 h1 rfl rfl (Nat.le_of_ble_eq_true rfl) ⟨(Nat.le_of_ble_eq_true rfl), (Nat.le_of_ble_eq_true rfl)⟩ ⟨(Nat.le_of_ble_eq_true rfl), (Nat.le_of_ble_eq_true rfl)⟩ dX6_readCommand_31) (fun k_4 m_5 hx_6 => ?_) (fun m_5 hx_6 => ?_)
      · subst hx_6; exact tx_out hno hlk (Nat.le_of_ble_eq_true rfl) (Nat.le_of_ble_eq_true rfl) hf
      subst hx_6
      have hf := xb_l hf
      exact tX6_readCommand_34 E hr hlk hl0 hno h0 h1 h2 hf
set_option maxHeartbeats 4000000 in
theorem cX6_readCommand_ok {l : Launch} {B : Nat} {D : va_G} {cT : Nat → ClassId} {n : Nat} {adK adV : Nat → Nat} {o0 : Nat} {o1 : Nat} {o2 : Nat} (hl0 : l.stackTraces = false) {μ : Mem} {res : (Unit ⊕ Nat) × Mem} (h0 : isK n o0 5) (h1 : isK n o1 7) (h2 : isK n o2 1) (hf : fX6_readCommand o0 o1 o2 μ = some res) : XV l yX6_readCommand cX6_readCommand 5 (none) rmX6_readCommand B D cT (XW B adK adV) n [.ref (B + o0), .ref (B + o1), .ref (B + o2)] μ res := by
  refine tx_ofW mtX6_readCommand.1 (Nat.le_of_ble_eq_true rfl) rfl ?_
  intro p e s m below meth c E0 hr hlk hno
  have E : EE p s m _ c cX6_readCommand 5 RX6 B D cT (XW B adK adV) := E0
  unfold fX6_readCommand at hf
  refine tt_aload_n (pc := 0) (i := 1) (j := 1) E dX6_readCommand_0 rfl rfl ?_
  obtain ⟨r_1, hr_2, hf⟩ := bd_some hf
  have hc_3 := cX6_whatHere_ok (l := l) (B := B) (D := D) (cT := cT) (n := n) (adK := adK) (adV := adV) h1 hr_2
  refine tt_cI (pc := 1) (tt_si E lmX6_59 mtX6_whatHere hc_3 rfl rfl (Nat.le_of_ble_eq_true rfl) ⟨(Nat.le_of_ble_eq_true rfl), (Nat.le_of_ble_eq_true rfl)⟩ ⟨(Nat.le_of_ble_eq_true rfl), (Nat.le_of_ble_eq_true rfl)⟩ dX6_readCommand_1) ?_
  refine tt_istore_n (pc := 4) (i := 3) (lv' := [(3, .int r_1), (0, .ref (B + o0)), (1, .ref (B + o1)), (2, .ref (B + o2))]) E dX6_readCommand_4 rfl (Nat.le_of_ble_eq_true rfl) rfl ?_
  refine tt_iload_n (pc := 5) (i := 3) (j := 0) E dX6_readCommand_5 rfl rfl ?_
  refine tt_iconst (pc := 6) (v := (-1)) E dX6_readCommand_6 ic_m1 ?_
  refine tt_icmp_ne (pc := 7) (tgt := 15) E dX6_readCommand_7 rfl (fun c_11 => ?_) (fun c_11 => ?_)
  · have hf := ine c_11 hf
    refine tt_sub [1, 2, 3, 0] (lv' := [(0, .ref (B + o0)), (1, .ref (B + o1)), (2, .ref (B + o2)), (3, .int r_1)]) rfl ?_
    exact tX6_readCommand_15 E hr hlk hl0 hno h0 h1 h2 hf
  · have hf := ip c_11 hf
    refine tt_aload_n (pc := 10) (i := 1) (j := 2) E dX6_readCommand_10 rfl rfl ?_
    refine tt_iconst (pc := 11) (v := 1) E dX6_readCommand_11 ic_1 ?_
    obtain ⟨r_4, hr_5, hf⟩ := bd_some hf
    have hc_6 := cX9_fail_ok (l := l) (B := B) (D := D) (cT := cT) (n := n) (adK := adK) (adV := adV) hl0 h1 hr_5
    refine tx_cV (pc := 12) (tx_vi E lmX6_55 mtX9_fail hc_6 h1 rfl rfl (Nat.le_of_ble_eq_true rfl) ⟨(Nat.le_of_ble_eq_true rfl), (Nat.le_of_ble_eq_true rfl)⟩ ⟨(Nat.le_of_ble_eq_true rfl), (Nat.le_of_ble_eq_true rfl)⟩ dX6_readCommand_12) (fun k_7 m_8 hx_9 => ?_) (fun m_8 hx_9 => ?_)
    · subst hx_9; exact tx_out hno hlk (Nat.le_of_ble_eq_true rfl) (Nat.le_of_ble_eq_true rfl) hf
    subst hx_9
    have hf := xb_l hf
    refine tt_sub [1, 2, 3, 0] (lv' := [(0, .ref (B + o0)), (1, .ref (B + o1)), (2, .ref (B + o2)), (3, .int r_1)]) rfl ?_
    exact tX6_readCommand_15 E hr hlk hl0 hno h0 h1 h2 hf
set_option maxHeartbeats 4000000 in
theorem tX6_readFrom_17 {p : Program} {l : Launch} {e : Env} {s : State} {m : MethodId} {args : Array Value} {below : List Frame} {meth : Method} {c : Code} {B : Nat} {D : va_G} {cT : Nat → ClassId} {n : Nat} {adK adV : Nat → Nat} {res : (Unit ⊕ Nat) × Mem} (E : EE p s m args c cX6_readFrom 4 RX6 B D cT (XW B adK adV)) (hr : meth.sig.returnType = none) (hlk : meth.locks = false) (hl0 : l.stackTraces = false) (hno : ∀ x ∈ c.exceptionTable.toList, False) {o0 : Nat} {o1 : Nat} {o2 : Nat} (h0 : isK n o0 5) (h1 : isK n o1 7) (h2 : isK n o2 1) : ∀ (fu : Nat) (v3 : Int32) (μ : Mem), zl2 (gX6_readFrom_17 o0 o1 o2) fu v3 μ = some res → TT p l e rmX6_readFrom s m args below meth c (XQV B D cT n below args s res) 4 B D cT n 0 0 μ 17 [(0, .ref (B + o0)), (1, .ref (B + o1)), (2, .ref (B + o2)), (3, .int v3)] [] := by
  intro fu
  induction fu with
  | zero => intro v3 μ hf; exact absurd hf (fun h => by cases h)
  | succ fu ih =>
    intro v3 μ hf
    have hf : gX6_readFrom_17 o0 o1 o2 (zl2 (gX6_readFrom_17 o0 o1 o2) fu) v3 μ = some res := hf
    unfold gX6_readFrom_17 at hf
    refine tt_iload_n (pc := 17) (i := 3) (j := 3) E dX6_readFrom_17 rfl rfl ?_
    refine tt_sipush (pc := 18) (v := 600) E dX6_readFrom_18 sc_600 ?_
    refine tt_icmp_ge (pc := 21) (tgt := 76) E dX6_readFrom_21 rfl (fun c_54 => ?_) (fun c_54 => ?_)
    · have hf := ip c_54 hf
      refine tt_aload_n (pc := 76) (i := 0) (j := 0) E dX6_readFrom_76 rfl rfl ?_
      refine tt_getI (pc := 77) E lfX6_28 rfl h0 dX6_readFrom_77 ?_
      refine tt_if_le (pc := 80) (tgt := 88) E dX6_readFrom_80 rfl (fun c_8 => ?_) (fun c_8 => ?_)
      · have hf := ip c_8 hf
        exact tx_vret (pc := 88) E hr hlk dX6_readFrom_88 hf
      · have hf := ine c_8 hf
        refine tt_aload_n (pc := 83) (i := 1) (j := 1) E dX6_readFrom_83 rfl rfl ?_
        refine tt_iconst (pc := 84) (v := 1) E dX6_readFrom_84 ic_1 ?_
        obtain ⟨r_1, hr_2, hf⟩ := bd_some hf
        have hc_3 := cX9_fail_ok (l := l) (B := B) (D := D) (cT := cT) (n := n) (adK := adK) (adV := adV) hl0 h1 hr_2
        refine tx_cV (pc := 85) (tx_vi E lmX6_55 mtX9_fail hc_3 h1 rfl rfl (Nat.le_of_ble_eq_true rfl) ⟨(Nat.le_of_ble_eq_true rfl), (Nat.le_of_ble_eq_true rfl)⟩ ⟨(Nat.le_of_ble_eq_true rfl), (Nat.le_of_ble_eq_true rfl)⟩ dX6_readFrom_85) (fun k_4 m_5 hx_6 => ?_) (fun m_5 hx_6 => ?_)
        · subst hx_6; exact tx_out hno hlk (Nat.le_of_ble_eq_true rfl) (Nat.le_of_ble_eq_true rfl) hf
        subst hx_6
        have hf := xb_l hf
        exact tx_vret (pc := 88) E hr hlk dX6_readFrom_88 hf
    · have hf := ine c_54 hf
      refine tt_aload_n (pc := 24) (i := 1) (j := 1) E dX6_readFrom_24 rfl rfl ?_
      refine tt_getI (pc := 25) E lfX6_32 rfl h1 dX6_readFrom_25 ?_
      refine tt_if_eq (pc := 28) (tgt := 76) E dX6_readFrom_28 rfl (fun c_53 => ?_) (fun c_53 => ?_)
      · have hf := ip c_53 hf
        refine tt_aload_n (pc := 76) (i := 0) (j := 0) E dX6_readFrom_76 rfl rfl ?_
        refine tt_getI (pc := 77) E lfX6_28 rfl h0 dX6_readFrom_77 ?_
        refine tt_if_le (pc := 80) (tgt := 88) E dX6_readFrom_80 rfl (fun c_16 => ?_) (fun c_16 => ?_)
        · have hf := ip c_16 hf
          exact tx_vret (pc := 88) E hr hlk dX6_readFrom_88 hf
        · have hf := ine c_16 hf
          refine tt_aload_n (pc := 83) (i := 1) (j := 1) E dX6_readFrom_83 rfl rfl ?_
          refine tt_iconst (pc := 84) (v := 1) E dX6_readFrom_84 ic_1 ?_
          obtain ⟨r_9, hr_10, hf⟩ := bd_some hf
          have hc_11 := cX9_fail_ok (l := l) (B := B) (D := D) (cT := cT) (n := n) (adK := adK) (adV := adV) hl0 h1 hr_10
          refine tx_cV (pc := 85) (tx_vi E lmX6_55 mtX9_fail hc_11 h1 rfl rfl (Nat.le_of_ble_eq_true rfl) ⟨(Nat.le_of_ble_eq_true rfl), (Nat.le_of_ble_eq_true rfl)⟩ ⟨(Nat.le_of_ble_eq_true rfl), (Nat.le_of_ble_eq_true rfl)⟩ dX6_readFrom_85) (fun k_12 m_13 hx_14 => ?_) (fun m_13 hx_14 => ?_)
          · subst hx_14; exact tx_out hno hlk (Nat.le_of_ble_eq_true rfl) (Nat.le_of_ble_eq_true rfl) hf
          subst hx_14
          have hf := xb_l hf
          exact tx_vret (pc := 88) E hr hlk dX6_readFrom_88 hf
      · have hf := ine c_53 hf
        refine tt_aload_n (pc := 31) (i := 0) (j := 0) E dX6_readFrom_31 rfl rfl ?_
        refine tt_getI (pc := 32) E lfX6_28 rfl h0 dX6_readFrom_32 ?_
        refine tt_if_le (pc := 35) (tgt := 64) E dX6_readFrom_35 rfl (fun c_52 => ?_) (fun c_52 => ?_)
        · have hf := ip c_52 hf
          refine tt_aload_n (pc := 64) (i := 0) (j := 0) E dX6_readFrom_64 rfl rfl ?_
          refine tt_aload_n (pc := 65) (i := 1) (j := 1) E dX6_readFrom_65 rfl rfl ?_
          refine tt_aload_n (pc := 66) (i := 2) (j := 2) E dX6_readFrom_66 rfl rfl ?_
          obtain ⟨r_17, hr_18, hf⟩ := bd_some hf
          have hc_19 := cX6_readCommand_ok (l := l) (B := B) (D := D) (cT := cT) (n := n) (adK := adK) (adV := adV) hl0 h0 h1 h2 hr_18
          refine tx_cV (pc := 67) (tx_vi E lmX6_51 mtX6_readCommand hc_19 h0 rfl rfl (Nat.le_of_ble_eq_true rfl) ⟨(Nat.le_of_ble_eq_true rfl), (Nat.le_of_ble_eq_true rfl)⟩ ⟨(Nat.le_of_ble_eq_true rfl), (Nat.le_of_ble_eq_true rfl)⟩ dX6_readFrom_67) (fun k_20 m_21 hx_22 => ?_) (fun m_21 hx_22 => ?_)
          · subst hx_22; exact tx_out hno hlk (Nat.le_of_ble_eq_true rfl) (Nat.le_of_ble_eq_true rfl) hf
          subst hx_22
          have hf := xb_l hf
          obtain ⟨v_24, ev_24, hf⟩ := nm_ex hf
          refine tt_iinc (pc := 70) (i := 3) (j := 3) (lv' := [(3, .int v_24), (0, .ref (B + o0)), (1, .ref (B + o1)), (2, .ref (B + o2))]) E dX6_readFrom_70 rfl (ev_24).symm (Nat.le_of_ble_eq_true rfl) rfl ?_
          refine tt_goto (pc := 73) (tgt := 17) E dX6_readFrom_73 rfl ?_
          refine tt_sub [1, 2, 3, 0] (lv' := [(0, .ref (B + o0)), (1, .ref (B + o1)), (2, .ref (B + o2)), (3, .int v_24)]) rfl ?_
          exact ih v_24 m_21 hf
        · have hf := ine c_52 hf
          refine tt_aload_n (pc := 38) (i := 1) (j := 1) E dX6_readFrom_38 rfl rfl ?_
          refine tt_bipush (pc := 39) (v := 41) E dX6_readFrom_39 bc_41 ?_
          obtain ⟨r_25, hr_26, hf⟩ := bd_some hf
          have hc_27 := cX9_isSign_ok (l := l) (B := B) (D := D) (cT := cT) (n := n) (adK := adK) (adV := adV) h1 hr_26
          refine tt_cZ (pc := 41) (tt_vi E lmX6_37 mtX9_isSign hc_27 h1 rfl rfl (Nat.le_of_ble_eq_true rfl) ⟨(Nat.le_of_ble_eq_true rfl), (Nat.le_of_ble_eq_true rfl)⟩ ⟨(Nat.le_of_ble_eq_true rfl), (Nat.le_of_ble_eq_true rfl)⟩ dX6_readFrom_41) (fun z_28 => ?_)
          refine tt_if_eq (pc := 44) (tgt := 64) E dX6_readFrom_44 rfl (fun c_51 => ?_) (fun c_51 => ?_)
          · have hf := ip c_51 hf
            refine tt_aload_n (pc := 64) (i := 0) (j := 0) E dX6_readFrom_64 rfl rfl ?_
            refine tt_aload_n (pc := 65) (i := 1) (j := 1) E dX6_readFrom_65 rfl rfl ?_
            refine tt_aload_n (pc := 66) (i := 2) (j := 2) E dX6_readFrom_66 rfl rfl ?_
            obtain ⟨r_29, hr_30, hf⟩ := bd_some hf
            have hc_31 := cX6_readCommand_ok (l := l) (B := B) (D := D) (cT := cT) (n := n) (adK := adK) (adV := adV) hl0 h0 h1 h2 hr_30
            refine tx_cV (pc := 67) (tx_vi E lmX6_51 mtX6_readCommand hc_31 h0 rfl rfl (Nat.le_of_ble_eq_true rfl) ⟨(Nat.le_of_ble_eq_true rfl), (Nat.le_of_ble_eq_true rfl)⟩ ⟨(Nat.le_of_ble_eq_true rfl), (Nat.le_of_ble_eq_true rfl)⟩ dX6_readFrom_67) (fun k_32 m_33 hx_34 => ?_) (fun m_33 hx_34 => ?_)
            · subst hx_34; exact tx_out hno hlk (Nat.le_of_ble_eq_true rfl) (Nat.le_of_ble_eq_true rfl) hf
            subst hx_34
            have hf := xb_l hf
            obtain ⟨v_36, ev_36, hf⟩ := nm_ex hf
            refine tt_iinc (pc := 70) (i := 3) (j := 3) (lv' := [(3, .int v_36), (0, .ref (B + o0)), (1, .ref (B + o1)), (2, .ref (B + o2))]) E dX6_readFrom_70 rfl (ev_36).symm (Nat.le_of_ble_eq_true rfl) rfl ?_
            refine tt_goto (pc := 73) (tgt := 17) E dX6_readFrom_73 rfl ?_
            refine tt_sub [1, 2, 3, 0] (lv' := [(0, .ref (B + o0)), (1, .ref (B + o1)), (2, .ref (B + o2)), (3, .int v_36)]) rfl ?_
            exact ih v_36 m_33 hf
          · have hf := ine c_51 hf
            refine tt_aload_n (pc := 47) (i := 1) (j := 1) E dX6_readFrom_47 rfl rfl ?_
            obtain ⟨r_37, hr_38, hf⟩ := bd_some hf
            have hc_39 := cX9_step_ok (l := l) (B := B) (D := D) (cT := cT) (n := n) (adK := adK) (adV := adV) h1 hr_38
            refine tt_cV (pc := 48) (tt_vi E lmX6_41 mtX9_step hc_39 h1 rfl rfl (Nat.le_of_ble_eq_true rfl) ⟨(Nat.le_of_ble_eq_true rfl), (Nat.le_of_ble_eq_true rfl)⟩ ⟨(Nat.le_of_ble_eq_true rfl), (Nat.le_of_ble_eq_true rfl)⟩ dX6_readFrom_48) ?_
            refine tt_aload_n (pc := 51) (i := 1) (j := 1) E dX6_readFrom_51 rfl rfl ?_
            refine tt_bipush (pc := 52) (v := 59) E dX6_readFrom_52 bc_59 ?_
            obtain ⟨r_40, hr_41, hf⟩ := bd_some hf
            have hc_42 := cX9_takeSign_ok (l := l) (B := B) (D := D) (cT := cT) (n := n) (adK := adK) (adV := adV) hl0 h1 hr_41
            refine tx_cV (pc := 54) (tx_vi E lmX6_44 mtX9_takeSign hc_42 h1 rfl rfl (Nat.le_of_ble_eq_true rfl) ⟨(Nat.le_of_ble_eq_true rfl), (Nat.le_of_ble_eq_true rfl)⟩ ⟨(Nat.le_of_ble_eq_true rfl), (Nat.le_of_ble_eq_true rfl)⟩ dX6_readFrom_54) (fun k_43 m_44 hx_45 => ?_) (fun m_44 hx_45 => ?_)
            · subst hx_45; exact tx_out hno hlk (Nat.le_of_ble_eq_true rfl) (Nat.le_of_ble_eq_true rfl) hf
            subst hx_45
            have hf := xb_l hf
            refine tt_aload_n (pc := 57) (i := 0) (j := 0) E dX6_readFrom_57 rfl rfl ?_
            obtain ⟨r_47, hr_48, hf⟩ := bd_some hf
            have hc_49 := cX6_closeRepeat_ok (l := l) (B := B) (D := D) (cT := cT) (n := n) (adK := adK) (adV := adV) h0 hr_48
            refine tt_cV (pc := 58) (tt_vi E lmX6_48 mtX6_closeRepeat hc_49 h0 rfl rfl (Nat.le_of_ble_eq_true rfl) ⟨(Nat.le_of_ble_eq_true rfl), (Nat.le_of_ble_eq_true rfl)⟩ ⟨(Nat.le_of_ble_eq_true rfl), (Nat.le_of_ble_eq_true rfl)⟩ dX6_readFrom_58) ?_
            refine tt_goto (pc := 61) (tgt := 70) E dX6_readFrom_61 rfl ?_
            obtain ⟨v_50, ev_50, hf⟩ := nm_ex hf
            refine tt_iinc (pc := 70) (i := 3) (j := 3) (lv' := [(3, .int v_50), (0, .ref (B + o0)), (1, .ref (B + o1)), (2, .ref (B + o2))]) E dX6_readFrom_70 rfl (ev_50).symm (Nat.le_of_ble_eq_true rfl) rfl ?_
            refine tt_goto (pc := 73) (tgt := 17) E dX6_readFrom_73 rfl ?_
            refine tt_sub [1, 2, 3, 0] (lv' := [(0, .ref (B + o0)), (1, .ref (B + o1)), (2, .ref (B + o2)), (3, .int v_50)]) rfl ?_
            exact ih v_50 r_47 hf
set_option maxHeartbeats 4000000 in
theorem cX6_readFrom_ok {l : Launch} {B : Nat} {D : va_G} {cT : Nat → ClassId} {n : Nat} {adK adV : Nat → Nat} {o0 : Nat} {o1 : Nat} {o2 : Nat} (hl0 : l.stackTraces = false) {μ : Mem} {res : (Unit ⊕ Nat) × Mem} (h0 : isK n o0 5) (h1 : isK n o1 7) (h2 : isK n o2 1) (hf : fX6_readFrom o0 o1 o2 μ = some res) : XV l yX6_readFrom cX6_readFrom 4 (none) rmX6_readFrom B D cT (XW B adK adV) n [.ref (B + o0), .ref (B + o1), .ref (B + o2)] μ res := by
  refine tx_ofW mtX6_readFrom.1 (Nat.le_of_ble_eq_true rfl) rfl ?_
  intro p e s m below meth c E0 hr hlk hno
  have E : EE p s m _ c cX6_readFrom 4 RX6 B D cT (XW B adK adV) := E0
  unfold fX6_readFrom at hf
  refine tt_aload_n (pc := 0) (i := 0) (j := 0) E dX6_readFrom_0 rfl rfl ?_
  refine tt_iconst (pc := 1) (v := 0) E dX6_readFrom_1 ic_0 ?_
  refine tt_putI (pc := 2) E lfX6_21 rfl h0 dX6_readFrom_2 (tt_nmM hf (fun m_1 hf => ?_))
  refine tt_aload_n (pc := 5) (i := 0) (j := 0) E dX6_readFrom_5 rfl rfl ?_
  refine tt_iconst (pc := 6) (v := 0) E dX6_readFrom_6 ic_0 ?_
  refine tt_putI (pc := 7) E lfX6_25 rfl h0 dX6_readFrom_7 (tt_nmM hf (fun m_2 hf => ?_))
  refine tt_aload_n (pc := 10) (i := 0) (j := 0) E dX6_readFrom_10 rfl rfl ?_
  refine tt_iconst (pc := 11) (v := 0) E dX6_readFrom_11 ic_0 ?_
  refine tt_putI (pc := 12) E lfX6_28 rfl h0 dX6_readFrom_12 (tt_nmM hf (fun m_3 hf => ?_))
  refine tt_iconst (pc := 15) (v := 0) E dX6_readFrom_15 ic_0 ?_
  refine tt_istore_n (pc := 16) (i := 3) (lv' := [(3, .int 0), (0, .ref (B + o0)), (1, .ref (B + o1)), (2, .ref (B + o2))]) E dX6_readFrom_16 rfl (Nat.le_of_ble_eq_true rfl) rfl ?_
  refine tt_sub [1, 2, 3, 0] (lv' := [(0, .ref (B + o0)), (1, .ref (B + o1)), (2, .ref (B + o2)), (3, .int 0)]) rfl ?_
  exact tX6_readFrom_17 E hr hlk hl0 hno h0 h1 h2 FU 0 m_3 hf
set_option maxHeartbeats 4000000 in
theorem cX6_isToRepeat_ok {l : Launch} {B : Nat} {D : va_G} {cT : Nat → ClassId} {n : Nat} {adK adV : Nat → Nat} {o0 : Nat} {v1 : Int32} {μ : Mem} {res : Int32 × Mem} (h0 : isK n o0 5) (hf : fX6_isToRepeat o0 v1 μ = some res) : MZ l yX6_isToRepeat cX6_isToRepeat 2 (some .boolean) rmX6_isToRepeat B D cT (XW B adK adV) n [.ref (B + o0), .int v1] μ res := by
  refine tt_ofW mtX6_isToRepeat.1 (Nat.le_of_ble_eq_true rfl) rfl ?_
  intro p e s m below meth c E0 hr hlk
  have E : EE p s m _ c cX6_isToRepeat 2 RX6 B D cT (XW B adK adV) := E0
  unfold fX6_isToRepeat at hf
  refine tt_iload_n (pc := 0) (i := 1) (j := 1) E dX6_isToRepeat_0 rfl rfl ?_
  refine tt_if_lt (pc := 1) (tgt := 13) E dX6_isToRepeat_1 rfl (fun c_21 => ?_) (fun c_21 => ?_)
  · have hf := ip c_21 hf
    refine tt_iconst (pc := 13) (v := 0) E dX6_isToRepeat_13 ic_0 ?_
    exact tt_zret (pc := 14) E ((Or.inl rfl)) hr hlk dX6_isToRepeat_14 (Nat.le_of_ble_eq_true rfl) (Nat.le_of_ble_eq_true rfl) hf
  · have hf := ine c_21 hf
    refine tt_iload_n (pc := 4) (i := 1) (j := 1) E dX6_isToRepeat_4 rfl rfl ?_
    refine tt_aload_n (pc := 5) (i := 0) (j := 0) E dX6_isToRepeat_5 rfl rfl ?_
    obtain ⟨q_1, hq_2, hf⟩ := bd_some hf
    refine tt_getP (pc := 6) (t := 13) E lfX6_13 rfl rfl h0 dX6_isToRepeat_6 hq_2 (fun kq_3 => ?_)
    refine tt_alen (pc := 9) (v := Int32.ofNat (Ln q_1)) E (k := 13) ⟨(Nat.le_of_ble_eq_true rfl), (Nat.le_of_ble_eq_true rfl)⟩ kq_3 rfl dX6_isToRepeat_9 ?_
    refine tt_icmp_lt (pc := 10) (tgt := 15) E dX6_isToRepeat_10 rfl (fun c_20 => ?_) (fun c_20 => ?_)
    · have hf := ip c_20 hf
      refine tt_aload_n (pc := 15) (i := 0) (j := 0) E dX6_isToRepeat_15 rfl rfl ?_
      obtain ⟨q_4, hq_5, hf⟩ := bd_some hf
      refine tt_getP (pc := 16) (t := 13) E lfX6_13 rfl rfl h0 dX6_isToRepeat_16 hq_5 (fun kq_6 => ?_)
      refine tt_iload_n (pc := 19) (i := 1) (j := 1) E dX6_isToRepeat_19 rfl rfl ?_
      obtain ⟨g_7, hf⟩ := gd_some hf
      obtain ⟨q_8, hq_9, hf⟩ := bd_some hf
      refine tt_aald13 (pc := 20) E kq_6 g_7 dX6_isToRepeat_20 hq_9 (fun kq_10 => ?_)
      refine tt_dup (pc := 21) E dX6_isToRepeat_21 rfl ?_
      refine tt_getI (pc := 22) E lfX6_131 rfl kq_10 dX6_isToRepeat_22 ?_
      refine tt_iconst (pc := 25) (v := 1) E dX6_isToRepeat_25 ic_1 ?_
      refine tt_isub (pc := 26) E dX6_isToRepeat_26 ?_
      refine tt_putI (pc := 27) E lfX6_131 rfl kq_10 dX6_isToRepeat_27 (tt_nmM hf (fun m_11 hf => ?_))
      refine tt_aload_n (pc := 30) (i := 0) (j := 0) E dX6_isToRepeat_30 rfl rfl ?_
      obtain ⟨q_12, hq_13, hf⟩ := bd_some hf
      refine tt_getP (pc := 31) (t := 13) E lfX6_13 rfl rfl h0 dX6_isToRepeat_31 hq_13 (fun kq_14 => ?_)
      refine tt_iload_n (pc := 34) (i := 1) (j := 1) E dX6_isToRepeat_34 rfl rfl ?_
      obtain ⟨g_15, hf⟩ := gd_some hf
      obtain ⟨q_16, hq_17, hf⟩ := bd_some hf
      refine tt_aald13 (pc := 35) E kq_14 g_15 dX6_isToRepeat_35 hq_17 (fun kq_18 => ?_)
      refine tt_getI (pc := 36) E lfX6_131 rfl kq_18 dX6_isToRepeat_36 ?_
      refine tt_if_le (pc := 39) (tgt := 46) E dX6_isToRepeat_39 rfl (fun c_19 => ?_) (fun c_19 => ?_)
      · have hf := ip c_19 hf
        refine tt_iconst (pc := 46) (v := 0) E dX6_isToRepeat_46 ic_0 ?_
        exact tt_zret (pc := 47) E ((Or.inl rfl)) hr hlk dX6_isToRepeat_47 (Nat.le_of_ble_eq_true rfl) (Nat.le_of_ble_eq_true rfl) hf
      · have hf := ine c_19 hf
        refine tt_iconst (pc := 42) (v := 1) E dX6_isToRepeat_42 ic_1 ?_
        refine tt_goto (pc := 43) (tgt := 47) E dX6_isToRepeat_43 rfl ?_
        exact tt_zret (pc := 47) E ((Or.inr rfl)) hr hlk dX6_isToRepeat_47 (Nat.le_of_ble_eq_true rfl) (Nat.le_of_ble_eq_true rfl) hf
    · have hf := ine c_20 hf
      refine tt_iconst (pc := 13) (v := 0) E dX6_isToRepeat_13 ic_0 ?_
      exact tt_zret (pc := 14) E ((Or.inl rfl)) hr hlk dX6_isToRepeat_14 (Nat.le_of_ble_eq_true rfl) (Nat.le_of_ble_eq_true rfl) hf
set_option maxHeartbeats 4000000 in
theorem tX6_runOn_7 {p : Program} {l : Launch} {e : Env} {s : State} {m : MethodId} {args : Array Value} {below : List Frame} {meth : Method} {c : Code} {B : Nat} {D : va_G} {cT : Nat → ClassId} {n : Nat} {adK adV : Nat → Nat} {res : Int32 × Mem} (E : EE p s m args c cX6_runOn 6 RX6 B D cT (XW B adK adV)) (hr : meth.sig.returnType = some .int) (hlk : meth.locks = false) {o0 : Nat} {o1 : Nat} (h0 : isK n o0 5) (h1 : isK n o1 1) : ∀ (fu : Nat) (v2 : Int32) (v3 : Int32) (v4 : Int32) (μ : Mem), zl4 (gX6_runOn_7 o0 o1) fu v2 v3 v4 μ = some res → TT p l e rmX6_runOn s m args below meth c (QI B D cT n below args s res) 6 B D cT n 0 0 μ 7 [(0, .ref (B + o0)), (1, .ref (B + o1)), (2, .int v2), (3, .int v3), (4, .int v4)] [] := by
  intro fu
  induction fu with
  | zero => intro v2 v3 v4 μ hf; exact absurd hf (fun h => by cases h)
  | succ fu ih =>
    intro v2 v3 v4 μ hf
    have hf : gX6_runOn_7 o0 o1 (zl4 (gX6_runOn_7 o0 o1) fu) v2 v3 v4 μ = some res := hf
    unfold gX6_runOn_7 at hf
    refine tt_iload (pc := 7) (i := 4) (j := 4) E dX6_runOn_7 rfl ?_
    refine tt_ldc (pc := 9) (v := 1000000) E dX6_runOn_9 (gw_mem (mt5 (at_l 7 rfl)) rfl) ?_
    refine tt_icmp_ge (pc := 11) (tgt := 138) E dX6_runOn_11 rfl (fun c_37 => ?_) (fun c_37 => ?_)
    · have hf := ip c_37 hf
      refine tt_iload_n (pc := 138) (i := 2) (j := 2) E dX6_runOn_138 rfl rfl ?_
      exact tt_iret (pc := 139) E hr hlk dX6_runOn_139 (Nat.le_of_ble_eq_true rfl) (Nat.le_of_ble_eq_true rfl) hf
    · have hf := ine c_37 hf
      refine tt_iload_n (pc := 14) (i := 3) (j := 3) E dX6_runOn_14 rfl rfl ?_
      refine tt_if_lt (pc := 15) (tgt := 138) E dX6_runOn_15 rfl (fun c_36 => ?_) (fun c_36 => ?_)
      · have hf := ip c_36 hf
        refine tt_iload_n (pc := 138) (i := 2) (j := 2) E dX6_runOn_138 rfl rfl ?_
        exact tt_iret (pc := 139) E hr hlk dX6_runOn_139 (Nat.le_of_ble_eq_true rfl) (Nat.le_of_ble_eq_true rfl) hf
      · have hf := ine c_36 hf
        refine tt_iload_n (pc := 18) (i := 3) (j := 3) E dX6_runOn_18 rfl rfl ?_
        refine tt_aload_n (pc := 19) (i := 0) (j := 0) E dX6_runOn_19 rfl rfl ?_
        refine tt_getI (pc := 20) E lfX6_21 rfl h0 dX6_runOn_20 ?_
        refine tt_icmp_ge (pc := 23) (tgt := 138) E dX6_runOn_23 rfl (fun c_35 => ?_) (fun c_35 => ?_)
        · have hf := ip c_35 hf
          refine tt_iload_n (pc := 138) (i := 2) (j := 2) E dX6_runOn_138 rfl rfl ?_
          exact tt_iret (pc := 139) E hr hlk dX6_runOn_139 (Nat.le_of_ble_eq_true rfl) (Nat.le_of_ble_eq_true rfl) hf
        · have hf := ine c_35 hf
          refine tt_iload_n (pc := 26) (i := 3) (j := 3) E dX6_runOn_26 rfl rfl ?_
          refine tt_aload_n (pc := 27) (i := 0) (j := 0) E dX6_runOn_27 rfl rfl ?_
          obtain ⟨q_1, hq_2, hf⟩ := bd_some hf
          refine tt_getP (pc := 28) (t := 13) E lfX6_13 rfl rfl h0 dX6_runOn_28 hq_2 (fun kq_3 => ?_)
          refine tt_alen (pc := 31) (v := Int32.ofNat (Ln q_1)) E (k := 13) ⟨(Nat.le_of_ble_eq_true rfl), (Nat.le_of_ble_eq_true rfl)⟩ kq_3 rfl dX6_runOn_31 ?_
          refine tt_icmp_ge (pc := 32) (tgt := 138) E dX6_runOn_32 rfl (fun c_34 => ?_) (fun c_34 => ?_)
          · have hf := ip c_34 hf
            refine tt_iload_n (pc := 138) (i := 2) (j := 2) E dX6_runOn_138 rfl rfl ?_
            exact tt_iret (pc := 139) E hr hlk dX6_runOn_139 (Nat.le_of_ble_eq_true rfl) (Nat.le_of_ble_eq_true rfl) hf
          · have hf := ine c_34 hf
            refine tt_aload_n (pc := 35) (i := 0) (j := 0) E dX6_runOn_35 rfl rfl ?_
            obtain ⟨q_4, hq_5, hf⟩ := bd_some hf
            refine tt_getP (pc := 36) (t := 13) E lfX6_13 rfl rfl h0 dX6_runOn_36 hq_5 (fun kq_6 => ?_)
            refine tt_iload_n (pc := 39) (i := 3) (j := 3) E dX6_runOn_39 rfl rfl ?_
            obtain ⟨g_7, hf⟩ := gd_some hf
            obtain ⟨q_8, hq_9, hf⟩ := bd_some hf
            refine tt_aald13 (pc := 40) E kq_6 g_7 dX6_runOn_40 hq_9 (fun kq_10 => ?_)
            refine tt_astore (pc := 41) (i := 5) (lv' := [(5, .ref (B + q_8)), (0, .ref (B + o0)), (1, .ref (B + o1)), (2, .int v2), (3, .int v3), (4, .int v4)]) E dX6_runOn_41 (Nat.le_of_ble_eq_true rfl) rfl ?_
            obtain ⟨v_11, ev_11, hf⟩ := nm_ex hf
            refine tt_iinc (pc := 43) (i := 3) (j := 4) (lv' := [(3, .int v_11), (5, .ref (B + q_8)), (0, .ref (B + o0)), (1, .ref (B + o1)), (2, .int v2), (4, .int v4)]) E dX6_runOn_43 rfl (ev_11).symm (Nat.le_of_ble_eq_true rfl) rfl ?_
            refine tt_aload (pc := 46) (i := 5) (j := 1) E dX6_runOn_46 rfl ?_
            refine tt_getI (pc := 48) E lfX6_89 rfl kq_10 dX6_runOn_48 ?_
            refine tt_bipush (pc := 51) (v := 8) E dX6_runOn_51 bc_8 ?_
            refine tt_icmp_ne (pc := 53) (tgt := 69) E dX6_runOn_53 rfl (fun c_33 => ?_) (fun c_33 => ?_)
            · have hf := ine c_33 hf
              refine tt_aload (pc := 69) (i := 5) (j := 1) E dX6_runOn_69 rfl ?_
              refine tt_getI (pc := 71) E lfX6_89 rfl kq_10 dX6_runOn_71 ?_
              refine tt_bipush (pc := 74) (v := 9) E dX6_runOn_74 bc_9 ?_
              refine tt_icmp_ne (pc := 76) (tgt := 106) E dX6_runOn_76 rfl (fun c_30 => ?_) (fun c_30 => ?_)
              · have hf := ine c_30 hf
                refine tt_iload_n (pc := 106) (i := 2) (j := 4) E dX6_runOn_106 rfl rfl ?_
                refine tt_bipush (pc := 107) (v := 40) E dX6_runOn_107 bc_40 ?_
                refine tt_icmp_ge (pc := 109) (tgt := 121) E dX6_runOn_109 rfl (fun c_21 => ?_) (fun c_21 => ?_)
                · have hf := ip c_21 hf
                  refine tt_iload_n (pc := 121) (i := 2) (j := 4) E dX6_runOn_121 rfl rfl ?_
                  exact tt_iret (pc := 122) E hr hlk dX6_runOn_122 (Nat.le_of_ble_eq_true rfl) (Nat.le_of_ble_eq_true rfl) hf
                · have hf := ine c_21 hf
                  refine tt_aload (pc := 112) (i := 5) (j := 1) E dX6_runOn_112 rfl ?_
                  refine tt_aload_n (pc := 114) (i := 1) (j := 3) E dX6_runOn_114 rfl rfl ?_
                  obtain ⟨r_12, hr_13, hf⟩ := bd_some hf
                  have hc_14 := cX1_faultOn_ok (l := l) (B := B) (D := D) (cT := cT) (n := n) (adK := adK) (adV := adV) kq_10 h1 hr_13
                  refine tt_cI (pc := 115) (tt_vi E lmX6_139 mtX1_faultOn hc_14 kq_10 rfl rfl (Nat.le_of_ble_eq_true rfl) ⟨(Nat.le_of_ble_eq_true rfl), (Nat.le_of_ble_eq_true rfl)⟩ ⟨(Nat.le_of_ble_eq_true rfl), (Nat.le_of_ble_eq_true rfl)⟩ dX6_runOn_115) ?_
                  refine tt_if_eq (pc := 118) (tgt := 123) E dX6_runOn_118 rfl (fun c_20 => ?_) (fun c_20 => ?_)
                  · have hf := ip c_20 hf
                    refine tt_aload (pc := 123) (i := 5) (j := 1) E dX6_runOn_123 rfl ?_
                    refine tt_aload_n (pc := 125) (i := 1) (j := 3) E dX6_runOn_125 rfl rfl ?_
                    obtain ⟨r_15, hr_16, hf⟩ := bd_some hf
                    have hc_17 := cX1_applyTo_ok (l := l) (B := B) (D := D) (cT := cT) (n := n) (adK := adK) (adV := adV) kq_10 h1 hr_16
                    refine tt_cV (pc := 126) (tt_vi E lmX6_143 mtX1_applyTo hc_17 kq_10 rfl rfl (Nat.le_of_ble_eq_true rfl) ⟨(Nat.le_of_ble_eq_true rfl), (Nat.le_of_ble_eq_true rfl)⟩ ⟨(Nat.le_of_ble_eq_true rfl), (Nat.le_of_ble_eq_true rfl)⟩ dX6_runOn_126) ?_
                    obtain ⟨v_18, ev_18, hf⟩ := nm_ex hf
                    refine tt_iinc (pc := 129) (i := 2) (j := 4) (lv' := [(2, .int v_18), (3, .int v_11), (5, .ref (B + q_8)), (0, .ref (B + o0)), (1, .ref (B + o1)), (4, .int v4)]) E dX6_runOn_129 rfl (ev_18).symm (Nat.le_of_ble_eq_true rfl) rfl ?_
                    obtain ⟨v_19, ev_19, hf⟩ := nm_ex hf
                    refine tt_iinc (pc := 132) (i := 4) (j := 5) (lv' := [(4, .int v_19), (2, .int v_18), (3, .int v_11), (5, .ref (B + q_8)), (0, .ref (B + o0)), (1, .ref (B + o1))]) E dX6_runOn_132 rfl (ev_19).symm (Nat.le_of_ble_eq_true rfl) rfl ?_
                    refine tt_goto (pc := 135) (tgt := 7) E dX6_runOn_135 rfl ?_
                    refine tt_sub [4, 5, 1, 2, 0] (lv' := [(0, .ref (B + o0)), (1, .ref (B + o1)), (2, .int v_18), (3, .int v_11), (4, .int v_19)]) rfl ?_
                    exact ih v_18 v_11 v_19 r_15 hf
                  · have hf := ine c_20 hf
                    refine tt_iload_n (pc := 121) (i := 2) (j := 4) E dX6_runOn_121 rfl rfl ?_
                    exact tt_iret (pc := 122) E hr hlk dX6_runOn_122 (Nat.le_of_ble_eq_true rfl) (Nat.le_of_ble_eq_true rfl) hf
              · have hf := ip c_30 hf
                refine tt_aload_n (pc := 79) (i := 0) (j := 2) E dX6_runOn_79 rfl rfl ?_
                refine tt_aload (pc := 80) (i := 5) (j := 1) E dX6_runOn_80 rfl ?_
                refine tt_getI (pc := 82) E lfX6_131 rfl kq_10 dX6_runOn_82 ?_
                obtain ⟨r_22, hr_23, hf⟩ := bd_some hf
                have hc_24 := cX6_isToRepeat_ok (l := l) (B := B) (D := D) (cT := cT) (n := n) (adK := adK) (adV := adV) h0 hr_23
                refine tt_cZ (pc := 85) (tt_vi E lmX6_135 mtX6_isToRepeat hc_24 h0 rfl rfl (Nat.le_of_ble_eq_true rfl) ⟨(Nat.le_of_ble_eq_true rfl), (Nat.le_of_ble_eq_true rfl)⟩ ⟨(Nat.le_of_ble_eq_true rfl), (Nat.le_of_ble_eq_true rfl)⟩ dX6_runOn_85) (fun z_25 => ?_)
                refine tt_if_eq (pc := 88) (tgt := 101) E dX6_runOn_88 rfl (fun c_29 => ?_) (fun c_29 => ?_)
                · have hf := ip c_29 hf
                  refine tt_iload_n (pc := 101) (i := 3) (j := 0) E dX6_runOn_101 rfl rfl ?_
                  refine tt_istore_n (pc := 102) (i := 3) (lv' := [(3, .int v_11), (5, .ref (B + q_8)), (0, .ref (B + o0)), (1, .ref (B + o1)), (2, .int v2), (4, .int v4)]) E dX6_runOn_102 rfl (Nat.le_of_ble_eq_true rfl) rfl ?_
                  refine tt_goto (pc := 103) (tgt := 132) E dX6_runOn_103 rfl ?_
                  obtain ⟨v_26, ev_26, hf⟩ := nm_ex hf
                  refine tt_iinc (pc := 132) (i := 4) (j := 5) (lv' := [(4, .int v_26), (3, .int v_11), (5, .ref (B + q_8)), (0, .ref (B + o0)), (1, .ref (B + o1)), (2, .int v2)]) E dX6_runOn_132 rfl (ev_26).symm (Nat.le_of_ble_eq_true rfl) rfl ?_
                  refine tt_goto (pc := 135) (tgt := 7) E dX6_runOn_135 rfl ?_
                  refine tt_sub [3, 4, 5, 1, 0] (lv' := [(0, .ref (B + o0)), (1, .ref (B + o1)), (2, .int v2), (3, .int v_11), (4, .int v_26)]) rfl ?_
                  exact ih v2 v_11 v_26 r_22.2 hf
                · have hf := ine c_29 hf
                  refine tt_aload (pc := 91) (i := 5) (j := 1) E dX6_runOn_91 rfl ?_
                  refine tt_getI (pc := 93) E lfX6_131 rfl kq_10 dX6_runOn_93 ?_
                  refine tt_iconst (pc := 96) (v := 1) E dX6_runOn_96 ic_1 ?_
                  refine tt_iadd (pc := 97) E dX6_runOn_97 ?_
                  refine tt_goto (pc := 98) (tgt := 102) E dX6_runOn_98 rfl ?_
                  refine tt_nmI hf (fun v_27 hf => ?_)
                  refine tt_istore_n (pc := 102) (i := 3) (lv' := [(3, .int v_27), (5, .ref (B + q_8)), (0, .ref (B + o0)), (1, .ref (B + o1)), (2, .int v2), (4, .int v4)]) E dX6_runOn_102 rfl (Nat.le_of_ble_eq_true rfl) rfl ?_
                  refine tt_goto (pc := 103) (tgt := 132) E dX6_runOn_103 rfl ?_
                  obtain ⟨v_28, ev_28, hf⟩ := nm_ex hf
                  refine tt_iinc (pc := 132) (i := 4) (j := 5) (lv' := [(4, .int v_28), (3, .int v_27), (5, .ref (B + q_8)), (0, .ref (B + o0)), (1, .ref (B + o1)), (2, .int v2)]) E dX6_runOn_132 rfl (ev_28).symm (Nat.le_of_ble_eq_true rfl) rfl ?_
                  refine tt_goto (pc := 135) (tgt := 7) E dX6_runOn_135 rfl ?_
                  refine tt_sub [3, 4, 5, 1, 0] (lv' := [(0, .ref (B + o0)), (1, .ref (B + o1)), (2, .int v2), (3, .int v_27), (4, .int v_28)]) rfl ?_
                  exact ih v2 v_27 v_28 r_22.2 hf
            · have hf := ip c_33 hf
              refine tt_aload (pc := 56) (i := 5) (j := 1) E dX6_runOn_56 rfl ?_
              refine tt_aload (pc := 58) (i := 5) (j := 1) E dX6_runOn_58 rfl ?_
              refine tt_getI (pc := 60) E lfX6_71 rfl kq_10 dX6_runOn_60 ?_
              refine tt_putI (pc := 63) E lfX6_131 rfl kq_10 dX6_runOn_63 (tt_nmM hf (fun m_31 hf => ?_))
              refine tt_goto (pc := 66) (tgt := 132) E dX6_runOn_66 rfl ?_
              obtain ⟨v_32, ev_32, hf⟩ := nm_ex hf
              refine tt_iinc (pc := 132) (i := 4) (j := 5) (lv' := [(4, .int v_32), (3, .int v_11), (5, .ref (B + q_8)), (0, .ref (B + o0)), (1, .ref (B + o1)), (2, .int v2)]) E dX6_runOn_132 rfl (ev_32).symm (Nat.le_of_ble_eq_true rfl) rfl ?_
              refine tt_goto (pc := 135) (tgt := 7) E dX6_runOn_135 rfl ?_
              refine tt_sub [3, 4, 5, 1, 0] (lv' := [(0, .ref (B + o0)), (1, .ref (B + o1)), (2, .int v2), (3, .int v_11), (4, .int v_32)]) rfl ?_
              exact ih v2 v_11 v_32 m_31 hf
set_option maxHeartbeats 4000000 in
theorem cX6_runOn_ok {l : Launch} {B : Nat} {D : va_G} {cT : Nat → ClassId} {n : Nat} {adK adV : Nat → Nat} {o0 : Nat} {o1 : Nat} {μ : Mem} {res : Int32 × Mem} (h0 : isK n o0 5) (h1 : isK n o1 1) (hf : fX6_runOn o0 o1 μ = some res) : MI l yX6_runOn cX6_runOn 6 (some .int) rmX6_runOn B D cT (XW B adK adV) n [.ref (B + o0), .ref (B + o1)] μ res := by
  refine tt_ofW mtX6_runOn.1 (Nat.le_of_ble_eq_true rfl) rfl ?_
  intro p e s m below meth c E0 hr hlk
  have E : EE p s m _ c cX6_runOn 6 RX6 B D cT (XW B adK adV) := E0
  unfold fX6_runOn at hf
  refine tt_iconst (pc := 0) (v := 0) E dX6_runOn_0 ic_0 ?_
  refine tt_istore_n (pc := 1) (i := 2) (lv' := [(2, .int 0), (0, .ref (B + o0)), (1, .ref (B + o1))]) E dX6_runOn_1 rfl (Nat.le_of_ble_eq_true rfl) rfl ?_
  refine tt_iconst (pc := 2) (v := 0) E dX6_runOn_2 ic_0 ?_
  refine tt_istore_n (pc := 3) (i := 3) (lv' := [(3, .int 0), (2, .int 0), (0, .ref (B + o0)), (1, .ref (B + o1))]) E dX6_runOn_3 rfl (Nat.le_of_ble_eq_true rfl) rfl ?_
  refine tt_iconst (pc := 4) (v := 0) E dX6_runOn_4 ic_0 ?_
  refine tt_istore (pc := 5) (i := 4) (lv' := [(4, .int 0), (3, .int 0), (2, .int 0), (0, .ref (B + o0)), (1, .ref (B + o1))]) E dX6_runOn_5 (Nat.le_of_ble_eq_true rfl) rfl ?_
  refine tt_sub [3, 4, 2, 1, 0] (lv' := [(0, .ref (B + o0)), (1, .ref (B + o1)), (2, .int 0), (3, .int 0), (4, .int 0)]) rfl ?_
  exact tX6_runOn_7 E hr hlk h0 h1 FU 0 0 0 μ hf
set_option maxHeartbeats 4000000 in
theorem cX7_byteAt_ok {l : Launch} {B : Nat} {D : va_G} {cT : Nat → ClassId} {n : Nat} {adK adV : Nat → Nat} {o0 : Nat} {v1 : Int32} {μ : Mem} {res : Int32} (h0 : isK n o0 6) (hf : fX7_byteAt o0 v1 μ = some res) : MI l yX7_byteAt cX7_byteAt 2 (some .int) rmX7_byteAt B D cT (XW B adK adV) n [.ref (B + o0), .int v1] μ (res, μ) := by
  refine tt_ofW mtX7_byteAt.1 (Nat.le_of_ble_eq_true rfl) rfl ?_
  intro p e s m below meth c E0 hr hlk
  have E : EE p s m _ c cX7_byteAt 2 RX7 B D cT (XW B adK adV) := E0
  unfold fX7_byteAt at hf
  refine tt_iload_n (pc := 0) (i := 1) (j := 1) E dX7_byteAt_0 rfl rfl ?_
  refine tt_if_lt (pc := 1) (tgt := 34) E dX7_byteAt_1 rfl (fun c_10 => ?_) (fun c_10 => ?_)
  · have hf := ip c_10 hf
    refine tt_iconst (pc := 34) (v := 0) E dX7_byteAt_34 ic_0 ?_
    exact tt_iret (pc := 35) E hr hlk dX7_byteAt_35 (Nat.le_of_ble_eq_true rfl) (Nat.le_of_ble_eq_true rfl) (pv hf)
  · have hf := ine c_10 hf
    refine tt_iload_n (pc := 4) (i := 1) (j := 1) E dX7_byteAt_4 rfl rfl ?_
    refine tt_aload_n (pc := 5) (i := 0) (j := 0) E dX7_byteAt_5 rfl rfl ?_
    refine tt_getI (pc := 6) E lfX7_15 rfl h0 dX7_byteAt_6 ?_
    refine tt_icmp_ge (pc := 9) (tgt := 34) E dX7_byteAt_9 rfl (fun c_9 => ?_) (fun c_9 => ?_)
    · have hf := ip c_9 hf
      refine tt_iconst (pc := 34) (v := 0) E dX7_byteAt_34 ic_0 ?_
      exact tt_iret (pc := 35) E hr hlk dX7_byteAt_35 (Nat.le_of_ble_eq_true rfl) (Nat.le_of_ble_eq_true rfl) (pv hf)
    · have hf := ine c_9 hf
      refine tt_iload_n (pc := 12) (i := 1) (j := 1) E dX7_byteAt_12 rfl rfl ?_
      refine tt_aload_n (pc := 13) (i := 0) (j := 0) E dX7_byteAt_13 rfl rfl ?_
      obtain ⟨q_1, hq_2, hf⟩ := bd_some hf
      refine tt_getP (pc := 14) (t := 10) E lfX7_9 rfl rfl h0 dX7_byteAt_14 hq_2 (fun kq_3 => ?_)
      refine tt_alen (pc := 17) (v := Int32.ofNat (Ln q_1)) E (k := 10) ⟨(Nat.le_of_ble_eq_true rfl), (Nat.le_of_ble_eq_true rfl)⟩ kq_3 rfl dX7_byteAt_17 ?_
      refine tt_icmp_ge (pc := 18) (tgt := 34) E dX7_byteAt_18 rfl (fun c_8 => ?_) (fun c_8 => ?_)
      · have hf := ip c_8 hf
        refine tt_iconst (pc := 34) (v := 0) E dX7_byteAt_34 ic_0 ?_
        exact tt_iret (pc := 35) E hr hlk dX7_byteAt_35 (Nat.le_of_ble_eq_true rfl) (Nat.le_of_ble_eq_true rfl) (pv hf)
      · have hf := ine c_8 hf
        refine tt_aload_n (pc := 21) (i := 0) (j := 0) E dX7_byteAt_21 rfl rfl ?_
        obtain ⟨q_4, hq_5, hf⟩ := bd_some hf
        refine tt_getP (pc := 22) (t := 10) E lfX7_9 rfl rfl h0 dX7_byteAt_22 hq_5 (fun kq_6 => ?_)
        refine tt_iload_n (pc := 25) (i := 1) (j := 1) E dX7_byteAt_25 rfl rfl ?_
        obtain ⟨g_7, hf⟩ := gd_some hf
        refine tt_bald (pc := 26) E kq_6 g_7 dX7_byteAt_26 ?_
        refine tt_sipush (pc := 27) (v := 255) E dX7_byteAt_27 sc_255 ?_
        refine tt_iand (pc := 30) E dX7_byteAt_30 ?_
        refine tt_goto (pc := 31) (tgt := 35) E dX7_byteAt_31 rfl ?_
        exact tt_iret (pc := 35) E hr hlk dX7_byteAt_35 (Nat.le_of_ble_eq_true rfl) (Nat.le_of_ble_eq_true rfl) (pv hf)
set_option maxHeartbeats 4000000 in
theorem cX10_letterAt_ok {l : Launch} {B : Nat} {D : va_G} {cT : Nat → ClassId} {n : Nat} {adK adV : Nat → Nat} {v0 : Int64} {v2 : Int32} {μ : Mem} {res : Int32} (hf : fX10_letterAt v0 v2 μ = some res) : MI l yX10_letterAt cX10_letterAt 3 (some .int) rmX10_letterAt B D cT (XW B adK adV) n [.long v0, .int v2] μ (res, μ) := by
  refine tt_ofW mtX10_letterAt.1 (Nat.le_of_ble_eq_true rfl) rfl ?_
  intro p e s m below meth c E0 hr hlk
  have E : EE p s m _ c cX10_letterAt 3 RX10 B D cT (XW B adK adV) := E0
  unfold fX10_letterAt at hf
  refine tt_iload_n (pc := 0) (i := 2) (j := 1) E dX10_letterAt_0 rfl rfl ?_
  refine tt_if_lt (pc := 1) (tgt := 27) E dX10_letterAt_1 rfl (fun c_2 => ?_) (fun c_2 => ?_)
  · have hf := ip c_2 hf
    refine tt_iconst (pc := 27) (v := 0) E dX10_letterAt_27 ic_0 ?_
    exact tt_iret (pc := 28) E hr hlk dX10_letterAt_28 (Nat.le_of_ble_eq_true rfl) (Nat.le_of_ble_eq_true rfl) (pv hf)
  · have hf := ine c_2 hf
    refine tt_iload_n (pc := 4) (i := 2) (j := 1) E dX10_letterAt_4 rfl rfl ?_
    refine tt_bipush (pc := 5) (v := 8) E dX10_letterAt_5 bc_8 ?_
    refine tt_icmp_ge (pc := 7) (tgt := 27) E dX10_letterAt_7 rfl (fun c_1 => ?_) (fun c_1 => ?_)
    · have hf := ip c_1 hf
      refine tt_iconst (pc := 27) (v := 0) E dX10_letterAt_27 ic_0 ?_
      exact tt_iret (pc := 28) E hr hlk dX10_letterAt_28 (Nat.le_of_ble_eq_true rfl) (Nat.le_of_ble_eq_true rfl) (pv hf)
    · have hf := ine c_1 hf
      refine tt_lload_n (pc := 10) (i := 0) (j := 0) E dX10_letterAt_10 rfl rfl ?_
      refine tt_bipush (pc := 11) (v := 8) E dX10_letterAt_11 bc_8 ?_
      refine tt_bipush (pc := 13) (v := 7) E dX10_letterAt_13 bc_7 ?_
      refine tt_iload_n (pc := 15) (i := 2) (j := 1) E dX10_letterAt_15 rfl rfl ?_
      refine tt_isub (pc := 16) E dX10_letterAt_16 ?_
      refine tt_imul (pc := 17) E dX10_letterAt_17 ?_
      refine tt_lushr (pc := 18) E dX10_letterAt_18 ?_
      refine tt_l2i (pc := 19) E dX10_letterAt_19 ?_
      refine tt_sipush (pc := 20) (v := 255) E dX10_letterAt_20 sc_255 ?_
      refine tt_iand (pc := 23) E dX10_letterAt_23 ?_
      refine tt_goto (pc := 24) (tgt := 28) E dX10_letterAt_24 rfl ?_
      exact tt_iret (pc := 28) E hr hlk dX10_letterAt_28 (Nat.le_of_ble_eq_true rfl) (Nat.le_of_ble_eq_true rfl) (pv hf)
set_option maxHeartbeats 4000000 in
theorem cX7_put_ok {l : Launch} {B : Nat} {D : va_G} {cT : Nat → ClassId} {n : Nat} {adK adV : Nat → Nat} {o0 : Nat} {v1 : Int32} {μ : Mem} {res : Mem} (h0 : isK n o0 6) (hf : fX7_put o0 v1 μ = some res) : MV l yX7_put cX7_put 2 (none) rmX7_put B D cT (XW B adK adV) n [.ref (B + o0), .int v1] μ res := by
  refine tt_ofW mtX7_put.1 (Nat.le_of_ble_eq_true rfl) rfl ?_
  intro p e s m below meth c E0 hr hlk
  have E : EE p s m _ c cX7_put 2 RX7 B D cT (XW B adK adV) := E0
  unfold fX7_put at hf
  refine tt_aload_n (pc := 0) (i := 0) (j := 0) E dX7_put_0 rfl rfl ?_
  refine tt_getI (pc := 1) E lfX7_15 rfl h0 dX7_put_1 ?_
  refine tt_if_lt (pc := 4) (tgt := 40) E dX7_put_4 rfl (fun c_11 => ?_) (fun c_11 => ?_)
  · have hf := ip c_11 hf
    exact tt_vret (pc := 40) E hr hlk dX7_put_40 (Nat.le_of_ble_eq_true rfl) (Nat.le_of_ble_eq_true rfl) hf
  · have hf := ine c_11 hf
    refine tt_aload_n (pc := 7) (i := 0) (j := 0) E dX7_put_7 rfl rfl ?_
    refine tt_getI (pc := 8) E lfX7_15 rfl h0 dX7_put_8 ?_
    refine tt_aload_n (pc := 11) (i := 0) (j := 0) E dX7_put_11 rfl rfl ?_
    obtain ⟨q_1, hq_2, hf⟩ := bd_some hf
    refine tt_getP (pc := 12) (t := 10) E lfX7_9 rfl rfl h0 dX7_put_12 hq_2 (fun kq_3 => ?_)
    refine tt_alen (pc := 15) (v := Int32.ofNat (Ln q_1)) E (k := 10) ⟨(Nat.le_of_ble_eq_true rfl), (Nat.le_of_ble_eq_true rfl)⟩ kq_3 rfl dX7_put_15 ?_
    refine tt_icmp_ge (pc := 16) (tgt := 40) E dX7_put_16 rfl (fun c_10 => ?_) (fun c_10 => ?_)
    · have hf := ip c_10 hf
      exact tt_vret (pc := 40) E hr hlk dX7_put_40 (Nat.le_of_ble_eq_true rfl) (Nat.le_of_ble_eq_true rfl) hf
    · have hf := ine c_10 hf
      refine tt_aload_n (pc := 19) (i := 0) (j := 0) E dX7_put_19 rfl rfl ?_
      obtain ⟨q_4, hq_5, hf⟩ := bd_some hf
      refine tt_getP (pc := 20) (t := 10) E lfX7_9 rfl rfl h0 dX7_put_20 hq_5 (fun kq_6 => ?_)
      refine tt_aload_n (pc := 23) (i := 0) (j := 0) E dX7_put_23 rfl rfl ?_
      refine tt_getI (pc := 24) E lfX7_15 rfl h0 dX7_put_24 ?_
      refine tt_iload_n (pc := 27) (i := 1) (j := 1) E dX7_put_27 rfl rfl ?_
      refine tt_i2b (pc := 28) E dX7_put_28 ?_
      obtain ⟨g_8, hf⟩ := gd_some hf
      refine tt_bast (pc := 29) E kq_6 g_8 dX7_put_29 (tt_nmM hf (fun m_7 hf => ?_))
      refine tt_aload_n (pc := 30) (i := 0) (j := 0) E dX7_put_30 rfl rfl ?_
      refine tt_dup (pc := 31) E dX7_put_31 rfl ?_
      refine tt_getI (pc := 32) E lfX7_15 rfl h0 dX7_put_32 ?_
      refine tt_iconst (pc := 35) (v := 1) E dX7_put_35 ic_1 ?_
      refine tt_iadd (pc := 36) E dX7_put_36 ?_
      refine tt_putI (pc := 37) E lfX7_15 rfl h0 dX7_put_37 (tt_nmM hf (fun m_9 hf => ?_))
      exact tt_vret (pc := 40) E hr hlk dX7_put_40 (Nat.le_of_ble_eq_true rfl) (Nat.le_of_ble_eq_true rfl) hf
set_option maxHeartbeats 4000000 in
theorem tX7_putNumber_42 {p : Program} {l : Launch} {e : Env} {s : State} {m : MethodId} {args : Array Value} {below : List Frame} {meth : Method} {c : Code} {B : Nat} {D : va_G} {cT : Nat → ClassId} {n : Nat} {adK adV : Nat → Nat} {res : Mem} (E : EE p s m args c cX7_putNumber 2 RX7 B D cT (XW B adK adV)) (hr : meth.sig.returnType = none) (hlk : meth.locks = false) {o0 : Nat} {v1 : Int32} (h0 : isK n o0 6) {μ : Mem} (hf : fX7_putNumber_42 o0 v1 μ = some res) : TT p l e rmX7_putNumber s m args below meth c (QV B D cT n below args s res) 2 B D cT n 0 0 μ 42 [(0, .ref (B + o0)), (1, .int v1)] [] := by
  unfold fX7_putNumber_42 at hf
  refine tt_iload_n (pc := 42) (i := 1) (j := 1) E dX7_putNumber_42 rfl rfl ?_
  refine tt_bipush (pc := 43) (v := 10) E dX7_putNumber_43 bc_10 ?_
  refine tt_icmp_lt (pc := 45) (tgt := 62) E dX7_putNumber_45 rfl (fun c_10 => ?_) (fun c_10 => ?_)
  · have hf := ip c_10 hf
    refine tt_aload_n (pc := 62) (i := 0) (j := 0) E dX7_putNumber_62 rfl rfl ?_
    refine tt_bipush (pc := 63) (v := 48) E dX7_putNumber_63 bc_48 ?_
    refine tt_iload_n (pc := 65) (i := 1) (j := 1) E dX7_putNumber_65 rfl rfl ?_
    refine tt_bipush (pc := 66) (v := 10) E dX7_putNumber_66 bc_10 ?_
    refine tt_irem (pc := 68) E dX7_putNumber_68 (by decide) ?_
    refine tt_iadd (pc := 69) E dX7_putNumber_69 ?_
    obtain ⟨r_1, hr_2, hf⟩ := bd_some hf
    have hc_3 := cX7_put_ok (l := l) (B := B) (D := D) (cT := cT) (n := n) (adK := adK) (adV := adV) h0 hr_2
    refine tt_cV (pc := 70) (tt_vi E lmX7_47 mtX7_put hc_3 h0 rfl rfl (Nat.le_of_ble_eq_true rfl) ⟨(Nat.le_of_ble_eq_true rfl), (Nat.le_of_ble_eq_true rfl)⟩ ⟨(Nat.le_of_ble_eq_true rfl), (Nat.le_of_ble_eq_true rfl)⟩ dX7_putNumber_70) ?_
    exact tt_vret (pc := 73) E hr hlk dX7_putNumber_73 (Nat.le_of_ble_eq_true rfl) (Nat.le_of_ble_eq_true rfl) hf
  · have hf := ine c_10 hf
    refine tt_aload_n (pc := 48) (i := 0) (j := 0) E dX7_putNumber_48 rfl rfl ?_
    refine tt_bipush (pc := 49) (v := 48) E dX7_putNumber_49 bc_48 ?_
    refine tt_iload_n (pc := 51) (i := 1) (j := 1) E dX7_putNumber_51 rfl rfl ?_
    refine tt_bipush (pc := 52) (v := 10) E dX7_putNumber_52 bc_10 ?_
    refine tt_idiv (pc := 54) E dX7_putNumber_54 (by decide) ?_
    refine tt_bipush (pc := 55) (v := 10) E dX7_putNumber_55 bc_10 ?_
    refine tt_irem (pc := 57) E dX7_putNumber_57 (by decide) ?_
    refine tt_iadd (pc := 58) E dX7_putNumber_58 ?_
    obtain ⟨r_4, hr_5, hf⟩ := bd_some hf
    have hc_6 := cX7_put_ok (l := l) (B := B) (D := D) (cT := cT) (n := n) (adK := adK) (adV := adV) h0 hr_5
    refine tt_cV (pc := 59) (tt_vi E lmX7_47 mtX7_put hc_6 h0 rfl rfl (Nat.le_of_ble_eq_true rfl) ⟨(Nat.le_of_ble_eq_true rfl), (Nat.le_of_ble_eq_true rfl)⟩ ⟨(Nat.le_of_ble_eq_true rfl), (Nat.le_of_ble_eq_true rfl)⟩ dX7_putNumber_59) ?_
    refine tt_aload_n (pc := 62) (i := 0) (j := 0) E dX7_putNumber_62 rfl rfl ?_
    refine tt_bipush (pc := 63) (v := 48) E dX7_putNumber_63 bc_48 ?_
    refine tt_iload_n (pc := 65) (i := 1) (j := 1) E dX7_putNumber_65 rfl rfl ?_
    refine tt_bipush (pc := 66) (v := 10) E dX7_putNumber_66 bc_10 ?_
    refine tt_irem (pc := 68) E dX7_putNumber_68 (by decide) ?_
    refine tt_iadd (pc := 69) E dX7_putNumber_69 ?_
    obtain ⟨r_7, hr_8, hf⟩ := bd_some hf
    have hc_9 := cX7_put_ok (l := l) (B := B) (D := D) (cT := cT) (n := n) (adK := adK) (adV := adV) h0 hr_8
    refine tt_cV (pc := 70) (tt_vi E lmX7_47 mtX7_put hc_9 h0 rfl rfl (Nat.le_of_ble_eq_true rfl) ⟨(Nat.le_of_ble_eq_true rfl), (Nat.le_of_ble_eq_true rfl)⟩ ⟨(Nat.le_of_ble_eq_true rfl), (Nat.le_of_ble_eq_true rfl)⟩ dX7_putNumber_70) ?_
    exact tt_vret (pc := 73) E hr hlk dX7_putNumber_73 (Nat.le_of_ble_eq_true rfl) (Nat.le_of_ble_eq_true rfl) hf
set_option maxHeartbeats 4000000 in
theorem tX7_putNumber_22 {p : Program} {l : Launch} {e : Env} {s : State} {m : MethodId} {args : Array Value} {below : List Frame} {meth : Method} {c : Code} {B : Nat} {D : va_G} {cT : Nat → ClassId} {n : Nat} {adK adV : Nat → Nat} {res : Mem} (E : EE p s m args c cX7_putNumber 2 RX7 B D cT (XW B adK adV)) (hr : meth.sig.returnType = none) (hlk : meth.locks = false) {o0 : Nat} {v1 : Int32} (h0 : isK n o0 6) {μ : Mem} (hf : fX7_putNumber_22 o0 v1 μ = some res) : TT p l e rmX7_putNumber s m args below meth c (QV B D cT n below args s res) 2 B D cT n 0 0 μ 22 [(0, .ref (B + o0)), (1, .int v1)] [] := by
  unfold fX7_putNumber_22 at hf
  refine tt_iload_n (pc := 22) (i := 1) (j := 1) E dX7_putNumber_22 rfl rfl ?_
  refine tt_bipush (pc := 23) (v := 100) E dX7_putNumber_23 bc_100 ?_
  refine tt_icmp_lt (pc := 25) (tgt := 42) E dX7_putNumber_25 rfl (fun c_4 => ?_) (fun c_4 => ?_)
  · have hf := ip c_4 hf
    exact tX7_putNumber_42 E hr hlk h0 hf
  · have hf := ine c_4 hf
    refine tt_aload_n (pc := 28) (i := 0) (j := 0) E dX7_putNumber_28 rfl rfl ?_
    refine tt_bipush (pc := 29) (v := 48) E dX7_putNumber_29 bc_48 ?_
    refine tt_iload_n (pc := 31) (i := 1) (j := 1) E dX7_putNumber_31 rfl rfl ?_
    refine tt_bipush (pc := 32) (v := 100) E dX7_putNumber_32 bc_100 ?_
    refine tt_idiv (pc := 34) E dX7_putNumber_34 (by decide) ?_
    refine tt_bipush (pc := 35) (v := 10) E dX7_putNumber_35 bc_10 ?_
    refine tt_irem (pc := 37) E dX7_putNumber_37 (by decide) ?_
    refine tt_iadd (pc := 38) E dX7_putNumber_38 ?_
    obtain ⟨r_1, hr_2, hf⟩ := bd_some hf
    have hc_3 := cX7_put_ok (l := l) (B := B) (D := D) (cT := cT) (n := n) (adK := adK) (adV := adV) h0 hr_2
    refine tt_cV (pc := 39) (tt_vi E lmX7_47 mtX7_put hc_3 h0 rfl rfl (Nat.le_of_ble_eq_true rfl) ⟨(Nat.le_of_ble_eq_true rfl), (Nat.le_of_ble_eq_true rfl)⟩ ⟨(Nat.le_of_ble_eq_true rfl), (Nat.le_of_ble_eq_true rfl)⟩ dX7_putNumber_39) ?_
    exact tX7_putNumber_42 E hr hlk h0 hf
set_option maxHeartbeats 4000000 in
theorem cX7_putNumber_ok {l : Launch} {B : Nat} {D : va_G} {cT : Nat → ClassId} {n : Nat} {adK adV : Nat → Nat} {o0 : Nat} {v1 : Int32} {μ : Mem} {res : Mem} (h0 : isK n o0 6) (hf : fX7_putNumber o0 v1 μ = some res) : MV l yX7_putNumber cX7_putNumber 2 (none) rmX7_putNumber B D cT (XW B adK adV) n [.ref (B + o0), .int v1] μ res := by
  refine tt_ofW mtX7_putNumber.1 (Nat.le_of_ble_eq_true rfl) rfl ?_
  intro p e s m below meth c E0 hr hlk
  have E : EE p s m _ c cX7_putNumber 2 RX7 B D cT (XW B adK adV) := E0
  unfold fX7_putNumber at hf
  refine tt_iload_n (pc := 0) (i := 1) (j := 1) E dX7_putNumber_0 rfl rfl ?_
  refine tt_sipush (pc := 1) (v := 1000) E dX7_putNumber_1 sc_1000 ?_
  refine tt_icmp_lt (pc := 4) (tgt := 22) E dX7_putNumber_4 rfl (fun c_4 => ?_) (fun c_4 => ?_)
  · have hf := ip c_4 hf
    exact tX7_putNumber_22 E hr hlk h0 hf
  · have hf := ine c_4 hf
    refine tt_aload_n (pc := 7) (i := 0) (j := 0) E dX7_putNumber_7 rfl rfl ?_
    refine tt_bipush (pc := 8) (v := 48) E dX7_putNumber_8 bc_48 ?_
    refine tt_iload_n (pc := 10) (i := 1) (j := 1) E dX7_putNumber_10 rfl rfl ?_
    refine tt_sipush (pc := 11) (v := 1000) E dX7_putNumber_11 sc_1000 ?_
    refine tt_idiv (pc := 14) E dX7_putNumber_14 (by decide) ?_
    refine tt_bipush (pc := 15) (v := 10) E dX7_putNumber_15 bc_10 ?_
    refine tt_irem (pc := 17) E dX7_putNumber_17 (by decide) ?_
    refine tt_iadd (pc := 18) E dX7_putNumber_18 ?_
    obtain ⟨r_1, hr_2, hf⟩ := bd_some hf
    have hc_3 := cX7_put_ok (l := l) (B := B) (D := D) (cT := cT) (n := n) (adK := adK) (adV := adV) h0 hr_2
    refine tt_cV (pc := 19) (tt_vi E lmX7_47 mtX7_put hc_3 h0 rfl rfl (Nat.le_of_ble_eq_true rfl) ⟨(Nat.le_of_ble_eq_true rfl), (Nat.le_of_ble_eq_true rfl)⟩ ⟨(Nat.le_of_ble_eq_true rfl), (Nat.le_of_ble_eq_true rfl)⟩ dX7_putNumber_19) ?_
    exact tX7_putNumber_22 E hr hlk h0 hf
set_option maxHeartbeats 4000000 in
theorem tX7_writeLine_67 {p : Program} {l : Launch} {e : Env} {s : State} {m : MethodId} {args : Array Value} {below : List Frame} {meth : Method} {c : Code} {B : Nat} {D : va_G} {cT : Nat → ClassId} {n : Nat} {adK adV : Nat → Nat} {res : Mem} (E : EE p s m args c cX7_writeLine 4 RX7 B D cT (XW B adK adV)) (hr : meth.sig.returnType = none) (hlk : meth.locks = false) {o0 : Nat} {o1 : Nat} {v2 : Int32} (h0 : isK n o0 6) (h1 : isK n o1 2) (h2 : zb v2) : ∀ (fu : Nat) (v3 : Int32) (μ : Mem), zl2 (gX7_writeLine_67 o0 o1 v2) fu v3 μ = some res → TT p l e rmX7_writeLine s m args below meth c (QV B D cT n below args s res) 4 B D cT n 0 0 μ 67 [(0, .ref (B + o0)), (1, .ref (B + o1)), (2, .int v2), (3, .int v3)] [] := by
  intro fu
  induction fu with
  | zero => intro v3 μ hf; exact absurd hf (fun h => by cases h)
  | succ fu ih =>
    intro v3 μ hf
    have hf : gX7_writeLine_67 o0 o1 v2 (zl2 (gX7_writeLine_67 o0 o1 v2) fu) v3 μ = some res := hf
    unfold gX7_writeLine_67 at hf
    refine tt_iload_n (pc := 67) (i := 3) (j := 3) E dX7_writeLine_67 rfl rfl ?_
    refine tt_aload_n (pc := 68) (i := 1) (j := 1) E dX7_writeLine_68 rfl rfl ?_
    refine tt_getI (pc := 69) E lfX7_60 rfl h1 dX7_writeLine_69 ?_
    refine tt_icmp_ge (pc := 72) (tgt := 87) E dX7_writeLine_72 rfl (fun c_15 => ?_) (fun c_15 => ?_)
    · have hf := ip c_15 hf
      refine tt_iload_n (pc := 87) (i := 2) (j := 2) E dX7_writeLine_87 rfl rfl ?_
      refine tt_if_eq (pc := 88) (tgt := 97) E dX7_writeLine_88 rfl (fun c_10 => ?_) (fun c_10 => ?_)
      · have hf := ip c_10 hf
        refine tt_aload_n (pc := 97) (i := 0) (j := 0) E dX7_writeLine_97 rfl rfl ?_
        refine tt_bipush (pc := 98) (v := 10) E dX7_writeLine_98 bc_10 ?_
        obtain ⟨r_1, hr_2, hf⟩ := bd_some hf
        have hc_3 := cX7_put_ok (l := l) (B := B) (D := D) (cT := cT) (n := n) (adK := adK) (adV := adV) h0 hr_2
        refine tt_cV (pc := 100) (tt_vi E lmX7_47 mtX7_put hc_3 h0 rfl rfl (Nat.le_of_ble_eq_true rfl) ⟨(Nat.le_of_ble_eq_true rfl), (Nat.le_of_ble_eq_true rfl)⟩ ⟨(Nat.le_of_ble_eq_true rfl), (Nat.le_of_ble_eq_true rfl)⟩ dX7_writeLine_100) ?_
        exact tt_vret (pc := 103) E hr hlk dX7_writeLine_103 (Nat.le_of_ble_eq_true rfl) (Nat.le_of_ble_eq_true rfl) hf
      · have hf := ine c_10 hf
        refine tt_aload_n (pc := 91) (i := 0) (j := 0) E dX7_writeLine_91 rfl rfl ?_
        refine tt_bipush (pc := 92) (v := 42) E dX7_writeLine_92 bc_42 ?_
        obtain ⟨r_4, hr_5, hf⟩ := bd_some hf
        have hc_6 := cX7_put_ok (l := l) (B := B) (D := D) (cT := cT) (n := n) (adK := adK) (adV := adV) h0 hr_5
        refine tt_cV (pc := 94) (tt_vi E lmX7_47 mtX7_put hc_6 h0 rfl rfl (Nat.le_of_ble_eq_true rfl) ⟨(Nat.le_of_ble_eq_true rfl), (Nat.le_of_ble_eq_true rfl)⟩ ⟨(Nat.le_of_ble_eq_true rfl), (Nat.le_of_ble_eq_true rfl)⟩ dX7_writeLine_94) ?_
        refine tt_aload_n (pc := 97) (i := 0) (j := 0) E dX7_writeLine_97 rfl rfl ?_
        refine tt_bipush (pc := 98) (v := 10) E dX7_writeLine_98 bc_10 ?_
        obtain ⟨r_7, hr_8, hf⟩ := bd_some hf
        have hc_9 := cX7_put_ok (l := l) (B := B) (D := D) (cT := cT) (n := n) (adK := adK) (adV := adV) h0 hr_8
        refine tt_cV (pc := 100) (tt_vi E lmX7_47 mtX7_put hc_9 h0 rfl rfl (Nat.le_of_ble_eq_true rfl) ⟨(Nat.le_of_ble_eq_true rfl), (Nat.le_of_ble_eq_true rfl)⟩ ⟨(Nat.le_of_ble_eq_true rfl), (Nat.le_of_ble_eq_true rfl)⟩ dX7_writeLine_100) ?_
        exact tt_vret (pc := 103) E hr hlk dX7_writeLine_103 (Nat.le_of_ble_eq_true rfl) (Nat.le_of_ble_eq_true rfl) hf
    · have hf := ine c_15 hf
      refine tt_aload_n (pc := 75) (i := 0) (j := 0) E dX7_writeLine_75 rfl rfl ?_
      refine tt_bipush (pc := 76) (v := 43) E dX7_writeLine_76 bc_43 ?_
      obtain ⟨r_11, hr_12, hf⟩ := bd_some hf
      have hc_13 := cX7_put_ok (l := l) (B := B) (D := D) (cT := cT) (n := n) (adK := adK) (adV := adV) h0 hr_12
      refine tt_cV (pc := 78) (tt_vi E lmX7_47 mtX7_put hc_13 h0 rfl rfl (Nat.le_of_ble_eq_true rfl) ⟨(Nat.le_of_ble_eq_true rfl), (Nat.le_of_ble_eq_true rfl)⟩ ⟨(Nat.le_of_ble_eq_true rfl), (Nat.le_of_ble_eq_true rfl)⟩ dX7_writeLine_78) ?_
      obtain ⟨v_14, ev_14, hf⟩ := nm_ex hf
      refine tt_iinc (pc := 81) (i := 3) (j := 3) (lv' := [(3, .int v_14), (0, .ref (B + o0)), (1, .ref (B + o1)), (2, .int v2)]) E dX7_writeLine_81 rfl (ev_14).symm (Nat.le_of_ble_eq_true rfl) rfl ?_
      refine tt_goto (pc := 84) (tgt := 67) E dX7_writeLine_84 rfl ?_
      refine tt_sub [1, 2, 3, 0] (lv' := [(0, .ref (B + o0)), (1, .ref (B + o1)), (2, .int v2), (3, .int v_14)]) rfl ?_
      exact ih v_14 r_11 hf
set_option maxHeartbeats 4000000 in
theorem tX7_writeLine_37 {p : Program} {l : Launch} {e : Env} {s : State} {m : MethodId} {args : Array Value} {below : List Frame} {meth : Method} {c : Code} {B : Nat} {D : va_G} {cT : Nat → ClassId} {n : Nat} {adK adV : Nat → Nat} {res : Mem} (E : EE p s m args c cX7_writeLine 4 RX7 B D cT (XW B adK adV)) (hr : meth.sig.returnType = none) (hlk : meth.locks = false) {o0 : Nat} {o1 : Nat} {v2 : Int32} (h0 : isK n o0 6) (h1 : isK n o1 2) (h2 : zb v2) {μ : Mem} (hf : fX7_writeLine_37 o0 o1 v2 μ = some res) : TT p l e rmX7_writeLine s m args below meth c (QV B D cT n below args s res) 4 B D cT n 0 0 μ 37 [(0, .ref (B + o0)), (1, .ref (B + o1)), (2, .int v2)] [] := by
  unfold fX7_writeLine_37 at hf
  refine tt_aload_n (pc := 37) (i := 0) (j := 0) E dX7_writeLine_37 rfl rfl ?_
  refine tt_bipush (pc := 38) (v := 32) E dX7_writeLine_38 bc_32 ?_
  obtain ⟨r_1, hr_2, hf⟩ := bd_some hf
  have hc_3 := cX7_put_ok (l := l) (B := B) (D := D) (cT := cT) (n := n) (adK := adK) (adV := adV) h0 hr_2
  refine tt_cV (pc := 40) (tt_vi E lmX7_47 mtX7_put hc_3 h0 rfl rfl (Nat.le_of_ble_eq_true rfl) ⟨(Nat.le_of_ble_eq_true rfl), (Nat.le_of_ble_eq_true rfl)⟩ ⟨(Nat.le_of_ble_eq_true rfl), (Nat.le_of_ble_eq_true rfl)⟩ dX7_writeLine_40) ?_
  refine tt_aload_n (pc := 43) (i := 0) (j := 0) E dX7_writeLine_43 rfl rfl ?_
  refine tt_aload_n (pc := 44) (i := 1) (j := 1) E dX7_writeLine_44 rfl rfl ?_
  refine tt_getI (pc := 45) E lfX7_51 rfl h1 dX7_writeLine_45 ?_
  obtain ⟨r_4, hr_5, hf⟩ := bd_some hf
  have hc_6 := cX7_putNumber_ok (l := l) (B := B) (D := D) (cT := cT) (n := n) (adK := adK) (adV := adV) h0 hr_5
  refine tt_cV (pc := 48) (tt_vi E lmX7_54 mtX7_putNumber hc_6 h0 rfl rfl (Nat.le_of_ble_eq_true rfl) ⟨(Nat.le_of_ble_eq_true rfl), (Nat.le_of_ble_eq_true rfl)⟩ ⟨(Nat.le_of_ble_eq_true rfl), (Nat.le_of_ble_eq_true rfl)⟩ dX7_writeLine_48) ?_
  refine tt_aload_n (pc := 51) (i := 0) (j := 0) E dX7_writeLine_51 rfl rfl ?_
  refine tt_bipush (pc := 52) (v := 47) E dX7_writeLine_52 bc_47 ?_
  obtain ⟨r_7, hr_8, hf⟩ := bd_some hf
  have hc_9 := cX7_put_ok (l := l) (B := B) (D := D) (cT := cT) (n := n) (adK := adK) (adV := adV) h0 hr_8
  refine tt_cV (pc := 54) (tt_vi E lmX7_47 mtX7_put hc_9 h0 rfl rfl (Nat.le_of_ble_eq_true rfl) ⟨(Nat.le_of_ble_eq_true rfl), (Nat.le_of_ble_eq_true rfl)⟩ ⟨(Nat.le_of_ble_eq_true rfl), (Nat.le_of_ble_eq_true rfl)⟩ dX7_writeLine_54) ?_
  refine tt_aload_n (pc := 57) (i := 0) (j := 0) E dX7_writeLine_57 rfl rfl ?_
  refine tt_aload_n (pc := 58) (i := 1) (j := 1) E dX7_writeLine_58 rfl rfl ?_
  refine tt_getI (pc := 59) E lfX7_57 rfl h1 dX7_writeLine_59 ?_
  obtain ⟨r_10, hr_11, hf⟩ := bd_some hf
  have hc_12 := cX7_putNumber_ok (l := l) (B := B) (D := D) (cT := cT) (n := n) (adK := adK) (adV := adV) h0 hr_11
  refine tt_cV (pc := 62) (tt_vi E lmX7_54 mtX7_putNumber hc_12 h0 rfl rfl (Nat.le_of_ble_eq_true rfl) ⟨(Nat.le_of_ble_eq_true rfl), (Nat.le_of_ble_eq_true rfl)⟩ ⟨(Nat.le_of_ble_eq_true rfl), (Nat.le_of_ble_eq_true rfl)⟩ dX7_writeLine_62) ?_
  refine tt_iconst (pc := 65) (v := 0) E dX7_writeLine_65 ic_0 ?_
  refine tt_istore_n (pc := 66) (i := 3) (lv' := [(3, .int 0), (0, .ref (B + o0)), (1, .ref (B + o1)), (2, .int v2)]) E dX7_writeLine_66 rfl (Nat.le_of_ble_eq_true rfl) rfl ?_
  refine tt_sub [1, 2, 3, 0] (lv' := [(0, .ref (B + o0)), (1, .ref (B + o1)), (2, .int v2), (3, .int 0)]) rfl ?_
  exact tX7_writeLine_67 E hr hlk h0 h1 h2 FU 0 r_10 hf
set_option maxHeartbeats 4000000 in
theorem tX7_writeLine_2 {p : Program} {l : Launch} {e : Env} {s : State} {m : MethodId} {args : Array Value} {below : List Frame} {meth : Method} {c : Code} {B : Nat} {D : va_G} {cT : Nat → ClassId} {n : Nat} {adK adV : Nat → Nat} {res : Mem} (E : EE p s m args c cX7_writeLine 4 RX7 B D cT (XW B adK adV)) (hr : meth.sig.returnType = none) (hlk : meth.locks = false) {o0 : Nat} {o1 : Nat} {v2 : Int32} (h0 : isK n o0 6) (h1 : isK n o1 2) (h2 : zb v2) : ∀ (fu : Nat) (v3 : Int32) (μ : Mem), zl2 (gX7_writeLine_2 o0 o1 v2) fu v3 μ = some res → TT p l e rmX7_writeLine s m args below meth c (QV B D cT n below args s res) 4 B D cT n 0 0 μ 2 [(0, .ref (B + o0)), (1, .ref (B + o1)), (2, .int v2), (3, .int v3)] [] := by
  intro fu
  induction fu with
  | zero => intro v3 μ hf; exact absurd hf (fun h => by cases h)
  | succ fu ih =>
    intro v3 μ hf
    have hf : gX7_writeLine_2 o0 o1 v2 (zl2 (gX7_writeLine_2 o0 o1 v2) fu) v3 μ = some res := hf
    unfold gX7_writeLine_2 at hf
    refine tt_iload_n (pc := 2) (i := 3) (j := 3) E dX7_writeLine_2 rfl rfl ?_
    refine tt_bipush (pc := 3) (v := 8) E dX7_writeLine_3 bc_8 ?_
    refine tt_icmp_ge (pc := 5) (tgt := 37) E dX7_writeLine_5 rfl (fun c_12 => ?_) (fun c_12 => ?_)
    · have hf := ip c_12 hf
      refine tt_sub [0, 1, 2] (lv' := [(0, .ref (B + o0)), (1, .ref (B + o1)), (2, .int v2)]) rfl ?_
      exact tX7_writeLine_37 E hr hlk h0 h1 h2 hf
    · have hf := ine c_12 hf
      refine tt_aload_n (pc := 8) (i := 1) (j := 1) E dX7_writeLine_8 rfl rfl ?_
      refine tt_getJ (pc := 9) E lfX7_37 rfl h1 dX7_writeLine_9 ?_
      refine tt_iload_n (pc := 12) (i := 3) (j := 3) E dX7_writeLine_12 rfl rfl ?_
      obtain ⟨r_1, hr_2, hf⟩ := bd_some hf
      have hc_3 := cX10_letterAt_ok (l := l) (B := B) (D := D) (cT := cT) (n := n) (adK := adK) (adV := adV) hr_2
      refine tt_cI (pc := 13) (tt_si E lmX7_41 mtX10_letterAt hc_3 rfl rfl (Nat.le_of_ble_eq_true rfl) ⟨(Nat.le_of_ble_eq_true rfl), (Nat.le_of_ble_eq_true rfl)⟩ ⟨(Nat.le_of_ble_eq_true rfl), (Nat.le_of_ble_eq_true rfl)⟩ dX7_writeLine_13) ?_
      refine tt_if_eq (pc := 16) (tgt := 37) E dX7_writeLine_16 rfl (fun c_11 => ?_) (fun c_11 => ?_)
      · have hf := ip c_11 hf
        refine tt_sub [0, 1, 2] (lv' := [(0, .ref (B + o0)), (1, .ref (B + o1)), (2, .int v2)]) rfl ?_
        exact tX7_writeLine_37 E hr hlk h0 h1 h2 hf
      · have hf := ine c_11 hf
        refine tt_aload_n (pc := 19) (i := 0) (j := 0) E dX7_writeLine_19 rfl rfl ?_
        refine tt_aload_n (pc := 20) (i := 1) (j := 1) E dX7_writeLine_20 rfl rfl ?_
        refine tt_getJ (pc := 21) E lfX7_37 rfl h1 dX7_writeLine_21 ?_
        refine tt_iload_n (pc := 24) (i := 3) (j := 3) E dX7_writeLine_24 rfl rfl ?_
        obtain ⟨r_4, hr_5, hf⟩ := bd_some hf
        have hc_6 := cX10_letterAt_ok (l := l) (B := B) (D := D) (cT := cT) (n := n) (adK := adK) (adV := adV) hr_5
        refine tt_cI (pc := 25) (tt_si E lmX7_41 mtX10_letterAt hc_6 rfl rfl (Nat.le_of_ble_eq_true rfl) ⟨(Nat.le_of_ble_eq_true rfl), (Nat.le_of_ble_eq_true rfl)⟩ ⟨(Nat.le_of_ble_eq_true rfl), (Nat.le_of_ble_eq_true rfl)⟩ dX7_writeLine_25) ?_
        obtain ⟨r_7, hr_8, hf⟩ := bd_some hf
        have hc_9 := cX7_put_ok (l := l) (B := B) (D := D) (cT := cT) (n := n) (adK := adK) (adV := adV) h0 hr_8
        refine tt_cV (pc := 28) (tt_vi E lmX7_47 mtX7_put hc_9 h0 rfl rfl (Nat.le_of_ble_eq_true rfl) ⟨(Nat.le_of_ble_eq_true rfl), (Nat.le_of_ble_eq_true rfl)⟩ ⟨(Nat.le_of_ble_eq_true rfl), (Nat.le_of_ble_eq_true rfl)⟩ dX7_writeLine_28) ?_
        obtain ⟨v_10, ev_10, hf⟩ := nm_ex hf
        refine tt_iinc (pc := 31) (i := 3) (j := 3) (lv' := [(3, .int v_10), (0, .ref (B + o0)), (1, .ref (B + o1)), (2, .int v2)]) E dX7_writeLine_31 rfl (ev_10).symm (Nat.le_of_ble_eq_true rfl) rfl ?_
        refine tt_goto (pc := 34) (tgt := 2) E dX7_writeLine_34 rfl ?_
        refine tt_sub [1, 2, 3, 0] (lv' := [(0, .ref (B + o0)), (1, .ref (B + o1)), (2, .int v2), (3, .int v_10)]) rfl ?_
        exact ih v_10 r_7 hf
set_option maxHeartbeats 4000000 in
theorem cX7_writeLine_ok {l : Launch} {B : Nat} {D : va_G} {cT : Nat → ClassId} {n : Nat} {adK adV : Nat → Nat} {o0 : Nat} {o1 : Nat} {v2 : Int32} {μ : Mem} {res : Mem} (h0 : isK n o0 6) (h1 : isK n o1 2) (h2 : zb v2) (hf : fX7_writeLine o0 o1 v2 μ = some res) : MV l yX7_writeLine cX7_writeLine 4 (none) rmX7_writeLine B D cT (XW B adK adV) n [.ref (B + o0), .ref (B + o1), .int v2] μ res := by
  refine tt_ofW mtX7_writeLine.1 (Nat.le_of_ble_eq_true rfl) rfl ?_
  intro p e s m below meth c E0 hr hlk
  have E : EE p s m _ c cX7_writeLine 4 RX7 B D cT (XW B adK adV) := E0
  unfold fX7_writeLine at hf
  refine tt_iconst (pc := 0) (v := 0) E dX7_writeLine_0 ic_0 ?_
  refine tt_istore_n (pc := 1) (i := 3) (lv' := [(3, .int 0), (0, .ref (B + o0)), (1, .ref (B + o1)), (2, .int v2)]) E dX7_writeLine_1 rfl (Nat.le_of_ble_eq_true rfl) rfl ?_
  refine tt_sub [1, 2, 3, 0] (lv' := [(0, .ref (B + o0)), (1, .ref (B + o1)), (2, .int v2), (3, .int 0)]) rfl ?_
  exact tX7_writeLine_2 E hr hlk h0 h1 h2 FU 0 μ hf
set_option maxHeartbeats 4000000 in
theorem tX7_write_17 {p : Program} {l : Launch} {e : Env} {s : State} {m : MethodId} {args : Array Value} {below : List Frame} {meth : Method} {c : Code} {B : Nat} {D : va_G} {cT : Nat → ClassId} {n : Nat} {adK adV : Nat → Nat} {res : Mem} (E : EE p s m args c cX7_write 7 RX7 B D cT (XW B adK adV)) (hr : meth.sig.returnType = none) (hlk : meth.locks = false) {o0 : Nat} {o1 : Nat} {v2 : Int32} {o3 : Nat} {v4 : Int32} (h0 : isK n o0 6) (h1 : isK n o1 1) (h3 : isK n o3 15) : ∀ (fu : Nat) (v5 : Int32) (μ : Mem), zl2 (gX7_write_17 o0 o1 v2 o3 v4) fu v5 μ = some res → TT p l e rmX7_write s m args below meth c (QV B D cT n below args s res) 7 B D cT n 0 0 μ 17 [(0, .ref (B + o0)), (1, .ref (B + o1)), (2, .int v2), (3, .ref (B + o3)), (4, .int v4), (5, .int v5)] [] := by
  intro fu
  induction fu with
  | zero => intro v5 μ hf; exact absurd hf (fun h => by cases h)
  | succ fu ih =>
    intro v5 μ hf
    have hf : gX7_write_17 o0 o1 v2 o3 v4 (zl2 (gX7_write_17 o0 o1 v2 o3 v4) fu) v5 μ = some res := hf
    unfold gX7_write_17 at hf
    refine tt_iload (pc := 17) (i := 5) (j := 5) E dX7_write_17 rfl ?_
    refine tt_iload (pc := 19) (i := 4) (j := 4) E dX7_write_19 rfl ?_
    refine tt_icmp_ge (pc := 21) (tgt := 68) E dX7_write_21 rfl (fun c_16 => ?_) (fun c_16 => ?_)
    · have hf := ip c_16 hf
      exact tt_vret (pc := 68) E hr hlk dX7_write_68 (Nat.le_of_ble_eq_true rfl) (Nat.le_of_ble_eq_true rfl) hf
    · have hf := ine c_16 hf
      refine tt_aload_n (pc := 24) (i := 3) (j := 3) E dX7_write_24 rfl rfl ?_
      refine tt_iload (pc := 25) (i := 5) (j := 5) E dX7_write_25 rfl ?_
      obtain ⟨g_1, hf⟩ := gd_some hf
      obtain ⟨q_2, hq_3, hf⟩ := bd_some hf
      refine tt_aald15 (pc := 27) E h3 g_1 dX7_write_27 hq_3 (fun kq_4 => ?_)
      refine tt_astore (pc := 28) (i := 6) (lv' := [(6, .ref (B + q_2)), (0, .ref (B + o0)), (1, .ref (B + o1)), (2, .int v2), (3, .ref (B + o3)), (4, .int v4), (5, .int v5)]) E dX7_write_28 (Nat.le_of_ble_eq_true rfl) rfl ?_
      refine tt_aload (pc := 30) (i := 6) (j := 0) E dX7_write_30 rfl ?_
      refine tt_getI (pc := 32) E lfX7_25 rfl kq_4 dX7_write_32 ?_
      refine tt_aload_n (pc := 35) (i := 1) (j := 2) E dX7_write_35 rfl rfl ?_
      refine tt_getI (pc := 36) E lfX7_30 rfl h1 dX7_write_36 ?_
      refine tt_icmp_ge (pc := 39) (tgt := 62) E dX7_write_39 rfl (fun c_15 => ?_) (fun c_15 => ?_)
      · have hf := ip c_15 hf
        obtain ⟨v_5, ev_5, hf⟩ := nm_ex hf
        refine tt_iinc (pc := 62) (i := 5) (j := 6) (lv' := [(5, .int v_5), (6, .ref (B + q_2)), (0, .ref (B + o0)), (1, .ref (B + o1)), (2, .int v2), (3, .ref (B + o3)), (4, .int v4)]) E dX7_write_62 rfl (ev_5).symm (Nat.le_of_ble_eq_true rfl) rfl ?_
        refine tt_goto (pc := 65) (tgt := 17) E dX7_write_65 rfl ?_
        refine tt_sub [2, 3, 4, 5, 6, 0] (lv' := [(0, .ref (B + o0)), (1, .ref (B + o1)), (2, .int v2), (3, .ref (B + o3)), (4, .int v4), (5, .int v_5)]) rfl ?_
        exact ih v_5 μ hf
      · have hf := ine c_15 hf
        refine tt_aload_n (pc := 42) (i := 0) (j := 1) E dX7_write_42 rfl rfl ?_
        refine tt_aload (pc := 43) (i := 6) (j := 0) E dX7_write_43 rfl ?_
        refine tt_aload (pc := 45) (i := 6) (j := 0) E dX7_write_45 rfl ?_
        refine tt_getI (pc := 47) E lfX7_25 rfl kq_4 dX7_write_47 ?_
        refine tt_iload_n (pc := 50) (i := 2) (j := 3) E dX7_write_50 rfl rfl ?_
        refine tt_icmp_ne (pc := 51) (tgt := 58) E dX7_write_51 rfl (fun c_14 => ?_) (fun c_14 => ?_)
        · have hf := ine c_14 hf
          refine tt_iconst (pc := 58) (v := 0) E dX7_write_58 ic_0 ?_
          obtain ⟨r_6, hr_7, hf⟩ := bd_some hf
          have hc_8 := cX7_writeLine_ok (l := l) (B := B) (D := D) (cT := cT) (n := n) (adK := adK) (adV := adV) h0 kq_4 ((Or.inl rfl)) hr_7
          refine tt_cV (pc := 59) (tt_vi E lmX7_33 mtX7_writeLine hc_8 h0 rfl rfl (Nat.le_of_ble_eq_true rfl) ⟨(Nat.le_of_ble_eq_true rfl), (Nat.le_of_ble_eq_true rfl)⟩ ⟨(Nat.le_of_ble_eq_true rfl), (Nat.le_of_ble_eq_true rfl)⟩ dX7_write_59) ?_
          obtain ⟨v_9, ev_9, hf⟩ := nm_ex hf
          refine tt_iinc (pc := 62) (i := 5) (j := 6) (lv' := [(5, .int v_9), (6, .ref (B + q_2)), (0, .ref (B + o0)), (1, .ref (B + o1)), (2, .int v2), (3, .ref (B + o3)), (4, .int v4)]) E dX7_write_62 rfl (ev_9).symm (Nat.le_of_ble_eq_true rfl) rfl ?_
          refine tt_goto (pc := 65) (tgt := 17) E dX7_write_65 rfl ?_
          refine tt_sub [2, 3, 4, 5, 6, 0] (lv' := [(0, .ref (B + o0)), (1, .ref (B + o1)), (2, .int v2), (3, .ref (B + o3)), (4, .int v4), (5, .int v_9)]) rfl ?_
          exact ih v_9 r_6 hf
        · have hf := ip c_14 hf
          refine tt_iconst (pc := 54) (v := 1) E dX7_write_54 ic_1 ?_
          refine tt_goto (pc := 55) (tgt := 59) E dX7_write_55 rfl ?_
          obtain ⟨r_10, hr_11, hf⟩ := bd_some hf
          have hc_12 := cX7_writeLine_ok (l := l) (B := B) (D := D) (cT := cT) (n := n) (adK := adK) (adV := adV) h0 kq_4 ((Or.inr rfl)) hr_11
          refine tt_cV (pc := 59) (tt_vi E lmX7_33 mtX7_writeLine hc_12 h0 rfl rfl (Nat.le_of_ble_eq_true rfl) ⟨(Nat.le_of_ble_eq_true rfl), (Nat.le_of_ble_eq_true rfl)⟩ ⟨(Nat.le_of_ble_eq_true rfl), (Nat.le_of_ble_eq_true rfl)⟩ dX7_write_59) ?_
          obtain ⟨v_13, ev_13, hf⟩ := nm_ex hf
          refine tt_iinc (pc := 62) (i := 5) (j := 6) (lv' := [(5, .int v_13), (6, .ref (B + q_2)), (0, .ref (B + o0)), (1, .ref (B + o1)), (2, .int v2), (3, .ref (B + o3)), (4, .int v4)]) E dX7_write_62 rfl (ev_13).symm (Nat.le_of_ble_eq_true rfl) rfl ?_
          refine tt_goto (pc := 65) (tgt := 17) E dX7_write_65 rfl ?_
          refine tt_sub [2, 3, 4, 5, 6, 0] (lv' := [(0, .ref (B + o0)), (1, .ref (B + o1)), (2, .int v2), (3, .ref (B + o3)), (4, .int v4), (5, .int v_13)]) rfl ?_
          exact ih v_13 r_10 hf
set_option maxHeartbeats 4000000 in
theorem cX7_write_ok {l : Launch} {B : Nat} {D : va_G} {cT : Nat → ClassId} {n : Nat} {adK adV : Nat → Nat} {o0 : Nat} {o1 : Nat} {v2 : Int32} {μ : Mem} {res : Mem} (h0 : isK n o0 6) (h1 : isK n o1 1) (hf : fX7_write o0 o1 v2 μ = some res) : MV l yX7_write cX7_write 7 (none) rmX7_write B D cT (XW B adK adV) n [.ref (B + o0), .ref (B + o1), .int v2] μ res := by
  refine tt_ofW mtX7_write.1 (Nat.le_of_ble_eq_true rfl) rfl ?_
  intro p e s m below meth c E0 hr hlk
  have E : EE p s m _ c cX7_write 7 RX7 B D cT (XW B adK adV) := E0
  unfold fX7_write at hf
  refine tt_aload_n (pc := 0) (i := 0) (j := 0) E dX7_write_0 rfl rfl ?_
  refine tt_iconst (pc := 1) (v := 0) E dX7_write_1 ic_0 ?_
  refine tt_putI (pc := 2) E lfX7_15 rfl h0 dX7_write_2 (tt_nmM hf (fun m_1 hf => ?_))
  refine tt_aload_n (pc := 5) (i := 1) (j := 1) E dX7_write_5 rfl rfl ?_
  obtain ⟨q_2, hq_3, hf⟩ := bd_some hf
  refine tt_getP (pc := 6) (t := 15) E lfX7_19 rfl rfl h1 dX7_write_6 hq_3 (fun kq_4 => ?_)
  refine tt_astore_n (pc := 9) (i := 3) (lv' := [(3, .ref (B + q_2)), (0, .ref (B + o0)), (1, .ref (B + o1)), (2, .int v2)]) E dX7_write_9 rfl (Nat.le_of_ble_eq_true rfl) rfl ?_
  refine tt_aload_n (pc := 10) (i := 3) (j := 0) E dX7_write_10 rfl rfl ?_
  refine tt_alen (pc := 11) (v := Int32.ofNat (Ln q_2)) E (k := 15) ⟨(Nat.le_of_ble_eq_true rfl), (Nat.le_of_ble_eq_true rfl)⟩ kq_4 rfl dX7_write_11 ?_
  refine tt_nmI hf (fun v_5 hf => ?_)
  refine tt_istore (pc := 12) (i := 4) (lv' := [(4, .int v_5), (3, .ref (B + q_2)), (0, .ref (B + o0)), (1, .ref (B + o1)), (2, .int v2)]) E dX7_write_12 (Nat.le_of_ble_eq_true rfl) rfl ?_
  refine tt_iconst (pc := 14) (v := 0) E dX7_write_14 ic_0 ?_
  refine tt_istore (pc := 15) (i := 5) (lv' := [(5, .int 0), (4, .int v_5), (3, .ref (B + q_2)), (0, .ref (B + o0)), (1, .ref (B + o1)), (2, .int v2)]) E dX7_write_15 (Nat.le_of_ble_eq_true rfl) rfl ?_
  refine tt_sub [3, 4, 5, 2, 1, 0] (lv' := [(0, .ref (B + o0)), (1, .ref (B + o1)), (2, .int v2), (3, .ref (B + q_2)), (4, .int v_5), (5, .int 0)]) rfl ?_
  exact tX7_write_17 E hr hlk h0 h1 kq_4 FU 0 m_1 hf
set_option maxHeartbeats 4000000 in
theorem tX8_readNewName_13 {p : Program} {l : Launch} {e : Env} {s : State} {m : MethodId} {args : Array Value} {below : List Frame} {meth : Method} {c : Code} {B : Nat} {D : va_G} {cT : Nat → ClassId} {n : Nat} {adK adV : Nat → Nat} {res : (Int64 ⊕ Nat) × Mem} (E : EE p s m args c cX8_readNewName 4 RX8 B D cT (XW B adK adV)) (hr : meth.sig.returnType = some .long) (hlk : meth.locks = false) (hl0 : l.stackTraces = false) (hno : ∀ x ∈ c.exceptionTable.toList, False) {o0 : Nat} {o1 : Nat} (h0 : isK n o0 1) (h1 : isK n o1 7) {μ : Mem} (hf : fX8_readNewName_13 o0 o1 μ = some res) : TT p l e rmX8_readNewName s m args below meth c (XQJ B D cT n below args s res) 4 B D cT n 0 0 μ 13 [(0, .ref (B + o0)), (1, .ref (B + o1))] [] := by
  unfold fX8_readNewName_13 at hf
  refine tt_aload_n (pc := 13) (i := 0) (j := 0) E dX8_readNewName_13 rfl rfl ?_
  refine tt_aload_n (pc := 14) (i := 1) (j := 1) E dX8_readNewName_14 rfl rfl ?_
  refine tt_getJ (pc := 15) E lfX8_97 rfl h1 dX8_readNewName_15 ?_
  obtain ⟨r_1, hr_2, hf⟩ := bd_some hf
  have hc_3 := cX2_numberOf_ok (l := l) (B := B) (D := D) (cT := cT) (n := n) (adK := adK) (adV := adV) h0 hr_2
  refine tt_cI (pc := 18) (tt_vi E lmX8_100 mtX2_numberOf hc_3 h0 rfl rfl (Nat.le_of_ble_eq_true rfl) ⟨(Nat.le_of_ble_eq_true rfl), (Nat.le_of_ble_eq_true rfl)⟩ ⟨(Nat.le_of_ble_eq_true rfl), (Nat.le_of_ble_eq_true rfl)⟩ dX8_readNewName_18) ?_
  refine tt_iconst (pc := 21) (v := (-1)) E dX8_readNewName_21 ic_m1 ?_
  refine tt_icmp_eq (pc := 22) (tgt := 30) E dX8_readNewName_22 rfl (fun c_19 => ?_) (fun c_19 => ?_)
  · have hf := ip c_19 hf
    refine tt_aload_n (pc := 30) (i := 1) (j := 1) E dX8_readNewName_30 rfl rfl ?_
    refine tt_getJ (pc := 31) E lfX8_97 rfl h1 dX8_readNewName_31 ?_
    refine tt_nmJ hf (fun v_4 hf => ?_)
    refine tt_lstore_n (pc := 34) (i := 2) (lv' := [(2, .long v_4), (0, .ref (B + o0)), (1, .ref (B + o1))]) E dX8_readNewName_34 rfl (Nat.le_of_ble_eq_true rfl) rfl ?_
    refine tt_aload_n (pc := 35) (i := 1) (j := 2) E dX8_readNewName_35 rfl rfl ?_
    obtain ⟨r_5, hr_6, hf⟩ := bd_some hf
    have hc_7 := cX9_step_ok (l := l) (B := B) (D := D) (cT := cT) (n := n) (adK := adK) (adV := adV) h1 hr_6
    refine tt_cV (pc := 36) (tt_vi E lmX8_30 mtX9_step hc_7 h1 rfl rfl (Nat.le_of_ble_eq_true rfl) ⟨(Nat.le_of_ble_eq_true rfl), (Nat.le_of_ble_eq_true rfl)⟩ ⟨(Nat.le_of_ble_eq_true rfl), (Nat.le_of_ble_eq_true rfl)⟩ dX8_readNewName_36) ?_
    refine tt_lload_n (pc := 39) (i := 2) (j := 0) E dX8_readNewName_39 rfl rfl ?_
    exact tx_lret (pc := 40) E hr hlk dX8_readNewName_40 hf
  · have hf := ine c_19 hf
    refine tt_aload_n (pc := 25) (i := 1) (j := 1) E dX8_readNewName_25 rfl rfl ?_
    refine tt_iconst (pc := 26) (v := 3) E dX8_readNewName_26 ic_3 ?_
    obtain ⟨r_8, hr_9, hf⟩ := bd_some hf
    have hc_10 := cX9_fail_ok (l := l) (B := B) (D := D) (cT := cT) (n := n) (adK := adK) (adV := adV) hl0 h1 hr_9
    refine tx_cV (pc := 27) (tx_vi E lmX8_26 mtX9_fail hc_10 h1 rfl rfl (Nat.le_of_ble_eq_true rfl) ⟨(Nat.le_of_ble_eq_true rfl), (Nat.le_of_ble_eq_true rfl)⟩ ⟨(Nat.le_of_ble_eq_true rfl), (Nat.le_of_ble_eq_true rfl)⟩ dX8_readNewName_27) (fun k_11 m_12 hx_13 => ?_) (fun m_12 hx_13 => ?_)
    · subst hx_13; exact tx_out hno hlk (Nat.le_of_ble_eq_true rfl) (Nat.le_of_ble_eq_true rfl) hf
    subst hx_13
    have hf := xb_l hf
    refine tt_aload_n (pc := 30) (i := 1) (j := 1) E dX8_readNewName_30 rfl rfl ?_
    refine tt_getJ (pc := 31) E lfX8_97 rfl h1 dX8_readNewName_31 ?_
    refine tt_nmJ hf (fun v_15 hf => ?_)
    refine tt_lstore_n (pc := 34) (i := 2) (lv' := [(2, .long v_15), (0, .ref (B + o0)), (1, .ref (B + o1))]) E dX8_readNewName_34 rfl (Nat.le_of_ble_eq_true rfl) rfl ?_
    refine tt_aload_n (pc := 35) (i := 1) (j := 2) E dX8_readNewName_35 rfl rfl ?_
    obtain ⟨r_16, hr_17, hf⟩ := bd_some hf
    have hc_18 := cX9_step_ok (l := l) (B := B) (D := D) (cT := cT) (n := n) (adK := adK) (adV := adV) h1 hr_17
    refine tt_cV (pc := 36) (tt_vi E lmX8_30 mtX9_step hc_18 h1 rfl rfl (Nat.le_of_ble_eq_true rfl) ⟨(Nat.le_of_ble_eq_true rfl), (Nat.le_of_ble_eq_true rfl)⟩ ⟨(Nat.le_of_ble_eq_true rfl), (Nat.le_of_ble_eq_true rfl)⟩ dX8_readNewName_36) ?_
    refine tt_lload_n (pc := 39) (i := 2) (j := 0) E dX8_readNewName_39 rfl rfl ?_
    exact tx_lret (pc := 40) E hr hlk dX8_readNewName_40 hf
set_option maxHeartbeats 4000000 in
theorem cX8_readNewName_ok {l : Launch} {B : Nat} {D : va_G} {cT : Nat → ClassId} {n : Nat} {adK adV : Nat → Nat} {o0 : Nat} {o1 : Nat} (hl0 : l.stackTraces = false) {μ : Mem} {res : (Int64 ⊕ Nat) × Mem} (h0 : isK n o0 1) (h1 : isK n o1 7) (hf : fX8_readNewName o0 o1 μ = some res) : XJ l yX8_readNewName cX8_readNewName 4 (some .long) rmX8_readNewName B D cT (XW B adK adV) n [.ref (B + o0), .ref (B + o1)] μ res := by
  refine tx_ofW mtX8_readNewName.1 (Nat.le_of_ble_eq_true rfl) rfl ?_
  intro p e s m below meth c E0 hr hlk hno
  have E : EE p s m _ c cX8_readNewName 4 RX8 B D cT (XW B adK adV) := E0
  unfold fX8_readNewName at hf
  refine tt_aload_n (pc := 0) (i := 1) (j := 1) E dX8_readNewName_0 rfl rfl ?_
  refine tt_getI (pc := 1) E lfX8_14 rfl h1 dX8_readNewName_1 ?_
  refine tt_iconst (pc := 4) (v := 1) E dX8_readNewName_4 ic_1 ?_
  refine tt_icmp_eq (pc := 5) (tgt := 13) E dX8_readNewName_5 rfl (fun c_8 => ?_) (fun c_8 => ?_)
  · have hf := ip c_8 hf
    exact tX8_readNewName_13 E hr hlk hl0 hno h0 h1 hf
  · have hf := ine c_8 hf
    refine tt_aload_n (pc := 8) (i := 1) (j := 1) E dX8_readNewName_8 rfl rfl ?_
    refine tt_iconst (pc := 9) (v := 1) E dX8_readNewName_9 ic_1 ?_
    obtain ⟨r_1, hr_2, hf⟩ := bd_some hf
    have hc_3 := cX9_fail_ok (l := l) (B := B) (D := D) (cT := cT) (n := n) (adK := adK) (adV := adV) hl0 h1 hr_2
    refine tx_cV (pc := 10) (tx_vi E lmX8_26 mtX9_fail hc_3 h1 rfl rfl (Nat.le_of_ble_eq_true rfl) ⟨(Nat.le_of_ble_eq_true rfl), (Nat.le_of_ble_eq_true rfl)⟩ ⟨(Nat.le_of_ble_eq_true rfl), (Nat.le_of_ble_eq_true rfl)⟩ dX8_readNewName_10) (fun k_4 m_5 hx_6 => ?_) (fun m_5 hx_6 => ?_)
    · subst hx_6; exact tx_out hno hlk (Nat.le_of_ble_eq_true rfl) (Nat.le_of_ble_eq_true rfl) hf
    subst hx_6
    have hf := xb_l hf
    exact tX8_readNewName_13 E hr hlk hl0 hno h0 h1 hf
set_option maxHeartbeats 4000000 in
theorem cX9_takeWord_ok {l : Launch} {B : Nat} {D : va_G} {cT : Nat → ClassId} {n : Nat} {adK adV : Nat → Nat} {o0 : Nat} {k1 : Nat} (hl0 : l.stackTraces = false) {μ : Mem} {res : (Unit ⊕ Nat) × Mem} (h0 : isK n o0 7) (hf : fX9_takeWord o0 k1 μ = some res) : XV l yX9_takeWord cX9_takeWord 2 (none) rmX9_takeWord B D cT (XW B adK adV) n [.ref (B + o0), .ref (adK k1)] μ res := by
  refine tx_ofW mtX9_takeWord.1 (Nat.le_of_ble_eq_true rfl) rfl ?_
  intro p e s m below meth c E0 hr hlk hno
  have E : EE p s m _ c cX9_takeWord 2 RX9 B D cT (XW B adK adV) := E0
  unfold fX9_takeWord at hf
  refine tt_aload_n (pc := 0) (i := 0) (j := 0) E dX9_takeWord_0 rfl rfl ?_
  refine tt_aload_n (pc := 1) (i := 1) (j := 1) (x := adK k1) E dX9_takeWord_1 rfl rfl ?_
  obtain ⟨r_1, hr_2, hf⟩ := bd_some hf
  have hc_3 := cX9_isWord_ok (l := l) (B := B) (D := D) (cT := cT) (n := n) (adK := adK) (adV := adV) h0 hr_2
  refine tt_cZ (pc := 2) (tt_vi E lmX9_80 mtX9_isWord hc_3 h0 rfl rfl (Nat.le_of_ble_eq_true rfl) ⟨(Nat.le_of_ble_eq_true rfl), (Nat.le_of_ble_eq_true rfl)⟩ ⟨(Nat.le_of_ble_eq_true rfl), (Nat.le_of_ble_eq_true rfl)⟩ dX9_takeWord_2) (fun z_4 => ?_)
  refine tt_if_ne (pc := 5) (tgt := 13) E dX9_takeWord_5 rfl (fun c_18 => ?_) (fun c_18 => ?_)
  · have hf := ine c_18 hf
    refine tt_aload_n (pc := 13) (i := 0) (j := 0) E dX9_takeWord_13 rfl rfl ?_
    obtain ⟨r_5, hr_6, hf⟩ := bd_some hf
    have hc_7 := cX9_step_ok (l := l) (B := B) (D := D) (cT := cT) (n := n) (adK := adK) (adV := adV) h0 hr_6
    refine tt_cV (pc := 14) (tt_vi E lmX9_47 mtX9_step hc_7 h0 rfl rfl (Nat.le_of_ble_eq_true rfl) ⟨(Nat.le_of_ble_eq_true rfl), (Nat.le_of_ble_eq_true rfl)⟩ ⟨(Nat.le_of_ble_eq_true rfl), (Nat.le_of_ble_eq_true rfl)⟩ dX9_takeWord_14) ?_
    exact tx_vret (pc := 17) E hr hlk dX9_takeWord_17 hf
  · have hf := ip c_18 hf
    refine tt_aload_n (pc := 8) (i := 0) (j := 0) E dX9_takeWord_8 rfl rfl ?_
    refine tt_iconst (pc := 9) (v := 1) E dX9_takeWord_9 ic_1 ?_
    obtain ⟨r_8, hr_9, hf⟩ := bd_some hf
    have hc_10 := cX9_fail_ok (l := l) (B := B) (D := D) (cT := cT) (n := n) (adK := adK) (adV := adV) hl0 h0 hr_9
    refine tx_cV (pc := 10) (tx_vi E lmX9_84 mtX9_fail hc_10 h0 rfl rfl (Nat.le_of_ble_eq_true rfl) ⟨(Nat.le_of_ble_eq_true rfl), (Nat.le_of_ble_eq_true rfl)⟩ ⟨(Nat.le_of_ble_eq_true rfl), (Nat.le_of_ble_eq_true rfl)⟩ dX9_takeWord_10) (fun k_11 m_12 hx_13 => ?_) (fun m_12 hx_13 => ?_)
    · subst hx_13; exact tx_out hno hlk (Nat.le_of_ble_eq_true rfl) (Nat.le_of_ble_eq_true rfl) hf
    subst hx_13
    have hf := xb_l hf
    refine tt_aload_n (pc := 13) (i := 0) (j := 0) E dX9_takeWord_13 rfl rfl ?_
    obtain ⟨r_15, hr_16, hf⟩ := bd_some hf
    have hc_17 := cX9_step_ok (l := l) (B := B) (D := D) (cT := cT) (n := n) (adK := adK) (adV := adV) h0 hr_16
    refine tt_cV (pc := 14) (tt_vi E lmX9_47 mtX9_step hc_17 h0 rfl rfl (Nat.le_of_ble_eq_true rfl) ⟨(Nat.le_of_ble_eq_true rfl), (Nat.le_of_ble_eq_true rfl)⟩ ⟨(Nat.le_of_ble_eq_true rfl), (Nat.le_of_ble_eq_true rfl)⟩ dX9_takeWord_14) ?_
    exact tx_vret (pc := 17) E hr hlk dX9_takeWord_17 hf
set_option maxHeartbeats 4000000 in
theorem cX8_readSide_ok {l : Launch} {B : Nat} {D : va_G} {cT : Nat → ClassId} {n : Nat} {adK adV : Nat → Nat} {o0 : Nat} (hl0 : l.stackTraces = false) {μ : Mem} {res : (Int32 ⊕ Nat) × Mem} (h0 : isK n o0 7) (hf : fX8_readSide o0 μ = some res) : XI l yX8_readSide cX8_readSide 1 (some .int) rmX8_readSide B D cT (XW B adK adV) n [.ref (B + o0)] μ res := by
  refine tx_ofW mtX8_readSide.1 (Nat.le_of_ble_eq_true rfl) rfl ?_
  intro p e s m below meth c E0 hr hlk hno
  have E : EE p s m _ c cX8_readSide 1 RX8 B D cT (XW B adK adV) := E0
  unfold fX8_readSide at hf
  refine tt_aload_n (pc := 0) (i := 0) (j := 0) E dX8_readSide_0 rfl rfl ?_
  refine tt_ldcS (pc := 1) (i := 5) E rfl dX8_readSide_1 ?_
  obtain ⟨r_1, hr_2, hf⟩ := bd_some hf
  have hc_3 := cX9_isWord_ok (l := l) (B := B) (D := D) (cT := cT) (n := n) (adK := adK) (adV := adV) h0 hr_2
  refine tt_cZ (pc := 3) (tt_vi E lmX8_22 mtX9_isWord hc_3 h0 rfl rfl (Nat.le_of_ble_eq_true rfl) ⟨(Nat.le_of_ble_eq_true rfl), (Nat.le_of_ble_eq_true rfl)⟩ ⟨(Nat.le_of_ble_eq_true rfl), (Nat.le_of_ble_eq_true rfl)⟩ dX8_readSide_3) (fun z_4 => ?_)
  refine tt_if_eq (pc := 6) (tgt := 15) E dX8_readSide_6 rfl (fun c_15 => ?_) (fun c_15 => ?_)
  · have hf := ip c_15 hf
    refine tt_aload_n (pc := 15) (i := 0) (j := 0) E dX8_readSide_15 rfl rfl ?_
    refine tt_ldcS (pc := 16) (i := 6) E rfl dX8_readSide_16 ?_
    obtain ⟨r_5, hr_6, hf⟩ := bd_some hf
    have hc_7 := cX9_takeWord_ok (l := l) (B := B) (D := D) (cT := cT) (n := n) (adK := adK) (adV := adV) hl0 h0 hr_6
    refine tx_cV (pc := 18) (tx_vi E lmX8_77 mtX9_takeWord hc_7 h0 rfl rfl (Nat.le_of_ble_eq_true rfl) ⟨(Nat.le_of_ble_eq_true rfl), (Nat.le_of_ble_eq_true rfl)⟩ ⟨(Nat.le_of_ble_eq_true rfl), (Nat.le_of_ble_eq_true rfl)⟩ dX8_readSide_18) (fun k_8 m_9 hx_10 => ?_) (fun m_9 hx_10 => ?_)
    · subst hx_10; exact tx_out hno hlk (Nat.le_of_ble_eq_true rfl) (Nat.le_of_ble_eq_true rfl) hf
    subst hx_10
    have hf := xb_l hf
    refine tt_iconst (pc := 21) (v := 1) E dX8_readSide_21 ic_1 ?_
    exact tx_iret (pc := 22) E hr hlk dX8_readSide_22 hf
  · have hf := ine c_15 hf
    refine tt_aload_n (pc := 9) (i := 0) (j := 0) E dX8_readSide_9 rfl rfl ?_
    obtain ⟨r_12, hr_13, hf⟩ := bd_some hf
    have hc_14 := cX9_step_ok (l := l) (B := B) (D := D) (cT := cT) (n := n) (adK := adK) (adV := adV) h0 hr_13
    refine tt_cV (pc := 10) (tt_vi E lmX8_30 mtX9_step hc_14 h0 rfl rfl (Nat.le_of_ble_eq_true rfl) ⟨(Nat.le_of_ble_eq_true rfl), (Nat.le_of_ble_eq_true rfl)⟩ ⟨(Nat.le_of_ble_eq_true rfl), (Nat.le_of_ble_eq_true rfl)⟩ dX8_readSide_10) ?_
    refine tt_iconst (pc := 13) (v := 0) E dX8_readSide_13 ic_0 ?_
    exact tx_iret (pc := 14) E hr hlk dX8_readSide_14 hf
set_option maxHeartbeats 4000000 in
theorem tX8_readPlan_47 {p : Program} {l : Launch} {e : Env} {s : State} {m : MethodId} {args : Array Value} {below : List Frame} {meth : Method} {c : Code} {B : Nat} {D : va_G} {cT : Nat → ClassId} {n : Nat} {adK adV : Nat → Nat} {res : (Unit ⊕ Nat) × Mem} (E : EE p s m args c cX8_readPlan 4 RX8 B D cT (XW B adK adV)) (hr : meth.sig.returnType = none) (hlk : meth.locks = false) (hl0 : l.stackTraces = false) (hno : ∀ x ∈ c.exceptionTable.toList, False) {kb2 : Int32 → Mem → Option ((Unit ⊕ Nat) × Mem)} {o0 : Nat} {o1 : Nat} {v2 : Int32} {v3 : Int32} (h0 : isK n o0 2) (h1 : isK n o1 7) {μ : Mem} (hk2 : ∀ (v2b : Int32) (μb : Mem), kb2 v2b μb = some res → TT p l e rmX8_readPlan s m args below meth c (XQV B D cT n below args s res) 4 B D cT n 0 0 μb 2 [(0, .ref (B + o0)), (1, .ref (B + o1)), (2, .int v2b)] []) (hf : fX8_readPlan_47 kb2 o0 o1 v2 v3 μ = some res) : TT p l e rmX8_readPlan s m args below meth c (XQV B D cT n below args s res) 4 B D cT n 0 0 μ 47 [(0, .ref (B + o0)), (1, .ref (B + o1)), (2, .int v2), (3, .int v3)] [] := by
  unfold fX8_readPlan_47 at hf
  refine tt_aload_n (pc := 47) (i := 1) (j := 1) E dX8_readPlan_47 rfl rfl ?_
  obtain ⟨r_1, hr_2, hf⟩ := bd_some hf
  have hc_3 := cX9_step_ok (l := l) (B := B) (D := D) (cT := cT) (n := n) (adK := adK) (adV := adV) h1 hr_2
  refine tt_cV (pc := 48) (tt_vi E lmX8_30 mtX9_step hc_3 h1 rfl rfl (Nat.le_of_ble_eq_true rfl) ⟨(Nat.le_of_ble_eq_true rfl), (Nat.le_of_ble_eq_true rfl)⟩ ⟨(Nat.le_of_ble_eq_true rfl), (Nat.le_of_ble_eq_true rfl)⟩ dX8_readPlan_48) ?_
  refine tt_aload_n (pc := 51) (i := 0) (j := 0) E dX8_readPlan_51 rfl rfl ?_
  refine tt_iload_n (pc := 52) (i := 3) (j := 3) E dX8_readPlan_52 rfl rfl ?_
  refine tt_aload_n (pc := 53) (i := 1) (j := 1) E dX8_readPlan_53 rfl rfl ?_
  refine tt_iconst (pc := 54) (v := 1) E dX8_readPlan_54 ic_1 ?_
  refine tt_iload_n (pc := 55) (i := 3) (j := 3) E dX8_readPlan_55 rfl rfl ?_
  obtain ⟨r_4, hr_5, hf⟩ := bd_some hf
  have hc_6 := cX0_mostOf_ok (l := l) (B := B) (D := D) (cT := cT) (n := n) (adK := adK) (adV := adV) hr_5
  refine tt_cI (pc := 56) (tt_si E lmX8_117 mtX0_mostOf hc_6 rfl rfl (Nat.le_of_ble_eq_true rfl) ⟨(Nat.le_of_ble_eq_true rfl), (Nat.le_of_ble_eq_true rfl)⟩ ⟨(Nat.le_of_ble_eq_true rfl), (Nat.le_of_ble_eq_true rfl)⟩ dX8_readPlan_56) ?_
  obtain ⟨r_7, hr_8, hf⟩ := bd_some hf
  have hc_9 := cX9_takeNumber_ok (l := l) (B := B) (D := D) (cT := cT) (n := n) (adK := adK) (adV := adV) hl0 h1 hr_8
  refine tx_cI (pc := 59) (tx_vi E lmX8_33 mtX9_takeNumber hc_9 h1 rfl rfl (Nat.le_of_ble_eq_true rfl) ⟨(Nat.le_of_ble_eq_true rfl), (Nat.le_of_ble_eq_true rfl)⟩ ⟨(Nat.le_of_ble_eq_true rfl), (Nat.le_of_ble_eq_true rfl)⟩ dX8_readPlan_59) (fun k_10 m_11 hx_12 => ?_) (fun v_13 m_11 hx_12 => ?_)
  · subst hx_12; exact tx_out hno hlk (Nat.le_of_ble_eq_true rfl) (Nat.le_of_ble_eq_true rfl) hf
  subst hx_12
  have hf := xb_l hf
  obtain ⟨r_14, hr_15, hf⟩ := bd_some hf
  have hc_16 := cX3_addAct_ok (l := l) (B := B) (D := D) (cT := cT) (n := n) (adK := adK) (adV := adV) h0 hr_15
  refine tt_cV (pc := 62) (tt_vi E lmX8_121 mtX3_addAct hc_16 h0 rfl rfl (Nat.le_of_ble_eq_true rfl) ⟨(Nat.le_of_ble_eq_true rfl), (Nat.le_of_ble_eq_true rfl)⟩ ⟨(Nat.le_of_ble_eq_true rfl), (Nat.le_of_ble_eq_true rfl)⟩ dX8_readPlan_62) ?_
  obtain ⟨v_17, ev_17, hf⟩ := nm_ex hf
  refine tt_iinc (pc := 65) (i := 2) (j := 2) (lv' := [(2, .int v_17), (0, .ref (B + o0)), (1, .ref (B + o1)), (3, .int v3)]) E dX8_readPlan_65 rfl (ev_17).symm (Nat.le_of_ble_eq_true rfl) rfl ?_
  refine tt_goto (pc := 68) (tgt := 2) E dX8_readPlan_68 rfl ?_
  refine tt_sub [1, 2, 0] (lv' := [(0, .ref (B + o0)), (1, .ref (B + o1)), (2, .int v_17)]) rfl ?_
  exact hk2 v_17 r_14 hf
set_option maxHeartbeats 4000000 in
theorem tX8_readPlan_36 {p : Program} {l : Launch} {e : Env} {s : State} {m : MethodId} {args : Array Value} {below : List Frame} {meth : Method} {c : Code} {B : Nat} {D : va_G} {cT : Nat → ClassId} {n : Nat} {adK adV : Nat → Nat} {res : (Unit ⊕ Nat) × Mem} (E : EE p s m args c cX8_readPlan 4 RX8 B D cT (XW B adK adV)) (hr : meth.sig.returnType = none) (hlk : meth.locks = false) (hl0 : l.stackTraces = false) (hno : ∀ x ∈ c.exceptionTable.toList, False) {kb2 : Int32 → Mem → Option ((Unit ⊕ Nat) × Mem)} {o0 : Nat} {o1 : Nat} {v2 : Int32} {v3 : Int32} (h0 : isK n o0 2) (h1 : isK n o1 7) {μ : Mem} (hk2 : ∀ (v2b : Int32) (μb : Mem), kb2 v2b μb = some res → TT p l e rmX8_readPlan s m args below meth c (XQV B D cT n below args s res) 4 B D cT n 0 0 μb 2 [(0, .ref (B + o0)), (1, .ref (B + o1)), (2, .int v2b)] []) (hf : fX8_readPlan_36 kb2 o0 o1 v2 v3 μ = some res) : TT p l e rmX8_readPlan s m args below meth c (XQV B D cT n below args s res) 4 B D cT n 0 0 μ 36 [(0, .ref (B + o0)), (1, .ref (B + o1)), (2, .int v2), (3, .int v3)] [] := by
  unfold fX8_readPlan_36 at hf
  refine tt_iload_n (pc := 36) (i := 2) (j := 2) E dX8_readPlan_36 rfl rfl ?_
  refine tt_bipush (pc := 37) (v := 6) E dX8_readPlan_37 bc_6 ?_
  refine tt_icmp_ne (pc := 39) (tgt := 47) E dX8_readPlan_39 rfl (fun c_8 => ?_) (fun c_8 => ?_)
  · have hf := ine c_8 hf
    exact tX8_readPlan_47 E hr hlk hl0 hno h0 h1 hk2 hf
  · have hf := ip c_8 hf
    refine tt_aload_n (pc := 42) (i := 1) (j := 1) E dX8_readPlan_42 rfl rfl ?_
    refine tt_iconst (pc := 43) (v := 5) E dX8_readPlan_43 ic_5 ?_
    obtain ⟨r_1, hr_2, hf⟩ := bd_some hf
    have hc_3 := cX9_fail_ok (l := l) (B := B) (D := D) (cT := cT) (n := n) (adK := adK) (adV := adV) hl0 h1 hr_2
    refine tx_cV (pc := 44) (tx_vi E lmX8_26 mtX9_fail hc_3 h1 rfl rfl (Nat.le_of_ble_eq_true rfl) ⟨(Nat.le_of_ble_eq_true rfl), (Nat.le_of_ble_eq_true rfl)⟩ ⟨(Nat.le_of_ble_eq_true rfl), (Nat.le_of_ble_eq_true rfl)⟩ dX8_readPlan_44) (fun k_4 m_5 hx_6 => ?_) (fun m_5 hx_6 => ?_)
    · subst hx_6; exact tx_out hno hlk (Nat.le_of_ble_eq_true rfl) (Nat.le_of_ble_eq_true rfl) hf
    subst hx_6
    have hf := xb_l hf
    exact tX8_readPlan_47 E hr hlk hl0 hno h0 h1 hk2 hf
set_option maxHeartbeats 4000000 in
theorem tX8_readPlan_21 {p : Program} {l : Launch} {e : Env} {s : State} {m : MethodId} {args : Array Value} {below : List Frame} {meth : Method} {c : Code} {B : Nat} {D : va_G} {cT : Nat → ClassId} {n : Nat} {adK adV : Nat → Nat} {res : (Unit ⊕ Nat) × Mem} (E : EE p s m args c cX8_readPlan 4 RX8 B D cT (XW B adK adV)) (hr : meth.sig.returnType = none) (hlk : meth.locks = false) (hl0 : l.stackTraces = false) (hno : ∀ x ∈ c.exceptionTable.toList, False) {kb2 : Int32 → Mem → Option ((Unit ⊕ Nat) × Mem)} {o0 : Nat} {o1 : Nat} {v2 : Int32} (h0 : isK n o0 2) (h1 : isK n o1 7) {μ : Mem} (hk2 : ∀ (v2b : Int32) (μb : Mem), kb2 v2b μb = some res → TT p l e rmX8_readPlan s m args below meth c (XQV B D cT n below args s res) 4 B D cT n 0 0 μb 2 [(0, .ref (B + o0)), (1, .ref (B + o1)), (2, .int v2b)] []) (hf : fX8_readPlan_21 kb2 o0 o1 v2 μ = some res) : TT p l e rmX8_readPlan s m args below meth c (XQV B D cT n below args s res) 4 B D cT n 0 0 μ 21 [(0, .ref (B + o0)), (1, .ref (B + o1)), (2, .int v2)] [] := by
  unfold fX8_readPlan_21 at hf
  refine tt_aload_n (pc := 21) (i := 1) (j := 1) E dX8_readPlan_21 rfl rfl ?_
  obtain ⟨r_1, hr_2, hf⟩ := bd_some hf
  have hc_3 := cX0_kindHere_ok (l := l) (B := B) (D := D) (cT := cT) (n := n) (adK := adK) (adV := adV) h1 hr_2
  refine tt_cI (pc := 22) (tt_si E lmX8_112 mtX0_kindHere hc_3 rfl rfl (Nat.le_of_ble_eq_true rfl) ⟨(Nat.le_of_ble_eq_true rfl), (Nat.le_of_ble_eq_true rfl)⟩ ⟨(Nat.le_of_ble_eq_true rfl), (Nat.le_of_ble_eq_true rfl)⟩ dX8_readPlan_22) ?_
  refine tt_istore_n (pc := 25) (i := 3) (lv' := [(3, .int r_1), (0, .ref (B + o0)), (1, .ref (B + o1)), (2, .int v2)]) E dX8_readPlan_25 rfl (Nat.le_of_ble_eq_true rfl) rfl ?_
  refine tt_iload_n (pc := 26) (i := 3) (j := 0) E dX8_readPlan_26 rfl rfl ?_
  refine tt_iconst (pc := 27) (v := (-1)) E dX8_readPlan_27 ic_m1 ?_
  refine tt_icmp_ne (pc := 28) (tgt := 36) E dX8_readPlan_28 rfl (fun c_11 => ?_) (fun c_11 => ?_)
  · have hf := ine c_11 hf
    refine tt_sub [1, 2, 3, 0] (lv' := [(0, .ref (B + o0)), (1, .ref (B + o1)), (2, .int v2), (3, .int r_1)]) rfl ?_
    exact tX8_readPlan_36 E hr hlk hl0 hno h0 h1 hk2 hf
  · have hf := ip c_11 hf
    refine tt_aload_n (pc := 31) (i := 1) (j := 2) E dX8_readPlan_31 rfl rfl ?_
    refine tt_iconst (pc := 32) (v := 1) E dX8_readPlan_32 ic_1 ?_
    obtain ⟨r_4, hr_5, hf⟩ := bd_some hf
    have hc_6 := cX9_fail_ok (l := l) (B := B) (D := D) (cT := cT) (n := n) (adK := adK) (adV := adV) hl0 h1 hr_5
    refine tx_cV (pc := 33) (tx_vi E lmX8_26 mtX9_fail hc_6 h1 rfl rfl (Nat.le_of_ble_eq_true rfl) ⟨(Nat.le_of_ble_eq_true rfl), (Nat.le_of_ble_eq_true rfl)⟩ ⟨(Nat.le_of_ble_eq_true rfl), (Nat.le_of_ble_eq_true rfl)⟩ dX8_readPlan_33) (fun k_7 m_8 hx_9 => ?_) (fun m_8 hx_9 => ?_)
    · subst hx_9; exact tx_out hno hlk (Nat.le_of_ble_eq_true rfl) (Nat.le_of_ble_eq_true rfl) hf
    subst hx_9
    have hf := xb_l hf
    refine tt_sub [1, 2, 3, 0] (lv' := [(0, .ref (B + o0)), (1, .ref (B + o1)), (2, .int v2), (3, .int r_1)]) rfl ?_
    exact tX8_readPlan_36 E hr hlk hl0 hno h0 h1 hk2 hf
set_option maxHeartbeats 4000000 in
theorem tX8_readPlan_2 {p : Program} {l : Launch} {e : Env} {s : State} {m : MethodId} {args : Array Value} {below : List Frame} {meth : Method} {c : Code} {B : Nat} {D : va_G} {cT : Nat → ClassId} {n : Nat} {adK adV : Nat → Nat} {res : (Unit ⊕ Nat) × Mem} (E : EE p s m args c cX8_readPlan 4 RX8 B D cT (XW B adK adV)) (hr : meth.sig.returnType = none) (hlk : meth.locks = false) (hl0 : l.stackTraces = false) (hno : ∀ x ∈ c.exceptionTable.toList, False) {o0 : Nat} {o1 : Nat} (h0 : isK n o0 2) (h1 : isK n o1 7) : ∀ (fu : Nat) (v2 : Int32) (μ : Mem), zl2 (gX8_readPlan_2 o0 o1) fu v2 μ = some res → TT p l e rmX8_readPlan s m args below meth c (XQV B D cT n below args s res) 4 B D cT n 0 0 μ 2 [(0, .ref (B + o0)), (1, .ref (B + o1)), (2, .int v2)] [] := by
  intro fu
  induction fu with
  | zero => intro v2 μ hf; exact absurd hf (fun h => by cases h)
  | succ fu ih =>
    intro v2 μ hf
    have hf : gX8_readPlan_2 o0 o1 (zl2 (gX8_readPlan_2 o0 o1) fu) v2 μ = some res := hf
    unfold gX8_readPlan_2 at hf
    refine tt_iload_n (pc := 2) (i := 2) (j := 2) E dX8_readPlan_2 rfl rfl ?_
    refine tt_bipush (pc := 3) (v := 6) E dX8_readPlan_3 bc_6 ?_
    refine tt_icmp_gt (pc := 5) (tgt := 71) E dX8_readPlan_5 rfl (fun c_7 => ?_) (fun c_7 => ?_)
    · have hf := ip c_7 hf
      exact tx_vret (pc := 71) E hr hlk dX8_readPlan_71 hf
    · have hf := ine c_7 hf
      refine tt_iload_n (pc := 8) (i := 2) (j := 2) E dX8_readPlan_8 rfl rfl ?_
      refine tt_if_eq (pc := 9) (tgt := 21) E dX8_readPlan_9 rfl (fun c_6 => ?_) (fun c_6 => ?_)
      · have hf := ip c_6 hf
        exact tX8_readPlan_21 E hr hlk hl0 hno h0 h1 ih hf
      · have hf := ine c_6 hf
        refine tt_aload_n (pc := 12) (i := 1) (j := 1) E dX8_readPlan_12 rfl rfl ?_
        refine tt_bipush (pc := 13) (v := 59) E dX8_readPlan_13 bc_59 ?_
        obtain ⟨r_1, hr_2, hf⟩ := bd_some hf
        have hc_3 := cX9_isSign_ok (l := l) (B := B) (D := D) (cT := cT) (n := n) (adK := adK) (adV := adV) h1 hr_2
        refine tt_cZ (pc := 15) (tt_vi E lmX8_108 mtX9_isSign hc_3 h1 rfl rfl (Nat.le_of_ble_eq_true rfl) ⟨(Nat.le_of_ble_eq_true rfl), (Nat.le_of_ble_eq_true rfl)⟩ ⟨(Nat.le_of_ble_eq_true rfl), (Nat.le_of_ble_eq_true rfl)⟩ dX8_readPlan_15) (fun z_4 => ?_)
        refine tt_if_ne (pc := 18) (tgt := 71) E dX8_readPlan_18 rfl (fun c_5 => ?_) (fun c_5 => ?_)
        · have hf := ine c_5 hf
          exact tx_vret (pc := 71) E hr hlk dX8_readPlan_71 hf
        · have hf := ip c_5 hf
          exact tX8_readPlan_21 E hr hlk hl0 hno h0 h1 ih hf
set_option maxHeartbeats 4000000 in
theorem cX8_readPlan_ok {l : Launch} {B : Nat} {D : va_G} {cT : Nat → ClassId} {n : Nat} {adK adV : Nat → Nat} {o0 : Nat} {o1 : Nat} (hl0 : l.stackTraces = false) {μ : Mem} {res : (Unit ⊕ Nat) × Mem} (h0 : isK n o0 2) (h1 : isK n o1 7) (hf : fX8_readPlan o0 o1 μ = some res) : XV l yX8_readPlan cX8_readPlan 4 (none) rmX8_readPlan B D cT (XW B adK adV) n [.ref (B + o0), .ref (B + o1)] μ res := by
  refine tx_ofW mtX8_readPlan.1 (Nat.le_of_ble_eq_true rfl) rfl ?_
  intro p e s m below meth c E0 hr hlk hno
  have E : EE p s m _ c cX8_readPlan 4 RX8 B D cT (XW B adK adV) := E0
  unfold fX8_readPlan at hf
  refine tt_iconst (pc := 0) (v := 0) E dX8_readPlan_0 ic_0 ?_
  refine tt_istore_n (pc := 1) (i := 2) (lv' := [(2, .int 0), (0, .ref (B + o0)), (1, .ref (B + o1))]) E dX8_readPlan_1 rfl (Nat.le_of_ble_eq_true rfl) rfl ?_
  refine tt_sub [1, 2, 0] (lv' := [(0, .ref (B + o0)), (1, .ref (B + o1)), (2, .int 0)]) rfl ?_
  exact tX8_readPlan_2 E hr hlk hl0 hno h0 h1 FU 0 μ hf
set_option maxHeartbeats 4000000 in
theorem tX8_readFighter_103 {p : Program} {l : Launch} {e : Env} {s : State} {m : MethodId} {args : Array Value} {below : List Frame} {meth : Method} {c : Code} {B : Nat} {D : va_G} {cT : Nat → ClassId} {n : Nat} {adK adV : Nat → Nat} {res : (Unit ⊕ Nat) × Mem} (E : EE p s m args c cX8_readFighter 3 RX8 B D cT (XW B adK adV)) (hr : meth.sig.returnType = none) (hlk : meth.locks = false) (hl0 : l.stackTraces = false) (hno : ∀ x ∈ c.exceptionTable.toList, False) {o0 : Nat} {o1 : Nat} {o2 : Nat} (h0 : isK n o0 1) (h1 : isK n o1 7) (h2 : isK n o2 2) {μ : Mem} (hf : fX8_readFighter_103 o0 o1 o2 μ = some res) : TT p l e rmX8_readFighter s m args below meth c (XQV B D cT n below args s res) 3 B D cT n 0 0 μ 103 [(0, .ref (B + o0)), (1, .ref (B + o1)), (2, .ref (B + o2))] [] := by
  unfold fX8_readFighter_103 at hf
  refine tt_aload_n (pc := 103) (i := 1) (j := 1) E dX8_readFighter_103 rfl rfl ?_
  refine tt_ldcS (pc := 104) (i := 10) E rfl dX8_readFighter_104 ?_
  obtain ⟨r_1, hr_2, hf⟩ := bd_some hf
  have hc_3 := cX9_takeWord_ok (l := l) (B := B) (D := D) (cT := cT) (n := n) (adK := adK) (adV := adV) hl0 h1 hr_2
  refine tx_cV (pc := 106) (tx_vi E lmX8_77 mtX9_takeWord hc_3 h1 rfl rfl (Nat.le_of_ble_eq_true rfl) ⟨(Nat.le_of_ble_eq_true rfl), (Nat.le_of_ble_eq_true rfl)⟩ ⟨(Nat.le_of_ble_eq_true rfl), (Nat.le_of_ble_eq_true rfl)⟩ dX8_readFighter_106) (fun k_4 m_5 hx_6 => ?_) (fun m_5 hx_6 => ?_)
  · subst hx_6; exact tx_out hno hlk (Nat.le_of_ble_eq_true rfl) (Nat.le_of_ble_eq_true rfl) hf
  subst hx_6
  have hf := xb_l hf
  refine tt_aload_n (pc := 109) (i := 2) (j := 2) E dX8_readFighter_109 rfl rfl ?_
  refine tt_aload_n (pc := 110) (i := 1) (j := 1) E dX8_readFighter_110 rfl rfl ?_
  obtain ⟨r_8, hr_9, hf⟩ := bd_some hf
  have hc_10 := cX8_readPlan_ok (l := l) (B := B) (D := D) (cT := cT) (n := n) (adK := adK) (adV := adV) hl0 h2 h1 hr_9
  refine tx_cV (pc := 111) (tx_si E lmX8_93 mtX8_readPlan hc_10 rfl rfl (Nat.le_of_ble_eq_true rfl) ⟨(Nat.le_of_ble_eq_true rfl), (Nat.le_of_ble_eq_true rfl)⟩ ⟨(Nat.le_of_ble_eq_true rfl), (Nat.le_of_ble_eq_true rfl)⟩ dX8_readFighter_111) (fun k_11 m_12 hx_13 => ?_) (fun m_12 hx_13 => ?_)
  · subst hx_13; exact tx_out hno hlk (Nat.le_of_ble_eq_true rfl) (Nat.le_of_ble_eq_true rfl) hf
  subst hx_13
  have hf := xb_l hf
  refine tt_aload_n (pc := 114) (i := 0) (j := 0) E dX8_readFighter_114 rfl rfl ?_
  refine tt_dup (pc := 115) E dX8_readFighter_115 rfl ?_
  refine tt_getI (pc := 116) E lfX8_51 rfl h0 dX8_readFighter_116 ?_
  refine tt_iconst (pc := 119) (v := 1) E dX8_readFighter_119 ic_1 ?_
  refine tt_iadd (pc := 120) E dX8_readFighter_120 ?_
  refine tt_putI (pc := 121) E lfX8_51 rfl h0 dX8_readFighter_121 (tt_nmM hf (fun m_15 hf => ?_))
  exact tx_vret (pc := 124) E hr hlk dX8_readFighter_124 hf
set_option maxHeartbeats 4000000 in
theorem tX8_readFighter_14 {p : Program} {l : Launch} {e : Env} {s : State} {m : MethodId} {args : Array Value} {below : List Frame} {meth : Method} {c : Code} {B : Nat} {D : va_G} {cT : Nat → ClassId} {n : Nat} {adK adV : Nat → Nat} {res : (Unit ⊕ Nat) × Mem} (E : EE p s m args c cX8_readFighter 3 RX8 B D cT (XW B adK adV)) (hr : meth.sig.returnType = none) (hlk : meth.locks = false) (hl0 : l.stackTraces = false) (hno : ∀ x ∈ c.exceptionTable.toList, False) {o0 : Nat} {o1 : Nat} (h0 : isK n o0 1) (h1 : isK n o1 7) {μ : Mem} (hf : fX8_readFighter_14 o0 o1 μ = some res) : TT p l e rmX8_readFighter s m args below meth c (XQV B D cT n below args s res) 3 B D cT n 0 0 μ 14 [(0, .ref (B + o0)), (1, .ref (B + o1))] [] := by
  unfold fX8_readFighter_14 at hf
  refine tt_aload_n (pc := 14) (i := 1) (j := 1) E dX8_readFighter_14 rfl rfl ?_
  obtain ⟨r_1, hr_2, hf⟩ := bd_some hf
  have hc_3 := cX9_step_ok (l := l) (B := B) (D := D) (cT := cT) (n := n) (adK := adK) (adV := adV) h1 hr_2
  refine tt_cV (pc := 15) (tt_vi E lmX8_30 mtX9_step hc_3 h1 rfl rfl (Nat.le_of_ble_eq_true rfl) ⟨(Nat.le_of_ble_eq_true rfl), (Nat.le_of_ble_eq_true rfl)⟩ ⟨(Nat.le_of_ble_eq_true rfl), (Nat.le_of_ble_eq_true rfl)⟩ dX8_readFighter_15) ?_
  refine tt_aload_n (pc := 18) (i := 0) (j := 0) E dX8_readFighter_18 rfl rfl ?_
  refine tt_aload_n (pc := 19) (i := 0) (j := 0) E dX8_readFighter_19 rfl rfl ?_
  refine tt_getI (pc := 20) E lfX8_51 rfl h0 dX8_readFighter_20 ?_
  obtain ⟨r_4, hr_5, hf⟩ := bd_some hf
  have hc_6 := cX2_at_ok (l := l) (B := B) (D := D) (cT := cT) (n := n) (adK := adK) (adV := adV) h0 hr_5
  refine tt_cP (pc := 23) (tt_vi E lmX8_54 mtX2_at hc_6 h0 rfl rfl (Nat.le_of_ble_eq_true rfl) ⟨(Nat.le_of_ble_eq_true rfl), (Nat.le_of_ble_eq_true rfl)⟩ ⟨(Nat.le_of_ble_eq_true rfl), (Nat.le_of_ble_eq_true rfl)⟩ dX8_readFighter_23) (fun kq_7 => ?_)
  refine tt_astore_n (pc := 26) (i := 2) (lv' := [(2, .ref (B + r_4)), (0, .ref (B + o0)), (1, .ref (B + o1))]) E dX8_readFighter_26 rfl (Nat.le_of_ble_eq_true rfl) rfl ?_
  refine tt_aload_n (pc := 27) (i := 2) (j := 0) E dX8_readFighter_27 rfl rfl ?_
  refine tt_aload_n (pc := 28) (i := 0) (j := 1) E dX8_readFighter_28 rfl rfl ?_
  refine tt_aload_n (pc := 29) (i := 1) (j := 2) E dX8_readFighter_29 rfl rfl ?_
  obtain ⟨r_8, hr_9, hf⟩ := bd_some hf
  have hc_10 := cX8_readNewName_ok (l := l) (B := B) (D := D) (cT := cT) (n := n) (adK := adK) (adV := adV) hl0 h0 h1 hr_9
  refine tx_cJ (pc := 30) (tx_si E lmX8_58 mtX8_readNewName hc_10 rfl rfl (Nat.le_of_ble_eq_true rfl) ⟨(Nat.le_of_ble_eq_true rfl), (Nat.le_of_ble_eq_true rfl)⟩ ⟨(Nat.le_of_ble_eq_true rfl), (Nat.le_of_ble_eq_true rfl)⟩ dX8_readFighter_30) (fun k_11 m_12 hx_13 => ?_) (fun v_14 m_12 hx_13 => ?_)
  · subst hx_13; exact tx_out hno hlk (Nat.le_of_ble_eq_true rfl) (Nat.le_of_ble_eq_true rfl) hf
  subst hx_13
  have hf := xb_l hf
  refine tt_putJ (pc := 33) E lfX8_62 rfl kq_7 dX8_readFighter_33 (tt_nmM hf (fun m_15 hf => ?_))
  refine tt_aload_n (pc := 36) (i := 2) (j := 0) E dX8_readFighter_36 rfl rfl ?_
  refine tt_aload_n (pc := 37) (i := 1) (j := 2) E dX8_readFighter_37 rfl rfl ?_
  obtain ⟨r_16, hr_17, hf⟩ := bd_some hf
  have hc_18 := cX8_readSide_ok (l := l) (B := B) (D := D) (cT := cT) (n := n) (adK := adK) (adV := adV) hl0 h1 hr_17
  refine tx_cI (pc := 38) (tx_si E lmX8_68 mtX8_readSide hc_18 rfl rfl (Nat.le_of_ble_eq_true rfl) ⟨(Nat.le_of_ble_eq_true rfl), (Nat.le_of_ble_eq_true rfl)⟩ ⟨(Nat.le_of_ble_eq_true rfl), (Nat.le_of_ble_eq_true rfl)⟩ dX8_readFighter_38) (fun k_19 m_20 hx_21 => ?_) (fun v_22 m_20 hx_21 => ?_)
  · subst hx_21; exact tx_out hno hlk (Nat.le_of_ble_eq_true rfl) (Nat.le_of_ble_eq_true rfl) hf
  subst hx_21
  have hf := xb_l hf
  refine tt_putI (pc := 41) E lfX8_72 rfl kq_7 dX8_readFighter_41 (tt_nmM hf (fun m_23 hf => ?_))
  refine tt_aload_n (pc := 44) (i := 1) (j := 2) E dX8_readFighter_44 rfl rfl ?_
  refine tt_ldcS (pc := 45) (i := 7) E rfl dX8_readFighter_45 ?_
  obtain ⟨r_24, hr_25, hf⟩ := bd_some hf
  have hc_26 := cX9_takeWord_ok (l := l) (B := B) (D := D) (cT := cT) (n := n) (adK := adK) (adV := adV) hl0 h1 hr_25
  refine tx_cV (pc := 47) (tx_vi E lmX8_77 mtX9_takeWord hc_26 h1 rfl rfl (Nat.le_of_ble_eq_true rfl) ⟨(Nat.le_of_ble_eq_true rfl), (Nat.le_of_ble_eq_true rfl)⟩ ⟨(Nat.le_of_ble_eq_true rfl), (Nat.le_of_ble_eq_true rfl)⟩ dX8_readFighter_47) (fun k_27 m_28 hx_29 => ?_) (fun m_28 hx_29 => ?_)
  · subst hx_29; exact tx_out hno hlk (Nat.le_of_ble_eq_true rfl) (Nat.le_of_ble_eq_true rfl) hf
  subst hx_29
  have hf := xb_l hf
  refine tt_aload_n (pc := 50) (i := 2) (j := 0) E dX8_readFighter_50 rfl rfl ?_
  refine tt_aload_n (pc := 51) (i := 1) (j := 2) E dX8_readFighter_51 rfl rfl ?_
  refine tt_iconst (pc := 52) (v := 1) E dX8_readFighter_52 ic_1 ?_
  refine tt_bipush (pc := 53) (v := 99) E dX8_readFighter_53 bc_99 ?_
  obtain ⟨r_31, hr_32, hf⟩ := bd_some hf
  have hc_33 := cX9_takeNumber_ok (l := l) (B := B) (D := D) (cT := cT) (n := n) (adK := adK) (adV := adV) hl0 h1 hr_32
  refine tx_cI (pc := 55) (tx_vi E lmX8_33 mtX9_takeNumber hc_33 h1 rfl rfl (Nat.le_of_ble_eq_true rfl) ⟨(Nat.le_of_ble_eq_true rfl), (Nat.le_of_ble_eq_true rfl)⟩ ⟨(Nat.le_of_ble_eq_true rfl), (Nat.le_of_ble_eq_true rfl)⟩ dX8_readFighter_55) (fun k_34 m_35 hx_36 => ?_) (fun v_37 m_35 hx_36 => ?_)
  · subst hx_36; exact tx_out hno hlk (Nat.le_of_ble_eq_true rfl) (Nat.le_of_ble_eq_true rfl) hf
  subst hx_36
  have hf := xb_l hf
  refine tt_putI (pc := 58) E lfX8_81 rfl kq_7 dX8_readFighter_58 (tt_nmM hf (fun m_38 hf => ?_))
  refine tt_aload_n (pc := 61) (i := 1) (j := 2) E dX8_readFighter_61 rfl rfl ?_
  refine tt_ldcS (pc := 62) (i := 8) E rfl dX8_readFighter_62 ?_
  obtain ⟨r_39, hr_40, hf⟩ := bd_some hf
  have hc_41 := cX9_takeWord_ok (l := l) (B := B) (D := D) (cT := cT) (n := n) (adK := adK) (adV := adV) hl0 h1 hr_40
  refine tx_cV (pc := 64) (tx_vi E lmX8_77 mtX9_takeWord hc_41 h1 rfl rfl (Nat.le_of_ble_eq_true rfl) ⟨(Nat.le_of_ble_eq_true rfl), (Nat.le_of_ble_eq_true rfl)⟩ ⟨(Nat.le_of_ble_eq_true rfl), (Nat.le_of_ble_eq_true rfl)⟩ dX8_readFighter_64) (fun k_42 m_43 hx_44 => ?_) (fun m_43 hx_44 => ?_)
  · subst hx_44; exact tx_out hno hlk (Nat.le_of_ble_eq_true rfl) (Nat.le_of_ble_eq_true rfl) hf
  subst hx_44
  have hf := xb_l hf
  refine tt_aload_n (pc := 67) (i := 2) (j := 0) E dX8_readFighter_67 rfl rfl ?_
  refine tt_aload_n (pc := 68) (i := 1) (j := 2) E dX8_readFighter_68 rfl rfl ?_
  refine tt_iconst (pc := 69) (v := 1) E dX8_readFighter_69 ic_1 ?_
  refine tt_sipush (pc := 70) (v := 999) E dX8_readFighter_70 sc_999 ?_
  obtain ⟨r_46, hr_47, hf⟩ := bd_some hf
  have hc_48 := cX9_takeNumber_ok (l := l) (B := B) (D := D) (cT := cT) (n := n) (adK := adK) (adV := adV) hl0 h1 hr_47
  refine tx_cI (pc := 73) (tx_vi E lmX8_33 mtX9_takeNumber hc_48 h1 rfl rfl (Nat.le_of_ble_eq_true rfl) ⟨(Nat.le_of_ble_eq_true rfl), (Nat.le_of_ble_eq_true rfl)⟩ ⟨(Nat.le_of_ble_eq_true rfl), (Nat.le_of_ble_eq_true rfl)⟩ dX8_readFighter_73) (fun k_49 m_50 hx_51 => ?_) (fun v_52 m_50 hx_51 => ?_)
  · subst hx_51; exact tx_out hno hlk (Nat.le_of_ble_eq_true rfl) (Nat.le_of_ble_eq_true rfl) hf
  subst hx_51
  have hf := xb_l hf
  refine tt_putI (pc := 76) E lfX8_85 rfl kq_7 dX8_readFighter_76 (tt_nmM hf (fun m_53 hf => ?_))
  refine tt_aload_n (pc := 79) (i := 1) (j := 2) E dX8_readFighter_79 rfl rfl ?_
  refine tt_ldcS (pc := 80) (i := 9) E rfl dX8_readFighter_80 ?_
  obtain ⟨r_54, hr_55, hf⟩ := bd_some hf
  have hc_56 := cX9_isWord_ok (l := l) (B := B) (D := D) (cT := cT) (n := n) (adK := adK) (adV := adV) h1 hr_55
  refine tt_cZ (pc := 82) (tt_vi E lmX8_22 mtX9_isWord hc_56 h1 rfl rfl (Nat.le_of_ble_eq_true rfl) ⟨(Nat.le_of_ble_eq_true rfl), (Nat.le_of_ble_eq_true rfl)⟩ ⟨(Nat.le_of_ble_eq_true rfl), (Nat.le_of_ble_eq_true rfl)⟩ dX8_readFighter_82) (fun z_57 => ?_)
  refine tt_if_eq (pc := 85) (tgt := 103) E dX8_readFighter_85 rfl (fun c_69 => ?_) (fun c_69 => ?_)
  · have hf := ip c_69 hf
    refine tt_sub [1, 2, 0] (lv' := [(0, .ref (B + o0)), (1, .ref (B + o1)), (2, .ref (B + r_4))]) rfl ?_
    exact tX8_readFighter_103 E hr hlk hl0 hno h0 h1 kq_7 hf
  · have hf := ine c_69 hf
    refine tt_aload_n (pc := 88) (i := 1) (j := 2) E dX8_readFighter_88 rfl rfl ?_
    obtain ⟨r_58, hr_59, hf⟩ := bd_some hf
    have hc_60 := cX9_step_ok (l := l) (B := B) (D := D) (cT := cT) (n := n) (adK := adK) (adV := adV) h1 hr_59
    refine tt_cV (pc := 89) (tt_vi E lmX8_30 mtX9_step hc_60 h1 rfl rfl (Nat.le_of_ble_eq_true rfl) ⟨(Nat.le_of_ble_eq_true rfl), (Nat.le_of_ble_eq_true rfl)⟩ ⟨(Nat.le_of_ble_eq_true rfl), (Nat.le_of_ble_eq_true rfl)⟩ dX8_readFighter_89) ?_
    refine tt_aload_n (pc := 92) (i := 2) (j := 0) E dX8_readFighter_92 rfl rfl ?_
    refine tt_aload_n (pc := 93) (i := 1) (j := 2) E dX8_readFighter_93 rfl rfl ?_
    refine tt_iconst (pc := 94) (v := 0) E dX8_readFighter_94 ic_0 ?_
    refine tt_bipush (pc := 95) (v := 9) E dX8_readFighter_95 bc_9 ?_
    obtain ⟨r_61, hr_62, hf⟩ := bd_some hf
    have hc_63 := cX9_takeNumber_ok (l := l) (B := B) (D := D) (cT := cT) (n := n) (adK := adK) (adV := adV) hl0 h1 hr_62
    refine tx_cI (pc := 97) (tx_vi E lmX8_33 mtX9_takeNumber hc_63 h1 rfl rfl (Nat.le_of_ble_eq_true rfl) ⟨(Nat.le_of_ble_eq_true rfl), (Nat.le_of_ble_eq_true rfl)⟩ ⟨(Nat.le_of_ble_eq_true rfl), (Nat.le_of_ble_eq_true rfl)⟩ dX8_readFighter_97) (fun k_64 m_65 hx_66 => ?_) (fun v_67 m_65 hx_66 => ?_)
    · subst hx_66; exact tx_out hno hlk (Nat.le_of_ble_eq_true rfl) (Nat.le_of_ble_eq_true rfl) hf
    subst hx_66
    have hf := xb_l hf
    refine tt_putI (pc := 100) E lfX8_89 rfl kq_7 dX8_readFighter_100 (tt_nmM hf (fun m_68 hf => ?_))
    refine tt_sub [1, 2, 0] (lv' := [(0, .ref (B + o0)), (1, .ref (B + o1)), (2, .ref (B + r_4))]) rfl ?_
    exact tX8_readFighter_103 E hr hlk hl0 hno h0 h1 kq_7 hf
set_option maxHeartbeats 4000000 in
theorem cX8_readFighter_ok {l : Launch} {B : Nat} {D : va_G} {cT : Nat → ClassId} {n : Nat} {adK adV : Nat → Nat} {o0 : Nat} {o1 : Nat} (hl0 : l.stackTraces = false) {μ : Mem} {res : (Unit ⊕ Nat) × Mem} (h0 : isK n o0 1) (h1 : isK n o1 7) (hf : fX8_readFighter o0 o1 μ = some res) : XV l yX8_readFighter cX8_readFighter 3 (none) rmX8_readFighter B D cT (XW B adK adV) n [.ref (B + o0), .ref (B + o1)] μ res := by
  refine tx_ofW mtX8_readFighter.1 (Nat.le_of_ble_eq_true rfl) rfl ?_
  intro p e s m below meth c E0 hr hlk hno
  have E : EE p s m _ c cX8_readFighter 3 RX8 B D cT (XW B adK adV) := E0
  unfold fX8_readFighter at hf
  refine tt_aload_n (pc := 0) (i := 0) (j := 0) E dX8_readFighter_0 rfl rfl ?_
  refine tt_getI (pc := 1) E lfX8_51 rfl h0 dX8_readFighter_1 ?_
  refine tt_bipush (pc := 4) (v := 8) E dX8_readFighter_4 bc_8 ?_
  refine tt_icmp_lt (pc := 6) (tgt := 14) E dX8_readFighter_6 rfl (fun c_8 => ?_) (fun c_8 => ?_)
  · have hf := ip c_8 hf
    exact tX8_readFighter_14 E hr hlk hl0 hno h0 h1 hf
  · have hf := ine c_8 hf
    refine tt_aload_n (pc := 9) (i := 1) (j := 1) E dX8_readFighter_9 rfl rfl ?_
    refine tt_iconst (pc := 10) (v := 5) E dX8_readFighter_10 ic_5 ?_
    obtain ⟨r_1, hr_2, hf⟩ := bd_some hf
    have hc_3 := cX9_fail_ok (l := l) (B := B) (D := D) (cT := cT) (n := n) (adK := adK) (adV := adV) hl0 h1 hr_2
    refine tx_cV (pc := 11) (tx_vi E lmX8_26 mtX9_fail hc_3 h1 rfl rfl (Nat.le_of_ble_eq_true rfl) ⟨(Nat.le_of_ble_eq_true rfl), (Nat.le_of_ble_eq_true rfl)⟩ ⟨(Nat.le_of_ble_eq_true rfl), (Nat.le_of_ble_eq_true rfl)⟩ dX8_readFighter_11) (fun k_4 m_5 hx_6 => ?_) (fun m_5 hx_6 => ?_)
    · subst hx_6; exact tx_out hno hlk (Nat.le_of_ble_eq_true rfl) (Nat.le_of_ble_eq_true rfl) hf
    subst hx_6
    have hf := xb_l hf
    exact tX8_readFighter_14 E hr hlk hl0 hno h0 h1 hf
