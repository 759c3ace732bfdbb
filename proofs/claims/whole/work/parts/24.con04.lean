/-! contracts -/
set_option maxHeartbeats 4000000 in
theorem cX12_goesBoth_ok {l : Launch} {B : Nat} {D : va_G} {cT : Nat → ClassId} {n : Nat} {adK adV : Nat → Nat} {o0 : Nat} {v1 : Int32} {v2 : Int32} {μ : Mem} {res : Int32 × Mem} (h0 : isK n o0 9) (h1 : zb v1) (h2 : zb v2) (hf : fX12_goesBoth o0 v1 v2 μ = some res) : MZ l yX12_goesBoth cX12_goesBoth 3 (some .boolean) rmX12_goesBoth B D cT (XW B adK adV) n [.ref (B + o0), .int v1, .int v2] μ res := by
  refine tt_ofW mtX12_goesBoth.1 (Nat.le_of_ble_eq_true rfl) rfl ?_
  intro p e s m below meth c E0 hr hlk
  have E : EE p s m _ c cX12_goesBoth 3 RX12 B D cT (XW B adK adV) := E0
  unfold fX12_goesBoth at hf
  refine tt_aload_n (pc := 0) (i := 0) (j := 0) E dX12_goesBoth_0 rfl rfl ?_
  refine tt_iload_n (pc := 1) (i := 1) (j := 1) E dX12_goesBoth_1 rfl rfl ?_
  refine tt_if_ne (pc := 2) (tgt := 9) E dX12_goesBoth_2 rfl (fun c_8 => ?_) (fun c_8 => ?_)
  · have hf := ine c_8 hf
    refine tt_iload_n (pc := 9) (i := 2) (j := 2) E dX12_goesBoth_9 rfl rfl ?_
    refine tt_if_ne (pc := 10) (tgt := 17) E dX12_goesBoth_10 rfl (fun c_5 => ?_) (fun c_5 => ?_)
    · have hf := ine c_5 hf
      refine tt_iconst (pc := 17) (v := 0) E dX12_goesBoth_17 ic_0 ?_
      refine tt_putI (pc := 18) E lfX12_75 rfl h0 dX12_goesBoth_18 (tt_nmM hf (fun m_1 hf => ?_))
      refine tt_aload_n (pc := 21) (i := 0) (j := 0) E dX12_goesBoth_21 rfl rfl ?_
      refine tt_getI (pc := 22) E lfX12_75 rfl h0 dX12_goesBoth_22 ?_
      refine tt_if_ne (pc := 25) (tgt := 32) E dX12_goesBoth_25 rfl (fun c_2 => ?_) (fun c_2 => ?_)
      · have hf := ine c_2 hf
        refine tt_iconst (pc := 32) (v := 0) E dX12_goesBoth_32 ic_0 ?_
        exact tt_zret (pc := 33) E ((Or.inl rfl)) hr hlk dX12_goesBoth_33 (Nat.le_of_ble_eq_true rfl) (Nat.le_of_ble_eq_true rfl) hf
      · have hf := ip c_2 hf
        refine tt_iconst (pc := 28) (v := 1) E dX12_goesBoth_28 ic_1 ?_
        refine tt_goto (pc := 29) (tgt := 33) E dX12_goesBoth_29 rfl ?_
        exact tt_zret (pc := 33) E ((Or.inr rfl)) hr hlk dX12_goesBoth_33 (Nat.le_of_ble_eq_true rfl) (Nat.le_of_ble_eq_true rfl) hf
    · have hf := ip c_5 hf
      refine tt_iconst (pc := 13) (v := 2) E dX12_goesBoth_13 ic_2 ?_
      refine tt_goto (pc := 14) (tgt := 18) E dX12_goesBoth_14 rfl ?_
      refine tt_putI (pc := 18) E lfX12_75 rfl h0 dX12_goesBoth_18 (tt_nmM hf (fun m_3 hf => ?_))
      refine tt_aload_n (pc := 21) (i := 0) (j := 0) E dX12_goesBoth_21 rfl rfl ?_
      refine tt_getI (pc := 22) E lfX12_75 rfl h0 dX12_goesBoth_22 ?_
      refine tt_if_ne (pc := 25) (tgt := 32) E dX12_goesBoth_25 rfl (fun c_4 => ?_) (fun c_4 => ?_)
      · have hf := ine c_4 hf
        refine tt_iconst (pc := 32) (v := 0) E dX12_goesBoth_32 ic_0 ?_
        exact tt_zret (pc := 33) E ((Or.inl rfl)) hr hlk dX12_goesBoth_33 (Nat.le_of_ble_eq_true rfl) (Nat.le_of_ble_eq_true rfl) hf
      · have hf := ip c_4 hf
        refine tt_iconst (pc := 28) (v := 1) E dX12_goesBoth_28 ic_1 ?_
        refine tt_goto (pc := 29) (tgt := 33) E dX12_goesBoth_29 rfl ?_
        exact tt_zret (pc := 33) E ((Or.inr rfl)) hr hlk dX12_goesBoth_33 (Nat.le_of_ble_eq_true rfl) (Nat.le_of_ble_eq_true rfl) hf
  · have hf := ip c_8 hf
    refine tt_iconst (pc := 5) (v := 1) E dX12_goesBoth_5 ic_1 ?_
    refine tt_goto (pc := 6) (tgt := 18) E dX12_goesBoth_6 rfl ?_
    refine tt_putI (pc := 18) E lfX12_75 rfl h0 dX12_goesBoth_18 (tt_nmM hf (fun m_6 hf => ?_))
    refine tt_aload_n (pc := 21) (i := 0) (j := 0) E dX12_goesBoth_21 rfl rfl ?_
    refine tt_getI (pc := 22) E lfX12_75 rfl h0 dX12_goesBoth_22 ?_
    refine tt_if_ne (pc := 25) (tgt := 32) E dX12_goesBoth_25 rfl (fun c_7 => ?_) (fun c_7 => ?_)
    · have hf := ine c_7 hf
      refine tt_iconst (pc := 32) (v := 0) E dX12_goesBoth_32 ic_0 ?_
      exact tt_zret (pc := 33) E ((Or.inl rfl)) hr hlk dX12_goesBoth_33 (Nat.le_of_ble_eq_true rfl) (Nat.le_of_ble_eq_true rfl) hf
    · have hf := ip c_7 hf
      refine tt_iconst (pc := 28) (v := 1) E dX12_goesBoth_28 ic_1 ?_
      refine tt_goto (pc := 29) (tgt := 33) E dX12_goesBoth_29 rfl ?_
      exact tt_zret (pc := 33) E ((Or.inr rfl)) hr hlk dX12_goesBoth_33 (Nat.le_of_ble_eq_true rfl) (Nat.le_of_ble_eq_true rfl) hf
set_option maxHeartbeats 4000000 in
theorem tX12_four_3 {p : Program} {l : Launch} {e : Env} {s : State} {m : MethodId} {args : Array Value} {below : List Frame} {meth : Method} {c : Code} {B : Nat} {D : va_G} {cT : Nat → ClassId} {n : Nat} {adK adV : Nat → Nat} {res : Mem} (E : EE p s m args c cX12_four 3 RX12 B D cT (XW B adK adV)) (hr : meth.sig.returnType = none) (hlk : meth.locks = false) {o0 : Nat} {v1 : Int32} (h0 : isK n o0 9) : ∀ (fu : Nat) (v2 : Int32) (μ : Mem), zl2 (gX12_four_3 o0 v1) fu v2 μ = some res → TT p l e rmX12_four s m args below meth c (QV B D cT n below args s res) 3 B D cT n 0 0 μ 3 [(0, .ref (B + o0)), (1, .int v1), (2, .int v2)] [] := by
  intro fu
  induction fu with
  | zero => intro v2 μ hf; exact absurd hf (fun h => by cases h)
  | succ fu ih =>
    intro v2 μ hf
    have hf : gX12_four_3 o0 v1 (zl2 (gX12_four_3 o0 v1) fu) v2 μ = some res := hf
    unfold gX12_four_3 at hf
    refine tt_iload_n (pc := 3) (i := 2) (j := 2) E dX12_four_3 rfl rfl ?_
    refine tt_if_lt (pc := 4) (tgt := 39) E dX12_four_4 rfl (fun c_8 => ?_) (fun c_8 => ?_)
    · have hf := ip c_8 hf
      exact tt_vret (pc := 39) E hr hlk dX12_four_39 (Nat.le_of_ble_eq_true rfl) (Nat.le_of_ble_eq_true rfl) hf
    · have hf := ine c_8 hf
      refine tt_aload_n (pc := 7) (i := 0) (j := 0) E dX12_four_7 rfl rfl ?_
      obtain ⟨q_1, hq_2, hf⟩ := bd_some hf
      refine tt_getP (pc := 8) (t := 11) E lfX12_7 rfl rfl h0 dX12_four_8 hq_2 (fun kq_3 => ?_)
      refine tt_aload_n (pc := 11) (i := 0) (j := 0) E dX12_four_11 rfl rfl ?_
      refine tt_getI (pc := 12) E lfX12_82 rfl h0 dX12_four_12 ?_
      refine tt_iload_n (pc := 15) (i := 1) (j := 1) E dX12_four_15 rfl rfl ?_
      refine tt_iload_n (pc := 16) (i := 2) (j := 2) E dX12_four_16 rfl rfl ?_
      refine tt_ishr (pc := 17) E dX12_four_17 ?_
      refine tt_sipush (pc := 18) (v := 255) E dX12_four_18 sc_255 ?_
      refine tt_iand (pc := 21) E dX12_four_21 ?_
      obtain ⟨g_5, hf⟩ := gd_some hf
      refine tt_iast (pc := 22) E kq_3 g_5 dX12_four_22 (tt_nmM hf (fun m_4 hf => ?_))
      refine tt_aload_n (pc := 23) (i := 0) (j := 0) E dX12_four_23 rfl rfl ?_
      refine tt_dup (pc := 24) E dX12_four_24 rfl ?_
      refine tt_getI (pc := 25) E lfX12_82 rfl h0 dX12_four_25 ?_
      refine tt_iconst (pc := 28) (v := 1) E dX12_four_28 ic_1 ?_
      refine tt_iadd (pc := 29) E dX12_four_29 ?_
      refine tt_putI (pc := 30) E lfX12_82 rfl h0 dX12_four_30 (tt_nmM hf (fun m_6 hf => ?_))
      obtain ⟨v_7, ev_7, hf⟩ := nm_ex hf
      refine tt_iinc (pc := 33) (i := 2) (j := 2) (lv' := [(2, .int v_7), (0, .ref (B + o0)), (1, .int v1)]) E dX12_four_33 rfl (ev_7).symm (Nat.le_of_ble_eq_true rfl) rfl ?_
      refine tt_goto (pc := 36) (tgt := 3) E dX12_four_36 rfl ?_
      refine tt_sub [1, 2, 0] (lv' := [(0, .ref (B + o0)), (1, .int v1), (2, .int v_7)]) rfl ?_
      exact ih v_7 m_6 hf
set_option maxHeartbeats 4000000 in
theorem cX12_four_ok {l : Launch} {B : Nat} {D : va_G} {cT : Nat → ClassId} {n : Nat} {adK adV : Nat → Nat} {o0 : Nat} {v1 : Int32} {μ : Mem} {res : Mem} (h0 : isK n o0 9) (hf : fX12_four o0 v1 μ = some res) : MV l yX12_four cX12_four 3 (none) rmX12_four B D cT (XW B adK adV) n [.ref (B + o0), .int v1] μ res := by
  refine tt_ofW mtX12_four.1 (Nat.le_of_ble_eq_true rfl) rfl ?_
  intro p e s m below meth c E0 hr hlk
  have E : EE p s m _ c cX12_four 3 RX12 B D cT (XW B adK adV) := E0
  unfold fX12_four at hf
  refine tt_bipush (pc := 0) (v := 24) E dX12_four_0 bc_24 ?_
  refine tt_istore_n (pc := 2) (i := 2) (lv' := [(2, .int 24), (0, .ref (B + o0)), (1, .int v1)]) E dX12_four_2 rfl (Nat.le_of_ble_eq_true rfl) rfl ?_
  refine tt_sub [1, 2, 0] (lv' := [(0, .ref (B + o0)), (1, .int v1), (2, .int 24)]) rfl ?_
  exact tX12_four_3 E hr hlk h0 FU 24 μ hf
set_option maxHeartbeats 4000000 in
theorem tX12_feed_19 {p : Program} {l : Launch} {e : Env} {s : State} {m : MethodId} {args : Array Value} {below : List Frame} {meth : Method} {c : Code} {B : Nat} {D : va_G} {cT : Nat → ClassId} {n : Nat} {adK adV : Nat → Nat} {res : Int32 × Mem} (E : EE p s m args c cX12_feed 6 RX12 B D cT (XW B adK adV)) (hr : meth.sig.returnType = some .int) (hlk : meth.locks = false) {o0 : Nat} {v1 : Int32} {v2 : Int32} {v3 : Int32} {v4 : Int32} {v5 : Int32} {ot0 : Nat} {vt1 : Int32} (h0 : isK n o0 9) (ht0 : isK n ot0 9) (ht1 : zb vt1) {μ : Mem} (hf : fX12_feed_19 o0 v1 v2 v3 v4 v5 ot0 vt1 μ = some res) : TT p l e rmX12_feed s m args below meth c (QI B D cT n below args s res) 6 B D cT n 0 0 μ 19 [(0, .ref (B + o0)), (1, .int v1), (2, .int v2), (3, .int v3), (4, .int v4), (5, .int v5)] [.int vt1, .ref (B + ot0)] := by
  unfold fX12_feed_19 at hf
  obtain ⟨r_1, hr_2, hf⟩ := bd_some hf
  have hc_3 := cX12_goes_ok (l := l) (B := B) (D := D) (cT := cT) (n := n) (adK := adK) (adV := adV) ht0 ht1 hr_2
  refine tt_cZ (pc := 19) (tt_vi E lmX12_85 mtX12_goes hc_3 ht0 rfl rfl (Nat.le_of_ble_eq_true rfl) ⟨(Nat.le_of_ble_eq_true rfl), (Nat.le_of_ble_eq_true rfl)⟩ ⟨(Nat.le_of_ble_eq_true rfl), (Nat.le_of_ble_eq_true rfl)⟩ dX12_feed_19) (fun z_4 => ?_)
  refine tt_if_ne (pc := 22) (tgt := 27) E dX12_feed_22 rfl (fun c_20 => ?_) (fun c_20 => ?_)
  · have hf := ine c_20 hf
    refine tt_aload_n (pc := 27) (i := 0) (j := 0) E dX12_feed_27 rfl rfl ?_
    refine tt_iload_n (pc := 28) (i := 1) (j := 1) E dX12_feed_28 rfl rfl ?_
    obtain ⟨r_5, hr_6, hf⟩ := bd_some hf
    have hc_7 := cX12_four_ok (l := l) (B := B) (D := D) (cT := cT) (n := n) (adK := adK) (adV := adV) h0 hr_6
    refine tt_cV (pc := 29) (tt_vi E lmX12_89 mtX12_four hc_7 h0 rfl rfl (Nat.le_of_ble_eq_true rfl) ⟨(Nat.le_of_ble_eq_true rfl), (Nat.le_of_ble_eq_true rfl)⟩ ⟨(Nat.le_of_ble_eq_true rfl), (Nat.le_of_ble_eq_true rfl)⟩ dX12_feed_29) ?_
    refine tt_aload_n (pc := 32) (i := 0) (j := 0) E dX12_feed_32 rfl rfl ?_
    refine tt_iload_n (pc := 33) (i := 2) (j := 2) E dX12_feed_33 rfl rfl ?_
    obtain ⟨r_8, hr_9, hf⟩ := bd_some hf
    have hc_10 := cX12_four_ok (l := l) (B := B) (D := D) (cT := cT) (n := n) (adK := adK) (adV := adV) h0 hr_9
    refine tt_cV (pc := 34) (tt_vi E lmX12_89 mtX12_four hc_10 h0 rfl rfl (Nat.le_of_ble_eq_true rfl) ⟨(Nat.le_of_ble_eq_true rfl), (Nat.le_of_ble_eq_true rfl)⟩ ⟨(Nat.le_of_ble_eq_true rfl), (Nat.le_of_ble_eq_true rfl)⟩ dX12_feed_34) ?_
    refine tt_aload_n (pc := 37) (i := 0) (j := 0) E dX12_feed_37 rfl rfl ?_
    refine tt_iload_n (pc := 38) (i := 3) (j := 3) E dX12_feed_38 rfl rfl ?_
    obtain ⟨r_11, hr_12, hf⟩ := bd_some hf
    have hc_13 := cX12_four_ok (l := l) (B := B) (D := D) (cT := cT) (n := n) (adK := adK) (adV := adV) h0 hr_12
    refine tt_cV (pc := 39) (tt_vi E lmX12_89 mtX12_four hc_13 h0 rfl rfl (Nat.le_of_ble_eq_true rfl) ⟨(Nat.le_of_ble_eq_true rfl), (Nat.le_of_ble_eq_true rfl)⟩ ⟨(Nat.le_of_ble_eq_true rfl), (Nat.le_of_ble_eq_true rfl)⟩ dX12_feed_39) ?_
    refine tt_aload_n (pc := 42) (i := 0) (j := 0) E dX12_feed_42 rfl rfl ?_
    refine tt_iload (pc := 43) (i := 4) (j := 4) E dX12_feed_43 rfl ?_
    obtain ⟨r_14, hr_15, hf⟩ := bd_some hf
    have hc_16 := cX12_four_ok (l := l) (B := B) (D := D) (cT := cT) (n := n) (adK := adK) (adV := adV) h0 hr_15
    refine tt_cV (pc := 45) (tt_vi E lmX12_89 mtX12_four hc_16 h0 rfl rfl (Nat.le_of_ble_eq_true rfl) ⟨(Nat.le_of_ble_eq_true rfl), (Nat.le_of_ble_eq_true rfl)⟩ ⟨(Nat.le_of_ble_eq_true rfl), (Nat.le_of_ble_eq_true rfl)⟩ dX12_feed_45) ?_
    refine tt_aload_n (pc := 48) (i := 0) (j := 0) E dX12_feed_48 rfl rfl ?_
    refine tt_iload (pc := 49) (i := 5) (j := 5) E dX12_feed_49 rfl ?_
    obtain ⟨r_17, hr_18, hf⟩ := bd_some hf
    have hc_19 := cX12_four_ok (l := l) (B := B) (D := D) (cT := cT) (n := n) (adK := adK) (adV := adV) h0 hr_18
    refine tt_cV (pc := 51) (tt_vi E lmX12_89 mtX12_four hc_19 h0 rfl rfl (Nat.le_of_ble_eq_true rfl) ⟨(Nat.le_of_ble_eq_true rfl), (Nat.le_of_ble_eq_true rfl)⟩ ⟨(Nat.le_of_ble_eq_true rfl), (Nat.le_of_ble_eq_true rfl)⟩ dX12_feed_51) ?_
    refine tt_aload_n (pc := 54) (i := 0) (j := 0) E dX12_feed_54 rfl rfl ?_
    refine tt_getI (pc := 55) E lfX12_82 rfl h0 dX12_feed_55 ?_
    exact tt_iret (pc := 58) E hr hlk dX12_feed_58 (Nat.le_of_ble_eq_true rfl) (Nat.le_of_ble_eq_true rfl) hf
  · have hf := ip c_20 hf
    refine tt_iconst (pc := 25) (v := 0) E dX12_feed_25 ic_0 ?_
    exact tt_iret (pc := 26) E hr hlk dX12_feed_26 (Nat.le_of_ble_eq_true rfl) (Nat.le_of_ble_eq_true rfl) hf
set_option maxHeartbeats 4000000 in
theorem cX12_feed_ok {l : Launch} {B : Nat} {D : va_G} {cT : Nat → ClassId} {n : Nat} {adK adV : Nat → Nat} {o0 : Nat} {v1 : Int32} {v2 : Int32} {v3 : Int32} {v4 : Int32} {v5 : Int32} {μ : Mem} {res : Int32 × Mem} (h0 : isK n o0 9) (hf : fX12_feed o0 v1 v2 v3 v4 v5 μ = some res) : MI l yX12_feed cX12_feed 6 (some .int) rmX12_feed B D cT (XW B adK adV) n [.ref (B + o0), .int v1, .int v2, .int v3, .int v4, .int v5] μ res := by
  refine tt_ofW mtX12_feed.1 (Nat.le_of_ble_eq_true rfl) rfl ?_
  intro p e s m below meth c E0 hr hlk
  have E : EE p s m _ c cX12_feed 6 RX12 B D cT (XW B adK adV) := E0
  unfold fX12_feed at hf
  refine tt_aload_n (pc := 0) (i := 0) (j := 0) E dX12_feed_0 rfl rfl ?_
  refine tt_aload_n (pc := 1) (i := 0) (j := 0) E dX12_feed_1 rfl rfl ?_
  refine tt_getI (pc := 2) E lfX12_82 rfl h0 dX12_feed_2 ?_
  refine tt_bipush (pc := 5) (v := 20) E dX12_feed_5 bc_20 ?_
  refine tt_iadd (pc := 7) E dX12_feed_7 ?_
  refine tt_sipush (pc := 8) (v := 600) E dX12_feed_8 sc_600 ?_
  refine tt_icmp_gt (pc := 11) (tgt := 18) E dX12_feed_11 rfl (fun c_1 => ?_) (fun c_1 => ?_)
  · have hf := ip c_1 hf
    refine tt_iconst (pc := 18) (v := 0) E dX12_feed_18 ic_0 ?_
    exact tX12_feed_19 E hr hlk h0 h0 ((Or.inl rfl)) hf
  · have hf := ine c_1 hf
    refine tt_iconst (pc := 14) (v := 1) E dX12_feed_14 ic_1 ?_
    refine tt_goto (pc := 15) (tgt := 19) E dX12_feed_15 rfl ?_
    exact tX12_feed_19 E hr hlk h0 h0 ((Or.inr rfl)) hf
set_option maxHeartbeats 4000000 in
theorem cX12_truncate_ok {l : Launch} {B : Nat} {D : va_G} {cT : Nat → ClassId} {n : Nat} {adK adV : Nat → Nat} {o0 : Nat} {v1 : Int32} {μ : Mem} {res : Int32 × Mem} (h0 : isK n o0 9) (hf : fX12_truncate o0 v1 μ = some res) : MI l yX12_truncate cX12_truncate 2 (some .int) rmX12_truncate B D cT (XW B adK adV) n [.ref (B + o0), .int v1] μ res := by
  refine tt_ofW mtX12_truncate.1 (Nat.le_of_ble_eq_true rfl) rfl ?_
  intro p e s m below meth c E0 hr hlk
  have E : EE p s m _ c cX12_truncate 2 RX12 B D cT (XW B adK adV) := E0
  unfold fX12_truncate at hf
  refine tt_aload_n (pc := 0) (i := 0) (j := 0) E dX12_truncate_0 rfl rfl ?_
  refine tt_iload_n (pc := 1) (i := 1) (j := 1) E dX12_truncate_1 rfl rfl ?_
  refine tt_i2l (pc := 2) E dX12_truncate_2 ?_
  refine tt_lconst (pc := 3) (v := 0) E dX12_truncate_3 lc_0 ?_
  refine tt_aload_n (pc := 4) (i := 0) (j := 0) E dX12_truncate_4 rfl rfl ?_
  refine tt_getI (pc := 5) E lfX12_82 rfl h0 dX12_truncate_5 ?_
  refine tt_i2l (pc := 8) E dX12_truncate_8 ?_
  obtain ⟨r_1, hr_2, hf⟩ := bd_some hf
  have hc_3 := cX12_isIn_ok (l := l) (B := B) (D := D) (cT := cT) (n := n) (adK := adK) (adV := adV) hr_2
  refine tt_cZ (pc := 9) (tt_si E lmX12_92 mtX12_isIn hc_3 rfl rfl (Nat.le_of_ble_eq_true rfl) ⟨(Nat.le_of_ble_eq_true rfl), (Nat.le_of_ble_eq_true rfl)⟩ ⟨(Nat.le_of_ble_eq_true rfl), (Nat.le_of_ble_eq_true rfl)⟩ dX12_truncate_9) (fun z_4 => ?_)
  obtain ⟨r_5, hr_6, hf⟩ := bd_some hf
  have hc_7 := cX12_goes_ok (l := l) (B := B) (D := D) (cT := cT) (n := n) (adK := adK) (adV := adV) h0 z_4 hr_6
  refine tt_cZ (pc := 12) (tt_vi E lmX12_85 mtX12_goes hc_7 h0 rfl rfl (Nat.le_of_ble_eq_true rfl) ⟨(Nat.le_of_ble_eq_true rfl), (Nat.le_of_ble_eq_true rfl)⟩ ⟨(Nat.le_of_ble_eq_true rfl), (Nat.le_of_ble_eq_true rfl)⟩ dX12_truncate_12) (fun z_8 => ?_)
  refine tt_if_ne (pc := 15) (tgt := 20) E dX12_truncate_15 rfl (fun c_10 => ?_) (fun c_10 => ?_)
  · have hf := ine c_10 hf
    refine tt_aload_n (pc := 20) (i := 0) (j := 0) E dX12_truncate_20 rfl rfl ?_
    refine tt_iload_n (pc := 21) (i := 1) (j := 1) E dX12_truncate_21 rfl rfl ?_
    refine tt_putI (pc := 22) E lfX12_82 rfl h0 dX12_truncate_22 (tt_nmM hf (fun m_9 hf => ?_))
    refine tt_iload_n (pc := 25) (i := 1) (j := 1) E dX12_truncate_25 rfl rfl ?_
    exact tt_iret (pc := 26) E hr hlk dX12_truncate_26 (Nat.le_of_ble_eq_true rfl) (Nat.le_of_ble_eq_true rfl) hf
  · have hf := ip c_10 hf
    refine tt_iconst (pc := 18) (v := 0) E dX12_truncate_18 ic_0 ?_
    exact tt_iret (pc := 19) E hr hlk dX12_truncate_19 (Nat.le_of_ble_eq_true rfl) (Nat.le_of_ble_eq_true rfl) hf
set_option maxHeartbeats 4000000 in
theorem cX12_here_ok {l : Launch} {B : Nat} {D : va_G} {cT : Nat → ClassId} {n : Nat} {adK adV : Nat → Nat} {o0 : Nat} {v1 : Int32} {μ : Mem} {res : Int32} (h0 : isK n o0 9) (hf : fX12_here o0 v1 μ = some res) : MI l yX12_here cX12_here 2 (some .int) rmX12_here B D cT (XW B adK adV) n [.ref (B + o0), .int v1] μ (res, μ) := by
  refine tt_ofW mtX12_here.1 (Nat.le_of_ble_eq_true rfl) rfl ?_
  intro p e s m below meth c E0 hr hlk
  have E : EE p s m _ c cX12_here 2 RX12 B D cT (XW B adK adV) := E0
  unfold fX12_here at hf
  refine tt_aload_n (pc := 0) (i := 0) (j := 0) E dX12_here_0 rfl rfl ?_
  refine tt_getI (pc := 1) E lfX12_96 rfl h0 dX12_here_1 ?_
  refine tt_iload_n (pc := 4) (i := 1) (j := 1) E dX12_here_4 rfl rfl ?_
  refine tt_iadd (pc := 5) E dX12_here_5 ?_
  refine tt_aload_n (pc := 6) (i := 0) (j := 0) E dX12_here_6 rfl rfl ?_
  refine tt_getI (pc := 7) E lfX12_99 rfl h0 dX12_here_7 ?_
  refine tt_icmp_ge (pc := 10) (tgt := 27) E dX12_here_10 rfl (fun c_5 => ?_) (fun c_5 => ?_)
  · have hf := ip c_5 hf
    refine tt_iconst (pc := 27) (v := (-1)) E dX12_here_27 ic_m1 ?_
    exact tt_iret (pc := 28) E hr hlk dX12_here_28 (Nat.le_of_ble_eq_true rfl) (Nat.le_of_ble_eq_true rfl) (pv hf)
  · have hf := ine c_5 hf
    refine tt_aload_n (pc := 13) (i := 0) (j := 0) E dX12_here_13 rfl rfl ?_
    obtain ⟨q_1, hq_2, hf⟩ := bd_some hf
    refine tt_getP (pc := 14) (t := 11) E lfX12_7 rfl rfl h0 dX12_here_14 hq_2 (fun kq_3 => ?_)
    refine tt_aload_n (pc := 17) (i := 0) (j := 0) E dX12_here_17 rfl rfl ?_
    refine tt_getI (pc := 18) E lfX12_96 rfl h0 dX12_here_18 ?_
    refine tt_iload_n (pc := 21) (i := 1) (j := 1) E dX12_here_21 rfl rfl ?_
    refine tt_iadd (pc := 22) E dX12_here_22 ?_
    obtain ⟨g_4, hf⟩ := gd_some hf
    refine tt_iald (pc := 23) E kq_3 g_4 dX12_here_23 ?_
    refine tt_goto (pc := 24) (tgt := 28) E dX12_here_24 rfl ?_
    exact tt_iret (pc := 28) E hr hlk dX12_here_28 (Nat.le_of_ble_eq_true rfl) (Nat.le_of_ble_eq_true rfl) (pv hf)
set_option maxHeartbeats 4000000 in
theorem cX12_isLetter_ok {l : Launch} {B : Nat} {D : va_G} {cT : Nat → ClassId} {n : Nat} {adK adV : Nat → Nat} {v0 : Int32} {μ : Mem} {res : Int32} (hf : fX12_isLetter v0 μ = some res) : MZ l yX12_isLetter cX12_isLetter 1 (some .boolean) rmX12_isLetter B D cT (XW B adK adV) n [.int v0] μ (res, μ) := by
  refine tt_ofW mtX12_isLetter.1 (Nat.le_of_ble_eq_true rfl) rfl ?_
  intro p e s m below meth c E0 hr hlk
  have E : EE p s m _ c cX12_isLetter 1 RX12 B D cT (XW B adK adV) := E0
  unfold fX12_isLetter at hf
  refine tt_iload_n (pc := 0) (i := 0) (j := 0) E dX12_isLetter_0 rfl rfl ?_
  refine tt_bipush (pc := 1) (v := 97) E dX12_isLetter_1 bc_97 ?_
  refine tt_icmp_lt (pc := 3) (tgt := 16) E dX12_isLetter_3 rfl (fun c_2 => ?_) (fun c_2 => ?_)
  · have hf := ip c_2 hf
    refine tt_iconst (pc := 16) (v := 0) E dX12_isLetter_16 ic_0 ?_
    exact tt_zret (pc := 17) E ((Or.inl rfl)) hr hlk dX12_isLetter_17 (Nat.le_of_ble_eq_true rfl) (Nat.le_of_ble_eq_true rfl) (pv hf)
  · have hf := ine c_2 hf
    refine tt_iload_n (pc := 6) (i := 0) (j := 0) E dX12_isLetter_6 rfl rfl ?_
    refine tt_bipush (pc := 7) (v := 122) E dX12_isLetter_7 bc_122 ?_
    refine tt_icmp_gt (pc := 9) (tgt := 16) E dX12_isLetter_9 rfl (fun c_1 => ?_) (fun c_1 => ?_)
    · have hf := ip c_1 hf
      refine tt_iconst (pc := 16) (v := 0) E dX12_isLetter_16 ic_0 ?_
      exact tt_zret (pc := 17) E ((Or.inl rfl)) hr hlk dX12_isLetter_17 (Nat.le_of_ble_eq_true rfl) (Nat.le_of_ble_eq_true rfl) (pv hf)
    · have hf := ine c_1 hf
      refine tt_iconst (pc := 12) (v := 1) E dX12_isLetter_12 ic_1 ?_
      refine tt_goto (pc := 13) (tgt := 17) E dX12_isLetter_13 rfl ?_
      exact tt_zret (pc := 17) E ((Or.inr rfl)) hr hlk dX12_isLetter_17 (Nat.le_of_ble_eq_true rfl) (Nat.le_of_ble_eq_true rfl) (pv hf)
set_option maxHeartbeats 4000000 in
theorem cX12_isDigit_ok {l : Launch} {B : Nat} {D : va_G} {cT : Nat → ClassId} {n : Nat} {adK adV : Nat → Nat} {v0 : Int32} {μ : Mem} {res : Int32} (hf : fX12_isDigit v0 μ = some res) : MZ l yX12_isDigit cX12_isDigit 1 (some .boolean) rmX12_isDigit B D cT (XW B adK adV) n [.int v0] μ (res, μ) := by
  refine tt_ofW mtX12_isDigit.1 (Nat.le_of_ble_eq_true rfl) rfl ?_
  intro p e s m below meth c E0 hr hlk
  have E : EE p s m _ c cX12_isDigit 1 RX12 B D cT (XW B adK adV) := E0
  unfold fX12_isDigit at hf
  refine tt_iload_n (pc := 0) (i := 0) (j := 0) E dX12_isDigit_0 rfl rfl ?_
  refine tt_bipush (pc := 1) (v := 48) E dX12_isDigit_1 bc_48 ?_
  refine tt_icmp_lt (pc := 3) (tgt := 16) E dX12_isDigit_3 rfl (fun c_2 => ?_) (fun c_2 => ?_)
  · have hf := ip c_2 hf
    refine tt_iconst (pc := 16) (v := 0) E dX12_isDigit_16 ic_0 ?_
    exact tt_zret (pc := 17) E ((Or.inl rfl)) hr hlk dX12_isDigit_17 (Nat.le_of_ble_eq_true rfl) (Nat.le_of_ble_eq_true rfl) (pv hf)
  · have hf := ine c_2 hf
    refine tt_iload_n (pc := 6) (i := 0) (j := 0) E dX12_isDigit_6 rfl rfl ?_
    refine tt_bipush (pc := 7) (v := 57) E dX12_isDigit_7 bc_57 ?_
    refine tt_icmp_gt (pc := 9) (tgt := 16) E dX12_isDigit_9 rfl (fun c_1 => ?_) (fun c_1 => ?_)
    · have hf := ip c_1 hf
      refine tt_iconst (pc := 16) (v := 0) E dX12_isDigit_16 ic_0 ?_
      exact tt_zret (pc := 17) E ((Or.inl rfl)) hr hlk dX12_isDigit_17 (Nat.le_of_ble_eq_true rfl) (Nat.le_of_ble_eq_true rfl) (pv hf)
    · have hf := ine c_1 hf
      refine tt_iconst (pc := 12) (v := 1) E dX12_isDigit_12 ic_1 ?_
      refine tt_goto (pc := 13) (tgt := 17) E dX12_isDigit_13 rfl ?_
      exact tt_zret (pc := 17) E ((Or.inr rfl)) hr hlk dX12_isDigit_17 (Nat.le_of_ble_eq_true rfl) (Nat.le_of_ble_eq_true rfl) (pv hf)
set_option maxHeartbeats 4000000 in
theorem tX12_goOn_76 {p : Program} {l : Launch} {e : Env} {s : State} {m : MethodId} {args : Array Value} {below : List Frame} {meth : Method} {c : Code} {B : Nat} {D : va_G} {cT : Nat → ClassId} {n : Nat} {adK adV : Nat → Nat} {res : Mem} (E : EE p s m args c cX12_goOn 3 RX12 B D cT (XW B adK adV)) (hr : meth.sig.returnType = none) (hlk : meth.locks = false) {o0 : Nat} (h0 : isK n o0 9) : ∀ (fu : Nat) (v2 : Int32) (μ : Mem), zl2 (gX12_goOn_76 o0) fu v2 μ = some res → TT p l e rmX12_goOn s m args below meth c (QV B D cT n below args s res) 3 B D cT n 0 0 μ 76 [(0, .ref (B + o0)), (2, .int v2)] [] := by
  intro fu
  induction fu with
  | zero => intro v2 μ hf; exact absurd hf (fun h => by cases h)
  | succ fu ih =>
    intro v2 μ hf
    have hf : gX12_goOn_76 o0 (zl2 (gX12_goOn_76 o0) fu) v2 μ = some res := hf
    unfold gX12_goOn_76 at hf
    refine tt_aload_n (pc := 76) (i := 0) (j := 0) E dX12_goOn_76 rfl rfl ?_
    refine tt_iload_n (pc := 77) (i := 2) (j := 1) E dX12_goOn_77 rfl rfl ?_
    obtain ⟨r_1, hr_2, hf⟩ := bd_some hf
    have hc_3 := cX12_here_ok (l := l) (B := B) (D := D) (cT := cT) (n := n) (adK := adK) (adV := adV) h0 hr_2
    refine tt_cI (pc := 78) (tt_vi E lmX12_102 mtX12_here hc_3 h0 rfl rfl (Nat.le_of_ble_eq_true rfl) ⟨(Nat.le_of_ble_eq_true rfl), (Nat.le_of_ble_eq_true rfl)⟩ ⟨(Nat.le_of_ble_eq_true rfl), (Nat.le_of_ble_eq_true rfl)⟩ dX12_goOn_78) ?_
    obtain ⟨r_4, hr_5, hf⟩ := bd_some hf
    have hc_6 := cX12_isLetter_ok (l := l) (B := B) (D := D) (cT := cT) (n := n) (adK := adK) (adV := adV) hr_5
    refine tt_cZ (pc := 81) (tt_si E lmX12_119 mtX12_isLetter hc_6 rfl rfl (Nat.le_of_ble_eq_true rfl) ⟨(Nat.le_of_ble_eq_true rfl), (Nat.le_of_ble_eq_true rfl)⟩ ⟨(Nat.le_of_ble_eq_true rfl), (Nat.le_of_ble_eq_true rfl)⟩ dX12_goOn_81) (fun z_7 => ?_)
    refine tt_if_eq (pc := 84) (tgt := 121) E dX12_goOn_84 rfl (fun c_20 => ?_) (fun c_20 => ?_)
    · have hf := ip c_20 hf
      refine tt_aload_n (pc := 121) (i := 0) (j := 0) E dX12_goOn_121 rfl rfl ?_
      refine tt_iload_n (pc := 122) (i := 2) (j := 1) E dX12_goOn_122 rfl rfl ?_
      refine tt_bipush (pc := 123) (v := 8) E dX12_goOn_123 bc_8 ?_
      refine tt_icmp_le (pc := 125) (tgt := 132) E dX12_goOn_125 rfl (fun c_12 => ?_) (fun c_12 => ?_)
      · have hf := ip c_12 hf
        refine tt_iconst (pc := 132) (v := 1) E dX12_goOn_132 ic_1 ?_
        refine tt_putI (pc := 133) E lfX12_116 rfl h0 dX12_goOn_133 (tt_nmM hf (fun m_8 hf => ?_))
        refine tt_goto (pc := 136) (tgt := 239) E dX12_goOn_136 rfl ?_
        refine tt_aload_n (pc := 239) (i := 0) (j := 0) E dX12_goOn_239 rfl rfl ?_
        refine tt_dup (pc := 240) E dX12_goOn_240 rfl ?_
        refine tt_getI (pc := 241) E lfX12_96 rfl h0 dX12_goOn_241 ?_
        refine tt_iload_n (pc := 244) (i := 2) (j := 1) E dX12_goOn_244 rfl rfl ?_
        refine tt_iadd (pc := 245) E dX12_goOn_245 ?_
        refine tt_putI (pc := 246) E lfX12_96 rfl h0 dX12_goOn_246 (tt_nmM hf (fun m_9 hf => ?_))
        exact tt_vret (pc := 249) E hr hlk dX12_goOn_249 (Nat.le_of_ble_eq_true rfl) (Nat.le_of_ble_eq_true rfl) hf
      · have hf := ine c_12 hf
        refine tt_iconst (pc := 128) (v := 4) E dX12_goOn_128 ic_4 ?_
        refine tt_goto (pc := 129) (tgt := 133) E dX12_goOn_129 rfl ?_
        refine tt_putI (pc := 133) E lfX12_116 rfl h0 dX12_goOn_133 (tt_nmM hf (fun m_10 hf => ?_))
        refine tt_goto (pc := 136) (tgt := 239) E dX12_goOn_136 rfl ?_
        refine tt_aload_n (pc := 239) (i := 0) (j := 0) E dX12_goOn_239 rfl rfl ?_
        refine tt_dup (pc := 240) E dX12_goOn_240 rfl ?_
        refine tt_getI (pc := 241) E lfX12_96 rfl h0 dX12_goOn_241 ?_
        refine tt_iload_n (pc := 244) (i := 2) (j := 1) E dX12_goOn_244 rfl rfl ?_
        refine tt_iadd (pc := 245) E dX12_goOn_245 ?_
        refine tt_putI (pc := 246) E lfX12_96 rfl h0 dX12_goOn_246 (tt_nmM hf (fun m_11 hf => ?_))
        exact tt_vret (pc := 249) E hr hlk dX12_goOn_249 (Nat.le_of_ble_eq_true rfl) (Nat.le_of_ble_eq_true rfl) hf
    · have hf := ine c_20 hf
      refine tt_iload_n (pc := 87) (i := 2) (j := 1) E dX12_goOn_87 rfl rfl ?_
      refine tt_bipush (pc := 88) (v := 8) E dX12_goOn_88 bc_8 ?_
      refine tt_icmp_ge (pc := 90) (tgt := 115) E dX12_goOn_90 rfl (fun c_19 => ?_) (fun c_19 => ?_)
      · have hf := ip c_19 hf
        obtain ⟨v_13, ev_13, hf⟩ := nm_ex hf
        refine tt_iinc (pc := 115) (i := 2) (j := 1) (lv' := [(2, .int v_13), (0, .ref (B + o0))]) E dX12_goOn_115 rfl (ev_13).symm (Nat.le_of_ble_eq_true rfl) rfl ?_
        refine tt_goto (pc := 118) (tgt := 76) E dX12_goOn_118 rfl ?_
        refine tt_sub [1, 0] (lv' := [(0, .ref (B + o0)), (2, .int v_13)]) rfl ?_
        exact ih v_13 μ hf
      · have hf := ine c_19 hf
        refine tt_aload_n (pc := 93) (i := 0) (j := 0) E dX12_goOn_93 rfl rfl ?_
        refine tt_aload_n (pc := 94) (i := 0) (j := 0) E dX12_goOn_94 rfl rfl ?_
        refine tt_getJ (pc := 95) E lfX12_109 rfl h0 dX12_goOn_95 ?_
        refine tt_iconst (pc := 98) (v := 5) E dX12_goOn_98 ic_5 ?_
        refine tt_lshl (pc := 99) E dX12_goOn_99 ?_
        refine tt_aload_n (pc := 100) (i := 0) (j := 0) E dX12_goOn_100 rfl rfl ?_
        refine tt_iload_n (pc := 101) (i := 2) (j := 1) E dX12_goOn_101 rfl rfl ?_
        obtain ⟨r_14, hr_15, hf⟩ := bd_some hf
        have hc_16 := cX12_here_ok (l := l) (B := B) (D := D) (cT := cT) (n := n) (adK := adK) (adV := adV) h0 hr_15
        refine tt_cI (pc := 102) (tt_vi E lmX12_102 mtX12_here hc_16 h0 rfl rfl (Nat.le_of_ble_eq_true rfl) ⟨(Nat.le_of_ble_eq_true rfl), (Nat.le_of_ble_eq_true rfl)⟩ ⟨(Nat.le_of_ble_eq_true rfl), (Nat.le_of_ble_eq_true rfl)⟩ dX12_goOn_102) ?_
        refine tt_bipush (pc := 105) (v := 97) E dX12_goOn_105 bc_97 ?_
        refine tt_isub (pc := 107) E dX12_goOn_107 ?_
        refine tt_iconst (pc := 108) (v := 1) E dX12_goOn_108 ic_1 ?_
        refine tt_iadd (pc := 109) E dX12_goOn_109 ?_
        refine tt_i2l (pc := 110) E dX12_goOn_110 ?_
        refine tt_lor (pc := 111) E dX12_goOn_111 ?_
        refine tt_putJ (pc := 112) E lfX12_109 rfl h0 dX12_goOn_112 (tt_nmM hf (fun m_17 hf => ?_))
        obtain ⟨v_18, ev_18, hf⟩ := nm_ex hf
        refine tt_iinc (pc := 115) (i := 2) (j := 1) (lv' := [(2, .int v_18), (0, .ref (B + o0))]) E dX12_goOn_115 rfl (ev_18).symm (Nat.le_of_ble_eq_true rfl) rfl ?_
        refine tt_goto (pc := 118) (tgt := 76) E dX12_goOn_118 rfl ?_
        refine tt_sub [1, 0] (lv' := [(0, .ref (B + o0)), (2, .int v_18)]) rfl ?_
        exact ih v_18 m_17 hf
set_option maxHeartbeats 4000000 in
theorem tX12_goOn_146 {p : Program} {l : Launch} {e : Env} {s : State} {m : MethodId} {args : Array Value} {below : List Frame} {meth : Method} {c : Code} {B : Nat} {D : va_G} {cT : Nat → ClassId} {n : Nat} {adK adV : Nat → Nat} {res : Mem} (E : EE p s m args c cX12_goOn 3 RX12 B D cT (XW B adK adV)) (hr : meth.sig.returnType = none) (hlk : meth.locks = false) {o0 : Nat} (h0 : isK n o0 9) : ∀ (fu : Nat) (v2 : Int32) (μ : Mem), zl2 (gX12_goOn_146 o0) fu v2 μ = some res → TT p l e rmX12_goOn s m args below meth c (QV B D cT n below args s res) 3 B D cT n 0 0 μ 146 [(0, .ref (B + o0)), (2, .int v2)] [] := by
  intro fu
  induction fu with
  | zero => intro v2 μ hf; exact absurd hf (fun h => by cases h)
  | succ fu ih =>
    intro v2 μ hf
    have hf : gX12_goOn_146 o0 (zl2 (gX12_goOn_146 o0) fu) v2 μ = some res := hf
    unfold gX12_goOn_146 at hf
    refine tt_aload_n (pc := 146) (i := 0) (j := 0) E dX12_goOn_146 rfl rfl ?_
    refine tt_iload_n (pc := 147) (i := 2) (j := 1) E dX12_goOn_147 rfl rfl ?_
    obtain ⟨r_1, hr_2, hf⟩ := bd_some hf
    have hc_3 := cX12_here_ok (l := l) (B := B) (D := D) (cT := cT) (n := n) (adK := adK) (adV := adV) h0 hr_2
    refine tt_cI (pc := 148) (tt_vi E lmX12_102 mtX12_here hc_3 h0 rfl rfl (Nat.le_of_ble_eq_true rfl) ⟨(Nat.le_of_ble_eq_true rfl), (Nat.le_of_ble_eq_true rfl)⟩ ⟨(Nat.le_of_ble_eq_true rfl), (Nat.le_of_ble_eq_true rfl)⟩ dX12_goOn_148) ?_
    obtain ⟨r_4, hr_5, hf⟩ := bd_some hf
    have hc_6 := cX12_isDigit_ok (l := l) (B := B) (D := D) (cT := cT) (n := n) (adK := adK) (adV := adV) hr_5
    refine tt_cZ (pc := 151) (tt_si E lmX12_123 mtX12_isDigit hc_6 rfl rfl (Nat.le_of_ble_eq_true rfl) ⟨(Nat.le_of_ble_eq_true rfl), (Nat.le_of_ble_eq_true rfl)⟩ ⟨(Nat.le_of_ble_eq_true rfl), (Nat.le_of_ble_eq_true rfl)⟩ dX12_goOn_151) (fun z_7 => ?_)
    refine tt_if_eq (pc := 154) (tgt := 188) E dX12_goOn_154 rfl (fun c_20 => ?_) (fun c_20 => ?_)
    · have hf := ip c_20 hf
      refine tt_aload_n (pc := 188) (i := 0) (j := 0) E dX12_goOn_188 rfl rfl ?_
      refine tt_iload_n (pc := 189) (i := 2) (j := 1) E dX12_goOn_189 rfl rfl ?_
      refine tt_iconst (pc := 190) (v := 3) E dX12_goOn_190 ic_3 ?_
      refine tt_icmp_le (pc := 191) (tgt := 198) E dX12_goOn_191 rfl (fun c_12 => ?_) (fun c_12 => ?_)
      · have hf := ip c_12 hf
        refine tt_iconst (pc := 198) (v := 2) E dX12_goOn_198 ic_2 ?_
        refine tt_putI (pc := 199) E lfX12_116 rfl h0 dX12_goOn_199 (tt_nmM hf (fun m_8 hf => ?_))
        refine tt_goto (pc := 202) (tgt := 239) E dX12_goOn_202 rfl ?_
        refine tt_aload_n (pc := 239) (i := 0) (j := 0) E dX12_goOn_239 rfl rfl ?_
        refine tt_dup (pc := 240) E dX12_goOn_240 rfl ?_
        refine tt_getI (pc := 241) E lfX12_96 rfl h0 dX12_goOn_241 ?_
        refine tt_iload_n (pc := 244) (i := 2) (j := 1) E dX12_goOn_244 rfl rfl ?_
        refine tt_iadd (pc := 245) E dX12_goOn_245 ?_
        refine tt_putI (pc := 246) E lfX12_96 rfl h0 dX12_goOn_246 (tt_nmM hf (fun m_9 hf => ?_))
        exact tt_vret (pc := 249) E hr hlk dX12_goOn_249 (Nat.le_of_ble_eq_true rfl) (Nat.le_of_ble_eq_true rfl) hf
      · have hf := ine c_12 hf
        refine tt_iconst (pc := 194) (v := 4) E dX12_goOn_194 ic_4 ?_
        refine tt_goto (pc := 195) (tgt := 199) E dX12_goOn_195 rfl ?_
        refine tt_putI (pc := 199) E lfX12_116 rfl h0 dX12_goOn_199 (tt_nmM hf (fun m_10 hf => ?_))
        refine tt_goto (pc := 202) (tgt := 239) E dX12_goOn_202 rfl ?_
        refine tt_aload_n (pc := 239) (i := 0) (j := 0) E dX12_goOn_239 rfl rfl ?_
        refine tt_dup (pc := 240) E dX12_goOn_240 rfl ?_
        refine tt_getI (pc := 241) E lfX12_96 rfl h0 dX12_goOn_241 ?_
        refine tt_iload_n (pc := 244) (i := 2) (j := 1) E dX12_goOn_244 rfl rfl ?_
        refine tt_iadd (pc := 245) E dX12_goOn_245 ?_
        refine tt_putI (pc := 246) E lfX12_96 rfl h0 dX12_goOn_246 (tt_nmM hf (fun m_11 hf => ?_))
        exact tt_vret (pc := 249) E hr hlk dX12_goOn_249 (Nat.le_of_ble_eq_true rfl) (Nat.le_of_ble_eq_true rfl) hf
    · have hf := ine c_20 hf
      refine tt_iload_n (pc := 157) (i := 2) (j := 1) E dX12_goOn_157 rfl rfl ?_
      refine tt_iconst (pc := 158) (v := 3) E dX12_goOn_158 ic_3 ?_
      refine tt_icmp_ge (pc := 159) (tgt := 182) E dX12_goOn_159 rfl (fun c_19 => ?_) (fun c_19 => ?_)
      · have hf := ip c_19 hf
        obtain ⟨v_13, ev_13, hf⟩ := nm_ex hf
        refine tt_iinc (pc := 182) (i := 2) (j := 1) (lv' := [(2, .int v_13), (0, .ref (B + o0))]) E dX12_goOn_182 rfl (ev_13).symm (Nat.le_of_ble_eq_true rfl) rfl ?_
        refine tt_goto (pc := 185) (tgt := 146) E dX12_goOn_185 rfl ?_
        refine tt_sub [1, 0] (lv' := [(0, .ref (B + o0)), (2, .int v_13)]) rfl ?_
        exact ih v_13 μ hf
      · have hf := ine c_19 hf
        refine tt_aload_n (pc := 162) (i := 0) (j := 0) E dX12_goOn_162 rfl rfl ?_
        refine tt_bipush (pc := 163) (v := 10) E dX12_goOn_163 bc_10 ?_
        refine tt_aload_n (pc := 165) (i := 0) (j := 0) E dX12_goOn_165 rfl rfl ?_
        refine tt_getI (pc := 166) E lfX12_113 rfl h0 dX12_goOn_166 ?_
        refine tt_imul (pc := 169) E dX12_goOn_169 ?_
        refine tt_aload_n (pc := 170) (i := 0) (j := 0) E dX12_goOn_170 rfl rfl ?_
        refine tt_iload_n (pc := 171) (i := 2) (j := 1) E dX12_goOn_171 rfl rfl ?_
        obtain ⟨r_14, hr_15, hf⟩ := bd_some hf
        have hc_16 := cX12_here_ok (l := l) (B := B) (D := D) (cT := cT) (n := n) (adK := adK) (adV := adV) h0 hr_15
        refine tt_cI (pc := 172) (tt_vi E lmX12_102 mtX12_here hc_16 h0 rfl rfl (Nat.le_of_ble_eq_true rfl) ⟨(Nat.le_of_ble_eq_true rfl), (Nat.le_of_ble_eq_true rfl)⟩ ⟨(Nat.le_of_ble_eq_true rfl), (Nat.le_of_ble_eq_true rfl)⟩ dX12_goOn_172) ?_
        refine tt_iadd (pc := 175) E dX12_goOn_175 ?_
        refine tt_bipush (pc := 176) (v := 48) E dX12_goOn_176 bc_48 ?_
        refine tt_isub (pc := 178) E dX12_goOn_178 ?_
        refine tt_putI (pc := 179) E lfX12_113 rfl h0 dX12_goOn_179 (tt_nmM hf (fun m_17 hf => ?_))
        obtain ⟨v_18, ev_18, hf⟩ := nm_ex hf
        refine tt_iinc (pc := 182) (i := 2) (j := 1) (lv' := [(2, .int v_18), (0, .ref (B + o0))]) E dX12_goOn_182 rfl (ev_18).symm (Nat.le_of_ble_eq_true rfl) rfl ?_
        refine tt_goto (pc := 185) (tgt := 146) E dX12_goOn_185 rfl ?_
        refine tt_sub [1, 0] (lv' := [(0, .ref (B + o0)), (2, .int v_18)]) rfl ?_
        exact ih v_18 m_17 hf
set_option maxHeartbeats 4000000 in
theorem tX12_goOn_229 {p : Program} {l : Launch} {e : Env} {s : State} {m : MethodId} {args : Array Value} {below : List Frame} {meth : Method} {c : Code} {B : Nat} {D : va_G} {cT : Nat → ClassId} {n : Nat} {adK adV : Nat → Nat} {res : Mem} (E : EE p s m args c cX12_goOn 3 RX12 B D cT (XW B adK adV)) (hr : meth.sig.returnType = none) (hlk : meth.locks = false) {o0 : Nat} {v1 : Int32} {ot0 : Nat} {vt1 : Int32} (h0 : isK n o0 9) (ht0 : isK n ot0 9) {μ : Mem} (hf : fX12_goOn_229 o0 v1 ot0 vt1 μ = some res) : TT p l e rmX12_goOn s m args below meth c (QV B D cT n below args s res) 3 B D cT n 0 0 μ 229 [(0, .ref (B + o0)), (1, .int v1)] [.int vt1, .ref (B + ot0)] := by
  unfold fX12_goOn_229 at hf
  refine tt_putI (pc := 229) E lfX12_116 rfl ht0 dX12_goOn_229 (tt_nmM hf (fun m_1 hf => ?_))
  refine tt_aload_n (pc := 232) (i := 0) (j := 0) E dX12_goOn_232 rfl rfl ?_
  refine tt_iload_n (pc := 233) (i := 1) (j := 1) E dX12_goOn_233 rfl rfl ?_
  refine tt_putI (pc := 234) E lfX12_113 rfl h0 dX12_goOn_234 (tt_nmM hf (fun m_2 hf => ?_))
  refine tt_iconst (pc := 237) (v := 1) E dX12_goOn_237 ic_1 ?_
  refine tt_istore_n (pc := 238) (i := 2) (lv' := [(2, .int 1), (0, .ref (B + o0)), (1, .int v1)]) E dX12_goOn_238 rfl (Nat.le_of_ble_eq_true rfl) rfl ?_
  refine tt_aload_n (pc := 239) (i := 0) (j := 1) E dX12_goOn_239 rfl rfl ?_
  refine tt_dup (pc := 240) E dX12_goOn_240 rfl ?_
  refine tt_getI (pc := 241) E lfX12_96 rfl h0 dX12_goOn_241 ?_
  refine tt_iload_n (pc := 244) (i := 2) (j := 0) E dX12_goOn_244 rfl rfl ?_
  refine tt_iadd (pc := 245) E dX12_goOn_245 ?_
  refine tt_putI (pc := 246) E lfX12_96 rfl h0 dX12_goOn_246 (tt_nmM hf (fun m_3 hf => ?_))
  exact tt_vret (pc := 249) E hr hlk dX12_goOn_249 (Nat.le_of_ble_eq_true rfl) (Nat.le_of_ble_eq_true rfl) hf
set_option maxHeartbeats 4000000 in
theorem tX12_goOn_224 {p : Program} {l : Launch} {e : Env} {s : State} {m : MethodId} {args : Array Value} {below : List Frame} {meth : Method} {c : Code} {B : Nat} {D : va_G} {cT : Nat → ClassId} {n : Nat} {adK adV : Nat → Nat} {res : Mem} (E : EE p s m args c cX12_goOn 3 RX12 B D cT (XW B adK adV)) (hr : meth.sig.returnType = none) (hlk : meth.locks = false) {o0 : Nat} {v1 : Int32} {ot0 : Nat} (h0 : isK n o0 9) (ht0 : isK n ot0 9) {μ : Mem} (hf : fX12_goOn_224 o0 v1 ot0 μ = some res) : TT p l e rmX12_goOn s m args below meth c (QV B D cT n below args s res) 3 B D cT n 0 0 μ 224 [(0, .ref (B + o0)), (1, .int v1)] [.ref (B + ot0)] := by
  unfold fX12_goOn_224 at hf
  refine tt_iconst (pc := 224) (v := 3) E dX12_goOn_224 ic_3 ?_
  refine tt_goto (pc := 225) (tgt := 229) E dX12_goOn_225 rfl ?_
  exact tX12_goOn_229 E hr hlk h0 ht0 hf
set_option maxHeartbeats 4000000 in
theorem tX12_goOn_0 {p : Program} {l : Launch} {e : Env} {s : State} {m : MethodId} {args : Array Value} {below : List Frame} {meth : Method} {c : Code} {B : Nat} {D : va_G} {cT : Nat → ClassId} {n : Nat} {adK adV : Nat → Nat} {res : Mem} (E : EE p s m args c cX12_goOn 3 RX12 B D cT (XW B adK adV)) (hr : meth.sig.returnType = none) (hlk : meth.locks = false) {o0 : Nat} (h0 : isK n o0 9) : ∀ (fu : Nat) (μ : Mem), zl1 (gX12_goOn_0 o0) fu μ = some res → TT p l e rmX12_goOn s m args below meth c (QV B D cT n below args s res) 3 B D cT n 0 0 μ 0 [(0, .ref (B + o0))] [] := by
  intro fu
  induction fu with
  | zero => intro μ hf; exact absurd hf (fun h => by cases h)
  | succ fu ih =>
    intro μ hf
    have hf : gX12_goOn_0 o0 (zl1 (gX12_goOn_0 o0) fu) μ = some res := hf
    unfold gX12_goOn_0 at hf
    refine tt_aload_n (pc := 0) (i := 0) (j := 0) E dX12_goOn_0 rfl rfl ?_
    refine tt_iconst (pc := 1) (v := 0) E dX12_goOn_1 ic_0 ?_
    obtain ⟨r_1, hr_2, hf⟩ := bd_some hf
    have hc_3 := cX12_here_ok (l := l) (B := B) (D := D) (cT := cT) (n := n) (adK := adK) (adV := adV) h0 hr_2
    refine tt_cI (pc := 2) (tt_vi E lmX12_102 mtX12_here hc_3 h0 rfl rfl (Nat.le_of_ble_eq_true rfl) ⟨(Nat.le_of_ble_eq_true rfl), (Nat.le_of_ble_eq_true rfl)⟩ ⟨(Nat.le_of_ble_eq_true rfl), (Nat.le_of_ble_eq_true rfl)⟩ dX12_goOn_2) ?_
    refine tt_bipush (pc := 5) (v := 32) E dX12_goOn_5 bc_32 ?_
    refine tt_icmp_eq (pc := 7) (tgt := 20) E dX12_goOn_7 rfl (fun c_31 => ?_) (fun c_31 => ?_)
    · have hf := ip c_31 hf
      refine tt_aload_n (pc := 20) (i := 0) (j := 0) E dX12_goOn_20 rfl rfl ?_
      refine tt_dup (pc := 21) E dX12_goOn_21 rfl ?_
      refine tt_getI (pc := 22) E lfX12_96 rfl h0 dX12_goOn_22 ?_
      refine tt_iconst (pc := 25) (v := 1) E dX12_goOn_25 ic_1 ?_
      refine tt_iadd (pc := 26) E dX12_goOn_26 ?_
      refine tt_putI (pc := 27) E lfX12_96 rfl h0 dX12_goOn_27 (tt_nmM hf (fun m_4 hf => ?_))
      refine tt_goto (pc := 30) (tgt := 0) E dX12_goOn_30 rfl ?_
      exact ih m_4 hf
    · have hf := ine c_31 hf
      refine tt_aload_n (pc := 10) (i := 0) (j := 0) E dX12_goOn_10 rfl rfl ?_
      refine tt_iconst (pc := 11) (v := 0) E dX12_goOn_11 ic_0 ?_
      obtain ⟨r_5, hr_6, hf⟩ := bd_some hf
      have hc_7 := cX12_here_ok (l := l) (B := B) (D := D) (cT := cT) (n := n) (adK := adK) (adV := adV) h0 hr_6
      refine tt_cI (pc := 12) (tt_vi E lmX12_102 mtX12_here hc_7 h0 rfl rfl (Nat.le_of_ble_eq_true rfl) ⟨(Nat.le_of_ble_eq_true rfl), (Nat.le_of_ble_eq_true rfl)⟩ ⟨(Nat.le_of_ble_eq_true rfl), (Nat.le_of_ble_eq_true rfl)⟩ dX12_goOn_12) ?_
      refine tt_bipush (pc := 15) (v := 10) E dX12_goOn_15 bc_10 ?_
      refine tt_icmp_ne (pc := 17) (tgt := 33) E dX12_goOn_17 rfl (fun c_30 => ?_) (fun c_30 => ?_)
      · have hf := ine c_30 hf
        refine tt_aload_n (pc := 33) (i := 0) (j := 0) E dX12_goOn_33 rfl rfl ?_
        refine tt_aload_n (pc := 34) (i := 0) (j := 0) E dX12_goOn_34 rfl rfl ?_
        refine tt_getI (pc := 35) E lfX12_96 rfl h0 dX12_goOn_35 ?_
        refine tt_putI (pc := 38) E lfX12_106 rfl h0 dX12_goOn_38 (tt_nmM hf (fun m_8 hf => ?_))
        refine tt_aload_n (pc := 41) (i := 0) (j := 0) E dX12_goOn_41 rfl rfl ?_
        refine tt_lconst (pc := 42) (v := 0) E dX12_goOn_42 lc_0 ?_
        refine tt_putJ (pc := 43) E lfX12_109 rfl h0 dX12_goOn_43 (tt_nmM hf (fun m_9 hf => ?_))
        refine tt_aload_n (pc := 46) (i := 0) (j := 0) E dX12_goOn_46 rfl rfl ?_
        refine tt_iconst (pc := 47) (v := 0) E dX12_goOn_47 ic_0 ?_
        refine tt_putI (pc := 48) E lfX12_113 rfl h0 dX12_goOn_48 (tt_nmM hf (fun m_10 hf => ?_))
        refine tt_aload_n (pc := 51) (i := 0) (j := 0) E dX12_goOn_51 rfl rfl ?_
        refine tt_iconst (pc := 52) (v := 0) E dX12_goOn_52 ic_0 ?_
        obtain ⟨r_11, hr_12, hf⟩ := bd_some hf
        have hc_13 := cX12_here_ok (l := l) (B := B) (D := D) (cT := cT) (n := n) (adK := adK) (adV := adV) h0 hr_12
        refine tt_cI (pc := 53) (tt_vi E lmX12_102 mtX12_here hc_13 h0 rfl rfl (Nat.le_of_ble_eq_true rfl) ⟨(Nat.le_of_ble_eq_true rfl), (Nat.le_of_ble_eq_true rfl)⟩ ⟨(Nat.le_of_ble_eq_true rfl), (Nat.le_of_ble_eq_true rfl)⟩ dX12_goOn_53) ?_
        refine tt_istore_n (pc := 56) (i := 1) (lv' := [(1, .int r_11), (0, .ref (B + o0))]) E dX12_goOn_56 rfl (Nat.le_of_ble_eq_true rfl) rfl ?_
        refine tt_iconst (pc := 57) (v := 0) E dX12_goOn_57 ic_0 ?_
        refine tt_istore_n (pc := 58) (i := 2) (lv' := [(2, .int 0), (1, .int r_11), (0, .ref (B + o0))]) E dX12_goOn_58 rfl (Nat.le_of_ble_eq_true rfl) rfl ?_
        refine tt_iload_n (pc := 59) (i := 1) (j := 1) E dX12_goOn_59 rfl rfl ?_
        refine tt_if_ge (pc := 60) (tgt := 69) E dX12_goOn_60 rfl (fun c_28 => ?_) (fun c_28 => ?_)
        · have hf := ip c_28 hf
          refine tt_iload_n (pc := 69) (i := 1) (j := 1) E dX12_goOn_69 rfl rfl ?_
          obtain ⟨r_14, hr_15, hf⟩ := bd_some hf
          have hc_16 := cX12_isLetter_ok (l := l) (B := B) (D := D) (cT := cT) (n := n) (adK := adK) (adV := adV) hr_15
          refine tt_cZ (pc := 70) (tt_si E lmX12_119 mtX12_isLetter hc_16 rfl rfl (Nat.le_of_ble_eq_true rfl) ⟨(Nat.le_of_ble_eq_true rfl), (Nat.le_of_ble_eq_true rfl)⟩ ⟨(Nat.le_of_ble_eq_true rfl), (Nat.le_of_ble_eq_true rfl)⟩ dX12_goOn_70) (fun z_17 => ?_)
          refine tt_if_eq (pc := 73) (tgt := 139) E dX12_goOn_73 rfl (fun c_26 => ?_) (fun c_26 => ?_)
          · have hf := ip c_26 hf
            refine tt_iload_n (pc := 139) (i := 1) (j := 1) E dX12_goOn_139 rfl rfl ?_
            obtain ⟨r_18, hr_19, hf⟩ := bd_some hf
            have hc_20 := cX12_isDigit_ok (l := l) (B := B) (D := D) (cT := cT) (n := n) (adK := adK) (adV := adV) hr_19
            refine tt_cZ (pc := 140) (tt_si E lmX12_123 mtX12_isDigit hc_20 rfl rfl (Nat.le_of_ble_eq_true rfl) ⟨(Nat.le_of_ble_eq_true rfl), (Nat.le_of_ble_eq_true rfl)⟩ ⟨(Nat.le_of_ble_eq_true rfl), (Nat.le_of_ble_eq_true rfl)⟩ dX12_goOn_140) (fun z_21 => ?_)
            refine tt_if_eq (pc := 143) (tgt := 205) E dX12_goOn_143 rfl (fun c_25 => ?_) (fun c_25 => ?_)
            · have hf := ip c_25 hf
              refine tt_aload_n (pc := 205) (i := 0) (j := 2) E dX12_goOn_205 rfl rfl ?_
              refine tt_iload_n (pc := 206) (i := 1) (j := 1) E dX12_goOn_206 rfl rfl ?_
              refine tt_bipush (pc := 207) (v := 59) E dX12_goOn_207 bc_59 ?_
              refine tt_icmp_eq (pc := 209) (tgt := 224) E dX12_goOn_209 rfl (fun c_24 => ?_) (fun c_24 => ?_)
              · have hf := ip c_24 hf
                refine tt_sub [2, 1] (lv' := [(0, .ref (B + o0)), (1, .int r_11)]) rfl ?_
                exact tX12_goOn_224 E hr hlk h0 h0 hf
              · have hf := ine c_24 hf
                refine tt_iload_n (pc := 212) (i := 1) (j := 1) E dX12_goOn_212 rfl rfl ?_
                refine tt_bipush (pc := 213) (v := 40) E dX12_goOn_213 bc_40 ?_
                refine tt_icmp_eq (pc := 215) (tgt := 224) E dX12_goOn_215 rfl (fun c_23 => ?_) (fun c_23 => ?_)
                · have hf := ip c_23 hf
                  refine tt_sub [2, 1] (lv' := [(0, .ref (B + o0)), (1, .int r_11)]) rfl ?_
                  exact tX12_goOn_224 E hr hlk h0 h0 hf
                · have hf := ine c_23 hf
                  refine tt_iload_n (pc := 218) (i := 1) (j := 1) E dX12_goOn_218 rfl rfl ?_
                  refine tt_bipush (pc := 219) (v := 41) E dX12_goOn_219 bc_41 ?_
                  refine tt_icmp_ne (pc := 221) (tgt := 228) E dX12_goOn_221 rfl (fun c_22 => ?_) (fun c_22 => ?_)
                  · have hf := ine c_22 hf
                    refine tt_iconst (pc := 228) (v := 4) E dX12_goOn_228 ic_4 ?_
                    refine tt_sub [2, 1] (lv' := [(0, .ref (B + o0)), (1, .int r_11)]) rfl ?_
                    exact tX12_goOn_229 E hr hlk h0 h0 hf
                  · have hf := ip c_22 hf
                    refine tt_sub [2, 1] (lv' := [(0, .ref (B + o0)), (1, .int r_11)]) rfl ?_
                    exact tX12_goOn_224 E hr hlk h0 h0 hf
            · have hf := ine c_25 hf
              refine tt_sub [2, 0] (lv' := [(0, .ref (B + o0)), (2, .int 0)]) rfl ?_
              exact tX12_goOn_146 E hr hlk h0 FU 0 m_10 hf
          · have hf := ine c_26 hf
            refine tt_sub [2, 0] (lv' := [(0, .ref (B + o0)), (2, .int 0)]) rfl ?_
            exact tX12_goOn_76 E hr hlk h0 FU 0 m_10 hf
        · have hf := ine c_28 hf
          refine tt_aload_n (pc := 63) (i := 0) (j := 2) E dX12_goOn_63 rfl rfl ?_
          refine tt_iconst (pc := 64) (v := 0) E dX12_goOn_64 ic_0 ?_
          refine tt_putI (pc := 65) E lfX12_116 rfl h0 dX12_goOn_65 (tt_nmM hf (fun m_27 hf => ?_))
          exact tt_vret (pc := 68) E hr hlk dX12_goOn_68 (Nat.le_of_ble_eq_true rfl) (Nat.le_of_ble_eq_true rfl) hf
      · have hf := ip c_30 hf
        refine tt_aload_n (pc := 20) (i := 0) (j := 0) E dX12_goOn_20 rfl rfl ?_
        refine tt_dup (pc := 21) E dX12_goOn_21 rfl ?_
        refine tt_getI (pc := 22) E lfX12_96 rfl h0 dX12_goOn_22 ?_
        refine tt_iconst (pc := 25) (v := 1) E dX12_goOn_25 ic_1 ?_
        refine tt_iadd (pc := 26) E dX12_goOn_26 ?_
        refine tt_putI (pc := 27) E lfX12_96 rfl h0 dX12_goOn_27 (tt_nmM hf (fun m_29 hf => ?_))
        refine tt_goto (pc := 30) (tgt := 0) E dX12_goOn_30 rfl ?_
        exact ih m_29 hf
set_option maxHeartbeats 4000000 in
theorem cX12_goOn_ok {l : Launch} {B : Nat} {D : va_G} {cT : Nat → ClassId} {n : Nat} {adK adV : Nat → Nat} {o0 : Nat} {μ : Mem} {res : Mem} (h0 : isK n o0 9) (hf : fX12_goOn o0 μ = some res) : MV l yX12_goOn cX12_goOn 3 (none) rmX12_goOn B D cT (XW B adK adV) n [.ref (B + o0)] μ res := by
  refine tt_ofW mtX12_goOn.1 (Nat.le_of_ble_eq_true rfl) rfl ?_
  intro p e s m below meth c E0 hr hlk
  have E : EE p s m _ c cX12_goOn 3 RX12 B D cT (XW B adK adV) := E0
  unfold fX12_goOn at hf
  exact tX12_goOn_0 E hr hlk h0 FU μ hf
set_option maxHeartbeats 4000000 in
theorem cX12_wrong_ok {l : Launch} {B : Nat} {D : va_G} {cT : Nat → ClassId} {n : Nat} {adK adV : Nat → Nat} {o0 : Nat} {v1 : Int32} {μ : Mem} {res : Mem} (h0 : isK n o0 9) (hf : fX12_wrong o0 v1 μ = some res) : MV l yX12_wrong cX12_wrong 2 (none) rmX12_wrong B D cT (XW B adK adV) n [.ref (B + o0), .int v1] μ res := by
  refine tt_ofW mtX12_wrong.1 (Nat.le_of_ble_eq_true rfl) rfl ?_
  intro p e s m below meth c E0 hr hlk
  have E : EE p s m _ c cX12_wrong 2 RX12 B D cT (XW B adK adV) := E0
  unfold fX12_wrong at hf
  refine tt_aload_n (pc := 0) (i := 0) (j := 0) E dX12_wrong_0 rfl rfl ?_
  refine tt_getI (pc := 1) E lfX12_126 rfl h0 dX12_wrong_1 ?_
  refine tt_if_le (pc := 4) (tgt := 8) E dX12_wrong_4 rfl (fun c_6 => ?_) (fun c_6 => ?_)
  · have hf := ip c_6 hf
    refine tt_aload_n (pc := 8) (i := 0) (j := 0) E dX12_wrong_8 rfl rfl ?_
    refine tt_aload_n (pc := 9) (i := 0) (j := 0) E dX12_wrong_9 rfl rfl ?_
    refine tt_getI (pc := 10) E lfX12_116 rfl h0 dX12_wrong_10 ?_
    refine tt_iconst (pc := 13) (v := 4) E dX12_wrong_13 ic_4 ?_
    refine tt_icmp_ne (pc := 14) (tgt := 21) E dX12_wrong_14 rfl (fun c_5 => ?_) (fun c_5 => ?_)
    · have hf := ine c_5 hf
      refine tt_iload_n (pc := 21) (i := 1) (j := 1) E dX12_wrong_21 rfl rfl ?_
      refine tt_putI (pc := 22) E lfX12_126 rfl h0 dX12_wrong_22 (tt_nmM hf (fun m_1 hf => ?_))
      refine tt_aload_n (pc := 25) (i := 0) (j := 0) E dX12_wrong_25 rfl rfl ?_
      refine tt_aload_n (pc := 26) (i := 0) (j := 0) E dX12_wrong_26 rfl rfl ?_
      refine tt_getI (pc := 27) E lfX12_106 rfl h0 dX12_wrong_27 ?_
      refine tt_putI (pc := 30) E lfX12_13 rfl h0 dX12_wrong_30 (tt_nmM hf (fun m_2 hf => ?_))
      exact tt_vret (pc := 33) E hr hlk dX12_wrong_33 (Nat.le_of_ble_eq_true rfl) (Nat.le_of_ble_eq_true rfl) hf
    · have hf := ip c_5 hf
      refine tt_iconst (pc := 17) (v := 1) E dX12_wrong_17 ic_1 ?_
      refine tt_goto (pc := 18) (tgt := 22) E dX12_wrong_18 rfl ?_
      refine tt_putI (pc := 22) E lfX12_126 rfl h0 dX12_wrong_22 (tt_nmM hf (fun m_3 hf => ?_))
      refine tt_aload_n (pc := 25) (i := 0) (j := 0) E dX12_wrong_25 rfl rfl ?_
      refine tt_aload_n (pc := 26) (i := 0) (j := 0) E dX12_wrong_26 rfl rfl ?_
      refine tt_getI (pc := 27) E lfX12_106 rfl h0 dX12_wrong_27 ?_
      refine tt_putI (pc := 30) E lfX12_13 rfl h0 dX12_wrong_30 (tt_nmM hf (fun m_4 hf => ?_))
      exact tt_vret (pc := 33) E hr hlk dX12_wrong_33 (Nat.le_of_ble_eq_true rfl) (Nat.le_of_ble_eq_true rfl) hf
  · have hf := ine c_6 hf
    exact tt_vret (pc := 7) E hr hlk dX12_wrong_7 (Nat.le_of_ble_eq_true rfl) (Nat.le_of_ble_eq_true rfl) hf
set_option maxHeartbeats 4000000 in
theorem cX12_isGood_ok {l : Launch} {B : Nat} {D : va_G} {cT : Nat → ClassId} {n : Nat} {adK adV : Nat → Nat} {o0 : Nat} {μ : Mem} {res : Int32} (h0 : isK n o0 9) (hf : fX12_isGood o0 μ = some res) : MZ l yX12_isGood cX12_isGood 1 (some .boolean) rmX12_isGood B D cT (XW B adK adV) n [.ref (B + o0)] μ (res, μ) := by
  refine tt_ofW mtX12_isGood.1 (Nat.le_of_ble_eq_true rfl) rfl ?_
  intro p e s m below meth c E0 hr hlk
  have E : EE p s m _ c cX12_isGood 1 RX12 B D cT (XW B adK adV) := E0
  unfold fX12_isGood at hf
  refine tt_aload_n (pc := 0) (i := 0) (j := 0) E dX12_isGood_0 rfl rfl ?_
  refine tt_getI (pc := 1) E lfX12_126 rfl h0 dX12_isGood_1 ?_
  refine tt_if_ne (pc := 4) (tgt := 11) E dX12_isGood_4 rfl (fun c_1 => ?_) (fun c_1 => ?_)
  · have hf := ine c_1 hf
    refine tt_iconst (pc := 11) (v := 0) E dX12_isGood_11 ic_0 ?_
    exact tt_zret (pc := 12) E ((Or.inl rfl)) hr hlk dX12_isGood_12 (Nat.le_of_ble_eq_true rfl) (Nat.le_of_ble_eq_true rfl) (pv hf)
  · have hf := ip c_1 hf
    refine tt_iconst (pc := 7) (v := 1) E dX12_isGood_7 ic_1 ?_
    refine tt_goto (pc := 8) (tgt := 12) E dX12_isGood_8 rfl ?_
    exact tt_zret (pc := 12) E ((Or.inr rfl)) hr hlk dX12_isGood_12 (Nat.le_of_ble_eq_true rfl) (Nat.le_of_ble_eq_true rfl) (pv hf)
set_option maxHeartbeats 4000000 in
theorem cX12_isWord_ok {l : Launch} {B : Nat} {D : va_G} {cT : Nat → ClassId} {n : Nat} {adK adV : Nat → Nat} {o0 : Nat} {v1 : Int64} {μ : Mem} {res : Int32} (h0 : isK n o0 9) (hf : fX12_isWord o0 v1 μ = some res) : MZ l yX12_isWord cX12_isWord 3 (some .boolean) rmX12_isWord B D cT (XW B adK adV) n [.ref (B + o0), .long v1] μ (res, μ) := by
  refine tt_ofW mtX12_isWord.1 (Nat.le_of_ble_eq_true rfl) rfl ?_
  intro p e s m below meth c E0 hr hlk
  have E : EE p s m _ c cX12_isWord 3 RX12 B D cT (XW B adK adV) := E0
  unfold fX12_isWord at hf
  refine tt_aload_n (pc := 0) (i := 0) (j := 0) E dX12_isWord_0 rfl rfl ?_
  refine tt_getI (pc := 1) E lfX12_126 rfl h0 dX12_isWord_1 ?_
  refine tt_if_ne (pc := 4) (tgt := 28) E dX12_isWord_4 rfl (fun c_3 => ?_) (fun c_3 => ?_)
  · have hf := ine c_3 hf
    refine tt_iconst (pc := 28) (v := 0) E dX12_isWord_28 ic_0 ?_
    exact tt_zret (pc := 29) E ((Or.inl rfl)) hr hlk dX12_isWord_29 (Nat.le_of_ble_eq_true rfl) (Nat.le_of_ble_eq_true rfl) (pv hf)
  · have hf := ip c_3 hf
    refine tt_aload_n (pc := 7) (i := 0) (j := 0) E dX12_isWord_7 rfl rfl ?_
    refine tt_getI (pc := 8) E lfX12_116 rfl h0 dX12_isWord_8 ?_
    refine tt_iconst (pc := 11) (v := 1) E dX12_isWord_11 ic_1 ?_
    refine tt_icmp_ne (pc := 12) (tgt := 28) E dX12_isWord_12 rfl (fun c_2 => ?_) (fun c_2 => ?_)
    · have hf := ine c_2 hf
      refine tt_iconst (pc := 28) (v := 0) E dX12_isWord_28 ic_0 ?_
      exact tt_zret (pc := 29) E ((Or.inl rfl)) hr hlk dX12_isWord_29 (Nat.le_of_ble_eq_true rfl) (Nat.le_of_ble_eq_true rfl) (pv hf)
    · have hf := ip c_2 hf
      refine tt_aload_n (pc := 15) (i := 0) (j := 0) E dX12_isWord_15 rfl rfl ?_
      refine tt_getJ (pc := 16) E lfX12_109 rfl h0 dX12_isWord_16 ?_
      refine tt_lload_n (pc := 19) (i := 1) (j := 1) E dX12_isWord_19 rfl rfl ?_
      refine tt_lcmp (pc := 20) E dX12_isWord_20 ?_
      refine tt_if_ne (pc := 21) (tgt := 28) E dX12_isWord_21 rfl (fun c_1 => ?_) (fun c_1 => ?_)
      · have hf := ine c_1 hf
        refine tt_iconst (pc := 28) (v := 0) E dX12_isWord_28 ic_0 ?_
        exact tt_zret (pc := 29) E ((Or.inl rfl)) hr hlk dX12_isWord_29 (Nat.le_of_ble_eq_true rfl) (Nat.le_of_ble_eq_true rfl) (pv hf)
      · have hf := ip c_1 hf
        refine tt_iconst (pc := 24) (v := 1) E dX12_isWord_24 ic_1 ?_
        refine tt_goto (pc := 25) (tgt := 29) E dX12_isWord_25 rfl ?_
        exact tt_zret (pc := 29) E ((Or.inr rfl)) hr hlk dX12_isWord_29 (Nat.le_of_ble_eq_true rfl) (Nat.le_of_ble_eq_true rfl) (pv hf)
set_option maxHeartbeats 4000000 in
theorem cX12_isSign_ok {l : Launch} {B : Nat} {D : va_G} {cT : Nat → ClassId} {n : Nat} {adK adV : Nat → Nat} {o0 : Nat} {v1 : Int32} {μ : Mem} {res : Int32} (h0 : isK n o0 9) (hf : fX12_isSign o0 v1 μ = some res) : MZ l yX12_isSign cX12_isSign 2 (some .boolean) rmX12_isSign B D cT (XW B adK adV) n [.ref (B + o0), .int v1] μ (res, μ) := by
  refine tt_ofW mtX12_isSign.1 (Nat.le_of_ble_eq_true rfl) rfl ?_
  intro p e s m below meth c E0 hr hlk
  have E : EE p s m _ c cX12_isSign 2 RX12 B D cT (XW B adK adV) := E0
  unfold fX12_isSign at hf
  refine tt_aload_n (pc := 0) (i := 0) (j := 0) E dX12_isSign_0 rfl rfl ?_
  refine tt_getI (pc := 1) E lfX12_126 rfl h0 dX12_isSign_1 ?_
  refine tt_if_ne (pc := 4) (tgt := 27) E dX12_isSign_4 rfl (fun c_3 => ?_) (fun c_3 => ?_)
  · have hf := ine c_3 hf
    refine tt_iconst (pc := 27) (v := 0) E dX12_isSign_27 ic_0 ?_
    exact tt_zret (pc := 28) E ((Or.inl rfl)) hr hlk dX12_isSign_28 (Nat.le_of_ble_eq_true rfl) (Nat.le_of_ble_eq_true rfl) (pv hf)
  · have hf := ip c_3 hf
    refine tt_aload_n (pc := 7) (i := 0) (j := 0) E dX12_isSign_7 rfl rfl ?_
    refine tt_getI (pc := 8) E lfX12_116 rfl h0 dX12_isSign_8 ?_
    refine tt_iconst (pc := 11) (v := 3) E dX12_isSign_11 ic_3 ?_
    refine tt_icmp_ne (pc := 12) (tgt := 27) E dX12_isSign_12 rfl (fun c_2 => ?_) (fun c_2 => ?_)
    · have hf := ine c_2 hf
      refine tt_iconst (pc := 27) (v := 0) E dX12_isSign_27 ic_0 ?_
      exact tt_zret (pc := 28) E ((Or.inl rfl)) hr hlk dX12_isSign_28 (Nat.le_of_ble_eq_true rfl) (Nat.le_of_ble_eq_true rfl) (pv hf)
    · have hf := ip c_2 hf
      refine tt_aload_n (pc := 15) (i := 0) (j := 0) E dX12_isSign_15 rfl rfl ?_
      refine tt_getI (pc := 16) E lfX12_113 rfl h0 dX12_isSign_16 ?_
      refine tt_iload_n (pc := 19) (i := 1) (j := 1) E dX12_isSign_19 rfl rfl ?_
      refine tt_icmp_ne (pc := 20) (tgt := 27) E dX12_isSign_20 rfl (fun c_1 => ?_) (fun c_1 => ?_)
      · have hf := ine c_1 hf
        refine tt_iconst (pc := 27) (v := 0) E dX12_isSign_27 ic_0 ?_
        exact tt_zret (pc := 28) E ((Or.inl rfl)) hr hlk dX12_isSign_28 (Nat.le_of_ble_eq_true rfl) (Nat.le_of_ble_eq_true rfl) (pv hf)
      · have hf := ip c_1 hf
        refine tt_iconst (pc := 23) (v := 1) E dX12_isSign_23 ic_1 ?_
        refine tt_goto (pc := 24) (tgt := 28) E dX12_isSign_24 rfl ?_
        exact tt_zret (pc := 28) E ((Or.inr rfl)) hr hlk dX12_isSign_28 (Nat.le_of_ble_eq_true rfl) (Nat.le_of_ble_eq_true rfl) (pv hf)
set_option maxHeartbeats 4000000 in
theorem cX12_mustSign_ok {l : Launch} {B : Nat} {D : va_G} {cT : Nat → ClassId} {n : Nat} {adK adV : Nat → Nat} {o0 : Nat} {v1 : Int32} {μ : Mem} {res : Mem} (h0 : isK n o0 9) (hf : fX12_mustSign o0 v1 μ = some res) : MV l yX12_mustSign cX12_mustSign 2 (none) rmX12_mustSign B D cT (XW B adK adV) n [.ref (B + o0), .int v1] μ res := by
  refine tt_ofW mtX12_mustSign.1 (Nat.le_of_ble_eq_true rfl) rfl ?_
  intro p e s m below meth c E0 hr hlk
  have E : EE p s m _ c cX12_mustSign 2 RX12 B D cT (XW B adK adV) := E0
  unfold fX12_mustSign at hf
  refine tt_aload_n (pc := 0) (i := 0) (j := 0) E dX12_mustSign_0 rfl rfl ?_
  obtain ⟨r_1, hr_2, hf⟩ := bd_some hf
  have hc_3 := cX12_isGood_ok (l := l) (B := B) (D := D) (cT := cT) (n := n) (adK := adK) (adV := adV) h0 hr_2
  refine tt_cZ (pc := 1) (tt_vi E lmX12_129 mtX12_isGood hc_3 h0 rfl rfl (Nat.le_of_ble_eq_true rfl) ⟨(Nat.le_of_ble_eq_true rfl), (Nat.le_of_ble_eq_true rfl)⟩ ⟨(Nat.le_of_ble_eq_true rfl), (Nat.le_of_ble_eq_true rfl)⟩ dX12_mustSign_1) (fun z_4 => ?_)
  refine tt_if_eq (pc := 4) (tgt := 20) E dX12_mustSign_4 rfl (fun c_37 => ?_) (fun c_37 => ?_)
  · have hf := ip c_37 hf
    refine tt_aload_n (pc := 20) (i := 0) (j := 0) E dX12_mustSign_20 rfl rfl ?_
    obtain ⟨r_5, hr_6, hf⟩ := bd_some hf
    have hc_7 := cX12_isGood_ok (l := l) (B := B) (D := D) (cT := cT) (n := n) (adK := adK) (adV := adV) h0 hr_6
    refine tt_cZ (pc := 21) (tt_vi E lmX12_129 mtX12_isGood hc_7 h0 rfl rfl (Nat.le_of_ble_eq_true rfl) ⟨(Nat.le_of_ble_eq_true rfl), (Nat.le_of_ble_eq_true rfl)⟩ ⟨(Nat.le_of_ble_eq_true rfl), (Nat.le_of_ble_eq_true rfl)⟩ dX12_mustSign_21) (fun z_8 => ?_)
    refine tt_if_eq (pc := 24) (tgt := 31) E dX12_mustSign_24 rfl (fun c_12 => ?_) (fun c_12 => ?_)
    · have hf := ip c_12 hf
      exact tt_vret (pc := 31) E hr hlk dX12_mustSign_31 (Nat.le_of_ble_eq_true rfl) (Nat.le_of_ble_eq_true rfl) hf
    · have hf := ine c_12 hf
      refine tt_aload_n (pc := 27) (i := 0) (j := 0) E dX12_mustSign_27 rfl rfl ?_
      obtain ⟨r_9, hr_10, hf⟩ := bd_some hf
      have hc_11 := cX12_goOn_ok (l := l) (B := B) (D := D) (cT := cT) (n := n) (adK := adK) (adV := adV) h0 hr_10
      refine tt_cV (pc := 28) (tt_vi E lmX12_139 mtX12_goOn hc_11 h0 rfl rfl (Nat.le_of_ble_eq_true rfl) ⟨(Nat.le_of_ble_eq_true rfl), (Nat.le_of_ble_eq_true rfl)⟩ ⟨(Nat.le_of_ble_eq_true rfl), (Nat.le_of_ble_eq_true rfl)⟩ dX12_mustSign_28) ?_
      exact tt_vret (pc := 31) E hr hlk dX12_mustSign_31 (Nat.le_of_ble_eq_true rfl) (Nat.le_of_ble_eq_true rfl) hf
  · have hf := ine c_37 hf
    refine tt_aload_n (pc := 7) (i := 0) (j := 0) E dX12_mustSign_7 rfl rfl ?_
    refine tt_iload_n (pc := 8) (i := 1) (j := 1) E dX12_mustSign_8 rfl rfl ?_
    obtain ⟨r_13, hr_14, hf⟩ := bd_some hf
    have hc_15 := cX12_isSign_ok (l := l) (B := B) (D := D) (cT := cT) (n := n) (adK := adK) (adV := adV) h0 hr_14
    refine tt_cZ (pc := 9) (tt_vi E lmX12_133 mtX12_isSign hc_15 h0 rfl rfl (Nat.le_of_ble_eq_true rfl) ⟨(Nat.le_of_ble_eq_true rfl), (Nat.le_of_ble_eq_true rfl)⟩ ⟨(Nat.le_of_ble_eq_true rfl), (Nat.le_of_ble_eq_true rfl)⟩ dX12_mustSign_9) (fun z_16 => ?_)
    refine tt_if_ne (pc := 12) (tgt := 20) E dX12_mustSign_12 rfl (fun c_36 => ?_) (fun c_36 => ?_)
    · have hf := ine c_36 hf
      refine tt_aload_n (pc := 20) (i := 0) (j := 0) E dX12_mustSign_20 rfl rfl ?_
      obtain ⟨r_17, hr_18, hf⟩ := bd_some hf
      have hc_19 := cX12_isGood_ok (l := l) (B := B) (D := D) (cT := cT) (n := n) (adK := adK) (adV := adV) h0 hr_18
      refine tt_cZ (pc := 21) (tt_vi E lmX12_129 mtX12_isGood hc_19 h0 rfl rfl (Nat.le_of_ble_eq_true rfl) ⟨(Nat.le_of_ble_eq_true rfl), (Nat.le_of_ble_eq_true rfl)⟩ ⟨(Nat.le_of_ble_eq_true rfl), (Nat.le_of_ble_eq_true rfl)⟩ dX12_mustSign_21) (fun z_20 => ?_)
      refine tt_if_eq (pc := 24) (tgt := 31) E dX12_mustSign_24 rfl (fun c_24 => ?_) (fun c_24 => ?_)
      · have hf := ip c_24 hf
        exact tt_vret (pc := 31) E hr hlk dX12_mustSign_31 (Nat.le_of_ble_eq_true rfl) (Nat.le_of_ble_eq_true rfl) hf
      · have hf := ine c_24 hf
        refine tt_aload_n (pc := 27) (i := 0) (j := 0) E dX12_mustSign_27 rfl rfl ?_
        obtain ⟨r_21, hr_22, hf⟩ := bd_some hf
        have hc_23 := cX12_goOn_ok (l := l) (B := B) (D := D) (cT := cT) (n := n) (adK := adK) (adV := adV) h0 hr_22
        refine tt_cV (pc := 28) (tt_vi E lmX12_139 mtX12_goOn hc_23 h0 rfl rfl (Nat.le_of_ble_eq_true rfl) ⟨(Nat.le_of_ble_eq_true rfl), (Nat.le_of_ble_eq_true rfl)⟩ ⟨(Nat.le_of_ble_eq_true rfl), (Nat.le_of_ble_eq_true rfl)⟩ dX12_mustSign_28) ?_
        exact tt_vret (pc := 31) E hr hlk dX12_mustSign_31 (Nat.le_of_ble_eq_true rfl) (Nat.le_of_ble_eq_true rfl) hf
    · have hf := ip c_36 hf
      refine tt_aload_n (pc := 15) (i := 0) (j := 0) E dX12_mustSign_15 rfl rfl ?_
      refine tt_iconst (pc := 16) (v := 1) E dX12_mustSign_16 ic_1 ?_
      obtain ⟨r_25, hr_26, hf⟩ := bd_some hf
      have hc_27 := cX12_wrong_ok (l := l) (B := B) (D := D) (cT := cT) (n := n) (adK := adK) (adV := adV) h0 hr_26
      refine tt_cV (pc := 17) (tt_vi E lmX12_136 mtX12_wrong hc_27 h0 rfl rfl (Nat.le_of_ble_eq_true rfl) ⟨(Nat.le_of_ble_eq_true rfl), (Nat.le_of_ble_eq_true rfl)⟩ ⟨(Nat.le_of_ble_eq_true rfl), (Nat.le_of_ble_eq_true rfl)⟩ dX12_mustSign_17) ?_
      refine tt_aload_n (pc := 20) (i := 0) (j := 0) E dX12_mustSign_20 rfl rfl ?_
      obtain ⟨r_28, hr_29, hf⟩ := bd_some hf
      have hc_30 := cX12_isGood_ok (l := l) (B := B) (D := D) (cT := cT) (n := n) (adK := adK) (adV := adV) h0 hr_29
      refine tt_cZ (pc := 21) (tt_vi E lmX12_129 mtX12_isGood hc_30 h0 rfl rfl (Nat.le_of_ble_eq_true rfl) ⟨(Nat.le_of_ble_eq_true rfl), (Nat.le_of_ble_eq_true rfl)⟩ ⟨(Nat.le_of_ble_eq_true rfl), (Nat.le_of_ble_eq_true rfl)⟩ dX12_mustSign_21) (fun z_31 => ?_)
      refine tt_if_eq (pc := 24) (tgt := 31) E dX12_mustSign_24 rfl (fun c_35 => ?_) (fun c_35 => ?_)
      · have hf := ip c_35 hf
        exact tt_vret (pc := 31) E hr hlk dX12_mustSign_31 (Nat.le_of_ble_eq_true rfl) (Nat.le_of_ble_eq_true rfl) hf
      · have hf := ine c_35 hf
        refine tt_aload_n (pc := 27) (i := 0) (j := 0) E dX12_mustSign_27 rfl rfl ?_
        obtain ⟨r_32, hr_33, hf⟩ := bd_some hf
        have hc_34 := cX12_goOn_ok (l := l) (B := B) (D := D) (cT := cT) (n := n) (adK := adK) (adV := adV) h0 hr_33
        refine tt_cV (pc := 28) (tt_vi E lmX12_139 mtX12_goOn hc_34 h0 rfl rfl (Nat.le_of_ble_eq_true rfl) ⟨(Nat.le_of_ble_eq_true rfl), (Nat.le_of_ble_eq_true rfl)⟩ ⟨(Nat.le_of_ble_eq_true rfl), (Nat.le_of_ble_eq_true rfl)⟩ dX12_mustSign_28) ?_
        exact tt_vret (pc := 31) E hr hlk dX12_mustSign_31 (Nat.le_of_ble_eq_true rfl) (Nat.le_of_ble_eq_true rfl) hf
set_option maxHeartbeats 4000000 in
theorem cX12_mustWord_ok {l : Launch} {B : Nat} {D : va_G} {cT : Nat → ClassId} {n : Nat} {adK adV : Nat → Nat} {o0 : Nat} {v1 : Int64} {μ : Mem} {res : Mem} (h0 : isK n o0 9) (hf : fX12_mustWord o0 v1 μ = some res) : MV l yX12_mustWord cX12_mustWord 3 (none) rmX12_mustWord B D cT (XW B adK adV) n [.ref (B + o0), .long v1] μ res := by
  refine tt_ofW mtX12_mustWord.1 (Nat.le_of_ble_eq_true rfl) rfl ?_
  intro p e s m below meth c E0 hr hlk
  have E : EE p s m _ c cX12_mustWord 3 RX12 B D cT (XW B adK adV) := E0
  unfold fX12_mustWord at hf
  refine tt_aload_n (pc := 0) (i := 0) (j := 0) E dX12_mustWord_0 rfl rfl ?_
  obtain ⟨r_1, hr_2, hf⟩ := bd_some hf
  have hc_3 := cX12_isGood_ok (l := l) (B := B) (D := D) (cT := cT) (n := n) (adK := adK) (adV := adV) h0 hr_2
  refine tt_cZ (pc := 1) (tt_vi E lmX12_129 mtX12_isGood hc_3 h0 rfl rfl (Nat.le_of_ble_eq_true rfl) ⟨(Nat.le_of_ble_eq_true rfl), (Nat.le_of_ble_eq_true rfl)⟩ ⟨(Nat.le_of_ble_eq_true rfl), (Nat.le_of_ble_eq_true rfl)⟩ dX12_mustWord_1) (fun z_4 => ?_)
  refine tt_if_eq (pc := 4) (tgt := 20) E dX12_mustWord_4 rfl (fun c_37 => ?_) (fun c_37 => ?_)
  · have hf := ip c_37 hf
    refine tt_aload_n (pc := 20) (i := 0) (j := 0) E dX12_mustWord_20 rfl rfl ?_
    obtain ⟨r_5, hr_6, hf⟩ := bd_some hf
    have hc_7 := cX12_isGood_ok (l := l) (B := B) (D := D) (cT := cT) (n := n) (adK := adK) (adV := adV) h0 hr_6
    refine tt_cZ (pc := 21) (tt_vi E lmX12_129 mtX12_isGood hc_7 h0 rfl rfl (Nat.le_of_ble_eq_true rfl) ⟨(Nat.le_of_ble_eq_true rfl), (Nat.le_of_ble_eq_true rfl)⟩ ⟨(Nat.le_of_ble_eq_true rfl), (Nat.le_of_ble_eq_true rfl)⟩ dX12_mustWord_21) (fun z_8 => ?_)
    refine tt_if_eq (pc := 24) (tgt := 31) E dX12_mustWord_24 rfl (fun c_12 => ?_) (fun c_12 => ?_)
    · have hf := ip c_12 hf
      exact tt_vret (pc := 31) E hr hlk dX12_mustWord_31 (Nat.le_of_ble_eq_true rfl) (Nat.le_of_ble_eq_true rfl) hf
    · have hf := ine c_12 hf
      refine tt_aload_n (pc := 27) (i := 0) (j := 0) E dX12_mustWord_27 rfl rfl ?_
      obtain ⟨r_9, hr_10, hf⟩ := bd_some hf
      have hc_11 := cX12_goOn_ok (l := l) (B := B) (D := D) (cT := cT) (n := n) (adK := adK) (adV := adV) h0 hr_10
      refine tt_cV (pc := 28) (tt_vi E lmX12_139 mtX12_goOn hc_11 h0 rfl rfl (Nat.le_of_ble_eq_true rfl) ⟨(Nat.le_of_ble_eq_true rfl), (Nat.le_of_ble_eq_true rfl)⟩ ⟨(Nat.le_of_ble_eq_true rfl), (Nat.le_of_ble_eq_true rfl)⟩ dX12_mustWord_28) ?_
      exact tt_vret (pc := 31) E hr hlk dX12_mustWord_31 (Nat.le_of_ble_eq_true rfl) (Nat.le_of_ble_eq_true rfl) hf
  · have hf := ine c_37 hf
    refine tt_aload_n (pc := 7) (i := 0) (j := 0) E dX12_mustWord_7 rfl rfl ?_
    refine tt_lload_n (pc := 8) (i := 1) (j := 1) E dX12_mustWord_8 rfl rfl ?_
    obtain ⟨r_13, hr_14, hf⟩ := bd_some hf
    have hc_15 := cX12_isWord_ok (l := l) (B := B) (D := D) (cT := cT) (n := n) (adK := adK) (adV := adV) h0 hr_14
    refine tt_cZ (pc := 9) (tt_vi E lmX12_142 mtX12_isWord hc_15 h0 rfl rfl (Nat.le_of_ble_eq_true rfl) ⟨(Nat.le_of_ble_eq_true rfl), (Nat.le_of_ble_eq_true rfl)⟩ ⟨(Nat.le_of_ble_eq_true rfl), (Nat.le_of_ble_eq_true rfl)⟩ dX12_mustWord_9) (fun z_16 => ?_)
    refine tt_if_ne (pc := 12) (tgt := 20) E dX12_mustWord_12 rfl (fun c_36 => ?_) (fun c_36 => ?_)
    · have hf := ine c_36 hf
      refine tt_aload_n (pc := 20) (i := 0) (j := 0) E dX12_mustWord_20 rfl rfl ?_
      obtain ⟨r_17, hr_18, hf⟩ := bd_some hf
      have hc_19 := cX12_isGood_ok (l := l) (B := B) (D := D) (cT := cT) (n := n) (adK := adK) (adV := adV) h0 hr_18
      refine tt_cZ (pc := 21) (tt_vi E lmX12_129 mtX12_isGood hc_19 h0 rfl rfl (Nat.le_of_ble_eq_true rfl) ⟨(Nat.le_of_ble_eq_true rfl), (Nat.le_of_ble_eq_true rfl)⟩ ⟨(Nat.le_of_ble_eq_true rfl), (Nat.le_of_ble_eq_true rfl)⟩ dX12_mustWord_21) (fun z_20 => ?_)
      refine tt_if_eq (pc := 24) (tgt := 31) E dX12_mustWord_24 rfl (fun c_24 => ?_) (fun c_24 => ?_)
      · have hf := ip c_24 hf
        exact tt_vret (pc := 31) E hr hlk dX12_mustWord_31 (Nat.le_of_ble_eq_true rfl) (Nat.le_of_ble_eq_true rfl) hf
      · have hf := ine c_24 hf
        refine tt_aload_n (pc := 27) (i := 0) (j := 0) E dX12_mustWord_27 rfl rfl ?_
        obtain ⟨r_21, hr_22, hf⟩ := bd_some hf
        have hc_23 := cX12_goOn_ok (l := l) (B := B) (D := D) (cT := cT) (n := n) (adK := adK) (adV := adV) h0 hr_22
        refine tt_cV (pc := 28) (tt_vi E lmX12_139 mtX12_goOn hc_23 h0 rfl rfl (Nat.le_of_ble_eq_true rfl) ⟨(Nat.le_of_ble_eq_true rfl), (Nat.le_of_ble_eq_true rfl)⟩ ⟨(Nat.le_of_ble_eq_true rfl), (Nat.le_of_ble_eq_true rfl)⟩ dX12_mustWord_28) ?_
        exact tt_vret (pc := 31) E hr hlk dX12_mustWord_31 (Nat.le_of_ble_eq_true rfl) (Nat.le_of_ble_eq_true rfl) hf
    · have hf := ip c_36 hf
      refine tt_aload_n (pc := 15) (i := 0) (j := 0) E dX12_mustWord_15 rfl rfl ?_
      refine tt_iconst (pc := 16) (v := 1) E dX12_mustWord_16 ic_1 ?_
      obtain ⟨r_25, hr_26, hf⟩ := bd_some hf
      have hc_27 := cX12_wrong_ok (l := l) (B := B) (D := D) (cT := cT) (n := n) (adK := adK) (adV := adV) h0 hr_26
      refine tt_cV (pc := 17) (tt_vi E lmX12_136 mtX12_wrong hc_27 h0 rfl rfl (Nat.le_of_ble_eq_true rfl) ⟨(Nat.le_of_ble_eq_true rfl), (Nat.le_of_ble_eq_true rfl)⟩ ⟨(Nat.le_of_ble_eq_true rfl), (Nat.le_of_ble_eq_true rfl)⟩ dX12_mustWord_17) ?_
      refine tt_aload_n (pc := 20) (i := 0) (j := 0) E dX12_mustWord_20 rfl rfl ?_
      obtain ⟨r_28, hr_29, hf⟩ := bd_some hf
      have hc_30 := cX12_isGood_ok (l := l) (B := B) (D := D) (cT := cT) (n := n) (adK := adK) (adV := adV) h0 hr_29
      refine tt_cZ (pc := 21) (tt_vi E lmX12_129 mtX12_isGood hc_30 h0 rfl rfl (Nat.le_of_ble_eq_true rfl) ⟨(Nat.le_of_ble_eq_true rfl), (Nat.le_of_ble_eq_true rfl)⟩ ⟨(Nat.le_of_ble_eq_true rfl), (Nat.le_of_ble_eq_true rfl)⟩ dX12_mustWord_21) (fun z_31 => ?_)
      refine tt_if_eq (pc := 24) (tgt := 31) E dX12_mustWord_24 rfl (fun c_35 => ?_) (fun c_35 => ?_)
      · have hf := ip c_35 hf
        exact tt_vret (pc := 31) E hr hlk dX12_mustWord_31 (Nat.le_of_ble_eq_true rfl) (Nat.le_of_ble_eq_true rfl) hf
      · have hf := ine c_35 hf
        refine tt_aload_n (pc := 27) (i := 0) (j := 0) E dX12_mustWord_27 rfl rfl ?_
        obtain ⟨r_32, hr_33, hf⟩ := bd_some hf
        have hc_34 := cX12_goOn_ok (l := l) (B := B) (D := D) (cT := cT) (n := n) (adK := adK) (adV := adV) h0 hr_33
        refine tt_cV (pc := 28) (tt_vi E lmX12_139 mtX12_goOn hc_34 h0 rfl rfl (Nat.le_of_ble_eq_true rfl) ⟨(Nat.le_of_ble_eq_true rfl), (Nat.le_of_ble_eq_true rfl)⟩ ⟨(Nat.le_of_ble_eq_true rfl), (Nat.le_of_ble_eq_true rfl)⟩ dX12_mustWord_28) ?_
        exact tt_vret (pc := 31) E hr hlk dX12_mustWord_31 (Nat.le_of_ble_eq_true rfl) (Nat.le_of_ble_eq_true rfl) hf
set_option maxHeartbeats 4000000 in
theorem tX12_looks_20 {p : Program} {l : Launch} {e : Env} {s : State} {m : MethodId} {args : Array Value} {below : List Frame} {meth : Method} {c : Code} {B : Nat} {D : va_G} {cT : Nat → ClassId} {n : Nat} {adK adV : Nat → Nat} {res : Int32 × Mem} (E : EE p s m args c cX12_looks 3 RX12 B D cT (XW B adK adV)) (hr : meth.sig.returnType = some .int) (hlk : meth.locks = false) {o0 : Nat} {v1 : Int32} {v2 : Int32} (h0 : isK n o0 9) {μ : Mem} (hf : fX12_looks_20 o0 v1 v2 μ = some res) : TT p l e rmX12_looks s m args below meth c (QI B D cT n below args s res) 3 B D cT n 0 0 μ 20 [(0, .ref (B + o0)), (1, .int v1), (2, .int v2)] [] := by
  unfold fX12_looks_20 at hf
  refine tt_aload_n (pc := 20) (i := 0) (j := 0) E dX12_looks_20 rfl rfl ?_
  obtain ⟨r_1, hr_2, hf⟩ := bd_some hf
  have hc_3 := cX12_isGood_ok (l := l) (B := B) (D := D) (cT := cT) (n := n) (adK := adK) (adV := adV) h0 hr_2
  refine tt_cZ (pc := 21) (tt_vi E lmX12_129 mtX12_isGood hc_3 h0 rfl rfl (Nat.le_of_ble_eq_true rfl) ⟨(Nat.le_of_ble_eq_true rfl), (Nat.le_of_ble_eq_true rfl)⟩ ⟨(Nat.le_of_ble_eq_true rfl), (Nat.le_of_ble_eq_true rfl)⟩ dX12_looks_21) (fun z_4 => ?_)
  refine tt_if_eq (pc := 24) (tgt := 47) E dX12_looks_24 rfl (fun c_13 => ?_) (fun c_13 => ?_)
  · have hf := ip c_13 hf
    refine tt_aload_n (pc := 47) (i := 0) (j := 0) E dX12_looks_47 rfl rfl ?_
    refine tt_getI (pc := 48) E lfX12_113 rfl h0 dX12_looks_48 ?_
    exact tt_iret (pc := 51) E hr hlk dX12_looks_51 (Nat.le_of_ble_eq_true rfl) (Nat.le_of_ble_eq_true rfl) hf
  · have hf := ine c_13 hf
    refine tt_aload_n (pc := 27) (i := 0) (j := 0) E dX12_looks_27 rfl rfl ?_
    refine tt_getI (pc := 28) E lfX12_113 rfl h0 dX12_looks_28 ?_
    refine tt_i2l (pc := 31) E dX12_looks_31 ?_
    refine tt_iload_n (pc := 32) (i := 1) (j := 1) E dX12_looks_32 rfl rfl ?_
    refine tt_i2l (pc := 33) E dX12_looks_33 ?_
    refine tt_iload_n (pc := 34) (i := 2) (j := 2) E dX12_looks_34 rfl rfl ?_
    refine tt_i2l (pc := 35) E dX12_looks_35 ?_
    obtain ⟨r_5, hr_6, hf⟩ := bd_some hf
    have hc_7 := cX12_isIn_ok (l := l) (B := B) (D := D) (cT := cT) (n := n) (adK := adK) (adV := adV) hr_6
    refine tt_cZ (pc := 36) (tt_si E lmX12_92 mtX12_isIn hc_7 rfl rfl (Nat.le_of_ble_eq_true rfl) ⟨(Nat.le_of_ble_eq_true rfl), (Nat.le_of_ble_eq_true rfl)⟩ ⟨(Nat.le_of_ble_eq_true rfl), (Nat.le_of_ble_eq_true rfl)⟩ dX12_looks_36) (fun z_8 => ?_)
    refine tt_if_ne (pc := 39) (tgt := 47) E dX12_looks_39 rfl (fun c_12 => ?_) (fun c_12 => ?_)
    · have hf := ine c_12 hf
      refine tt_aload_n (pc := 47) (i := 0) (j := 0) E dX12_looks_47 rfl rfl ?_
      refine tt_getI (pc := 48) E lfX12_113 rfl h0 dX12_looks_48 ?_
      exact tt_iret (pc := 51) E hr hlk dX12_looks_51 (Nat.le_of_ble_eq_true rfl) (Nat.le_of_ble_eq_true rfl) hf
    · have hf := ip c_12 hf
      refine tt_aload_n (pc := 42) (i := 0) (j := 0) E dX12_looks_42 rfl rfl ?_
      refine tt_iconst (pc := 43) (v := 2) E dX12_looks_43 ic_2 ?_
      obtain ⟨r_9, hr_10, hf⟩ := bd_some hf
      have hc_11 := cX12_wrong_ok (l := l) (B := B) (D := D) (cT := cT) (n := n) (adK := adK) (adV := adV) h0 hr_10
      refine tt_cV (pc := 44) (tt_vi E lmX12_136 mtX12_wrong hc_11 h0 rfl rfl (Nat.le_of_ble_eq_true rfl) ⟨(Nat.le_of_ble_eq_true rfl), (Nat.le_of_ble_eq_true rfl)⟩ ⟨(Nat.le_of_ble_eq_true rfl), (Nat.le_of_ble_eq_true rfl)⟩ dX12_looks_44) ?_
      refine tt_aload_n (pc := 47) (i := 0) (j := 0) E dX12_looks_47 rfl rfl ?_
      refine tt_getI (pc := 48) E lfX12_113 rfl h0 dX12_looks_48 ?_
      exact tt_iret (pc := 51) E hr hlk dX12_looks_51 (Nat.le_of_ble_eq_true rfl) (Nat.le_of_ble_eq_true rfl) hf
set_option maxHeartbeats 4000000 in
theorem cX12_looks_ok {l : Launch} {B : Nat} {D : va_G} {cT : Nat → ClassId} {n : Nat} {adK adV : Nat → Nat} {o0 : Nat} {v1 : Int32} {v2 : Int32} {μ : Mem} {res : Int32 × Mem} (h0 : isK n o0 9) (hf : fX12_looks o0 v1 v2 μ = some res) : MI l yX12_looks cX12_looks 3 (some .int) rmX12_looks B D cT (XW B adK adV) n [.ref (B + o0), .int v1, .int v2] μ res := by
  refine tt_ofW mtX12_looks.1 (Nat.le_of_ble_eq_true rfl) rfl ?_
  intro p e s m below meth c E0 hr hlk
  have E : EE p s m _ c cX12_looks 3 RX12 B D cT (XW B adK adV) := E0
  unfold fX12_looks at hf
  refine tt_aload_n (pc := 0) (i := 0) (j := 0) E dX12_looks_0 rfl rfl ?_
  obtain ⟨r_1, hr_2, hf⟩ := bd_some hf
  have hc_3 := cX12_isGood_ok (l := l) (B := B) (D := D) (cT := cT) (n := n) (adK := adK) (adV := adV) h0 hr_2
  refine tt_cZ (pc := 1) (tt_vi E lmX12_129 mtX12_isGood hc_3 h0 rfl rfl (Nat.le_of_ble_eq_true rfl) ⟨(Nat.le_of_ble_eq_true rfl), (Nat.le_of_ble_eq_true rfl)⟩ ⟨(Nat.le_of_ble_eq_true rfl), (Nat.le_of_ble_eq_true rfl)⟩ dX12_looks_1) (fun z_4 => ?_)
  refine tt_if_eq (pc := 4) (tgt := 20) E dX12_looks_4 rfl (fun c_9 => ?_) (fun c_9 => ?_)
  · have hf := ip c_9 hf
    exact tX12_looks_20 E hr hlk h0 hf
  · have hf := ine c_9 hf
    refine tt_aload_n (pc := 7) (i := 0) (j := 0) E dX12_looks_7 rfl rfl ?_
    refine tt_getI (pc := 8) E lfX12_116 rfl h0 dX12_looks_8 ?_
    refine tt_iconst (pc := 11) (v := 2) E dX12_looks_11 ic_2 ?_
    refine tt_icmp_eq (pc := 12) (tgt := 20) E dX12_looks_12 rfl (fun c_8 => ?_) (fun c_8 => ?_)
    · have hf := ip c_8 hf
      exact tX12_looks_20 E hr hlk h0 hf
    · have hf := ine c_8 hf
      refine tt_aload_n (pc := 15) (i := 0) (j := 0) E dX12_looks_15 rfl rfl ?_
      refine tt_iconst (pc := 16) (v := 1) E dX12_looks_16 ic_1 ?_
      obtain ⟨r_5, hr_6, hf⟩ := bd_some hf
      have hc_7 := cX12_wrong_ok (l := l) (B := B) (D := D) (cT := cT) (n := n) (adK := adK) (adV := adV) h0 hr_6
      refine tt_cV (pc := 17) (tt_vi E lmX12_136 mtX12_wrong hc_7 h0 rfl rfl (Nat.le_of_ble_eq_true rfl) ⟨(Nat.le_of_ble_eq_true rfl), (Nat.le_of_ble_eq_true rfl)⟩ ⟨(Nat.le_of_ble_eq_true rfl), (Nat.le_of_ble_eq_true rfl)⟩ dX12_looks_17) ?_
      exact tX12_looks_20 E hr hlk h0 hf
set_option maxHeartbeats 4000000 in
theorem cX12_number_ok {l : Launch} {B : Nat} {D : va_G} {cT : Nat → ClassId} {n : Nat} {adK adV : Nat → Nat} {o0 : Nat} {v1 : Int32} {v2 : Int32} {μ : Mem} {res : Int32 × Mem} (h0 : isK n o0 9) (hf : fX12_number o0 v1 v2 μ = some res) : MI l yX12_number cX12_number 4 (some .int) rmX12_number B D cT (XW B adK adV) n [.ref (B + o0), .int v1, .int v2] μ res := by
  refine tt_ofW mtX12_number.1 (Nat.le_of_ble_eq_true rfl) rfl ?_
  intro p e s m below meth c E0 hr hlk
  have E : EE p s m _ c cX12_number 4 RX12 B D cT (XW B adK adV) := E0
  unfold fX12_number at hf
  refine tt_aload_n (pc := 0) (i := 0) (j := 0) E dX12_number_0 rfl rfl ?_
  refine tt_iload_n (pc := 1) (i := 1) (j := 1) E dX12_number_1 rfl rfl ?_
  refine tt_iload_n (pc := 2) (i := 2) (j := 2) E dX12_number_2 rfl rfl ?_
  obtain ⟨r_1, hr_2, hf⟩ := bd_some hf
  have hc_3 := cX12_looks_ok (l := l) (B := B) (D := D) (cT := cT) (n := n) (adK := adK) (adV := adV) h0 hr_2
  refine tt_cI (pc := 3) (tt_vi E lmX12_146 mtX12_looks hc_3 h0 rfl rfl (Nat.le_of_ble_eq_true rfl) ⟨(Nat.le_of_ble_eq_true rfl), (Nat.le_of_ble_eq_true rfl)⟩ ⟨(Nat.le_of_ble_eq_true rfl), (Nat.le_of_ble_eq_true rfl)⟩ dX12_number_3) ?_
  refine tt_istore_n (pc := 6) (i := 3) (lv' := [(3, .int r_1.1), (0, .ref (B + o0)), (1, .int v1), (2, .int v2)]) E dX12_number_6 rfl (Nat.le_of_ble_eq_true rfl) rfl ?_
  refine tt_aload_n (pc := 7) (i := 0) (j := 1) E dX12_number_7 rfl rfl ?_
  obtain ⟨r_4, hr_5, hf⟩ := bd_some hf
  have hc_6 := cX12_isGood_ok (l := l) (B := B) (D := D) (cT := cT) (n := n) (adK := adK) (adV := adV) h0 hr_5
  refine tt_cZ (pc := 8) (tt_vi E lmX12_129 mtX12_isGood hc_6 h0 rfl rfl (Nat.le_of_ble_eq_true rfl) ⟨(Nat.le_of_ble_eq_true rfl), (Nat.le_of_ble_eq_true rfl)⟩ ⟨(Nat.le_of_ble_eq_true rfl), (Nat.le_of_ble_eq_true rfl)⟩ dX12_number_8) (fun z_7 => ?_)
  refine tt_if_eq (pc := 11) (tgt := 18) E dX12_number_11 rfl (fun c_11 => ?_) (fun c_11 => ?_)
  · have hf := ip c_11 hf
    refine tt_iload_n (pc := 18) (i := 3) (j := 0) E dX12_number_18 rfl rfl ?_
    exact tt_iret (pc := 19) E hr hlk dX12_number_19 (Nat.le_of_ble_eq_true rfl) (Nat.le_of_ble_eq_true rfl) hf
  · have hf := ine c_11 hf
    refine tt_aload_n (pc := 14) (i := 0) (j := 1) E dX12_number_14 rfl rfl ?_
    obtain ⟨r_8, hr_9, hf⟩ := bd_some hf
    have hc_10 := cX12_goOn_ok (l := l) (B := B) (D := D) (cT := cT) (n := n) (adK := adK) (adV := adV) h0 hr_9
    refine tt_cV (pc := 15) (tt_vi E lmX12_139 mtX12_goOn hc_10 h0 rfl rfl (Nat.le_of_ble_eq_true rfl) ⟨(Nat.le_of_ble_eq_true rfl), (Nat.le_of_ble_eq_true rfl)⟩ ⟨(Nat.le_of_ble_eq_true rfl), (Nat.le_of_ble_eq_true rfl)⟩ dX12_number_15) ?_
    refine tt_iload_n (pc := 18) (i := 3) (j := 0) E dX12_number_18 rfl rfl ?_
    exact tt_iret (pc := 19) E hr hlk dX12_number_19 (Nat.le_of_ble_eq_true rfl) (Nat.le_of_ble_eq_true rfl) hf
set_option maxHeartbeats 4000000 in
theorem cX12_beginsText_ok {l : Launch} {B : Nat} {D : va_G} {cT : Nat → ClassId} {n : Nat} {adK adV : Nat → Nat} {o0 : Nat} {μ : Mem} {res : Mem} (h0 : isK n o0 9) (hf : fX12_beginsText o0 μ = some res) : MV l yX12_beginsText cX12_beginsText 1 (none) rmX12_beginsText B D cT (XW B adK adV) n [.ref (B + o0)] μ res := by
  refine tt_ofW mtX12_beginsText.1 (Nat.le_of_ble_eq_true rfl) rfl ?_
  intro p e s m below meth c E0 hr hlk
  have E : EE p s m _ c cX12_beginsText 1 RX12 B D cT (XW B adK adV) := E0
  unfold fX12_beginsText at hf
  refine tt_aload_n (pc := 0) (i := 0) (j := 0) E dX12_beginsText_0 rfl rfl ?_
  refine tt_aload_n (pc := 1) (i := 0) (j := 0) E dX12_beginsText_1 rfl rfl ?_
  refine tt_getI (pc := 2) E lfX12_82 rfl h0 dX12_beginsText_2 ?_
  refine tt_putI (pc := 5) E lfX12_99 rfl h0 dX12_beginsText_5 (tt_nmM hf (fun m_1 hf => ?_))
  refine tt_aload_n (pc := 8) (i := 0) (j := 0) E dX12_beginsText_8 rfl rfl ?_
  refine tt_iconst (pc := 9) (v := 0) E dX12_beginsText_9 ic_0 ?_
  refine tt_putI (pc := 10) E lfX12_82 rfl h0 dX12_beginsText_10 (tt_nmM hf (fun m_2 hf => ?_))
  refine tt_aload_n (pc := 13) (i := 0) (j := 0) E dX12_beginsText_13 rfl rfl ?_
  refine tt_iconst (pc := 14) (v := 0) E dX12_beginsText_14 ic_0 ?_
  refine tt_putI (pc := 15) E lfX12_96 rfl h0 dX12_beginsText_15 (tt_nmM hf (fun m_3 hf => ?_))
  refine tt_aload_n (pc := 18) (i := 0) (j := 0) E dX12_beginsText_18 rfl rfl ?_
  refine tt_iconst (pc := 19) (v := 0) E dX12_beginsText_19 ic_0 ?_
  refine tt_putI (pc := 20) E lfX12_126 rfl h0 dX12_beginsText_20 (tt_nmM hf (fun m_4 hf => ?_))
  refine tt_aload_n (pc := 23) (i := 0) (j := 0) E dX12_beginsText_23 rfl rfl ?_
  refine tt_iconst (pc := 24) (v := (-1)) E dX12_beginsText_24 ic_m1 ?_
  refine tt_putI (pc := 25) E lfX12_13 rfl h0 dX12_beginsText_25 (tt_nmM hf (fun m_5 hf => ?_))
  refine tt_aload_n (pc := 28) (i := 0) (j := 0) E dX12_beginsText_28 rfl rfl ?_
  obtain ⟨r_6, hr_7, hf⟩ := bd_some hf
  have hc_8 := cX12_goOn_ok (l := l) (B := B) (D := D) (cT := cT) (n := n) (adK := adK) (adV := adV) h0 hr_7
  refine tt_cV (pc := 29) (tt_vi E lmX12_139 mtX12_goOn hc_8 h0 rfl rfl (Nat.le_of_ble_eq_true rfl) ⟨(Nat.le_of_ble_eq_true rfl), (Nat.le_of_ble_eq_true rfl)⟩ ⟨(Nat.le_of_ble_eq_true rfl), (Nat.le_of_ble_eq_true rfl)⟩ dX12_beginsText_29) ?_
  exact tt_vret (pc := 32) E hr hlk dX12_beginsText_32 (Nat.le_of_ble_eq_true rfl) (Nat.le_of_ble_eq_true rfl) hf
set_option maxHeartbeats 4000000 in
theorem cX12_endsText_ok {l : Launch} {B : Nat} {D : va_G} {cT : Nat → ClassId} {n : Nat} {adK adV : Nat → Nat} {o0 : Nat} {μ : Mem} {res : Int32 × Mem} (h0 : isK n o0 9) (hf : fX12_endsText o0 μ = some res) : MZ l yX12_endsText cX12_endsText 1 (some .boolean) rmX12_endsText B D cT (XW B adK adV) n [.ref (B + o0)] μ res := by
  refine tt_ofW mtX12_endsText.1 (Nat.le_of_ble_eq_true rfl) rfl ?_
  intro p e s m below meth c E0 hr hlk
  have E : EE p s m _ c cX12_endsText 1 RX12 B D cT (XW B adK adV) := E0
  unfold fX12_endsText at hf
  refine tt_aload_n (pc := 0) (i := 0) (j := 0) E dX12_endsText_0 rfl rfl ?_
  refine tt_aload_n (pc := 1) (i := 0) (j := 0) E dX12_endsText_1 rfl rfl ?_
  refine tt_getI (pc := 2) E lfX12_126 rfl h0 dX12_endsText_2 ?_
  refine tt_putI (pc := 5) E lfX12_150 rfl h0 dX12_endsText_5 (tt_nmM hf (fun m_1 hf => ?_))
  refine tt_aload_n (pc := 8) (i := 0) (j := 0) E dX12_endsText_8 rfl rfl ?_
  refine tt_aload_n (pc := 9) (i := 0) (j := 0) E dX12_endsText_9 rfl rfl ?_
  refine tt_getI (pc := 10) E lfX12_13 rfl h0 dX12_endsText_10 ?_
  refine tt_putI (pc := 13) E lfX12_17 rfl h0 dX12_endsText_13 (tt_nmM hf (fun m_2 hf => ?_))
  refine tt_aload_n (pc := 16) (i := 0) (j := 0) E dX12_endsText_16 rfl rfl ?_
  refine tt_aload_n (pc := 17) (i := 0) (j := 0) E dX12_endsText_17 rfl rfl ?_
  refine tt_getI (pc := 18) E lfX12_126 rfl h0 dX12_endsText_18 ?_
  refine tt_if_ne (pc := 21) (tgt := 28) E dX12_endsText_21 rfl (fun c_11 => ?_) (fun c_11 => ?_)
  · have hf := ine c_11 hf
    refine tt_iconst (pc := 28) (v := 0) E dX12_endsText_28 ic_0 ?_
    obtain ⟨r_3, hr_4, hf⟩ := bd_some hf
    have hc_5 := cX12_goes_ok (l := l) (B := B) (D := D) (cT := cT) (n := n) (adK := adK) (adV := adV) h0 ((Or.inl rfl)) hr_4
    refine tt_cZ (pc := 29) (tt_vi E lmX12_85 mtX12_goes hc_5 h0 rfl rfl (Nat.le_of_ble_eq_true rfl) ⟨(Nat.le_of_ble_eq_true rfl), (Nat.le_of_ble_eq_true rfl)⟩ ⟨(Nat.le_of_ble_eq_true rfl), (Nat.le_of_ble_eq_true rfl)⟩ dX12_endsText_29) (fun z_6 => ?_)
    exact tt_zret (pc := 32) E z_6 hr hlk dX12_endsText_32 (Nat.le_of_ble_eq_true rfl) (Nat.le_of_ble_eq_true rfl) hf
  · have hf := ip c_11 hf
    refine tt_iconst (pc := 24) (v := 1) E dX12_endsText_24 ic_1 ?_
    refine tt_goto (pc := 25) (tgt := 29) E dX12_endsText_25 rfl ?_
    obtain ⟨r_7, hr_8, hf⟩ := bd_some hf
    have hc_9 := cX12_goes_ok (l := l) (B := B) (D := D) (cT := cT) (n := n) (adK := adK) (adV := adV) h0 ((Or.inr rfl)) hr_8
    refine tt_cZ (pc := 29) (tt_vi E lmX12_85 mtX12_goes hc_9 h0 rfl rfl (Nat.le_of_ble_eq_true rfl) ⟨(Nat.le_of_ble_eq_true rfl), (Nat.le_of_ble_eq_true rfl)⟩ ⟨(Nat.le_of_ble_eq_true rfl), (Nat.le_of_ble_eq_true rfl)⟩ dX12_endsText_29) (fun z_10 => ?_)
    exact tt_zret (pc := 32) E z_10 hr hlk dX12_endsText_32 (Nat.le_of_ble_eq_true rfl) (Nat.le_of_ble_eq_true rfl) hf
set_option maxHeartbeats 4000000 in
theorem cX12_errorCode_ok {l : Launch} {B : Nat} {D : va_G} {cT : Nat → ClassId} {n : Nat} {adK adV : Nat → Nat} {o0 : Nat} {μ : Mem} {res : Int32 × Mem} (h0 : isK n o0 9) (hf : fX12_errorCode o0 μ = some res) : MI l yX12_errorCode cX12_errorCode 1 (some .int) rmX12_errorCode B D cT (XW B adK adV) n [.ref (B + o0)] μ res := by
  refine tt_ofW mtX12_errorCode.1 (Nat.le_of_ble_eq_true rfl) rfl ?_
  intro p e s m below meth c E0 hr hlk
  have E : EE p s m _ c cX12_errorCode 1 RX12 B D cT (XW B adK adV) := E0
  unfold fX12_errorCode at hf
  refine tt_aload_n (pc := 0) (i := 0) (j := 0) E dX12_errorCode_0 rfl rfl ?_
  refine tt_iconst (pc := 1) (v := 0) E dX12_errorCode_1 ic_0 ?_
  refine tt_putI (pc := 2) E lfX12_75 rfl h0 dX12_errorCode_2 (tt_nmM hf (fun m_1 hf => ?_))
  refine tt_aload_n (pc := 5) (i := 0) (j := 0) E dX12_errorCode_5 rfl rfl ?_
  refine tt_getI (pc := 6) E lfX12_150 rfl h0 dX12_errorCode_6 ?_
  exact tt_iret (pc := 9) E hr hlk dX12_errorCode_9 (Nat.le_of_ble_eq_true rfl) (Nat.le_of_ble_eq_true rfl) hf
set_option maxHeartbeats 4000000 in
theorem cX12_errorPosition_ok {l : Launch} {B : Nat} {D : va_G} {cT : Nat → ClassId} {n : Nat} {adK adV : Nat → Nat} {o0 : Nat} {μ : Mem} {res : Int32 × Mem} (h0 : isK n o0 9) (hf : fX12_errorPosition o0 μ = some res) : MI l yX12_errorPosition cX12_errorPosition 1 (some .int) rmX12_errorPosition B D cT (XW B adK adV) n [.ref (B + o0)] μ res := by
  refine tt_ofW mtX12_errorPosition.1 (Nat.le_of_ble_eq_true rfl) rfl ?_
  intro p e s m below meth c E0 hr hlk
  have E : EE p s m _ c cX12_errorPosition 1 RX12 B D cT (XW B adK adV) := E0
  unfold fX12_errorPosition at hf
  refine tt_aload_n (pc := 0) (i := 0) (j := 0) E dX12_errorPosition_0 rfl rfl ?_
  refine tt_iconst (pc := 1) (v := 0) E dX12_errorPosition_1 ic_0 ?_
  refine tt_putI (pc := 2) E lfX12_75 rfl h0 dX12_errorPosition_2 (tt_nmM hf (fun m_1 hf => ?_))
  refine tt_aload_n (pc := 5) (i := 0) (j := 0) E dX12_errorPosition_5 rfl rfl ?_
  refine tt_getI (pc := 6) E lfX12_17 rfl h0 dX12_errorPosition_6 ?_
  exact tt_iret (pc := 9) E hr hlk dX12_errorPosition_9 (Nat.le_of_ble_eq_true rfl) (Nat.le_of_ble_eq_true rfl) hf
set_option maxHeartbeats 4000000 in
theorem tX12_copiesRow_3 {p : Program} {l : Launch} {e : Env} {s : State} {m : MethodId} {args : Array Value} {below : List Frame} {meth : Method} {c : Code} {B : Nat} {D : va_G} {cT : Nat → ClassId} {n : Nat} {adK adV : Nat → Nat} {res : Mem} (E : EE p s m args c cX12_copiesRow 5 RX12 B D cT (XW B adK adV)) (hr : meth.sig.returnType = none) (hlk : meth.locks = false) {o0 : Nat} {v1 : Int32} {o2 : Nat} {v3 : Int32} (h0 : isK n o0 11) (h2 : isK n o2 11) : ∀ (fu : Nat) (v4 : Int32) (μ : Mem), zl2 (gX12_copiesRow_3 o0 v1 o2 v3) fu v4 μ = some res → TT p l e rmX12_copiesRow s m args below meth c (QV B D cT n below args s res) 5 B D cT n 0 0 μ 3 [(0, .ref (B + o0)), (1, .int v1), (2, .ref (B + o2)), (3, .int v3), (4, .int v4)] [] := by
  intro fu
  induction fu with
  | zero => intro v4 μ hf; exact absurd hf (fun h => by cases h)
  | succ fu ih =>
    intro v4 μ hf
    have hf : gX12_copiesRow_3 o0 v1 o2 v3 (zl2 (gX12_copiesRow_3 o0 v1 o2 v3) fu) v4 μ = some res := hf
    unfold gX12_copiesRow_3 at hf
    refine tt_iload (pc := 3) (i := 4) (j := 4) E dX12_copiesRow_3 rfl ?_
    refine tt_sipush (pc := 5) (v := 196) E dX12_copiesRow_5 sc_196 ?_
    refine tt_icmp_ge (pc := 8) (tgt := 29) E dX12_copiesRow_8 rfl (fun c_5 => ?_) (fun c_5 => ?_)
    · have hf := ip c_5 hf
      exact tt_vret (pc := 29) E hr hlk dX12_copiesRow_29 (Nat.le_of_ble_eq_true rfl) (Nat.le_of_ble_eq_true rfl) hf
    · have hf := ine c_5 hf
      refine tt_aload_n (pc := 11) (i := 2) (j := 2) E dX12_copiesRow_11 rfl rfl ?_
      refine tt_iload_n (pc := 12) (i := 3) (j := 3) E dX12_copiesRow_12 rfl rfl ?_
      refine tt_iload (pc := 13) (i := 4) (j := 4) E dX12_copiesRow_13 rfl ?_
      refine tt_iadd (pc := 15) E dX12_copiesRow_15 ?_
      refine tt_aload_n (pc := 16) (i := 0) (j := 0) E dX12_copiesRow_16 rfl rfl ?_
      refine tt_iload_n (pc := 17) (i := 1) (j := 1) E dX12_copiesRow_17 rfl rfl ?_
      refine tt_iload (pc := 18) (i := 4) (j := 4) E dX12_copiesRow_18 rfl ?_
      refine tt_iadd (pc := 20) E dX12_copiesRow_20 ?_
      obtain ⟨g_1, hf⟩ := gd_some hf
      refine tt_iald (pc := 21) E h0 g_1 dX12_copiesRow_21 ?_
      obtain ⟨g_3, hf⟩ := gd_some hf
      refine tt_iast (pc := 22) E h2 g_3 dX12_copiesRow_22 (tt_nmM hf (fun m_2 hf => ?_))
      obtain ⟨v_4, ev_4, hf⟩ := nm_ex hf
      refine tt_iinc (pc := 23) (i := 4) (j := 4) (lv' := [(4, .int v_4), (0, .ref (B + o0)), (1, .int v1), (2, .ref (B + o2)), (3, .int v3)]) E dX12_copiesRow_23 rfl (ev_4).symm (Nat.le_of_ble_eq_true rfl) rfl ?_
      refine tt_goto (pc := 26) (tgt := 3) E dX12_copiesRow_26 rfl ?_
      refine tt_sub [1, 2, 3, 4, 0] (lv' := [(0, .ref (B + o0)), (1, .int v1), (2, .ref (B + o2)), (3, .int v3), (4, .int v_4)]) rfl ?_
      exact ih v_4 m_2 hf
set_option maxHeartbeats 4000000 in
theorem cX12_copiesRow_ok {l : Launch} {B : Nat} {D : va_G} {cT : Nat → ClassId} {n : Nat} {adK adV : Nat → Nat} {o0 : Nat} {v1 : Int32} {o2 : Nat} {v3 : Int32} {μ : Mem} {res : Mem} (h0 : isK n o0 11) (h2 : isK n o2 11) (hf : fX12_copiesRow o0 v1 o2 v3 μ = some res) : MV l yX12_copiesRow cX12_copiesRow 5 (none) rmX12_copiesRow B D cT (XW B adK adV) n [.ref (B + o0), .int v1, .ref (B + o2), .int v3] μ res := by
  refine tt_ofW mtX12_copiesRow.1 (Nat.le_of_ble_eq_true rfl) rfl ?_
  intro p e s m below meth c E0 hr hlk
  have E : EE p s m _ c cX12_copiesRow 5 RX12 B D cT (XW B adK adV) := E0
  unfold fX12_copiesRow at hf
  refine tt_iconst (pc := 0) (v := 0) E dX12_copiesRow_0 ic_0 ?_
  refine tt_istore (pc := 1) (i := 4) (lv' := [(4, .int 0), (0, .ref (B + o0)), (1, .int v1), (2, .ref (B + o2)), (3, .int v3)]) E dX12_copiesRow_1 (Nat.le_of_ble_eq_true rfl) rfl ?_
  refine tt_sub [1, 2, 3, 4, 0] (lv' := [(0, .ref (B + o0)), (1, .int v1), (2, .ref (B + o2)), (3, .int v3), (4, .int 0)]) rfl ?_
  exact tX12_copiesRow_3 E hr hlk h0 h2 FU 0 μ hf
set_option maxHeartbeats 4000000 in
theorem tX12_copiesNames_2 {p : Program} {l : Launch} {e : Env} {s : State} {m : MethodId} {args : Array Value} {below : List Frame} {meth : Method} {c : Code} {B : Nat} {D : va_G} {cT : Nat → ClassId} {n : Nat} {adK adV : Nat → Nat} {res : Mem} (E : EE p s m args c cX12_copiesNames 3 RX12 B D cT (XW B adK adV)) (hr : meth.sig.returnType = none) (hlk : meth.locks = false) {o0 : Nat} {o1 : Nat} (h0 : isK n o0 12) (h1 : isK n o1 12) : ∀ (fu : Nat) (v2 : Int32) (μ : Mem), zl2 (gX12_copiesNames_2 o0 o1) fu v2 μ = some res → TT p l e rmX12_copiesNames s m args below meth c (QV B D cT n below args s res) 3 B D cT n 0 0 μ 2 [(0, .ref (B + o0)), (1, .ref (B + o1)), (2, .int v2)] [] := by
  intro fu
  induction fu with
  | zero => intro v2 μ hf; exact absurd hf (fun h => by cases h)
  | succ fu ih =>
    intro v2 μ hf
    have hf : gX12_copiesNames_2 o0 o1 (zl2 (gX12_copiesNames_2 o0 o1) fu) v2 μ = some res := hf
    unfold gX12_copiesNames_2 at hf
    refine tt_iload_n (pc := 2) (i := 2) (j := 2) E dX12_copiesNames_2 rfl rfl ?_
    refine tt_bipush (pc := 3) (v := 8) E dX12_copiesNames_3 bc_8 ?_
    refine tt_icmp_ge (pc := 5) (tgt := 20) E dX12_copiesNames_5 rfl (fun c_5 => ?_) (fun c_5 => ?_)
    · have hf := ip c_5 hf
      exact tt_vret (pc := 20) E hr hlk dX12_copiesNames_20 (Nat.le_of_ble_eq_true rfl) (Nat.le_of_ble_eq_true rfl) hf
    · have hf := ine c_5 hf
      refine tt_aload_n (pc := 8) (i := 1) (j := 1) E dX12_copiesNames_8 rfl rfl ?_
      refine tt_iload_n (pc := 9) (i := 2) (j := 2) E dX12_copiesNames_9 rfl rfl ?_
      refine tt_aload_n (pc := 10) (i := 0) (j := 0) E dX12_copiesNames_10 rfl rfl ?_
      refine tt_iload_n (pc := 11) (i := 2) (j := 2) E dX12_copiesNames_11 rfl rfl ?_
      obtain ⟨g_1, hf⟩ := gd_some hf
      refine tt_lald (pc := 12) E h0 g_1 dX12_copiesNames_12 ?_
      obtain ⟨g_3, hf⟩ := gd_some hf
      refine tt_last (pc := 13) E h1 g_3 dX12_copiesNames_13 (tt_nmM hf (fun m_2 hf => ?_))
      obtain ⟨v_4, ev_4, hf⟩ := nm_ex hf
      refine tt_iinc (pc := 14) (i := 2) (j := 2) (lv' := [(2, .int v_4), (0, .ref (B + o0)), (1, .ref (B + o1))]) E dX12_copiesNames_14 rfl (ev_4).symm (Nat.le_of_ble_eq_true rfl) rfl ?_
      refine tt_goto (pc := 17) (tgt := 2) E dX12_copiesNames_17 rfl ?_
      refine tt_sub [1, 2, 0] (lv' := [(0, .ref (B + o0)), (1, .ref (B + o1)), (2, .int v_4)]) rfl ?_
      exact ih v_4 m_2 hf
set_option maxHeartbeats 4000000 in
theorem cX12_copiesNames_ok {l : Launch} {B : Nat} {D : va_G} {cT : Nat → ClassId} {n : Nat} {adK adV : Nat → Nat} {o0 : Nat} {o1 : Nat} {μ : Mem} {res : Mem} (h0 : isK n o0 12) (h1 : isK n o1 12) (hf : fX12_copiesNames o0 o1 μ = some res) : MV l yX12_copiesNames cX12_copiesNames 3 (none) rmX12_copiesNames B D cT (XW B adK adV) n [.ref (B + o0), .ref (B + o1)] μ res := by
  refine tt_ofW mtX12_copiesNames.1 (Nat.le_of_ble_eq_true rfl) rfl ?_
  intro p e s m below meth c E0 hr hlk
  have E : EE p s m _ c cX12_copiesNames 3 RX12 B D cT (XW B adK adV) := E0
  unfold fX12_copiesNames at hf
  refine tt_iconst (pc := 0) (v := 0) E dX12_copiesNames_0 ic_0 ?_
  refine tt_istore_n (pc := 1) (i := 2) (lv' := [(2, .int 0), (0, .ref (B + o0)), (1, .ref (B + o1))]) E dX12_copiesNames_1 rfl (Nat.le_of_ble_eq_true rfl) rfl ?_
  refine tt_sub [1, 2, 0] (lv' := [(0, .ref (B + o0)), (1, .ref (B + o1)), (2, .int 0)]) rfl ?_
  exact tX12_copiesNames_2 E hr hlk h0 h1 FU 0 μ hf
set_option maxHeartbeats 4000000 in
theorem tX12_clears_24 {p : Program} {l : Launch} {e : Env} {s : State} {m : MethodId} {args : Array Value} {below : List Frame} {meth : Method} {c : Code} {B : Nat} {D : va_G} {cT : Nat → ClassId} {n : Nat} {adK adV : Nat → Nat} {res : Mem} (E : EE p s m args c cX12_clears 2 RX12 B D cT (XW B adK adV)) (hr : meth.sig.returnType = none) (hlk : meth.locks = false) {o0 : Nat} (h0 : isK n o0 9) : ∀ (fu : Nat) (v1 : Int32) (μ : Mem), zl2 (gX12_clears_24 o0) fu v1 μ = some res → TT p l e rmX12_clears s m args below meth c (QV B D cT n below args s res) 2 B D cT n 0 0 μ 24 [(0, .ref (B + o0)), (1, .int v1)] [] := by
  intro fu
  induction fu with
  | zero => intro v1 μ hf; exact absurd hf (fun h => by cases h)
  | succ fu ih =>
    intro v1 μ hf
    have hf : gX12_clears_24 o0 (zl2 (gX12_clears_24 o0) fu) v1 μ = some res := hf
    unfold gX12_clears_24 at hf
    refine tt_iload_n (pc := 24) (i := 1) (j := 1) E dX12_clears_24 rfl rfl ?_
    refine tt_bipush (pc := 25) (v := 8) E dX12_clears_25 bc_8 ?_
    refine tt_icmp_ge (pc := 27) (tgt := 43) E dX12_clears_27 rfl (fun c_12 => ?_) (fun c_12 => ?_)
    · have hf := ip c_12 hf
      refine tt_aload_n (pc := 43) (i := 0) (j := 0) E dX12_clears_43 rfl rfl ?_
      obtain ⟨q_1, hq_2, hf⟩ := bd_some hf
      refine tt_getP (pc := 44) (t := 11) E lfX12_20 rfl rfl h0 dX12_clears_44 hq_2 (fun kq_3 => ?_)
      refine tt_iconst (pc := 47) (v := 1) E dX12_clears_47 ic_1 ?_
      refine tt_sipush (pc := 48) (v := 300) E dX12_clears_48 sc_300 ?_
      obtain ⟨g_5, hf⟩ := gd_some hf
      refine tt_iast (pc := 51) E kq_3 g_5 dX12_clears_51 (tt_nmM hf (fun m_4 hf => ?_))
      exact tt_vret (pc := 52) E hr hlk dX12_clears_52 (Nat.le_of_ble_eq_true rfl) (Nat.le_of_ble_eq_true rfl) hf
    · have hf := ine c_12 hf
      refine tt_aload_n (pc := 30) (i := 0) (j := 0) E dX12_clears_30 rfl rfl ?_
      obtain ⟨q_6, hq_7, hf⟩ := bd_some hf
      refine tt_getP (pc := 31) (t := 12) E lfX12_35 rfl rfl h0 dX12_clears_31 hq_7 (fun kq_8 => ?_)
      refine tt_iload_n (pc := 34) (i := 1) (j := 1) E dX12_clears_34 rfl rfl ?_
      refine tt_lconst (pc := 35) (v := 0) E dX12_clears_35 lc_0 ?_
      obtain ⟨g_10, hf⟩ := gd_some hf
      refine tt_last (pc := 36) E kq_8 g_10 dX12_clears_36 (tt_nmM hf (fun m_9 hf => ?_))
      obtain ⟨v_11, ev_11, hf⟩ := nm_ex hf
      refine tt_iinc (pc := 37) (i := 1) (j := 1) (lv' := [(1, .int v_11), (0, .ref (B + o0))]) E dX12_clears_37 rfl (ev_11).symm (Nat.le_of_ble_eq_true rfl) rfl ?_
      refine tt_goto (pc := 40) (tgt := 24) E dX12_clears_40 rfl ?_
      refine tt_sub [1, 0] (lv' := [(0, .ref (B + o0)), (1, .int v_11)]) rfl ?_
      exact ih v_11 m_9 hf
set_option maxHeartbeats 4000000 in
theorem tX12_clears_2 {p : Program} {l : Launch} {e : Env} {s : State} {m : MethodId} {args : Array Value} {below : List Frame} {meth : Method} {c : Code} {B : Nat} {D : va_G} {cT : Nat → ClassId} {n : Nat} {adK adV : Nat → Nat} {res : Mem} (E : EE p s m args c cX12_clears 2 RX12 B D cT (XW B adK adV)) (hr : meth.sig.returnType = none) (hlk : meth.locks = false) {o0 : Nat} (h0 : isK n o0 9) : ∀ (fu : Nat) (v1 : Int32) (μ : Mem), zl2 (gX12_clears_2 o0) fu v1 μ = some res → TT p l e rmX12_clears s m args below meth c (QV B D cT n below args s res) 2 B D cT n 0 0 μ 2 [(0, .ref (B + o0)), (1, .int v1)] [] := by
  intro fu
  induction fu with
  | zero => intro v1 μ hf; exact absurd hf (fun h => by cases h)
  | succ fu ih =>
    intro v1 μ hf
    have hf : gX12_clears_2 o0 (zl2 (gX12_clears_2 o0) fu) v1 μ = some res := hf
    unfold gX12_clears_2 at hf
    refine tt_iload_n (pc := 2) (i := 1) (j := 1) E dX12_clears_2 rfl rfl ?_
    refine tt_sipush (pc := 3) (v := 196) E dX12_clears_3 sc_196 ?_
    refine tt_icmp_ge (pc := 6) (tgt := 22) E dX12_clears_6 rfl (fun c_7 => ?_) (fun c_7 => ?_)
    · have hf := ip c_7 hf
      refine tt_iconst (pc := 22) (v := 0) E dX12_clears_22 ic_0 ?_
      refine tt_istore_n (pc := 23) (i := 1) (lv' := [(1, .int 0), (0, .ref (B + o0))]) E dX12_clears_23 rfl (Nat.le_of_ble_eq_true rfl) rfl ?_
      refine tt_sub [1, 0] (lv' := [(0, .ref (B + o0)), (1, .int 0)]) rfl ?_
      exact tX12_clears_24 E hr hlk h0 FU 0 μ hf
    · have hf := ine c_7 hf
      refine tt_aload_n (pc := 9) (i := 0) (j := 0) E dX12_clears_9 rfl rfl ?_
      obtain ⟨q_1, hq_2, hf⟩ := bd_some hf
      refine tt_getP (pc := 10) (t := 11) E lfX12_20 rfl rfl h0 dX12_clears_10 hq_2 (fun kq_3 => ?_)
      refine tt_iload_n (pc := 13) (i := 1) (j := 1) E dX12_clears_13 rfl rfl ?_
      refine tt_iconst (pc := 14) (v := 0) E dX12_clears_14 ic_0 ?_
      obtain ⟨g_5, hf⟩ := gd_some hf
      refine tt_iast (pc := 15) E kq_3 g_5 dX12_clears_15 (tt_nmM hf (fun m_4 hf => ?_))
      obtain ⟨v_6, ev_6, hf⟩ := nm_ex hf
      refine tt_iinc (pc := 16) (i := 1) (j := 1) (lv' := [(1, .int v_6), (0, .ref (B + o0))]) E dX12_clears_16 rfl (ev_6).symm (Nat.le_of_ble_eq_true rfl) rfl ?_
      refine tt_goto (pc := 19) (tgt := 2) E dX12_clears_19 rfl ?_
      refine tt_sub [1, 0] (lv' := [(0, .ref (B + o0)), (1, .int v_6)]) rfl ?_
      exact ih v_6 m_4 hf
set_option maxHeartbeats 4000000 in
theorem cX12_clears_ok {l : Launch} {B : Nat} {D : va_G} {cT : Nat → ClassId} {n : Nat} {adK adV : Nat → Nat} {o0 : Nat} {μ : Mem} {res : Mem} (h0 : isK n o0 9) (hf : fX12_clears o0 μ = some res) : MV l yX12_clears cX12_clears 2 (none) rmX12_clears B D cT (XW B adK adV) n [.ref (B + o0)] μ res := by
  refine tt_ofW mtX12_clears.1 (Nat.le_of_ble_eq_true rfl) rfl ?_
  intro p e s m below meth c E0 hr hlk
  have E : EE p s m _ c cX12_clears 2 RX12 B D cT (XW B adK adV) := E0
  unfold fX12_clears at hf
  refine tt_iconst (pc := 0) (v := 0) E dX12_clears_0 ic_0 ?_
  refine tt_istore_n (pc := 1) (i := 1) (lv' := [(1, .int 0), (0, .ref (B + o0))]) E dX12_clears_1 rfl (Nat.le_of_ble_eq_true rfl) rfl ?_
  refine tt_sub [1, 0] (lv' := [(0, .ref (B + o0)), (1, .int 0)]) rfl ?_
  exact tX12_clears_2 E hr hlk h0 FU 0 μ hf
set_option maxHeartbeats 4000000 in
theorem cX12_laysAside_ok {l : Launch} {B : Nat} {D : va_G} {cT : Nat → ClassId} {n : Nat} {adK adV : Nat → Nat} {o0 : Nat} {μ : Mem} {res : Mem} (h0 : isK n o0 9) (hf : fX12_laysAside o0 μ = some res) : MV l yX12_laysAside cX12_laysAside 1 (none) rmX12_laysAside B D cT (XW B adK adV) n [.ref (B + o0)] μ res := by
  refine tt_ofW mtX12_laysAside.1 (Nat.le_of_ble_eq_true rfl) rfl ?_
  intro p e s m below meth c E0 hr hlk
  have E : EE p s m _ c cX12_laysAside 1 RX12 B D cT (XW B adK adV) := E0
  unfold fX12_laysAside at hf
  refine tt_aload_n (pc := 0) (i := 0) (j := 0) E dX12_laysAside_0 rfl rfl ?_
  obtain ⟨q_1, hq_2, hf⟩ := bd_some hf
  refine tt_getP (pc := 1) (t := 11) E lfX12_20 rfl rfl h0 dX12_laysAside_1 hq_2 (fun kq_3 => ?_)
  refine tt_iconst (pc := 4) (v := 0) E dX12_laysAside_4 ic_0 ?_
  refine tt_aload_n (pc := 5) (i := 0) (j := 0) E dX12_laysAside_5 rfl rfl ?_
  obtain ⟨q_4, hq_5, hf⟩ := bd_some hf
  refine tt_getP (pc := 6) (t := 11) E lfX12_26 rfl rfl h0 dX12_laysAside_6 hq_5 (fun kq_6 => ?_)
  refine tt_iconst (pc := 9) (v := 0) E dX12_laysAside_9 ic_0 ?_
  obtain ⟨r_7, hr_8, hf⟩ := bd_some hf
  have hc_9 := cX12_copiesRow_ok (l := l) (B := B) (D := D) (cT := cT) (n := n) (adK := adK) (adV := adV) kq_3 kq_6 hr_8
  refine tt_cV (pc := 10) (tt_si E lmX12_153 mtX12_copiesRow hc_9 rfl rfl (Nat.le_of_ble_eq_true rfl) ⟨(Nat.le_of_ble_eq_true rfl), (Nat.le_of_ble_eq_true rfl)⟩ ⟨(Nat.le_of_ble_eq_true rfl), (Nat.le_of_ble_eq_true rfl)⟩ dX12_laysAside_10) ?_
  exact tt_vret (pc := 13) E hr hlk dX12_laysAside_13 (Nat.le_of_ble_eq_true rfl) (Nat.le_of_ble_eq_true rfl) hf
set_option maxHeartbeats 4000000 in
theorem tX12_keeps_55 {p : Program} {l : Launch} {e : Env} {s : State} {m : MethodId} {args : Array Value} {below : List Frame} {meth : Method} {c : Code} {B : Nat} {D : va_G} {cT : Nat → ClassId} {n : Nat} {adK adV : Nat → Nat} {res : Mem} (E : EE p s m args c cX12_keeps 2 RX12 B D cT (XW B adK adV)) (hr : meth.sig.returnType = none) (hlk : meth.locks = false) {o0 : Nat} (h0 : isK n o0 9) {μ : Mem} (hf : fX12_keeps_55 o0 μ = some res) : TT p l e rmX12_keeps s m args below meth c (QV B D cT n below args s res) 2 B D cT n 0 0 μ 55 [(0, .ref (B + o0))] [] := by
  unfold fX12_keeps_55 at hf
  refine tt_aload_n (pc := 55) (i := 0) (j := 0) E dX12_keeps_55 rfl rfl ?_
  obtain ⟨q_1, hq_2, hf⟩ := bd_some hf
  refine tt_getP (pc := 56) (t := 11) E lfX12_26 rfl rfl h0 dX12_keeps_56 hq_2 (fun kq_3 => ?_)
  refine tt_iconst (pc := 59) (v := 0) E dX12_keeps_59 ic_0 ?_
  refine tt_aload_n (pc := 60) (i := 0) (j := 0) E dX12_keeps_60 rfl rfl ?_
  obtain ⟨q_4, hq_5, hf⟩ := bd_some hf
  refine tt_getP (pc := 61) (t := 11) E lfX12_32 rfl rfl h0 dX12_keeps_61 hq_5 (fun kq_6 => ?_)
  refine tt_sipush (pc := 64) (v := 196) E dX12_keeps_64 sc_196 ?_
  refine tt_aload_n (pc := 67) (i := 0) (j := 0) E dX12_keeps_67 rfl rfl ?_
  refine tt_getI (pc := 68) E lfX12_157 rfl h0 dX12_keeps_68 ?_
  refine tt_imul (pc := 71) E dX12_keeps_71 ?_
  obtain ⟨r_7, hr_8, hf⟩ := bd_some hf
  have hc_9 := cX12_copiesRow_ok (l := l) (B := B) (D := D) (cT := cT) (n := n) (adK := adK) (adV := adV) kq_3 kq_6 hr_8
  refine tt_cV (pc := 72) (tt_si E lmX12_153 mtX12_copiesRow hc_9 rfl rfl (Nat.le_of_ble_eq_true rfl) ⟨(Nat.le_of_ble_eq_true rfl), (Nat.le_of_ble_eq_true rfl)⟩ ⟨(Nat.le_of_ble_eq_true rfl), (Nat.le_of_ble_eq_true rfl)⟩ dX12_keeps_72) ?_
  refine tt_aload_n (pc := 75) (i := 0) (j := 0) E dX12_keeps_75 rfl rfl ?_
  refine tt_dup (pc := 76) E dX12_keeps_76 rfl ?_
  refine tt_getI (pc := 77) E lfX12_157 rfl h0 dX12_keeps_77 ?_
  refine tt_iconst (pc := 80) (v := 1) E dX12_keeps_80 ic_1 ?_
  refine tt_iadd (pc := 81) E dX12_keeps_81 ?_
  refine tt_putI (pc := 82) E lfX12_157 rfl h0 dX12_keeps_82 (tt_nmM hf (fun m_10 hf => ?_))
  exact tt_vret (pc := 85) E hr hlk dX12_keeps_85 (Nat.le_of_ble_eq_true rfl) (Nat.le_of_ble_eq_true rfl) hf
set_option maxHeartbeats 4000000 in
theorem tX12_keeps_21 {p : Program} {l : Launch} {e : Env} {s : State} {m : MethodId} {args : Array Value} {below : List Frame} {meth : Method} {c : Code} {B : Nat} {D : va_G} {cT : Nat → ClassId} {n : Nat} {adK adV : Nat → Nat} {res : Mem} (E : EE p s m args c cX12_keeps 2 RX12 B D cT (XW B adK adV)) (hr : meth.sig.returnType = none) (hlk : meth.locks = false) {o0 : Nat} (h0 : isK n o0 9) : ∀ (fu : Nat) (v1 : Int32) (μ : Mem), zl2 (gX12_keeps_21 o0) fu v1 μ = some res → TT p l e rmX12_keeps s m args below meth c (QV B D cT n below args s res) 2 B D cT n 0 0 μ 21 [(0, .ref (B + o0)), (1, .int v1)] [] := by
  intro fu
  induction fu with
  | zero => intro v1 μ hf; exact absurd hf (fun h => by cases h)
  | succ fu ih =>
    intro v1 μ hf
    have hf : gX12_keeps_21 o0 (zl2 (gX12_keeps_21 o0) fu) v1 μ = some res := hf
    unfold gX12_keeps_21 at hf
    refine tt_iload_n (pc := 21) (i := 1) (j := 1) E dX12_keeps_21 rfl rfl ?_
    refine tt_sipush (pc := 22) (v := 196) E dX12_keeps_22 sc_196 ?_
    refine tt_aload_n (pc := 25) (i := 0) (j := 0) E dX12_keeps_25 rfl rfl ?_
    refine tt_getI (pc := 26) E lfX12_157 rfl h0 dX12_keeps_26 ?_
    refine tt_imul (pc := 29) E dX12_keeps_29 ?_
    refine tt_icmp_ge (pc := 30) (tgt := 55) E dX12_keeps_30 rfl (fun c_11 => ?_) (fun c_11 => ?_)
    · have hf := ip c_11 hf
      refine tt_sub [0] (lv' := [(0, .ref (B + o0))]) rfl ?_
      exact tX12_keeps_55 E hr hlk h0 hf
    · have hf := ine c_11 hf
      refine tt_aload_n (pc := 33) (i := 0) (j := 0) E dX12_keeps_33 rfl rfl ?_
      obtain ⟨q_1, hq_2, hf⟩ := bd_some hf
      refine tt_getP (pc := 34) (t := 11) E lfX12_32 rfl rfl h0 dX12_keeps_34 hq_2 (fun kq_3 => ?_)
      refine tt_iload_n (pc := 37) (i := 1) (j := 1) E dX12_keeps_37 rfl rfl ?_
      refine tt_aload_n (pc := 38) (i := 0) (j := 0) E dX12_keeps_38 rfl rfl ?_
      obtain ⟨q_4, hq_5, hf⟩ := bd_some hf
      refine tt_getP (pc := 39) (t := 11) E lfX12_32 rfl rfl h0 dX12_keeps_39 hq_5 (fun kq_6 => ?_)
      refine tt_iload_n (pc := 42) (i := 1) (j := 1) E dX12_keeps_42 rfl rfl ?_
      refine tt_sipush (pc := 43) (v := 196) E dX12_keeps_43 sc_196 ?_
      refine tt_iadd (pc := 46) E dX12_keeps_46 ?_
      obtain ⟨g_7, hf⟩ := gd_some hf
      refine tt_iald (pc := 47) E kq_6 g_7 dX12_keeps_47 ?_
      obtain ⟨g_9, hf⟩ := gd_some hf
      refine tt_iast (pc := 48) E kq_3 g_9 dX12_keeps_48 (tt_nmM hf (fun m_8 hf => ?_))
      obtain ⟨v_10, ev_10, hf⟩ := nm_ex hf
      refine tt_iinc (pc := 49) (i := 1) (j := 1) (lv' := [(1, .int v_10), (0, .ref (B + o0))]) E dX12_keeps_49 rfl (ev_10).symm (Nat.le_of_ble_eq_true rfl) rfl ?_
      refine tt_goto (pc := 52) (tgt := 21) E dX12_keeps_52 rfl ?_
      refine tt_sub [1, 0] (lv' := [(0, .ref (B + o0)), (1, .int v_10)]) rfl ?_
      exact ih v_10 m_8 hf
set_option maxHeartbeats 4000000 in
theorem cX12_keeps_ok {l : Launch} {B : Nat} {D : va_G} {cT : Nat → ClassId} {n : Nat} {adK adV : Nat → Nat} {o0 : Nat} {μ : Mem} {res : Mem} (h0 : isK n o0 9) (hf : fX12_keeps o0 μ = some res) : MV l yX12_keeps cX12_keeps 2 (none) rmX12_keeps B D cT (XW B adK adV) n [.ref (B + o0)] μ res := by
  refine tt_ofW mtX12_keeps.1 (Nat.le_of_ble_eq_true rfl) rfl ?_
  intro p e s m below meth c E0 hr hlk
  have E : EE p s m _ c cX12_keeps 2 RX12 B D cT (XW B adK adV) := E0
  unfold fX12_keeps at hf
  refine tt_aload_n (pc := 0) (i := 0) (j := 0) E dX12_keeps_0 rfl rfl ?_
  refine tt_getI (pc := 1) E lfX12_157 rfl h0 dX12_keeps_1 ?_
  refine tt_bipush (pc := 4) (v := 6) E dX12_keeps_4 bc_6 ?_
  refine tt_icmp_ne (pc := 6) (tgt := 55) E dX12_keeps_6 rfl (fun c_2 => ?_) (fun c_2 => ?_)
  · have hf := ine c_2 hf
    exact tX12_keeps_55 E hr hlk h0 hf
  · have hf := ip c_2 hf
    refine tt_aload_n (pc := 9) (i := 0) (j := 0) E dX12_keeps_9 rfl rfl ?_
    refine tt_dup (pc := 10) E dX12_keeps_10 rfl ?_
    refine tt_getI (pc := 11) E lfX12_157 rfl h0 dX12_keeps_11 ?_
    refine tt_iconst (pc := 14) (v := 1) E dX12_keeps_14 ic_1 ?_
    refine tt_isub (pc := 15) E dX12_keeps_15 ?_
    refine tt_putI (pc := 16) E lfX12_157 rfl h0 dX12_keeps_16 (tt_nmM hf (fun m_1 hf => ?_))
    refine tt_iconst (pc := 19) (v := 0) E dX12_keeps_19 ic_0 ?_
    refine tt_istore_n (pc := 20) (i := 1) (lv' := [(1, .int 0), (0, .ref (B + o0))]) E dX12_keeps_20 rfl (Nat.le_of_ble_eq_true rfl) rfl ?_
    refine tt_sub [1, 0] (lv' := [(0, .ref (B + o0)), (1, .int 0)]) rfl ?_
    exact tX12_keeps_21 E hr hlk h0 FU 0 m_1 hf
set_option maxHeartbeats 4000000 in
theorem cX12_kept_ok {l : Launch} {B : Nat} {D : va_G} {cT : Nat → ClassId} {n : Nat} {adK adV : Nat → Nat} {o0 : Nat} {v1 : Int32} {μ : Mem} {res : Int32 × Mem} (h0 : isK n o0 9) (hf : fX12_kept o0 v1 μ = some res) : MI l yX12_kept cX12_kept 2 (some .int) rmX12_kept B D cT (XW B adK adV) n [.ref (B + o0), .int v1] μ res := by
  refine tt_ofW mtX12_kept.1 (Nat.le_of_ble_eq_true rfl) rfl ?_
  intro p e s m below meth c E0 hr hlk
  have E : EE p s m _ c cX12_kept 2 RX12 B D cT (XW B adK adV) := E0
  unfold fX12_kept at hf
  refine tt_aload_n (pc := 0) (i := 0) (j := 0) E dX12_kept_0 rfl rfl ?_
  obtain ⟨r_1, hr_2, hf⟩ := bd_some hf
  have hc_3 := cX12_keeps_ok (l := l) (B := B) (D := D) (cT := cT) (n := n) (adK := adK) (adV := adV) h0 hr_2
  refine tt_cV (pc := 1) (tt_vi E lmX12_160 mtX12_keeps hc_3 h0 rfl rfl (Nat.le_of_ble_eq_true rfl) ⟨(Nat.le_of_ble_eq_true rfl), (Nat.le_of_ble_eq_true rfl)⟩ ⟨(Nat.le_of_ble_eq_true rfl), (Nat.le_of_ble_eq_true rfl)⟩ dX12_kept_1) ?_
  refine tt_iload_n (pc := 4) (i := 1) (j := 1) E dX12_kept_4 rfl rfl ?_
  exact tt_iret (pc := 5) E hr hlk dX12_kept_5 (Nat.le_of_ble_eq_true rfl) (Nat.le_of_ble_eq_true rfl) hf
set_option maxHeartbeats 4000000 in
theorem cX12_undo_ok {l : Launch} {B : Nat} {D : va_G} {cT : Nat → ClassId} {n : Nat} {adK adV : Nat → Nat} {o0 : Nat} {μ : Mem} {res : Int32 × Mem} (h0 : isK n o0 9) (hf : fX12_undo o0 μ = some res) : MI l yX12_undo cX12_undo 1 (some .int) rmX12_undo B D cT (XW B adK adV) n [.ref (B + o0)] μ res := by
  refine tt_ofW mtX12_undo.1 (Nat.le_of_ble_eq_true rfl) rfl ?_
  intro p e s m below meth c E0 hr hlk
  have E : EE p s m _ c cX12_undo 1 RX12 B D cT (XW B adK adV) := E0
  unfold fX12_undo at hf
  refine tt_aload_n (pc := 0) (i := 0) (j := 0) E dX12_undo_0 rfl rfl ?_
  refine tt_iconst (pc := 1) (v := 0) E dX12_undo_1 ic_0 ?_
  refine tt_putI (pc := 2) E lfX12_75 rfl h0 dX12_undo_2 (tt_nmM hf (fun m_1 hf => ?_))
  refine tt_aload_n (pc := 5) (i := 0) (j := 0) E dX12_undo_5 rfl rfl ?_
  refine tt_getI (pc := 6) E lfX12_157 rfl h0 dX12_undo_6 ?_
  refine tt_if_ne (pc := 9) (tgt := 14) E dX12_undo_9 rfl (fun c_12 => ?_) (fun c_12 => ?_)
  · have hf := ine c_12 hf
    refine tt_aload_n (pc := 14) (i := 0) (j := 0) E dX12_undo_14 rfl rfl ?_
    refine tt_dup (pc := 15) E dX12_undo_15 rfl ?_
    refine tt_getI (pc := 16) E lfX12_157 rfl h0 dX12_undo_16 ?_
    refine tt_iconst (pc := 19) (v := 1) E dX12_undo_19 ic_1 ?_
    refine tt_isub (pc := 20) E dX12_undo_20 ?_
    refine tt_putI (pc := 21) E lfX12_157 rfl h0 dX12_undo_21 (tt_nmM hf (fun m_2 hf => ?_))
    refine tt_aload_n (pc := 24) (i := 0) (j := 0) E dX12_undo_24 rfl rfl ?_
    obtain ⟨q_3, hq_4, hf⟩ := bd_some hf
    refine tt_getP (pc := 25) (t := 11) E lfX12_32 rfl rfl h0 dX12_undo_25 hq_4 (fun kq_5 => ?_)
    refine tt_sipush (pc := 28) (v := 196) E dX12_undo_28 sc_196 ?_
    refine tt_aload_n (pc := 31) (i := 0) (j := 0) E dX12_undo_31 rfl rfl ?_
    refine tt_getI (pc := 32) E lfX12_157 rfl h0 dX12_undo_32 ?_
    refine tt_imul (pc := 35) E dX12_undo_35 ?_
    refine tt_aload_n (pc := 36) (i := 0) (j := 0) E dX12_undo_36 rfl rfl ?_
    obtain ⟨q_6, hq_7, hf⟩ := bd_some hf
    refine tt_getP (pc := 37) (t := 11) E lfX12_20 rfl rfl h0 dX12_undo_37 hq_7 (fun kq_8 => ?_)
    refine tt_iconst (pc := 40) (v := 0) E dX12_undo_40 ic_0 ?_
    obtain ⟨r_9, hr_10, hf⟩ := bd_some hf
    have hc_11 := cX12_copiesRow_ok (l := l) (B := B) (D := D) (cT := cT) (n := n) (adK := adK) (adV := adV) kq_5 kq_8 hr_10
    refine tt_cV (pc := 41) (tt_si E lmX12_153 mtX12_copiesRow hc_11 rfl rfl (Nat.le_of_ble_eq_true rfl) ⟨(Nat.le_of_ble_eq_true rfl), (Nat.le_of_ble_eq_true rfl)⟩ ⟨(Nat.le_of_ble_eq_true rfl), (Nat.le_of_ble_eq_true rfl)⟩ dX12_undo_41) ?_
    refine tt_aload_n (pc := 44) (i := 0) (j := 0) E dX12_undo_44 rfl rfl ?_
    refine tt_getI (pc := 45) E lfX12_157 rfl h0 dX12_undo_45 ?_
    exact tt_iret (pc := 48) E hr hlk dX12_undo_48 (Nat.le_of_ble_eq_true rfl) (Nat.le_of_ble_eq_true rfl) hf
  · have hf := ip c_12 hf
    refine tt_iconst (pc := 12) (v := (-1)) E dX12_undo_12 ic_m1 ?_
    exact tt_iret (pc := 13) E hr hlk dX12_undo_13 (Nat.le_of_ble_eq_true rfl) (Nat.le_of_ble_eq_true rfl) hf
set_option maxHeartbeats 4000000 in
theorem cX12_save_ok {l : Launch} {B : Nat} {D : va_G} {cT : Nat → ClassId} {n : Nat} {adK adV : Nat → Nat} {o0 : Nat} {μ : Mem} {res : Int32 × Mem} (h0 : isK n o0 9) (hf : fX12_save o0 μ = some res) : MI l yX12_save cX12_save 1 (some .int) rmX12_save B D cT (XW B adK adV) n [.ref (B + o0)] μ res := by
  refine tt_ofW mtX12_save.1 (Nat.le_of_ble_eq_true rfl) rfl ?_
  intro p e s m below meth c E0 hr hlk
  have E : EE p s m _ c cX12_save 1 RX12 B D cT (XW B adK adV) := E0
  unfold fX12_save at hf
  refine tt_aload_n (pc := 0) (i := 0) (j := 0) E dX12_save_0 rfl rfl ?_
  refine tt_iconst (pc := 1) (v := 0) E dX12_save_1 ic_0 ?_
  refine tt_putI (pc := 2) E lfX12_75 rfl h0 dX12_save_2 (tt_nmM hf (fun m_1 hf => ?_))
  refine tt_aload_n (pc := 5) (i := 0) (j := 0) E dX12_save_5 rfl rfl ?_
  obtain ⟨q_2, hq_3, hf⟩ := bd_some hf
  refine tt_getP (pc := 6) (t := 11) E lfX12_20 rfl rfl h0 dX12_save_6 hq_3 (fun kq_4 => ?_)
  refine tt_iconst (pc := 9) (v := 0) E dX12_save_9 ic_0 ?_
  refine tt_aload_n (pc := 10) (i := 0) (j := 0) E dX12_save_10 rfl rfl ?_
  obtain ⟨q_5, hq_6, hf⟩ := bd_some hf
  refine tt_getP (pc := 11) (t := 11) E lfX12_23 rfl rfl h0 dX12_save_11 hq_6 (fun kq_7 => ?_)
  refine tt_iconst (pc := 14) (v := 0) E dX12_save_14 ic_0 ?_
  obtain ⟨r_8, hr_9, hf⟩ := bd_some hf
  have hc_10 := cX12_copiesRow_ok (l := l) (B := B) (D := D) (cT := cT) (n := n) (adK := adK) (adV := adV) kq_4 kq_7 hr_9
  refine tt_cV (pc := 15) (tt_si E lmX12_153 mtX12_copiesRow hc_10 rfl rfl (Nat.le_of_ble_eq_true rfl) ⟨(Nat.le_of_ble_eq_true rfl), (Nat.le_of_ble_eq_true rfl)⟩ ⟨(Nat.le_of_ble_eq_true rfl), (Nat.le_of_ble_eq_true rfl)⟩ dX12_save_15) ?_
  refine tt_aload_n (pc := 18) (i := 0) (j := 0) E dX12_save_18 rfl rfl ?_
  obtain ⟨q_11, hq_12, hf⟩ := bd_some hf
  refine tt_getP (pc := 19) (t := 12) E lfX12_35 rfl rfl h0 dX12_save_19 hq_12 (fun kq_13 => ?_)
  refine tt_aload_n (pc := 22) (i := 0) (j := 0) E dX12_save_22 rfl rfl ?_
  obtain ⟨q_14, hq_15, hf⟩ := bd_some hf
  refine tt_getP (pc := 23) (t := 12) E lfX12_39 rfl rfl h0 dX12_save_23 hq_15 (fun kq_16 => ?_)
  obtain ⟨r_17, hr_18, hf⟩ := bd_some hf
  have hc_19 := cX12_copiesNames_ok (l := l) (B := B) (D := D) (cT := cT) (n := n) (adK := adK) (adV := adV) kq_13 kq_16 hr_18
  refine tt_cV (pc := 26) (tt_si E lmX12_163 mtX12_copiesNames hc_19 rfl rfl (Nat.le_of_ble_eq_true rfl) ⟨(Nat.le_of_ble_eq_true rfl), (Nat.le_of_ble_eq_true rfl)⟩ ⟨(Nat.le_of_ble_eq_true rfl), (Nat.le_of_ble_eq_true rfl)⟩ dX12_save_26) ?_
  refine tt_aload_n (pc := 29) (i := 0) (j := 0) E dX12_save_29 rfl rfl ?_
  refine tt_iconst (pc := 30) (v := 1) E dX12_save_30 ic_1 ?_
  refine tt_putZ (pc := 31) E ((Or.inr rfl)) lfX12_167 rfl h0 dX12_save_31 (tt_nmM hf (fun m_20 hf => ?_))
  refine tt_aload_n (pc := 34) (i := 0) (j := 0) E dX12_save_34 rfl rfl ?_
  obtain ⟨q_21, hq_22, hf⟩ := bd_some hf
  refine tt_getP (pc := 35) (t := 11) E lfX12_20 rfl rfl h0 dX12_save_35 hq_22 (fun kq_23 => ?_)
  refine tt_iconst (pc := 38) (v := 2) E dX12_save_38 ic_2 ?_
  obtain ⟨g_24, hf⟩ := gd_some hf
  refine tt_iald (pc := 39) E kq_23 g_24 dX12_save_39 ?_
  exact tt_iret (pc := 40) E hr hlk dX12_save_40 (Nat.le_of_ble_eq_true rfl) (Nat.le_of_ble_eq_true rfl) hf
set_option maxHeartbeats 4000000 in
theorem cX12_restore_ok {l : Launch} {B : Nat} {D : va_G} {cT : Nat → ClassId} {n : Nat} {adK adV : Nat → Nat} {o0 : Nat} {μ : Mem} {res : Int32 × Mem} (h0 : isK n o0 9) (hf : fX12_restore o0 μ = some res) : MI l yX12_restore cX12_restore 1 (some .int) rmX12_restore B D cT (XW B adK adV) n [.ref (B + o0)] μ res := by
  refine tt_ofW mtX12_restore.1 (Nat.le_of_ble_eq_true rfl) rfl ?_
  intro p e s m below meth c E0 hr hlk
  have E : EE p s m _ c cX12_restore 1 RX12 B D cT (XW B adK adV) := E0
  unfold fX12_restore at hf
  refine tt_aload_n (pc := 0) (i := 0) (j := 0) E dX12_restore_0 rfl rfl ?_
  refine tt_aload_n (pc := 1) (i := 0) (j := 0) E dX12_restore_1 rfl rfl ?_
  refine tt_getZ (pc := 2) E lfX12_167 rfl h0 dX12_restore_2 (fun z_1 => ?_)
  obtain ⟨r_2, hr_3, hf⟩ := bd_some hf
  have hc_4 := cX12_goes_ok (l := l) (B := B) (D := D) (cT := cT) (n := n) (adK := adK) (adV := adV) h0 z_1 hr_3
  refine tt_cZ (pc := 5) (tt_vi E lmX12_85 mtX12_goes hc_4 h0 rfl rfl (Nat.le_of_ble_eq_true rfl) ⟨(Nat.le_of_ble_eq_true rfl), (Nat.le_of_ble_eq_true rfl)⟩ ⟨(Nat.le_of_ble_eq_true rfl), (Nat.le_of_ble_eq_true rfl)⟩ dX12_restore_5) (fun z_5 => ?_)
  refine tt_if_ne (pc := 8) (tgt := 13) E dX12_restore_8 rfl (fun c_29 => ?_) (fun c_29 => ?_)
  · have hf := ine c_29 hf
    refine tt_aload_n (pc := 13) (i := 0) (j := 0) E dX12_restore_13 rfl rfl ?_
    obtain ⟨q_6, hq_7, hf⟩ := bd_some hf
    refine tt_getP (pc := 14) (t := 11) E lfX12_23 rfl rfl h0 dX12_restore_14 hq_7 (fun kq_8 => ?_)
    refine tt_iconst (pc := 17) (v := 0) E dX12_restore_17 ic_0 ?_
    refine tt_aload_n (pc := 18) (i := 0) (j := 0) E dX12_restore_18 rfl rfl ?_
    obtain ⟨q_9, hq_10, hf⟩ := bd_some hf
    refine tt_getP (pc := 19) (t := 11) E lfX12_20 rfl rfl h0 dX12_restore_19 hq_10 (fun kq_11 => ?_)
    refine tt_iconst (pc := 22) (v := 0) E dX12_restore_22 ic_0 ?_
    obtain ⟨r_12, hr_13, hf⟩ := bd_some hf
    have hc_14 := cX12_copiesRow_ok (l := l) (B := B) (D := D) (cT := cT) (n := n) (adK := adK) (adV := adV) kq_8 kq_11 hr_13
    refine tt_cV (pc := 23) (tt_si E lmX12_153 mtX12_copiesRow hc_14 rfl rfl (Nat.le_of_ble_eq_true rfl) ⟨(Nat.le_of_ble_eq_true rfl), (Nat.le_of_ble_eq_true rfl)⟩ ⟨(Nat.le_of_ble_eq_true rfl), (Nat.le_of_ble_eq_true rfl)⟩ dX12_restore_23) ?_
    refine tt_aload_n (pc := 26) (i := 0) (j := 0) E dX12_restore_26 rfl rfl ?_
    obtain ⟨q_15, hq_16, hf⟩ := bd_some hf
    refine tt_getP (pc := 27) (t := 12) E lfX12_39 rfl rfl h0 dX12_restore_27 hq_16 (fun kq_17 => ?_)
    refine tt_aload_n (pc := 30) (i := 0) (j := 0) E dX12_restore_30 rfl rfl ?_
    obtain ⟨q_18, hq_19, hf⟩ := bd_some hf
    refine tt_getP (pc := 31) (t := 12) E lfX12_35 rfl rfl h0 dX12_restore_31 hq_19 (fun kq_20 => ?_)
    obtain ⟨r_21, hr_22, hf⟩ := bd_some hf
    have hc_23 := cX12_copiesNames_ok (l := l) (B := B) (D := D) (cT := cT) (n := n) (adK := adK) (adV := adV) kq_17 kq_20 hr_22
    refine tt_cV (pc := 34) (tt_si E lmX12_163 mtX12_copiesNames hc_23 rfl rfl (Nat.le_of_ble_eq_true rfl) ⟨(Nat.le_of_ble_eq_true rfl), (Nat.le_of_ble_eq_true rfl)⟩ ⟨(Nat.le_of_ble_eq_true rfl), (Nat.le_of_ble_eq_true rfl)⟩ dX12_restore_34) ?_
    refine tt_aload_n (pc := 37) (i := 0) (j := 0) E dX12_restore_37 rfl rfl ?_
    refine tt_iconst (pc := 38) (v := 0) E dX12_restore_38 ic_0 ?_
    refine tt_putI (pc := 39) E lfX12_157 rfl h0 dX12_restore_39 (tt_nmM hf (fun m_24 hf => ?_))
    refine tt_aload_n (pc := 42) (i := 0) (j := 0) E dX12_restore_42 rfl rfl ?_
    obtain ⟨q_25, hq_26, hf⟩ := bd_some hf
    refine tt_getP (pc := 43) (t := 11) E lfX12_20 rfl rfl h0 dX12_restore_43 hq_26 (fun kq_27 => ?_)
    refine tt_iconst (pc := 46) (v := 2) E dX12_restore_46 ic_2 ?_
    obtain ⟨g_28, hf⟩ := gd_some hf
    refine tt_iald (pc := 47) E kq_27 g_28 dX12_restore_47 ?_
    exact tt_iret (pc := 48) E hr hlk dX12_restore_48 (Nat.le_of_ble_eq_true rfl) (Nat.le_of_ble_eq_true rfl) hf
  · have hf := ip c_29 hf
    refine tt_iconst (pc := 11) (v := 0) E dX12_restore_11 ic_0 ?_
    exact tt_iret (pc := 12) E hr hlk dX12_restore_12 (Nat.le_of_ble_eq_true rfl) (Nat.le_of_ble_eq_true rfl) hf
set_option maxHeartbeats 4000000 in
theorem cX12_cellOf_ok {l : Launch} {B : Nat} {D : va_G} {cT : Nat → ClassId} {n : Nat} {adK adV : Nat → Nat} {v0 : Int32} {v1 : Int32} {μ : Mem} {res : Int32} (hf : fX12_cellOf v0 v1 μ = some res) : MI l yX12_cellOf cX12_cellOf 2 (some .int) rmX12_cellOf B D cT (XW B adK adV) n [.int v0, .int v1] μ (res, μ) := by
  refine tt_ofW mtX12_cellOf.1 (Nat.le_of_ble_eq_true rfl) rfl ?_
  intro p e s m below meth c E0 hr hlk
  have E : EE p s m _ c cX12_cellOf 2 RX12 B D cT (XW B adK adV) := E0
  unfold fX12_cellOf at hf
  refine tt_iconst (pc := 0) (v := 4) E dX12_cellOf_0 ic_4 ?_
  refine tt_bipush (pc := 1) (v := 12) E dX12_cellOf_1 bc_12 ?_
  refine tt_iload_n (pc := 3) (i := 0) (j := 0) E dX12_cellOf_3 rfl rfl ?_
  refine tt_imul (pc := 4) E dX12_cellOf_4 ?_
  refine tt_iadd (pc := 5) E dX12_cellOf_5 ?_
  refine tt_iload_n (pc := 6) (i := 1) (j := 1) E dX12_cellOf_6 rfl rfl ?_
  refine tt_iadd (pc := 7) E dX12_cellOf_7 ?_
  exact tt_iret (pc := 8) E hr hlk dX12_cellOf_8 (Nat.le_of_ble_eq_true rfl) (Nat.le_of_ble_eq_true rfl) (pv hf)
set_option maxHeartbeats 4000000 in
theorem cX12_of_ok {l : Launch} {B : Nat} {D : va_G} {cT : Nat → ClassId} {n : Nat} {adK adV : Nat → Nat} {o0 : Nat} {v1 : Int32} {v2 : Int32} {μ : Mem} {res : Int32} (h0 : isK n o0 9) (hf : fX12_of o0 v1 v2 μ = some res) : MI l yX12_of cX12_of 3 (some .int) rmX12_of B D cT (XW B adK adV) n [.ref (B + o0), .int v1, .int v2] μ (res, μ) := by
  refine tt_ofW mtX12_of.1 (Nat.le_of_ble_eq_true rfl) rfl ?_
  intro p e s m below meth c E0 hr hlk
  have E : EE p s m _ c cX12_of 3 RX12 B D cT (XW B adK adV) := E0
  unfold fX12_of at hf
  refine tt_aload_n (pc := 0) (i := 0) (j := 0) E dX12_of_0 rfl rfl ?_
  obtain ⟨q_1, hq_2, hf⟩ := bd_some hf
  refine tt_getP (pc := 1) (t := 11) E lfX12_20 rfl rfl h0 dX12_of_1 hq_2 (fun kq_3 => ?_)
  refine tt_iload_n (pc := 4) (i := 1) (j := 1) E dX12_of_4 rfl rfl ?_
  refine tt_iload_n (pc := 5) (i := 2) (j := 2) E dX12_of_5 rfl rfl ?_
  obtain ⟨r_4, hr_5, hf⟩ := bd_some hf
  have hc_6 := cX12_cellOf_ok (l := l) (B := B) (D := D) (cT := cT) (n := n) (adK := adK) (adV := adV) hr_5
  refine tt_cI (pc := 6) (tt_si E lmX12_171 mtX12_cellOf hc_6 rfl rfl (Nat.le_of_ble_eq_true rfl) ⟨(Nat.le_of_ble_eq_true rfl), (Nat.le_of_ble_eq_true rfl)⟩ ⟨(Nat.le_of_ble_eq_true rfl), (Nat.le_of_ble_eq_true rfl)⟩ dX12_of_6) ?_
  obtain ⟨g_7, hf⟩ := gd_some hf
  refine tt_iald (pc := 9) E kq_3 g_7 dX12_of_9 ?_
  exact tt_iret (pc := 10) E hr hlk dX12_of_10 (Nat.le_of_ble_eq_true rfl) (Nat.le_of_ble_eq_true rfl) (pv hf)
set_option maxHeartbeats 4000000 in
theorem cX12_sets_ok {l : Launch} {B : Nat} {D : va_G} {cT : Nat → ClassId} {n : Nat} {adK adV : Nat → Nat} {o0 : Nat} {v1 : Int32} {v2 : Int32} {v3 : Int32} {μ : Mem} {res : Mem} (h0 : isK n o0 9) (hf : fX12_sets o0 v1 v2 v3 μ = some res) : MV l yX12_sets cX12_sets 4 (none) rmX12_sets B D cT (XW B adK adV) n [.ref (B + o0), .int v1, .int v2, .int v3] μ res := by
  refine tt_ofW mtX12_sets.1 (Nat.le_of_ble_eq_true rfl) rfl ?_
  intro p e s m below meth c E0 hr hlk
  have E : EE p s m _ c cX12_sets 4 RX12 B D cT (XW B adK adV) := E0
  unfold fX12_sets at hf
  refine tt_aload_n (pc := 0) (i := 0) (j := 0) E dX12_sets_0 rfl rfl ?_
  obtain ⟨q_1, hq_2, hf⟩ := bd_some hf
  refine tt_getP (pc := 1) (t := 11) E lfX12_20 rfl rfl h0 dX12_sets_1 hq_2 (fun kq_3 => ?_)
  refine tt_iload_n (pc := 4) (i := 1) (j := 1) E dX12_sets_4 rfl rfl ?_
  refine tt_iload_n (pc := 5) (i := 2) (j := 2) E dX12_sets_5 rfl rfl ?_
  obtain ⟨r_4, hr_5, hf⟩ := bd_some hf
  have hc_6 := cX12_cellOf_ok (l := l) (B := B) (D := D) (cT := cT) (n := n) (adK := adK) (adV := adV) hr_5
  refine tt_cI (pc := 6) (tt_si E lmX12_171 mtX12_cellOf hc_6 rfl rfl (Nat.le_of_ble_eq_true rfl) ⟨(Nat.le_of_ble_eq_true rfl), (Nat.le_of_ble_eq_true rfl)⟩ ⟨(Nat.le_of_ble_eq_true rfl), (Nat.le_of_ble_eq_true rfl)⟩ dX12_sets_6) ?_
  refine tt_iload_n (pc := 9) (i := 3) (j := 3) E dX12_sets_9 rfl rfl ?_
  obtain ⟨g_8, hf⟩ := gd_some hf
  refine tt_iast (pc := 10) E kq_3 g_8 dX12_sets_10 (tt_nmM hf (fun m_7 hf => ?_))
  exact tt_vret (pc := 11) E hr hlk dX12_sets_11 (Nat.le_of_ble_eq_true rfl) (Nat.le_of_ble_eq_true rfl) hf
set_option maxHeartbeats 4000000 in
theorem cX12_mustBeWord_ok {l : Launch} {B : Nat} {D : va_G} {cT : Nat → ClassId} {n : Nat} {adK adV : Nat → Nat} {o0 : Nat} {μ : Mem} {res : Mem} (h0 : isK n o0 9) (hf : fX12_mustBeWord o0 μ = some res) : MV l yX12_mustBeWord cX12_mustBeWord 1 (none) rmX12_mustBeWord B D cT (XW B adK adV) n [.ref (B + o0)] μ res := by
  refine tt_ofW mtX12_mustBeWord.1 (Nat.le_of_ble_eq_true rfl) rfl ?_
  intro p e s m below meth c E0 hr hlk
  have E : EE p s m _ c cX12_mustBeWord 1 RX12 B D cT (XW B adK adV) := E0
  unfold fX12_mustBeWord at hf
  refine tt_aload_n (pc := 0) (i := 0) (j := 0) E dX12_mustBeWord_0 rfl rfl ?_
  obtain ⟨r_1, hr_2, hf⟩ := bd_some hf
  have hc_3 := cX12_isGood_ok (l := l) (B := B) (D := D) (cT := cT) (n := n) (adK := adK) (adV := adV) h0 hr_2
  refine tt_cZ (pc := 1) (tt_vi E lmX12_129 mtX12_isGood hc_3 h0 rfl rfl (Nat.le_of_ble_eq_true rfl) ⟨(Nat.le_of_ble_eq_true rfl), (Nat.le_of_ble_eq_true rfl)⟩ ⟨(Nat.le_of_ble_eq_true rfl), (Nat.le_of_ble_eq_true rfl)⟩ dX12_mustBeWord_1) (fun z_4 => ?_)
  refine tt_if_eq (pc := 4) (tgt := 20) E dX12_mustBeWord_4 rfl (fun c_9 => ?_) (fun c_9 => ?_)
  · have hf := ip c_9 hf
    exact tt_vret (pc := 20) E hr hlk dX12_mustBeWord_20 (Nat.le_of_ble_eq_true rfl) (Nat.le_of_ble_eq_true rfl) hf
  · have hf := ine c_9 hf
    refine tt_aload_n (pc := 7) (i := 0) (j := 0) E dX12_mustBeWord_7 rfl rfl ?_
    refine tt_getI (pc := 8) E lfX12_116 rfl h0 dX12_mustBeWord_8 ?_
    refine tt_iconst (pc := 11) (v := 1) E dX12_mustBeWord_11 ic_1 ?_
    refine tt_icmp_eq (pc := 12) (tgt := 20) E dX12_mustBeWord_12 rfl (fun c_8 => ?_) (fun c_8 => ?_)
    · have hf := ip c_8 hf
      exact tt_vret (pc := 20) E hr hlk dX12_mustBeWord_20 (Nat.le_of_ble_eq_true rfl) (Nat.le_of_ble_eq_true rfl) hf
    · have hf := ine c_8 hf
      refine tt_aload_n (pc := 15) (i := 0) (j := 0) E dX12_mustBeWord_15 rfl rfl ?_
      refine tt_iconst (pc := 16) (v := 1) E dX12_mustBeWord_16 ic_1 ?_
      obtain ⟨r_5, hr_6, hf⟩ := bd_some hf
      have hc_7 := cX12_wrong_ok (l := l) (B := B) (D := D) (cT := cT) (n := n) (adK := adK) (adV := adV) h0 hr_6
      refine tt_cV (pc := 17) (tt_vi E lmX12_136 mtX12_wrong hc_7 h0 rfl rfl (Nat.le_of_ble_eq_true rfl) ⟨(Nat.le_of_ble_eq_true rfl), (Nat.le_of_ble_eq_true rfl)⟩ ⟨(Nat.le_of_ble_eq_true rfl), (Nat.le_of_ble_eq_true rfl)⟩ dX12_mustBeWord_17) ?_
      exact tt_vret (pc := 20) E hr hlk dX12_mustBeWord_20 (Nat.le_of_ble_eq_true rfl) (Nat.le_of_ble_eq_true rfl) hf
set_option maxHeartbeats 4000000 in
theorem tX12_named_4 {p : Program} {l : Launch} {e : Env} {s : State} {m : MethodId} {args : Array Value} {below : List Frame} {meth : Method} {c : Code} {B : Nat} {D : va_G} {cT : Nat → ClassId} {n : Nat} {adK adV : Nat → Nat} {res : Int32} (E : EE p s m args c cX12_named 3 RX12 B D cT (XW B adK adV)) (hr : meth.sig.returnType = some .int) (hlk : meth.locks = false) {o0 : Nat} (h0 : isK n o0 9) {μ : Mem} : ∀ (fu : Nat) (v1 : Int32) (v2 : Int32), zl2 (gX12_named_4 o0 μ) fu v1 v2 = some res → TT p l e rmX12_named s m args below meth c (QI B D cT n below args s (res, μ)) 3 B D cT n 0 0 μ 4 [(0, .ref (B + o0)), (1, .int v1), (2, .int v2)] [] := by
  intro fu
  induction fu with
  | zero => intro v1 v2 hf; exact absurd hf (fun h => by cases h)
  | succ fu ih =>
    intro v1 v2 hf
    have hf : gX12_named_4 o0 μ (zl2 (gX12_named_4 o0 μ) fu) v1 v2 = some res := hf
    unfold gX12_named_4 at hf
    refine tt_iload_n (pc := 4) (i := 2) (j := 2) E dX12_named_4 rfl rfl ?_
    refine tt_aload_n (pc := 5) (i := 0) (j := 0) E dX12_named_5 rfl rfl ?_
    obtain ⟨q_1, hq_2, hf⟩ := bd_some hf
    refine tt_getP (pc := 6) (t := 11) E lfX12_20 rfl rfl h0 dX12_named_6 hq_2 (fun kq_3 => ?_)
    refine tt_iconst (pc := 9) (v := 0) E dX12_named_9 ic_0 ?_
    obtain ⟨g_4, hf⟩ := gd_some hf
    refine tt_iald (pc := 10) E kq_3 g_4 dX12_named_10 ?_
    refine tt_icmp_ge (pc := 11) (tgt := 40) E dX12_named_11 rfl (fun c_12 => ?_) (fun c_12 => ?_)
    · have hf := ip c_12 hf
      refine tt_iload_n (pc := 40) (i := 1) (j := 1) E dX12_named_40 rfl rfl ?_
      exact tt_iret (pc := 41) E hr hlk dX12_named_41 (Nat.le_of_ble_eq_true rfl) (Nat.le_of_ble_eq_true rfl) (pv hf)
    · have hf := ine c_12 hf
      refine tt_aload_n (pc := 14) (i := 0) (j := 0) E dX12_named_14 rfl rfl ?_
      obtain ⟨q_5, hq_6, hf⟩ := bd_some hf
      refine tt_getP (pc := 15) (t := 12) E lfX12_35 rfl rfl h0 dX12_named_15 hq_6 (fun kq_7 => ?_)
      refine tt_iload_n (pc := 18) (i := 2) (j := 2) E dX12_named_18 rfl rfl ?_
      obtain ⟨g_8, hf⟩ := gd_some hf
      refine tt_lald (pc := 19) E kq_7 g_8 dX12_named_19 ?_
      refine tt_aload_n (pc := 20) (i := 0) (j := 0) E dX12_named_20 rfl rfl ?_
      refine tt_getJ (pc := 21) E lfX12_109 rfl h0 dX12_named_21 ?_
      refine tt_lcmp (pc := 24) E dX12_named_24 ?_
      refine tt_if_ne (pc := 25) (tgt := 32) E dX12_named_25 rfl (fun c_11 => ?_) (fun c_11 => ?_)
      · have hf := ine c_11 hf
        refine tt_iload_n (pc := 32) (i := 1) (j := 1) E dX12_named_32 rfl rfl ?_
        refine tt_istore_n (pc := 33) (i := 1) (lv' := [(1, .int v1), (0, .ref (B + o0)), (2, .int v2)]) E dX12_named_33 rfl (Nat.le_of_ble_eq_true rfl) rfl ?_
        obtain ⟨v_9, ev_9, hf⟩ := nm_ex hf
        refine tt_iinc (pc := 34) (i := 2) (j := 2) (lv' := [(2, .int v_9), (1, .int v1), (0, .ref (B + o0))]) E dX12_named_34 rfl (ev_9).symm (Nat.le_of_ble_eq_true rfl) rfl ?_
        refine tt_goto (pc := 37) (tgt := 4) E dX12_named_37 rfl ?_
        refine tt_sub [2, 1, 0] (lv' := [(0, .ref (B + o0)), (1, .int v1), (2, .int v_9)]) rfl ?_
        exact ih v1 v_9 hf
      · have hf := ip c_11 hf
        refine tt_iload_n (pc := 28) (i := 2) (j := 2) E dX12_named_28 rfl rfl ?_
        refine tt_goto (pc := 29) (tgt := 33) E dX12_named_29 rfl ?_
        refine tt_istore_n (pc := 33) (i := 1) (lv' := [(1, .int v2), (0, .ref (B + o0)), (2, .int v2)]) E dX12_named_33 rfl (Nat.le_of_ble_eq_true rfl) rfl ?_
        obtain ⟨v_10, ev_10, hf⟩ := nm_ex hf
        refine tt_iinc (pc := 34) (i := 2) (j := 2) (lv' := [(2, .int v_10), (1, .int v2), (0, .ref (B + o0))]) E dX12_named_34 rfl (ev_10).symm (Nat.le_of_ble_eq_true rfl) rfl ?_
        refine tt_goto (pc := 37) (tgt := 4) E dX12_named_37 rfl ?_
        refine tt_sub [2, 1, 0] (lv' := [(0, .ref (B + o0)), (1, .int v2), (2, .int v_10)]) rfl ?_
        exact ih v2 v_10 hf
set_option maxHeartbeats 4000000 in
theorem cX12_named_ok {l : Launch} {B : Nat} {D : va_G} {cT : Nat → ClassId} {n : Nat} {adK adV : Nat → Nat} {o0 : Nat} {μ : Mem} {res : Int32} (h0 : isK n o0 9) (hf : fX12_named o0 μ = some res) : MI l yX12_named cX12_named 3 (some .int) rmX12_named B D cT (XW B adK adV) n [.ref (B + o0)] μ (res, μ) := by
  refine tt_ofW mtX12_named.1 (Nat.le_of_ble_eq_true rfl) rfl ?_
  intro p e s m below meth c E0 hr hlk
  have E : EE p s m _ c cX12_named 3 RX12 B D cT (XW B adK adV) := E0
  unfold fX12_named at hf
  refine tt_iconst (pc := 0) (v := (-1)) E dX12_named_0 ic_m1 ?_
  refine tt_istore_n (pc := 1) (i := 1) (lv' := [(1, .int ((-1))), (0, .ref (B + o0))]) E dX12_named_1 rfl (Nat.le_of_ble_eq_true rfl) rfl ?_
  refine tt_iconst (pc := 2) (v := 0) E dX12_named_2 ic_0 ?_
  refine tt_istore_n (pc := 3) (i := 2) (lv' := [(2, .int 0), (1, .int ((-1))), (0, .ref (B + o0))]) E dX12_named_3 rfl (Nat.le_of_ble_eq_true rfl) rfl ?_
  refine tt_sub [2, 1, 0] (lv' := [(0, .ref (B + o0)), (1, .int ((-1))), (2, .int 0)]) rfl ?_
  exact tX12_named_4 E hr hlk h0 FU ((-1)) 0 hf
set_option maxHeartbeats 4000000 in
theorem cX12_kindHere_ok {l : Launch} {B : Nat} {D : va_G} {cT : Nat → ClassId} {n : Nat} {adK adV : Nat → Nat} {o0 : Nat} {μ : Mem} {res : Int32} (h0 : isK n o0 9) (hf : fX12_kindHere o0 μ = some res) : MI l yX12_kindHere cX12_kindHere 1 (some .int) rmX12_kindHere B D cT (XW B adK adV) n [.ref (B + o0)] μ (res, μ) := by
  refine tt_ofW mtX12_kindHere.1 (Nat.le_of_ble_eq_true rfl) rfl ?_
  intro p e s m below meth c E0 hr hlk
  have E : EE p s m _ c cX12_kindHere 1 RX12 B D cT (XW B adK adV) := E0
  unfold fX12_kindHere at hf
  refine tt_aload_n (pc := 0) (i := 0) (j := 0) E dX12_kindHere_0 rfl rfl ?_
  refine tt_ldc2 (pc := 1) (v := 8500) E dX12_kindHere_1 (gw_mem (mt7 (at_l 157 rfl)) rfl) ?_
  obtain ⟨r_1, hr_2, hf⟩ := bd_some hf
  have hc_3 := cX12_isWord_ok (l := l) (B := B) (D := D) (cT := cT) (n := n) (adK := adK) (adV := adV) h0 hr_2
  refine tt_cZ (pc := 4) (tt_vi E lmX12_142 mtX12_isWord hc_3 h0 rfl rfl (Nat.le_of_ble_eq_true rfl) ⟨(Nat.le_of_ble_eq_true rfl), (Nat.le_of_ble_eq_true rfl)⟩ ⟨(Nat.le_of_ble_eq_true rfl), (Nat.le_of_ble_eq_true rfl)⟩ dX12_kindHere_4) (fun z_4 => ?_)
  refine tt_if_eq (pc := 7) (tgt := 12) E dX12_kindHere_7 rfl (fun c_35 => ?_) (fun c_35 => ?_)
  · have hf := ip c_35 hf
    refine tt_aload_n (pc := 12) (i := 0) (j := 0) E dX12_kindHere_12 rfl rfl ?_
    refine tt_ldc2 (pc := 13) (v := 546408) E dX12_kindHere_13 (gw_mem (mt7 (at_l 158 rfl)) rfl) ?_
    obtain ⟨r_5, hr_6, hf⟩ := bd_some hf
    have hc_7 := cX12_isWord_ok (l := l) (B := B) (D := D) (cT := cT) (n := n) (adK := adK) (adV := adV) h0 hr_6
    refine tt_cZ (pc := 16) (tt_vi E lmX12_142 mtX12_isWord hc_7 h0 rfl rfl (Nat.le_of_ble_eq_true rfl) ⟨(Nat.le_of_ble_eq_true rfl), (Nat.le_of_ble_eq_true rfl)⟩ ⟨(Nat.le_of_ble_eq_true rfl), (Nat.le_of_ble_eq_true rfl)⟩ dX12_kindHere_16) (fun z_8 => ?_)
    refine tt_if_eq (pc := 19) (tgt := 24) E dX12_kindHere_19 rfl (fun c_34 => ?_) (fun c_34 => ?_)
    · have hf := ip c_34 hf
      refine tt_aload_n (pc := 24) (i := 0) (j := 0) E dX12_kindHere_24 rfl rfl ?_
      refine tt_ldc2 (pc := 25) (v := 402644) E dX12_kindHere_25 (gw_mem (mt7 (at_l 159 rfl)) rfl) ?_
      obtain ⟨r_9, hr_10, hf⟩ := bd_some hf
      have hc_11 := cX12_isWord_ok (l := l) (B := B) (D := D) (cT := cT) (n := n) (adK := adK) (adV := adV) h0 hr_10
      refine tt_cZ (pc := 28) (tt_vi E lmX12_142 mtX12_isWord hc_11 h0 rfl rfl (Nat.le_of_ble_eq_true rfl) ⟨(Nat.le_of_ble_eq_true rfl), (Nat.le_of_ble_eq_true rfl)⟩ ⟨(Nat.le_of_ble_eq_true rfl), (Nat.le_of_ble_eq_true rfl)⟩ dX12_kindHere_28) (fun z_12 => ?_)
      refine tt_if_eq (pc := 31) (tgt := 36) E dX12_kindHere_31 rfl (fun c_33 => ?_) (fun c_33 => ?_)
      · have hf := ip c_33 hf
        refine tt_aload_n (pc := 36) (i := 0) (j := 0) E dX12_kindHere_36 rfl rfl ?_
        refine tt_ldc2 (pc := 37) (v := 8029764) E dX12_kindHere_37 (gw_mem (mt7 (at_l 160 rfl)) rfl) ?_
        obtain ⟨r_13, hr_14, hf⟩ := bd_some hf
        have hc_15 := cX12_isWord_ok (l := l) (B := B) (D := D) (cT := cT) (n := n) (adK := adK) (adV := adV) h0 hr_14
        refine tt_cZ (pc := 40) (tt_vi E lmX12_142 mtX12_isWord hc_15 h0 rfl rfl (Nat.le_of_ble_eq_true rfl) ⟨(Nat.le_of_ble_eq_true rfl), (Nat.le_of_ble_eq_true rfl)⟩ ⟨(Nat.le_of_ble_eq_true rfl), (Nat.le_of_ble_eq_true rfl)⟩ dX12_kindHere_40) (fun z_16 => ?_)
        refine tt_if_eq (pc := 43) (tgt := 48) E dX12_kindHere_43 rfl (fun c_32 => ?_) (fun c_32 => ?_)
        · have hf := ip c_32 hf
          refine tt_aload_n (pc := 48) (i := 0) (j := 0) E dX12_kindHere_48 rfl rfl ?_
          refine tt_ldc2 (pc := 49) (v := 1279278) E dX12_kindHere_49 (gw_mem (mt7 (at_l 161 rfl)) rfl) ?_
          obtain ⟨r_17, hr_18, hf⟩ := bd_some hf
          have hc_19 := cX12_isWord_ok (l := l) (B := B) (D := D) (cT := cT) (n := n) (adK := adK) (adV := adV) h0 hr_18
          refine tt_cZ (pc := 52) (tt_vi E lmX12_142 mtX12_isWord hc_19 h0 rfl rfl (Nat.le_of_ble_eq_true rfl) ⟨(Nat.le_of_ble_eq_true rfl), (Nat.le_of_ble_eq_true rfl)⟩ ⟨(Nat.le_of_ble_eq_true rfl), (Nat.le_of_ble_eq_true rfl)⟩ dX12_kindHere_52) (fun z_20 => ?_)
          refine tt_if_eq (pc := 55) (tgt := 60) E dX12_kindHere_55 rfl (fun c_31 => ?_) (fun c_31 => ?_)
          · have hf := ip c_31 hf
            refine tt_aload_n (pc := 60) (i := 0) (j := 0) E dX12_kindHere_60 rfl rfl ?_
            refine tt_ldc2 (pc := 61) (v := 20452516) E dX12_kindHere_61 (gw_mem (mt7 (at_l 137 rfl)) rfl) ?_
            obtain ⟨r_21, hr_22, hf⟩ := bd_some hf
            have hc_23 := cX12_isWord_ok (l := l) (B := B) (D := D) (cT := cT) (n := n) (adK := adK) (adV := adV) h0 hr_22
            refine tt_cZ (pc := 64) (tt_vi E lmX12_142 mtX12_isWord hc_23 h0 rfl rfl (Nat.le_of_ble_eq_true rfl) ⟨(Nat.le_of_ble_eq_true rfl), (Nat.le_of_ble_eq_true rfl)⟩ ⟨(Nat.le_of_ble_eq_true rfl), (Nat.le_of_ble_eq_true rfl)⟩ dX12_kindHere_64) (fun z_24 => ?_)
            refine tt_if_eq (pc := 67) (tgt := 72) E dX12_kindHere_67 rfl (fun c_30 => ?_) (fun c_30 => ?_)
            · have hf := ip c_30 hf
              refine tt_aload_n (pc := 72) (i := 0) (j := 0) E dX12_kindHere_72 rfl rfl ?_
              refine tt_ldc2 (pc := 73) (v := 595572) E dX12_kindHere_73 (gw_mem (mt7 (at_l 162 rfl)) rfl) ?_
              obtain ⟨r_25, hr_26, hf⟩ := bd_some hf
              have hc_27 := cX12_isWord_ok (l := l) (B := B) (D := D) (cT := cT) (n := n) (adK := adK) (adV := adV) h0 hr_26
              refine tt_cZ (pc := 76) (tt_vi E lmX12_142 mtX12_isWord hc_27 h0 rfl rfl (Nat.le_of_ble_eq_true rfl) ⟨(Nat.le_of_ble_eq_true rfl), (Nat.le_of_ble_eq_true rfl)⟩ ⟨(Nat.le_of_ble_eq_true rfl), (Nat.le_of_ble_eq_true rfl)⟩ dX12_kindHere_76) (fun z_28 => ?_)
              refine tt_if_eq (pc := 79) (tgt := 87) E dX12_kindHere_79 rfl (fun c_29 => ?_) (fun c_29 => ?_)
              · have hf := ip c_29 hf
                refine tt_iconst (pc := 87) (v := (-1)) E dX12_kindHere_87 ic_m1 ?_
                exact tt_iret (pc := 88) E hr hlk dX12_kindHere_88 (Nat.le_of_ble_eq_true rfl) (Nat.le_of_ble_eq_true rfl) (pv hf)
              · have hf := ine c_29 hf
                refine tt_bipush (pc := 82) (v := 6) E dX12_kindHere_82 bc_6 ?_
                refine tt_goto (pc := 84) (tgt := 88) E dX12_kindHere_84 rfl ?_
                exact tt_iret (pc := 88) E hr hlk dX12_kindHere_88 (Nat.le_of_ble_eq_true rfl) (Nat.le_of_ble_eq_true rfl) (pv hf)
            · have hf := ine c_30 hf
              refine tt_iconst (pc := 70) (v := 5) E dX12_kindHere_70 ic_5 ?_
              exact tt_iret (pc := 71) E hr hlk dX12_kindHere_71 (Nat.le_of_ble_eq_true rfl) (Nat.le_of_ble_eq_true rfl) (pv hf)
          · have hf := ine c_31 hf
            refine tt_iconst (pc := 58) (v := 4) E dX12_kindHere_58 ic_4 ?_
            exact tt_iret (pc := 59) E hr hlk dX12_kindHere_59 (Nat.le_of_ble_eq_true rfl) (Nat.le_of_ble_eq_true rfl) (pv hf)
        · have hf := ine c_32 hf
          refine tt_iconst (pc := 46) (v := 3) E dX12_kindHere_46 ic_3 ?_
          exact tt_iret (pc := 47) E hr hlk dX12_kindHere_47 (Nat.le_of_ble_eq_true rfl) (Nat.le_of_ble_eq_true rfl) (pv hf)
      · have hf := ine c_33 hf
        refine tt_iconst (pc := 34) (v := 2) E dX12_kindHere_34 ic_2 ?_
        exact tt_iret (pc := 35) E hr hlk dX12_kindHere_35 (Nat.le_of_ble_eq_true rfl) (Nat.le_of_ble_eq_true rfl) (pv hf)
    · have hf := ine c_34 hf
      refine tt_iconst (pc := 22) (v := 1) E dX12_kindHere_22 ic_1 ?_
      exact tt_iret (pc := 23) E hr hlk dX12_kindHere_23 (Nat.le_of_ble_eq_true rfl) (Nat.le_of_ble_eq_true rfl) (pv hf)
  · have hf := ine c_35 hf
    refine tt_iconst (pc := 10) (v := 0) E dX12_kindHere_10 ic_0 ?_
    exact tt_iret (pc := 11) E hr hlk dX12_kindHere_11 (Nat.le_of_ble_eq_true rfl) (Nat.le_of_ble_eq_true rfl) (pv hf)
set_option maxHeartbeats 4000000 in
theorem cX12_mostOf_ok {l : Launch} {B : Nat} {D : va_G} {cT : Nat → ClassId} {n : Nat} {adK adV : Nat → Nat} {v0 : Int32} {μ : Mem} {res : Int32} (hf : fX12_mostOf v0 μ = some res) : MI l yX12_mostOf cX12_mostOf 1 (some .int) rmX12_mostOf B D cT (XW B adK adV) n [.int v0] μ (res, μ) := by
  refine tt_ofW mtX12_mostOf.1 (Nat.le_of_ble_eq_true rfl) rfl ?_
  intro p e s m below meth c E0 hr hlk
  have E : EE p s m _ c cX12_mostOf 1 RX12 B D cT (XW B adK adV) := E0
  unfold fX12_mostOf at hf
  refine tt_iload_n (pc := 0) (i := 0) (j := 0) E dX12_mostOf_0 rfl rfl ?_
  refine tt_iconst (pc := 1) (v := 1) E dX12_mostOf_1 ic_1 ?_
  refine tt_icmp_eq (pc := 2) (tgt := 10) E dX12_mostOf_2 rfl (fun c_3 => ?_) (fun c_3 => ?_)
  · have hf := ip c_3 hf
    refine tt_sipush (pc := 10) (v := 999) E dX12_mostOf_10 sc_999 ?_
    exact tt_iret (pc := 13) E hr hlk dX12_mostOf_13 (Nat.le_of_ble_eq_true rfl) (Nat.le_of_ble_eq_true rfl) (pv hf)
  · have hf := ine c_3 hf
    refine tt_iload_n (pc := 5) (i := 0) (j := 0) E dX12_mostOf_5 rfl rfl ?_
    refine tt_iconst (pc := 6) (v := 2) E dX12_mostOf_6 ic_2 ?_
    refine tt_icmp_ne (pc := 7) (tgt := 14) E dX12_mostOf_7 rfl (fun c_2 => ?_) (fun c_2 => ?_)
    · have hf := ine c_2 hf
      refine tt_iload_n (pc := 14) (i := 0) (j := 0) E dX12_mostOf_14 rfl rfl ?_
      refine tt_iconst (pc := 15) (v := 4) E dX12_mostOf_15 ic_4 ?_
      refine tt_icmp_ne (pc := 16) (tgt := 23) E dX12_mostOf_16 rfl (fun c_1 => ?_) (fun c_1 => ?_)
      · have hf := ine c_1 hf
        refine tt_bipush (pc := 23) (v := 99) E dX12_mostOf_23 bc_99 ?_
        exact tt_iret (pc := 25) E hr hlk dX12_mostOf_25 (Nat.le_of_ble_eq_true rfl) (Nat.le_of_ble_eq_true rfl) (pv hf)
      · have hf := ip c_1 hf
        refine tt_iconst (pc := 19) (v := 3) E dX12_mostOf_19 ic_3 ?_
        refine tt_goto (pc := 20) (tgt := 25) E dX12_mostOf_20 rfl ?_
        exact tt_iret (pc := 25) E hr hlk dX12_mostOf_25 (Nat.le_of_ble_eq_true rfl) (Nat.le_of_ble_eq_true rfl) (pv hf)
    · have hf := ip c_2 hf
      refine tt_sipush (pc := 10) (v := 999) E dX12_mostOf_10 sc_999 ?_
      exact tt_iret (pc := 13) E hr hlk dX12_mostOf_13 (Nat.le_of_ble_eq_true rfl) (Nat.le_of_ble_eq_true rfl) (pv hf)
set_option maxHeartbeats 4000000 in
theorem tX12_readsAct_59 {p : Program} {l : Launch} {e : Env} {s : State} {m : MethodId} {args : Array Value} {below : List Frame} {meth : Method} {c : Code} {B : Nat} {D : va_G} {cT : Nat → ClassId} {n : Nat} {adK adV : Nat → Nat} {res : Mem} (E : EE p s m args c cX12_readsAct 5 RX12 B D cT (XW B adK adV)) (hr : meth.sig.returnType = none) (hlk : meth.locks = false) {o0 : Nat} {v1 : Int32} {v2 : Int32} {v3 : Int32} (h0 : isK n o0 9) {μ : Mem} (hf : fX12_readsAct_59 o0 v1 v2 v3 μ = some res) : TT p l e rmX12_readsAct s m args below meth c (QV B D cT n below args s res) 5 B D cT n 0 0 μ 59 [(0, .ref (B + o0)), (1, .int v1), (2, .int v2), (3, .int v3)] [] := by
  unfold fX12_readsAct_59 at hf
  refine tt_aload_n (pc := 59) (i := 0) (j := 0) E dX12_readsAct_59 rfl rfl ?_
  refine tt_iconst (pc := 60) (v := 1) E dX12_readsAct_60 ic_1 ?_
  refine tt_iload_n (pc := 61) (i := 2) (j := 2) E dX12_readsAct_61 rfl rfl ?_
  obtain ⟨r_1, hr_2, hf⟩ := bd_some hf
  have hc_3 := cX12_mostOf_ok (l := l) (B := B) (D := D) (cT := cT) (n := n) (adK := adK) (adV := adV) hr_2
  refine tt_cI (pc := 62) (tt_si E lmX12_195 mtX12_mostOf hc_3 rfl rfl (Nat.le_of_ble_eq_true rfl) ⟨(Nat.le_of_ble_eq_true rfl), (Nat.le_of_ble_eq_true rfl)⟩ ⟨(Nat.le_of_ble_eq_true rfl), (Nat.le_of_ble_eq_true rfl)⟩ dX12_readsAct_62) ?_
  obtain ⟨r_4, hr_5, hf⟩ := bd_some hf
  have hc_6 := cX12_number_ok (l := l) (B := B) (D := D) (cT := cT) (n := n) (adK := adK) (adV := adV) h0 hr_5
  refine tt_cI (pc := 65) (tt_vi E lmX12_198 mtX12_number hc_6 h0 rfl rfl (Nat.le_of_ble_eq_true rfl) ⟨(Nat.le_of_ble_eq_true rfl), (Nat.le_of_ble_eq_true rfl)⟩ ⟨(Nat.le_of_ble_eq_true rfl), (Nat.le_of_ble_eq_true rfl)⟩ dX12_readsAct_65) ?_
  refine tt_istore (pc := 68) (i := 4) (lv' := [(4, .int r_4.1), (0, .ref (B + o0)), (1, .int v1), (2, .int v2), (3, .int v3)]) E dX12_readsAct_68 (Nat.le_of_ble_eq_true rfl) rfl ?_
  refine tt_aload_n (pc := 70) (i := 0) (j := 1) E dX12_readsAct_70 rfl rfl ?_
  obtain ⟨r_7, hr_8, hf⟩ := bd_some hf
  have hc_9 := cX12_isGood_ok (l := l) (B := B) (D := D) (cT := cT) (n := n) (adK := adK) (adV := adV) h0 hr_8
  refine tt_cZ (pc := 71) (tt_vi E lmX12_129 mtX12_isGood hc_9 h0 rfl rfl (Nat.le_of_ble_eq_true rfl) ⟨(Nat.le_of_ble_eq_true rfl), (Nat.le_of_ble_eq_true rfl)⟩ ⟨(Nat.le_of_ble_eq_true rfl), (Nat.le_of_ble_eq_true rfl)⟩ dX12_readsAct_71) (fun z_10 => ?_)
  refine tt_if_ne (pc := 74) (tgt := 78) E dX12_readsAct_74 rfl (fun c_24 => ?_) (fun c_24 => ?_)
  · have hf := ine c_24 hf
    refine tt_aload_n (pc := 78) (i := 0) (j := 1) E dX12_readsAct_78 rfl rfl ?_
    obtain ⟨q_11, hq_12, hf⟩ := bd_some hf
    refine tt_getP (pc := 79) (t := 11) E lfX12_20 rfl rfl h0 dX12_readsAct_79 hq_12 (fun kq_13 => ?_)
    refine tt_bipush (pc := 82) (v := 100) E dX12_readsAct_82 bc_100 ?_
    refine tt_bipush (pc := 84) (v := 6) E dX12_readsAct_84 bc_6 ?_
    refine tt_iload_n (pc := 86) (i := 1) (j := 2) E dX12_readsAct_86 rfl rfl ?_
    refine tt_imul (pc := 87) E dX12_readsAct_87 ?_
    refine tt_iadd (pc := 88) E dX12_readsAct_88 ?_
    refine tt_iload_n (pc := 89) (i := 3) (j := 4) E dX12_readsAct_89 rfl rfl ?_
    refine tt_iadd (pc := 90) E dX12_readsAct_90 ?_
    refine tt_iload_n (pc := 91) (i := 2) (j := 3) E dX12_readsAct_91 rfl rfl ?_
    obtain ⟨g_15, hf⟩ := gd_some hf
    refine tt_iast (pc := 92) E kq_13 g_15 dX12_readsAct_92 (tt_nmM hf (fun m_14 hf => ?_))
    refine tt_aload_n (pc := 93) (i := 0) (j := 1) E dX12_readsAct_93 rfl rfl ?_
    obtain ⟨q_16, hq_17, hf⟩ := bd_some hf
    refine tt_getP (pc := 94) (t := 11) E lfX12_20 rfl rfl h0 dX12_readsAct_94 hq_17 (fun kq_18 => ?_)
    refine tt_sipush (pc := 97) (v := 148) E dX12_readsAct_97 sc_148 ?_
    refine tt_bipush (pc := 100) (v := 6) E dX12_readsAct_100 bc_6 ?_
    refine tt_iload_n (pc := 102) (i := 1) (j := 2) E dX12_readsAct_102 rfl rfl ?_
    refine tt_imul (pc := 103) E dX12_readsAct_103 ?_
    refine tt_iadd (pc := 104) E dX12_readsAct_104 ?_
    refine tt_iload_n (pc := 105) (i := 3) (j := 4) E dX12_readsAct_105 rfl rfl ?_
    refine tt_iadd (pc := 106) E dX12_readsAct_106 ?_
    refine tt_iload (pc := 107) (i := 4) (j := 0) E dX12_readsAct_107 rfl ?_
    obtain ⟨g_20, hf⟩ := gd_some hf
    refine tt_iast (pc := 109) E kq_18 g_20 dX12_readsAct_109 (tt_nmM hf (fun m_19 hf => ?_))
    refine tt_aload_n (pc := 110) (i := 0) (j := 1) E dX12_readsAct_110 rfl rfl ?_
    refine tt_iload_n (pc := 111) (i := 1) (j := 2) E dX12_readsAct_111 rfl rfl ?_
    refine tt_bipush (pc := 112) (v := 8) E dX12_readsAct_112 bc_8 ?_
    refine tt_iload_n (pc := 114) (i := 3) (j := 4) E dX12_readsAct_114 rfl rfl ?_
    refine tt_iconst (pc := 115) (v := 1) E dX12_readsAct_115 ic_1 ?_
    refine tt_iadd (pc := 116) E dX12_readsAct_116 ?_
    obtain ⟨r_21, hr_22, hf⟩ := bd_some hf
    have hc_23 := cX12_sets_ok (l := l) (B := B) (D := D) (cT := cT) (n := n) (adK := adK) (adV := adV) h0 hr_22
    refine tt_cV (pc := 117) (tt_vi E lmX12_201 mtX12_sets hc_23 h0 rfl rfl (Nat.le_of_ble_eq_true rfl) ⟨(Nat.le_of_ble_eq_true rfl), (Nat.le_of_ble_eq_true rfl)⟩ ⟨(Nat.le_of_ble_eq_true rfl), (Nat.le_of_ble_eq_true rfl)⟩ dX12_readsAct_117) ?_
    exact tt_vret (pc := 120) E hr hlk dX12_readsAct_120 (Nat.le_of_ble_eq_true rfl) (Nat.le_of_ble_eq_true rfl) hf
  · have hf := ip c_24 hf
    exact tt_vret (pc := 77) E hr hlk dX12_readsAct_77 (Nat.le_of_ble_eq_true rfl) (Nat.le_of_ble_eq_true rfl) hf
set_option maxHeartbeats 4000000 in
theorem tX12_readsAct_48 {p : Program} {l : Launch} {e : Env} {s : State} {m : MethodId} {args : Array Value} {below : List Frame} {meth : Method} {c : Code} {B : Nat} {D : va_G} {cT : Nat → ClassId} {n : Nat} {adK adV : Nat → Nat} {res : Mem} (E : EE p s m args c cX12_readsAct 5 RX12 B D cT (XW B adK adV)) (hr : meth.sig.returnType = none) (hlk : meth.locks = false) {o0 : Nat} {v1 : Int32} {v2 : Int32} {v3 : Int32} (h0 : isK n o0 9) {μ : Mem} (hf : fX12_readsAct_48 o0 v1 v2 v3 μ = some res) : TT p l e rmX12_readsAct s m args below meth c (QV B D cT n below args s res) 5 B D cT n 0 0 μ 48 [(0, .ref (B + o0)), (1, .int v1), (2, .int v2), (3, .int v3)] [] := by
  unfold fX12_readsAct_48 at hf
  refine tt_aload_n (pc := 48) (i := 0) (j := 0) E dX12_readsAct_48 rfl rfl ?_
  obtain ⟨r_1, hr_2, hf⟩ := bd_some hf
  have hc_3 := cX12_isGood_ok (l := l) (B := B) (D := D) (cT := cT) (n := n) (adK := adK) (adV := adV) h0 hr_2
  refine tt_cZ (pc := 49) (tt_vi E lmX12_129 mtX12_isGood hc_3 h0 rfl rfl (Nat.le_of_ble_eq_true rfl) ⟨(Nat.le_of_ble_eq_true rfl), (Nat.le_of_ble_eq_true rfl)⟩ ⟨(Nat.le_of_ble_eq_true rfl), (Nat.le_of_ble_eq_true rfl)⟩ dX12_readsAct_49) (fun z_4 => ?_)
  refine tt_if_eq (pc := 52) (tgt := 59) E dX12_readsAct_52 rfl (fun c_8 => ?_) (fun c_8 => ?_)
  · have hf := ip c_8 hf
    exact tX12_readsAct_59 E hr hlk h0 hf
  · have hf := ine c_8 hf
    refine tt_aload_n (pc := 55) (i := 0) (j := 0) E dX12_readsAct_55 rfl rfl ?_
    obtain ⟨r_5, hr_6, hf⟩ := bd_some hf
    have hc_7 := cX12_goOn_ok (l := l) (B := B) (D := D) (cT := cT) (n := n) (adK := adK) (adV := adV) h0 hr_6
    refine tt_cV (pc := 56) (tt_vi E lmX12_139 mtX12_goOn hc_7 h0 rfl rfl (Nat.le_of_ble_eq_true rfl) ⟨(Nat.le_of_ble_eq_true rfl), (Nat.le_of_ble_eq_true rfl)⟩ ⟨(Nat.le_of_ble_eq_true rfl), (Nat.le_of_ble_eq_true rfl)⟩ dX12_readsAct_56) ?_
    exact tX12_readsAct_59 E hr hlk h0 hf
set_option maxHeartbeats 4000000 in
theorem tX12_readsAct_30 {p : Program} {l : Launch} {e : Env} {s : State} {m : MethodId} {args : Array Value} {below : List Frame} {meth : Method} {c : Code} {B : Nat} {D : va_G} {cT : Nat → ClassId} {n : Nat} {adK adV : Nat → Nat} {res : Mem} (E : EE p s m args c cX12_readsAct 5 RX12 B D cT (XW B adK adV)) (hr : meth.sig.returnType = none) (hlk : meth.locks = false) {o0 : Nat} {v1 : Int32} {v2 : Int32} {v3 : Int32} (h0 : isK n o0 9) {μ : Mem} (hf : fX12_readsAct_30 o0 v1 v2 v3 μ = some res) : TT p l e rmX12_readsAct s m args below meth c (QV B D cT n below args s res) 5 B D cT n 0 0 μ 30 [(0, .ref (B + o0)), (1, .int v1), (2, .int v2), (3, .int v3)] [] := by
  unfold fX12_readsAct_30 at hf
  refine tt_aload_n (pc := 30) (i := 0) (j := 0) E dX12_readsAct_30 rfl rfl ?_
  obtain ⟨r_1, hr_2, hf⟩ := bd_some hf
  have hc_3 := cX12_isGood_ok (l := l) (B := B) (D := D) (cT := cT) (n := n) (adK := adK) (adV := adV) h0 hr_2
  refine tt_cZ (pc := 31) (tt_vi E lmX12_129 mtX12_isGood hc_3 h0 rfl rfl (Nat.le_of_ble_eq_true rfl) ⟨(Nat.le_of_ble_eq_true rfl), (Nat.le_of_ble_eq_true rfl)⟩ ⟨(Nat.le_of_ble_eq_true rfl), (Nat.le_of_ble_eq_true rfl)⟩ dX12_readsAct_31) (fun z_4 => ?_)
  refine tt_if_eq (pc := 34) (tgt := 48) E dX12_readsAct_34 rfl (fun c_9 => ?_) (fun c_9 => ?_)
  · have hf := ip c_9 hf
    exact tX12_readsAct_48 E hr hlk h0 hf
  · have hf := ine c_9 hf
    refine tt_iload_n (pc := 37) (i := 3) (j := 3) E dX12_readsAct_37 rfl rfl ?_
    refine tt_bipush (pc := 38) (v := 6) E dX12_readsAct_38 bc_6 ?_
    refine tt_icmp_ne (pc := 40) (tgt := 48) E dX12_readsAct_40 rfl (fun c_8 => ?_) (fun c_8 => ?_)
    · have hf := ine c_8 hf
      exact tX12_readsAct_48 E hr hlk h0 hf
    · have hf := ip c_8 hf
      refine tt_aload_n (pc := 43) (i := 0) (j := 0) E dX12_readsAct_43 rfl rfl ?_
      refine tt_iconst (pc := 44) (v := 5) E dX12_readsAct_44 ic_5 ?_
      obtain ⟨r_5, hr_6, hf⟩ := bd_some hf
      have hc_7 := cX12_wrong_ok (l := l) (B := B) (D := D) (cT := cT) (n := n) (adK := adK) (adV := adV) h0 hr_6
      refine tt_cV (pc := 45) (tt_vi E lmX12_136 mtX12_wrong hc_7 h0 rfl rfl (Nat.le_of_ble_eq_true rfl) ⟨(Nat.le_of_ble_eq_true rfl), (Nat.le_of_ble_eq_true rfl)⟩ ⟨(Nat.le_of_ble_eq_true rfl), (Nat.le_of_ble_eq_true rfl)⟩ dX12_readsAct_45) ?_
      exact tX12_readsAct_48 E hr hlk h0 hf
set_option maxHeartbeats 4000000 in
theorem cX12_readsAct_ok {l : Launch} {B : Nat} {D : va_G} {cT : Nat → ClassId} {n : Nat} {adK adV : Nat → Nat} {o0 : Nat} {v1 : Int32} {μ : Mem} {res : Mem} (h0 : isK n o0 9) (hf : fX12_readsAct o0 v1 μ = some res) : MV l yX12_readsAct cX12_readsAct 5 (none) rmX12_readsAct B D cT (XW B adK adV) n [.ref (B + o0), .int v1] μ res := by
  refine tt_ofW mtX12_readsAct.1 (Nat.le_of_ble_eq_true rfl) rfl ?_
  intro p e s m below meth c E0 hr hlk
  have E : EE p s m _ c cX12_readsAct 5 RX12 B D cT (XW B adK adV) := E0
  unfold fX12_readsAct at hf
  refine tt_aload_n (pc := 0) (i := 0) (j := 0) E dX12_readsAct_0 rfl rfl ?_
  obtain ⟨r_1, hr_2, hf⟩ := bd_some hf
  have hc_3 := cX12_kindHere_ok (l := l) (B := B) (D := D) (cT := cT) (n := n) (adK := adK) (adV := adV) h0 hr_2
  refine tt_cI (pc := 1) (tt_vi E lmX12_188 mtX12_kindHere hc_3 h0 rfl rfl (Nat.le_of_ble_eq_true rfl) ⟨(Nat.le_of_ble_eq_true rfl), (Nat.le_of_ble_eq_true rfl)⟩ ⟨(Nat.le_of_ble_eq_true rfl), (Nat.le_of_ble_eq_true rfl)⟩ dX12_readsAct_1) ?_
  refine tt_istore_n (pc := 4) (i := 2) (lv' := [(2, .int r_1), (0, .ref (B + o0)), (1, .int v1)]) E dX12_readsAct_4 rfl (Nat.le_of_ble_eq_true rfl) rfl ?_
  refine tt_aload_n (pc := 5) (i := 0) (j := 1) E dX12_readsAct_5 rfl rfl ?_
  refine tt_iload_n (pc := 6) (i := 1) (j := 2) E dX12_readsAct_6 rfl rfl ?_
  refine tt_bipush (pc := 7) (v := 8) E dX12_readsAct_7 bc_8 ?_
  obtain ⟨r_4, hr_5, hf⟩ := bd_some hf
  have hc_6 := cX12_of_ok (l := l) (B := B) (D := D) (cT := cT) (n := n) (adK := adK) (adV := adV) h0 hr_5
  refine tt_cI (pc := 9) (tt_vi E lmX12_192 mtX12_of hc_6 h0 rfl rfl (Nat.le_of_ble_eq_true rfl) ⟨(Nat.le_of_ble_eq_true rfl), (Nat.le_of_ble_eq_true rfl)⟩ ⟨(Nat.le_of_ble_eq_true rfl), (Nat.le_of_ble_eq_true rfl)⟩ dX12_readsAct_9) ?_
  refine tt_istore_n (pc := 12) (i := 3) (lv' := [(3, .int r_4), (2, .int r_1), (0, .ref (B + o0)), (1, .int v1)]) E dX12_readsAct_12 rfl (Nat.le_of_ble_eq_true rfl) rfl ?_
  refine tt_aload_n (pc := 13) (i := 0) (j := 2) E dX12_readsAct_13 rfl rfl ?_
  obtain ⟨r_7, hr_8, hf⟩ := bd_some hf
  have hc_9 := cX12_isGood_ok (l := l) (B := B) (D := D) (cT := cT) (n := n) (adK := adK) (adV := adV) h0 hr_8
  refine tt_cZ (pc := 14) (tt_vi E lmX12_129 mtX12_isGood hc_9 h0 rfl rfl (Nat.le_of_ble_eq_true rfl) ⟨(Nat.le_of_ble_eq_true rfl), (Nat.le_of_ble_eq_true rfl)⟩ ⟨(Nat.le_of_ble_eq_true rfl), (Nat.le_of_ble_eq_true rfl)⟩ dX12_readsAct_14) (fun z_10 => ?_)
  refine tt_if_eq (pc := 17) (tgt := 30) E dX12_readsAct_17 rfl (fun c_15 => ?_) (fun c_15 => ?_)
  · have hf := ip c_15 hf
    refine tt_sub [2, 3, 1, 0] (lv' := [(0, .ref (B + o0)), (1, .int v1), (2, .int r_1), (3, .int r_4)]) rfl ?_
    exact tX12_readsAct_30 E hr hlk h0 hf
  · have hf := ine c_15 hf
    refine tt_iload_n (pc := 20) (i := 2) (j := 1) E dX12_readsAct_20 rfl rfl ?_
    refine tt_iconst (pc := 21) (v := (-1)) E dX12_readsAct_21 ic_m1 ?_
    refine tt_icmp_ne (pc := 22) (tgt := 30) E dX12_readsAct_22 rfl (fun c_14 => ?_) (fun c_14 => ?_)
    · have hf := ine c_14 hf
      refine tt_sub [2, 3, 1, 0] (lv' := [(0, .ref (B + o0)), (1, .int v1), (2, .int r_1), (3, .int r_4)]) rfl ?_
      exact tX12_readsAct_30 E hr hlk h0 hf
    · have hf := ip c_14 hf
      refine tt_aload_n (pc := 25) (i := 0) (j := 2) E dX12_readsAct_25 rfl rfl ?_
      refine tt_iconst (pc := 26) (v := 1) E dX12_readsAct_26 ic_1 ?_
      obtain ⟨r_11, hr_12, hf⟩ := bd_some hf
      have hc_13 := cX12_wrong_ok (l := l) (B := B) (D := D) (cT := cT) (n := n) (adK := adK) (adV := adV) h0 hr_12
      refine tt_cV (pc := 27) (tt_vi E lmX12_136 mtX12_wrong hc_13 h0 rfl rfl (Nat.le_of_ble_eq_true rfl) ⟨(Nat.le_of_ble_eq_true rfl), (Nat.le_of_ble_eq_true rfl)⟩ ⟨(Nat.le_of_ble_eq_true rfl), (Nat.le_of_ble_eq_true rfl)⟩ dX12_readsAct_27) ?_
      refine tt_sub [2, 3, 1, 0] (lv' := [(0, .ref (B + o0)), (1, .int v1), (2, .int r_1), (3, .int r_4)]) rfl ?_
      exact tX12_readsAct_30 E hr hlk h0 hf
set_option maxHeartbeats 4000000 in
theorem cX12_after_ok {l : Launch} {B : Nat} {D : va_G} {cT : Nat → ClassId} {n : Nat} {adK adV : Nat → Nat} {o0 : Nat} {v1 : Int64} {v3 : Int32} {v4 : Int32} {μ : Mem} {res : Int32 × Mem} (h0 : isK n o0 9) (hf : fX12_after o0 v1 v3 v4 μ = some res) : MI l yX12_after cX12_after 5 (some .int) rmX12_after B D cT (XW B adK adV) n [.ref (B + o0), .long v1, .int v3, .int v4] μ res := by
  refine tt_ofW mtX12_after.1 (Nat.le_of_ble_eq_true rfl) rfl ?_
  intro p e s m below meth c E0 hr hlk
  have E : EE p s m _ c cX12_after 5 RX12 B D cT (XW B adK adV) := E0
  unfold fX12_after at hf
  refine tt_aload_n (pc := 0) (i := 0) (j := 0) E dX12_after_0 rfl rfl ?_
  refine tt_lload_n (pc := 1) (i := 1) (j := 1) E dX12_after_1 rfl rfl ?_
  obtain ⟨r_1, hr_2, hf⟩ := bd_some hf
  have hc_3 := cX12_mustWord_ok (l := l) (B := B) (D := D) (cT := cT) (n := n) (adK := adK) (adV := adV) h0 hr_2
  refine tt_cV (pc := 2) (tt_vi E lmX12_205 mtX12_mustWord hc_3 h0 rfl rfl (Nat.le_of_ble_eq_true rfl) ⟨(Nat.le_of_ble_eq_true rfl), (Nat.le_of_ble_eq_true rfl)⟩ ⟨(Nat.le_of_ble_eq_true rfl), (Nat.le_of_ble_eq_true rfl)⟩ dX12_after_2) ?_
  refine tt_aload_n (pc := 5) (i := 0) (j := 0) E dX12_after_5 rfl rfl ?_
  refine tt_iload_n (pc := 6) (i := 3) (j := 2) E dX12_after_6 rfl rfl ?_
  refine tt_iload (pc := 7) (i := 4) (j := 3) E dX12_after_7 rfl ?_
  obtain ⟨r_4, hr_5, hf⟩ := bd_some hf
  have hc_6 := cX12_number_ok (l := l) (B := B) (D := D) (cT := cT) (n := n) (adK := adK) (adV := adV) h0 hr_5
  refine tt_cI (pc := 9) (tt_vi E lmX12_198 mtX12_number hc_6 h0 rfl rfl (Nat.le_of_ble_eq_true rfl) ⟨(Nat.le_of_ble_eq_true rfl), (Nat.le_of_ble_eq_true rfl)⟩ ⟨(Nat.le_of_ble_eq_true rfl), (Nat.le_of_ble_eq_true rfl)⟩ dX12_after_9) ?_
  exact tt_iret (pc := 12) E hr hlk dX12_after_12 (Nat.le_of_ble_eq_true rfl) (Nat.le_of_ble_eq_true rfl) hf
set_option maxHeartbeats 4000000 in
theorem tX12_side_34 {p : Program} {l : Launch} {e : Env} {s : State} {m : MethodId} {args : Array Value} {below : List Frame} {meth : Method} {c : Code} {B : Nat} {D : va_G} {cT : Nat → ClassId} {n : Nat} {adK adV : Nat → Nat} {res : Int32 × Mem} (E : EE p s m args c cX12_side 2 RX12 B D cT (XW B adK adV)) (hr : meth.sig.returnType = some .int) (hlk : meth.locks = false) {o0 : Nat} {v1 : Int32} (h0 : isK n o0 9) (h1 : zb v1) {μ : Mem} (hf : fX12_side_34 o0 v1 μ = some res) : TT p l e rmX12_side s m args below meth c (QI B D cT n below args s res) 2 B D cT n 0 0 μ 34 [(0, .ref (B + o0)), (1, .int v1)] [] := by
  unfold fX12_side_34 at hf
  refine tt_aload_n (pc := 34) (i := 0) (j := 0) E dX12_side_34 rfl rfl ?_
  obtain ⟨r_1, hr_2, hf⟩ := bd_some hf
  have hc_3 := cX12_isGood_ok (l := l) (B := B) (D := D) (cT := cT) (n := n) (adK := adK) (adV := adV) h0 hr_2
  refine tt_cZ (pc := 35) (tt_vi E lmX12_129 mtX12_isGood hc_3 h0 rfl rfl (Nat.le_of_ble_eq_true rfl) ⟨(Nat.le_of_ble_eq_true rfl), (Nat.le_of_ble_eq_true rfl)⟩ ⟨(Nat.le_of_ble_eq_true rfl), (Nat.le_of_ble_eq_true rfl)⟩ dX12_side_35) (fun z_4 => ?_)
  refine tt_if_eq (pc := 38) (tgt := 45) E dX12_side_38 rfl (fun c_14 => ?_) (fun c_14 => ?_)
  · have hf := ip c_14 hf
    refine tt_iload_n (pc := 45) (i := 1) (j := 1) E dX12_side_45 rfl rfl ?_
    obtain ⟨r_5, hr_6, hf⟩ := bd_some hf
    have hc_7 := cX12_truth_ok (l := l) (B := B) (D := D) (cT := cT) (n := n) (adK := adK) (adV := adV) h1 hr_6
    refine tt_cI (pc := 46) (tt_si E lmX12_78 mtX12_truth hc_7 rfl rfl (Nat.le_of_ble_eq_true rfl) ⟨(Nat.le_of_ble_eq_true rfl), (Nat.le_of_ble_eq_true rfl)⟩ ⟨(Nat.le_of_ble_eq_true rfl), (Nat.le_of_ble_eq_true rfl)⟩ dX12_side_46) ?_
    exact tt_iret (pc := 49) E hr hlk dX12_side_49 (Nat.le_of_ble_eq_true rfl) (Nat.le_of_ble_eq_true rfl) hf
  · have hf := ine c_14 hf
    refine tt_aload_n (pc := 41) (i := 0) (j := 0) E dX12_side_41 rfl rfl ?_
    obtain ⟨r_8, hr_9, hf⟩ := bd_some hf
    have hc_10 := cX12_goOn_ok (l := l) (B := B) (D := D) (cT := cT) (n := n) (adK := adK) (adV := adV) h0 hr_9
    refine tt_cV (pc := 42) (tt_vi E lmX12_139 mtX12_goOn hc_10 h0 rfl rfl (Nat.le_of_ble_eq_true rfl) ⟨(Nat.le_of_ble_eq_true rfl), (Nat.le_of_ble_eq_true rfl)⟩ ⟨(Nat.le_of_ble_eq_true rfl), (Nat.le_of_ble_eq_true rfl)⟩ dX12_side_42) ?_
    refine tt_iload_n (pc := 45) (i := 1) (j := 1) E dX12_side_45 rfl rfl ?_
    obtain ⟨r_11, hr_12, hf⟩ := bd_some hf
    have hc_13 := cX12_truth_ok (l := l) (B := B) (D := D) (cT := cT) (n := n) (adK := adK) (adV := adV) h1 hr_12
    refine tt_cI (pc := 46) (tt_si E lmX12_78 mtX12_truth hc_13 rfl rfl (Nat.le_of_ble_eq_true rfl) ⟨(Nat.le_of_ble_eq_true rfl), (Nat.le_of_ble_eq_true rfl)⟩ ⟨(Nat.le_of_ble_eq_true rfl), (Nat.le_of_ble_eq_true rfl)⟩ dX12_side_46) ?_
    exact tt_iret (pc := 49) E hr hlk dX12_side_49 (Nat.le_of_ble_eq_true rfl) (Nat.le_of_ble_eq_true rfl) hf
set_option maxHeartbeats 4000000 in
theorem cX12_side_ok {l : Launch} {B : Nat} {D : va_G} {cT : Nat → ClassId} {n : Nat} {adK adV : Nat → Nat} {o0 : Nat} {μ : Mem} {res : Int32 × Mem} (h0 : isK n o0 9) (hf : fX12_side o0 μ = some res) : MI l yX12_side cX12_side 2 (some .int) rmX12_side B D cT (XW B adK adV) n [.ref (B + o0)] μ res := by
  refine tt_ofW mtX12_side.1 (Nat.le_of_ble_eq_true rfl) rfl ?_
  intro p e s m below meth c E0 hr hlk
  have E : EE p s m _ c cX12_side 2 RX12 B D cT (XW B adK adV) := E0
  unfold fX12_side at hf
  refine tt_aload_n (pc := 0) (i := 0) (j := 0) E dX12_side_0 rfl rfl ?_
  refine tt_ldc2 (pc := 1) (v := 19176724) E dX12_side_1 (gw_mem (mt7 (at_l 128 rfl)) rfl) ?_
  obtain ⟨r_1, hr_2, hf⟩ := bd_some hf
  have hc_3 := cX12_isWord_ok (l := l) (B := B) (D := D) (cT := cT) (n := n) (adK := adK) (adV := adV) h0 hr_2
  refine tt_cZ (pc := 4) (tt_vi E lmX12_142 mtX12_isWord hc_3 h0 rfl rfl (Nat.le_of_ble_eq_true rfl) ⟨(Nat.le_of_ble_eq_true rfl), (Nat.le_of_ble_eq_true rfl)⟩ ⟨(Nat.le_of_ble_eq_true rfl), (Nat.le_of_ble_eq_true rfl)⟩ dX12_side_4) (fun z_4 => ?_)
  refine tt_istore_n (pc := 7) (i := 1) (lv' := [(1, .int r_1), (0, .ref (B + o0))]) E dX12_side_7 rfl (Nat.le_of_ble_eq_true rfl) rfl ?_
  refine tt_aload_n (pc := 8) (i := 0) (j := 1) E dX12_side_8 rfl rfl ?_
  obtain ⟨r_5, hr_6, hf⟩ := bd_some hf
  have hc_7 := cX12_isGood_ok (l := l) (B := B) (D := D) (cT := cT) (n := n) (adK := adK) (adV := adV) h0 hr_6
  refine tt_cZ (pc := 9) (tt_vi E lmX12_129 mtX12_isGood hc_7 h0 rfl rfl (Nat.le_of_ble_eq_true rfl) ⟨(Nat.le_of_ble_eq_true rfl), (Nat.le_of_ble_eq_true rfl)⟩ ⟨(Nat.le_of_ble_eq_true rfl), (Nat.le_of_ble_eq_true rfl)⟩ dX12_side_9) (fun z_8 => ?_)
  refine tt_if_eq (pc := 12) (tgt := 34) E dX12_side_12 rfl (fun c_18 => ?_) (fun c_18 => ?_)
  · have hf := ip c_18 hf
    refine tt_sub [1, 0] (lv' := [(0, .ref (B + o0)), (1, .int r_1)]) rfl ?_
    exact tX12_side_34 E hr hlk h0 z_4 hf
  · have hf := ine c_18 hf
    refine tt_iload_n (pc := 15) (i := 1) (j := 0) E dX12_side_15 rfl rfl ?_
    refine tt_if_ne (pc := 16) (tgt := 34) E dX12_side_16 rfl (fun c_17 => ?_) (fun c_17 => ?_)
    · have hf := ine c_17 hf
      refine tt_sub [1, 0] (lv' := [(0, .ref (B + o0)), (1, .int r_1)]) rfl ?_
      exact tX12_side_34 E hr hlk h0 z_4 hf
    · have hf := ip c_17 hf
      refine tt_aload_n (pc := 19) (i := 0) (j := 1) E dX12_side_19 rfl rfl ?_
      refine tt_ldc2 (pc := 20) (v := 398548) E dX12_side_20 (gw_mem (mt7 (at_l 129 rfl)) rfl) ?_
      obtain ⟨r_9, hr_10, hf⟩ := bd_some hf
      have hc_11 := cX12_isWord_ok (l := l) (B := B) (D := D) (cT := cT) (n := n) (adK := adK) (adV := adV) h0 hr_10
      refine tt_cZ (pc := 23) (tt_vi E lmX12_142 mtX12_isWord hc_11 h0 rfl rfl (Nat.le_of_ble_eq_true rfl) ⟨(Nat.le_of_ble_eq_true rfl), (Nat.le_of_ble_eq_true rfl)⟩ ⟨(Nat.le_of_ble_eq_true rfl), (Nat.le_of_ble_eq_true rfl)⟩ dX12_side_23) (fun z_12 => ?_)
      refine tt_if_ne (pc := 26) (tgt := 34) E dX12_side_26 rfl (fun c_16 => ?_) (fun c_16 => ?_)
      · have hf := ine c_16 hf
        refine tt_sub [1, 0] (lv' := [(0, .ref (B + o0)), (1, .int r_1)]) rfl ?_
        exact tX12_side_34 E hr hlk h0 z_4 hf
      · have hf := ip c_16 hf
        refine tt_aload_n (pc := 29) (i := 0) (j := 1) E dX12_side_29 rfl rfl ?_
        refine tt_iconst (pc := 30) (v := 1) E dX12_side_30 ic_1 ?_
        obtain ⟨r_13, hr_14, hf⟩ := bd_some hf
        have hc_15 := cX12_wrong_ok (l := l) (B := B) (D := D) (cT := cT) (n := n) (adK := adK) (adV := adV) h0 hr_14
        refine tt_cV (pc := 31) (tt_vi E lmX12_136 mtX12_wrong hc_15 h0 rfl rfl (Nat.le_of_ble_eq_true rfl) ⟨(Nat.le_of_ble_eq_true rfl), (Nat.le_of_ble_eq_true rfl)⟩ ⟨(Nat.le_of_ble_eq_true rfl), (Nat.le_of_ble_eq_true rfl)⟩ dX12_side_31) ?_
        refine tt_sub [1, 0] (lv' := [(0, .ref (B + o0)), (1, .int r_1)]) rfl ?_
        exact tX12_side_34 E hr hlk h0 z_4 hf
set_option maxHeartbeats 4000000 in
theorem tX12_readsFighter_190 {p : Program} {l : Launch} {e : Env} {s : State} {m : MethodId} {args : Array Value} {below : List Frame} {meth : Method} {c : Code} {B : Nat} {D : va_G} {cT : Nat → ClassId} {n : Nat} {adK adV : Nat → Nat} {res : Mem} (E : EE p s m args c cX12_readsFighter 3 RX12 B D cT (XW B adK adV)) (hr : meth.sig.returnType = none) (hlk : meth.locks = false) {o0 : Nat} (h0 : isK n o0 9) {μ : Mem} (hf : fX12_readsFighter_190 o0 μ = some res) : TT p l e rmX12_readsFighter s m args below meth c (QV B D cT n below args s res) 3 B D cT n 0 0 μ 190 [(0, .ref (B + o0))] [] := by
  unfold fX12_readsFighter_190 at hf
  refine tt_aload_n (pc := 190) (i := 0) (j := 0) E dX12_readsFighter_190 rfl rfl ?_
  obtain ⟨r_1, hr_2, hf⟩ := bd_some hf
  have hc_3 := cX12_isGood_ok (l := l) (B := B) (D := D) (cT := cT) (n := n) (adK := adK) (adV := adV) h0 hr_2
  refine tt_cZ (pc := 191) (tt_vi E lmX12_129 mtX12_isGood hc_3 h0 rfl rfl (Nat.le_of_ble_eq_true rfl) ⟨(Nat.le_of_ble_eq_true rfl), (Nat.le_of_ble_eq_true rfl)⟩ ⟨(Nat.le_of_ble_eq_true rfl), (Nat.le_of_ble_eq_true rfl)⟩ dX12_readsFighter_191) (fun z_4 => ?_)
  refine tt_if_eq (pc := 194) (tgt := 207) E dX12_readsFighter_194 rfl (fun c_11 => ?_) (fun c_11 => ?_)
  · have hf := ip c_11 hf
    exact tt_vret (pc := 207) E hr hlk dX12_readsFighter_207 (Nat.le_of_ble_eq_true rfl) (Nat.le_of_ble_eq_true rfl) hf
  · have hf := ine c_11 hf
    refine tt_aload_n (pc := 197) (i := 0) (j := 0) E dX12_readsFighter_197 rfl rfl ?_
    obtain ⟨q_5, hq_6, hf⟩ := bd_some hf
    refine tt_getP (pc := 198) (t := 11) E lfX12_20 rfl rfl h0 dX12_readsFighter_198 hq_6 (fun kq_7 => ?_)
    refine tt_iconst (pc := 201) (v := 0) E dX12_readsFighter_201 ic_0 ?_
    refine tt_dup2 (pc := 202) E dX12_readsFighter_202 rfl rfl ?_
    obtain ⟨g_8, hf⟩ := gd_some hf
    refine tt_iald (pc := 203) E kq_7 g_8 dX12_readsFighter_203 ?_
    refine tt_iconst (pc := 204) (v := 1) E dX12_readsFighter_204 ic_1 ?_
    refine tt_iadd (pc := 205) E dX12_readsFighter_205 ?_
    obtain ⟨g_10, hf⟩ := gd_some hf
    refine tt_iast (pc := 206) E kq_7 g_10 dX12_readsFighter_206 (tt_nmM hf (fun m_9 hf => ?_))
    exact tt_vret (pc := 207) E hr hlk dX12_readsFighter_207 (Nat.le_of_ble_eq_true rfl) (Nat.le_of_ble_eq_true rfl) hf
set_option maxHeartbeats 4000000 in
theorem tX12_readsFighter_167 {p : Program} {l : Launch} {e : Env} {s : State} {m : MethodId} {args : Array Value} {below : List Frame} {meth : Method} {c : Code} {B : Nat} {D : va_G} {cT : Nat → ClassId} {n : Nat} {adK adV : Nat → Nat} {res : Mem} (E : EE p s m args c cX12_readsFighter 3 RX12 B D cT (XW B adK adV)) (hr : meth.sig.returnType = none) (hlk : meth.locks = false) {o0 : Nat} {v1 : Int32} (h0 : isK n o0 9) : ∀ (fu : Nat) (μ : Mem), zl1 (gX12_readsFighter_167 o0 v1) fu μ = some res → TT p l e rmX12_readsFighter s m args below meth c (QV B D cT n below args s res) 3 B D cT n 0 0 μ 167 [(0, .ref (B + o0)), (1, .int v1)] [] := by
  intro fu
  induction fu with
  | zero => intro μ hf; exact absurd hf (fun h => by cases h)
  | succ fu ih =>
    intro μ hf
    have hf : gX12_readsFighter_167 o0 v1 (zl1 (gX12_readsFighter_167 o0 v1) fu) μ = some res := hf
    unfold gX12_readsFighter_167 at hf
    refine tt_aload_n (pc := 167) (i := 0) (j := 0) E dX12_readsFighter_167 rfl rfl ?_
    obtain ⟨r_1, hr_2, hf⟩ := bd_some hf
    have hc_3 := cX12_isGood_ok (l := l) (B := B) (D := D) (cT := cT) (n := n) (adK := adK) (adV := adV) h0 hr_2
    refine tt_cZ (pc := 168) (tt_vi E lmX12_129 mtX12_isGood hc_3 h0 rfl rfl (Nat.le_of_ble_eq_true rfl) ⟨(Nat.le_of_ble_eq_true rfl), (Nat.le_of_ble_eq_true rfl)⟩ ⟨(Nat.le_of_ble_eq_true rfl), (Nat.le_of_ble_eq_true rfl)⟩ dX12_readsFighter_168) (fun z_4 => ?_)
    refine tt_if_eq (pc := 171) (tgt := 190) E dX12_readsFighter_171 rfl (fun c_9 => ?_) (fun c_9 => ?_)
    · have hf := ip c_9 hf
      refine tt_sub [0] (lv' := [(0, .ref (B + o0))]) rfl ?_
      exact tX12_readsFighter_190 E hr hlk h0 hf
    · have hf := ine c_9 hf
      refine tt_aload_n (pc := 174) (i := 0) (j := 0) E dX12_readsFighter_174 rfl rfl ?_
      refine tt_getI (pc := 175) E lfX12_116 rfl h0 dX12_readsFighter_175 ?_
      refine tt_iconst (pc := 178) (v := 1) E dX12_readsFighter_178 ic_1 ?_
      refine tt_icmp_ne (pc := 179) (tgt := 190) E dX12_readsFighter_179 rfl (fun c_8 => ?_) (fun c_8 => ?_)
      · have hf := ine c_8 hf
        refine tt_sub [0] (lv' := [(0, .ref (B + o0))]) rfl ?_
        exact tX12_readsFighter_190 E hr hlk h0 hf
      · have hf := ip c_8 hf
        refine tt_aload_n (pc := 182) (i := 0) (j := 0) E dX12_readsFighter_182 rfl rfl ?_
        refine tt_iload_n (pc := 183) (i := 1) (j := 1) E dX12_readsFighter_183 rfl rfl ?_
        obtain ⟨r_5, hr_6, hf⟩ := bd_some hf
        have hc_7 := cX12_readsAct_ok (l := l) (B := B) (D := D) (cT := cT) (n := n) (adK := adK) (adV := adV) h0 hr_6
        refine tt_cV (pc := 184) (tt_vi E lmX12_232 mtX12_readsAct hc_7 h0 rfl rfl (Nat.le_of_ble_eq_true rfl) ⟨(Nat.le_of_ble_eq_true rfl), (Nat.le_of_ble_eq_true rfl)⟩ ⟨(Nat.le_of_ble_eq_true rfl), (Nat.le_of_ble_eq_true rfl)⟩ dX12_readsFighter_184) ?_
        refine tt_goto (pc := 187) (tgt := 167) E dX12_readsFighter_187 rfl ?_
        exact ih r_5 hf
set_option maxHeartbeats 4000000 in
theorem tX12_readsFighter_152 {p : Program} {l : Launch} {e : Env} {s : State} {m : MethodId} {args : Array Value} {below : List Frame} {meth : Method} {c : Code} {B : Nat} {D : va_G} {cT : Nat → ClassId} {n : Nat} {adK adV : Nat → Nat} {res : Mem} (E : EE p s m args c cX12_readsFighter 3 RX12 B D cT (XW B adK adV)) (hr : meth.sig.returnType = none) (hlk : meth.locks = false) {o0 : Nat} {v1 : Int32} {ot0 : Nat} {vt1 : Int32} {vt2 : Int32} {vt3 : Int32} (h0 : isK n o0 9) (ht0 : isK n ot0 9) {μ : Mem} (hf : fX12_readsFighter_152 o0 v1 ot0 vt1 vt2 vt3 μ = some res) : TT p l e rmX12_readsFighter s m args below meth c (QV B D cT n below args s res) 3 B D cT n 0 0 μ 152 [(0, .ref (B + o0)), (1, .int v1)] [.int vt3, .int vt2, .int vt1, .ref (B + ot0)] := by
  unfold fX12_readsFighter_152 at hf
  obtain ⟨r_1, hr_2, hf⟩ := bd_some hf
  have hc_3 := cX12_sets_ok (l := l) (B := B) (D := D) (cT := cT) (n := n) (adK := adK) (adV := adV) ht0 hr_2
  refine tt_cV (pc := 152) (tt_vi E lmX12_201 mtX12_sets hc_3 ht0 rfl rfl (Nat.le_of_ble_eq_true rfl) ⟨(Nat.le_of_ble_eq_true rfl), (Nat.le_of_ble_eq_true rfl)⟩ ⟨(Nat.le_of_ble_eq_true rfl), (Nat.le_of_ble_eq_true rfl)⟩ dX12_readsFighter_152) ?_
  refine tt_aload_n (pc := 155) (i := 0) (j := 0) E dX12_readsFighter_155 rfl rfl ?_
  refine tt_ldc2 (pc := 156) (v := 536622) E dX12_readsFighter_156 (gw_mem (mt7 (at_l 148 rfl)) rfl) ?_
  obtain ⟨r_4, hr_5, hf⟩ := bd_some hf
  have hc_6 := cX12_mustWord_ok (l := l) (B := B) (D := D) (cT := cT) (n := n) (adK := adK) (adV := adV) h0 hr_5
  refine tt_cV (pc := 159) (tt_vi E lmX12_205 mtX12_mustWord hc_6 h0 rfl rfl (Nat.le_of_ble_eq_true rfl) ⟨(Nat.le_of_ble_eq_true rfl), (Nat.le_of_ble_eq_true rfl)⟩ ⟨(Nat.le_of_ble_eq_true rfl), (Nat.le_of_ble_eq_true rfl)⟩ dX12_readsFighter_159) ?_
  refine tt_aload_n (pc := 162) (i := 0) (j := 0) E dX12_readsFighter_162 rfl rfl ?_
  refine tt_iload_n (pc := 163) (i := 1) (j := 1) E dX12_readsFighter_163 rfl rfl ?_
  obtain ⟨r_7, hr_8, hf⟩ := bd_some hf
  have hc_9 := cX12_readsAct_ok (l := l) (B := B) (D := D) (cT := cT) (n := n) (adK := adK) (adV := adV) h0 hr_8
  refine tt_cV (pc := 164) (tt_vi E lmX12_232 mtX12_readsAct hc_9 h0 rfl rfl (Nat.le_of_ble_eq_true rfl) ⟨(Nat.le_of_ble_eq_true rfl), (Nat.le_of_ble_eq_true rfl)⟩ ⟨(Nat.le_of_ble_eq_true rfl), (Nat.le_of_ble_eq_true rfl)⟩ dX12_readsFighter_164) ?_
  exact tX12_readsFighter_167 E hr hlk h0 FU r_7 hf
set_option maxHeartbeats 4000000 in
theorem tX12_readsFighter_134 {p : Program} {l : Launch} {e : Env} {s : State} {m : MethodId} {args : Array Value} {below : List Frame} {meth : Method} {c : Code} {B : Nat} {D : va_G} {cT : Nat → ClassId} {n : Nat} {adK adV : Nat → Nat} {res : Mem} (E : EE p s m args c cX12_readsFighter 3 RX12 B D cT (XW B adK adV)) (hr : meth.sig.returnType = none) (hlk : meth.locks = false) {o0 : Nat} {v1 : Int32} {v2 : Int32} (h0 : isK n o0 9) (h2 : zb v2) {μ : Mem} (hf : fX12_readsFighter_134 o0 v1 v2 μ = some res) : TT p l e rmX12_readsFighter s m args below meth c (QV B D cT n below args s res) 3 B D cT n 0 0 μ 134 [(0, .ref (B + o0)), (1, .int v1), (2, .int v2)] [] := by
  unfold fX12_readsFighter_134 at hf
  refine tt_aload_n (pc := 134) (i := 0) (j := 0) E dX12_readsFighter_134 rfl rfl ?_
  refine tt_iload_n (pc := 135) (i := 1) (j := 1) E dX12_readsFighter_135 rfl rfl ?_
  refine tt_iconst (pc := 136) (v := 3) E dX12_readsFighter_136 ic_3 ?_
  refine tt_iload_n (pc := 137) (i := 2) (j := 2) E dX12_readsFighter_137 rfl rfl ?_
  refine tt_if_eq (pc := 138) (tgt := 151) E dX12_readsFighter_138 rfl (fun c_4 => ?_) (fun c_4 => ?_)
  · have hf := ip c_4 hf
    refine tt_iconst (pc := 151) (v := 0) E dX12_readsFighter_151 ic_0 ?_
    refine tt_sub [0, 1] (lv' := [(0, .ref (B + o0)), (1, .int v1)]) rfl ?_
    exact tX12_readsFighter_152 E hr hlk h0 h0 hf
  · have hf := ine c_4 hf
    refine tt_aload_n (pc := 141) (i := 0) (j := 0) E dX12_readsFighter_141 rfl rfl ?_
    refine tt_iconst (pc := 142) (v := 0) E dX12_readsFighter_142 ic_0 ?_
    refine tt_bipush (pc := 143) (v := 9) E dX12_readsFighter_143 bc_9 ?_
    obtain ⟨r_1, hr_2, hf⟩ := bd_some hf
    have hc_3 := cX12_number_ok (l := l) (B := B) (D := D) (cT := cT) (n := n) (adK := adK) (adV := adV) h0 hr_2
    refine tt_cI (pc := 145) (tt_vi E lmX12_198 mtX12_number hc_3 h0 rfl rfl (Nat.le_of_ble_eq_true rfl) ⟨(Nat.le_of_ble_eq_true rfl), (Nat.le_of_ble_eq_true rfl)⟩ ⟨(Nat.le_of_ble_eq_true rfl), (Nat.le_of_ble_eq_true rfl)⟩ dX12_readsFighter_145) ?_
    refine tt_goto (pc := 148) (tgt := 152) E dX12_readsFighter_148 rfl ?_
    refine tt_sub [0, 1] (lv' := [(0, .ref (B + o0)), (1, .int v1)]) rfl ?_
    exact tX12_readsFighter_152 E hr hlk h0 h0 hf
set_option maxHeartbeats 4000000 in
theorem tX12_readsFighter_53 {p : Program} {l : Launch} {e : Env} {s : State} {m : MethodId} {args : Array Value} {below : List Frame} {meth : Method} {c : Code} {B : Nat} {D : va_G} {cT : Nat → ClassId} {n : Nat} {adK adV : Nat → Nat} {res : Mem} (E : EE p s m args c cX12_readsFighter 3 RX12 B D cT (XW B adK adV)) (hr : meth.sig.returnType = none) (hlk : meth.locks = false) {o0 : Nat} {v1 : Int32} (h0 : isK n o0 9) {μ : Mem} (hf : fX12_readsFighter_53 o0 v1 μ = some res) : TT p l e rmX12_readsFighter s m args below meth c (QV B D cT n below args s res) 3 B D cT n 0 0 μ 53 [(0, .ref (B + o0)), (1, .int v1)] [] := by
  unfold fX12_readsFighter_53 at hf
  refine tt_aload_n (pc := 53) (i := 0) (j := 0) E dX12_readsFighter_53 rfl rfl ?_
  obtain ⟨r_1, hr_2, hf⟩ := bd_some hf
  have hc_3 := cX12_isGood_ok (l := l) (B := B) (D := D) (cT := cT) (n := n) (adK := adK) (adV := adV) h0 hr_2
  refine tt_cZ (pc := 54) (tt_vi E lmX12_129 mtX12_isGood hc_3 h0 rfl rfl (Nat.le_of_ble_eq_true rfl) ⟨(Nat.le_of_ble_eq_true rfl), (Nat.le_of_ble_eq_true rfl)⟩ ⟨(Nat.le_of_ble_eq_true rfl), (Nat.le_of_ble_eq_true rfl)⟩ dX12_readsFighter_54) (fun z_4 => ?_)
  refine tt_if_ne (pc := 57) (tgt := 61) E dX12_readsFighter_57 rfl (fun c_39 => ?_) (fun c_39 => ?_)
  · have hf := ine c_39 hf
    refine tt_aload_n (pc := 61) (i := 0) (j := 0) E dX12_readsFighter_61 rfl rfl ?_
    obtain ⟨q_5, hq_6, hf⟩ := bd_some hf
    refine tt_getP (pc := 62) (t := 12) E lfX12_35 rfl rfl h0 dX12_readsFighter_62 hq_6 (fun kq_7 => ?_)
    refine tt_iload_n (pc := 65) (i := 1) (j := 1) E dX12_readsFighter_65 rfl rfl ?_
    refine tt_aload_n (pc := 66) (i := 0) (j := 0) E dX12_readsFighter_66 rfl rfl ?_
    refine tt_getJ (pc := 67) E lfX12_109 rfl h0 dX12_readsFighter_67 ?_
    obtain ⟨g_9, hf⟩ := gd_some hf
    refine tt_last (pc := 70) E kq_7 g_9 dX12_readsFighter_70 (tt_nmM hf (fun m_8 hf => ?_))
    refine tt_aload_n (pc := 71) (i := 0) (j := 0) E dX12_readsFighter_71 rfl rfl ?_
    obtain ⟨r_10, hr_11, hf⟩ := bd_some hf
    have hc_12 := cX12_goOn_ok (l := l) (B := B) (D := D) (cT := cT) (n := n) (adK := adK) (adV := adV) h0 hr_11
    refine tt_cV (pc := 72) (tt_vi E lmX12_139 mtX12_goOn hc_12 h0 rfl rfl (Nat.le_of_ble_eq_true rfl) ⟨(Nat.le_of_ble_eq_true rfl), (Nat.le_of_ble_eq_true rfl)⟩ ⟨(Nat.le_of_ble_eq_true rfl), (Nat.le_of_ble_eq_true rfl)⟩ dX12_readsFighter_72) ?_
    refine tt_aload_n (pc := 75) (i := 0) (j := 0) E dX12_readsFighter_75 rfl rfl ?_
    refine tt_iload_n (pc := 76) (i := 1) (j := 1) E dX12_readsFighter_76 rfl rfl ?_
    refine tt_iconst (pc := 77) (v := 0) E dX12_readsFighter_77 ic_0 ?_
    refine tt_aload_n (pc := 78) (i := 0) (j := 0) E dX12_readsFighter_78 rfl rfl ?_
    obtain ⟨r_13, hr_14, hf⟩ := bd_some hf
    have hc_15 := cX12_side_ok (l := l) (B := B) (D := D) (cT := cT) (n := n) (adK := adK) (adV := adV) h0 hr_14
    refine tt_cI (pc := 79) (tt_vi E lmX12_219 mtX12_side hc_15 h0 rfl rfl (Nat.le_of_ble_eq_true rfl) ⟨(Nat.le_of_ble_eq_true rfl), (Nat.le_of_ble_eq_true rfl)⟩ ⟨(Nat.le_of_ble_eq_true rfl), (Nat.le_of_ble_eq_true rfl)⟩ dX12_readsFighter_79) ?_
    obtain ⟨r_16, hr_17, hf⟩ := bd_some hf
    have hc_18 := cX12_sets_ok (l := l) (B := B) (D := D) (cT := cT) (n := n) (adK := adK) (adV := adV) h0 hr_17
    refine tt_cV (pc := 82) (tt_vi E lmX12_201 mtX12_sets hc_18 h0 rfl rfl (Nat.le_of_ble_eq_true rfl) ⟨(Nat.le_of_ble_eq_true rfl), (Nat.le_of_ble_eq_true rfl)⟩ ⟨(Nat.le_of_ble_eq_true rfl), (Nat.le_of_ble_eq_true rfl)⟩ dX12_readsFighter_82) ?_
    refine tt_aload_n (pc := 85) (i := 0) (j := 0) E dX12_readsFighter_85 rfl rfl ?_
    refine tt_iload_n (pc := 86) (i := 1) (j := 1) E dX12_readsFighter_86 rfl rfl ?_
    refine tt_iconst (pc := 87) (v := 1) E dX12_readsFighter_87 ic_1 ?_
    refine tt_aload_n (pc := 88) (i := 0) (j := 0) E dX12_readsFighter_88 rfl rfl ?_
    refine tt_ldc2 (pc := 89) (v := 20452516) E dX12_readsFighter_89 (gw_mem (mt7 (at_l 137 rfl)) rfl) ?_
    refine tt_iconst (pc := 92) (v := 1) E dX12_readsFighter_92 ic_1 ?_
    refine tt_bipush (pc := 93) (v := 99) E dX12_readsFighter_93 bc_99 ?_
    obtain ⟨r_19, hr_20, hf⟩ := bd_some hf
    have hc_21 := cX12_after_ok (l := l) (B := B) (D := D) (cT := cT) (n := n) (adK := adK) (adV := adV) h0 hr_20
    refine tt_cI (pc := 95) (tt_vi E lmX12_222 mtX12_after hc_21 h0 rfl rfl (Nat.le_of_ble_eq_true rfl) ⟨(Nat.le_of_ble_eq_true rfl), (Nat.le_of_ble_eq_true rfl)⟩ ⟨(Nat.le_of_ble_eq_true rfl), (Nat.le_of_ble_eq_true rfl)⟩ dX12_readsFighter_95) ?_
    obtain ⟨r_22, hr_23, hf⟩ := bd_some hf
    have hc_24 := cX12_sets_ok (l := l) (B := B) (D := D) (cT := cT) (n := n) (adK := adK) (adV := adV) h0 hr_23
    refine tt_cV (pc := 98) (tt_vi E lmX12_201 mtX12_sets hc_24 h0 rfl rfl (Nat.le_of_ble_eq_true rfl) ⟨(Nat.le_of_ble_eq_true rfl), (Nat.le_of_ble_eq_true rfl)⟩ ⟨(Nat.le_of_ble_eq_true rfl), (Nat.le_of_ble_eq_true rfl)⟩ dX12_readsFighter_98) ?_
    refine tt_aload_n (pc := 101) (i := 0) (j := 0) E dX12_readsFighter_101 rfl rfl ?_
    refine tt_iload_n (pc := 102) (i := 1) (j := 1) E dX12_readsFighter_102 rfl rfl ?_
    refine tt_iconst (pc := 103) (v := 2) E dX12_readsFighter_103 ic_2 ?_
    refine tt_aload_n (pc := 104) (i := 0) (j := 0) E dX12_readsFighter_104 rfl rfl ?_
    refine tt_ldc2 (pc := 105) (v := 402629) E dX12_readsFighter_105 (gw_mem (mt7 (at_l 146 rfl)) rfl) ?_
    refine tt_iconst (pc := 108) (v := 1) E dX12_readsFighter_108 ic_1 ?_
    refine tt_sipush (pc := 109) (v := 999) E dX12_readsFighter_109 sc_999 ?_
    obtain ⟨r_25, hr_26, hf⟩ := bd_some hf
    have hc_27 := cX12_after_ok (l := l) (B := B) (D := D) (cT := cT) (n := n) (adK := adK) (adV := adV) h0 hr_26
    refine tt_cI (pc := 112) (tt_vi E lmX12_222 mtX12_after hc_27 h0 rfl rfl (Nat.le_of_ble_eq_true rfl) ⟨(Nat.le_of_ble_eq_true rfl), (Nat.le_of_ble_eq_true rfl)⟩ ⟨(Nat.le_of_ble_eq_true rfl), (Nat.le_of_ble_eq_true rfl)⟩ dX12_readsFighter_112) ?_
    obtain ⟨r_28, hr_29, hf⟩ := bd_some hf
    have hc_30 := cX12_sets_ok (l := l) (B := B) (D := D) (cT := cT) (n := n) (adK := adK) (adV := adV) h0 hr_29
    refine tt_cV (pc := 115) (tt_vi E lmX12_201 mtX12_sets hc_30 h0 rfl rfl (Nat.le_of_ble_eq_true rfl) ⟨(Nat.le_of_ble_eq_true rfl), (Nat.le_of_ble_eq_true rfl)⟩ ⟨(Nat.le_of_ble_eq_true rfl), (Nat.le_of_ble_eq_true rfl)⟩ dX12_readsFighter_115) ?_
    refine tt_aload_n (pc := 118) (i := 0) (j := 0) E dX12_readsFighter_118 rfl rfl ?_
    refine tt_ldc2 (pc := 119) (v := 414827) E dX12_readsFighter_119 (gw_mem (mt7 (at_l 147 rfl)) rfl) ?_
    obtain ⟨r_31, hr_32, hf⟩ := bd_some hf
    have hc_33 := cX12_isWord_ok (l := l) (B := B) (D := D) (cT := cT) (n := n) (adK := adK) (adV := adV) h0 hr_32
    refine tt_cZ (pc := 122) (tt_vi E lmX12_142 mtX12_isWord hc_33 h0 rfl rfl (Nat.le_of_ble_eq_true rfl) ⟨(Nat.le_of_ble_eq_true rfl), (Nat.le_of_ble_eq_true rfl)⟩ ⟨(Nat.le_of_ble_eq_true rfl), (Nat.le_of_ble_eq_true rfl)⟩ dX12_readsFighter_122) (fun z_34 => ?_)
    refine tt_istore_n (pc := 125) (i := 2) (lv' := [(2, .int r_31), (0, .ref (B + o0)), (1, .int v1)]) E dX12_readsFighter_125 rfl (Nat.le_of_ble_eq_true rfl) rfl ?_
    refine tt_iload_n (pc := 126) (i := 2) (j := 0) E dX12_readsFighter_126 rfl rfl ?_
    refine tt_if_eq (pc := 127) (tgt := 134) E dX12_readsFighter_127 rfl (fun c_38 => ?_) (fun c_38 => ?_)
    · have hf := ip c_38 hf
      refine tt_sub [1, 2, 0] (lv' := [(0, .ref (B + o0)), (1, .int v1), (2, .int r_31)]) rfl ?_
      exact tX12_readsFighter_134 E hr hlk h0 z_34 hf
    · have hf := ine c_38 hf
      refine tt_aload_n (pc := 130) (i := 0) (j := 1) E dX12_readsFighter_130 rfl rfl ?_
      obtain ⟨r_35, hr_36, hf⟩ := bd_some hf
      have hc_37 := cX12_goOn_ok (l := l) (B := B) (D := D) (cT := cT) (n := n) (adK := adK) (adV := adV) h0 hr_36
      refine tt_cV (pc := 131) (tt_vi E lmX12_139 mtX12_goOn hc_37 h0 rfl rfl (Nat.le_of_ble_eq_true rfl) ⟨(Nat.le_of_ble_eq_true rfl), (Nat.le_of_ble_eq_true rfl)⟩ ⟨(Nat.le_of_ble_eq_true rfl), (Nat.le_of_ble_eq_true rfl)⟩ dX12_readsFighter_131) ?_
      refine tt_sub [1, 2, 0] (lv' := [(0, .ref (B + o0)), (1, .int v1), (2, .int r_31)]) rfl ?_
      exact tX12_readsFighter_134 E hr hlk h0 z_34 hf
  · have hf := ip c_39 hf
    exact tt_vret (pc := 60) E hr hlk dX12_readsFighter_60 (Nat.le_of_ble_eq_true rfl) (Nat.le_of_ble_eq_true rfl) hf
set_option maxHeartbeats 4000000 in
theorem tX12_readsFighter_29 {p : Program} {l : Launch} {e : Env} {s : State} {m : MethodId} {args : Array Value} {below : List Frame} {meth : Method} {c : Code} {B : Nat} {D : va_G} {cT : Nat → ClassId} {n : Nat} {adK adV : Nat → Nat} {res : Mem} (E : EE p s m args c cX12_readsFighter 3 RX12 B D cT (XW B adK adV)) (hr : meth.sig.returnType = none) (hlk : meth.locks = false) {o0 : Nat} {v1 : Int32} (h0 : isK n o0 9) {μ : Mem} (hf : fX12_readsFighter_29 o0 v1 μ = some res) : TT p l e rmX12_readsFighter s m args below meth c (QV B D cT n below args s res) 3 B D cT n 0 0 μ 29 [(0, .ref (B + o0)), (1, .int v1)] [] := by
  unfold fX12_readsFighter_29 at hf
  refine tt_aload_n (pc := 29) (i := 0) (j := 0) E dX12_readsFighter_29 rfl rfl ?_
  obtain ⟨r_1, hr_2, hf⟩ := bd_some hf
  have hc_3 := cX12_mustBeWord_ok (l := l) (B := B) (D := D) (cT := cT) (n := n) (adK := adK) (adV := adV) h0 hr_2
  refine tt_cV (pc := 30) (tt_vi E lmX12_213 mtX12_mustBeWord hc_3 h0 rfl rfl (Nat.le_of_ble_eq_true rfl) ⟨(Nat.le_of_ble_eq_true rfl), (Nat.le_of_ble_eq_true rfl)⟩ ⟨(Nat.le_of_ble_eq_true rfl), (Nat.le_of_ble_eq_true rfl)⟩ dX12_readsFighter_30) ?_
  refine tt_aload_n (pc := 33) (i := 0) (j := 0) E dX12_readsFighter_33 rfl rfl ?_
  obtain ⟨r_4, hr_5, hf⟩ := bd_some hf
  have hc_6 := cX12_isGood_ok (l := l) (B := B) (D := D) (cT := cT) (n := n) (adK := adK) (adV := adV) h0 hr_5
  refine tt_cZ (pc := 34) (tt_vi E lmX12_129 mtX12_isGood hc_6 h0 rfl rfl (Nat.le_of_ble_eq_true rfl) ⟨(Nat.le_of_ble_eq_true rfl), (Nat.le_of_ble_eq_true rfl)⟩ ⟨(Nat.le_of_ble_eq_true rfl), (Nat.le_of_ble_eq_true rfl)⟩ dX12_readsFighter_34) (fun z_7 => ?_)
  refine tt_if_eq (pc := 37) (tgt := 53) E dX12_readsFighter_37 rfl (fun c_15 => ?_) (fun c_15 => ?_)
  · have hf := ip c_15 hf
    exact tX12_readsFighter_53 E hr hlk h0 hf
  · have hf := ine c_15 hf
    refine tt_aload_n (pc := 40) (i := 0) (j := 0) E dX12_readsFighter_40 rfl rfl ?_
    obtain ⟨r_8, hr_9, hf⟩ := bd_some hf
    have hc_10 := cX12_named_ok (l := l) (B := B) (D := D) (cT := cT) (n := n) (adK := adK) (adV := adV) h0 hr_9
    refine tt_cI (pc := 41) (tt_vi E lmX12_216 mtX12_named hc_10 h0 rfl rfl (Nat.le_of_ble_eq_true rfl) ⟨(Nat.le_of_ble_eq_true rfl), (Nat.le_of_ble_eq_true rfl)⟩ ⟨(Nat.le_of_ble_eq_true rfl), (Nat.le_of_ble_eq_true rfl)⟩ dX12_readsFighter_41) ?_
    refine tt_iconst (pc := 44) (v := (-1)) E dX12_readsFighter_44 ic_m1 ?_
    refine tt_icmp_eq (pc := 45) (tgt := 53) E dX12_readsFighter_45 rfl (fun c_14 => ?_) (fun c_14 => ?_)
    · have hf := ip c_14 hf
      exact tX12_readsFighter_53 E hr hlk h0 hf
    · have hf := ine c_14 hf
      refine tt_aload_n (pc := 48) (i := 0) (j := 0) E dX12_readsFighter_48 rfl rfl ?_
      refine tt_iconst (pc := 49) (v := 3) E dX12_readsFighter_49 ic_3 ?_
      obtain ⟨r_11, hr_12, hf⟩ := bd_some hf
      have hc_13 := cX12_wrong_ok (l := l) (B := B) (D := D) (cT := cT) (n := n) (adK := adK) (adV := adV) h0 hr_12
      refine tt_cV (pc := 50) (tt_vi E lmX12_136 mtX12_wrong hc_13 h0 rfl rfl (Nat.le_of_ble_eq_true rfl) ⟨(Nat.le_of_ble_eq_true rfl), (Nat.le_of_ble_eq_true rfl)⟩ ⟨(Nat.le_of_ble_eq_true rfl), (Nat.le_of_ble_eq_true rfl)⟩ dX12_readsFighter_50) ?_
      exact tX12_readsFighter_53 E hr hlk h0 hf
set_option maxHeartbeats 4000000 in
theorem tX12_readsFighter_18 {p : Program} {l : Launch} {e : Env} {s : State} {m : MethodId} {args : Array Value} {below : List Frame} {meth : Method} {c : Code} {B : Nat} {D : va_G} {cT : Nat → ClassId} {n : Nat} {adK adV : Nat → Nat} {res : Mem} (E : EE p s m args c cX12_readsFighter 3 RX12 B D cT (XW B adK adV)) (hr : meth.sig.returnType = none) (hlk : meth.locks = false) {o0 : Nat} {v1 : Int32} (h0 : isK n o0 9) {μ : Mem} (hf : fX12_readsFighter_18 o0 v1 μ = some res) : TT p l e rmX12_readsFighter s m args below meth c (QV B D cT n below args s res) 3 B D cT n 0 0 μ 18 [(0, .ref (B + o0)), (1, .int v1)] [] := by
  unfold fX12_readsFighter_18 at hf
  refine tt_aload_n (pc := 18) (i := 0) (j := 0) E dX12_readsFighter_18 rfl rfl ?_
  obtain ⟨r_1, hr_2, hf⟩ := bd_some hf
  have hc_3 := cX12_isGood_ok (l := l) (B := B) (D := D) (cT := cT) (n := n) (adK := adK) (adV := adV) h0 hr_2
  refine tt_cZ (pc := 19) (tt_vi E lmX12_129 mtX12_isGood hc_3 h0 rfl rfl (Nat.le_of_ble_eq_true rfl) ⟨(Nat.le_of_ble_eq_true rfl), (Nat.le_of_ble_eq_true rfl)⟩ ⟨(Nat.le_of_ble_eq_true rfl), (Nat.le_of_ble_eq_true rfl)⟩ dX12_readsFighter_19) (fun z_4 => ?_)
  refine tt_if_eq (pc := 22) (tgt := 29) E dX12_readsFighter_22 rfl (fun c_8 => ?_) (fun c_8 => ?_)
  · have hf := ip c_8 hf
    exact tX12_readsFighter_29 E hr hlk h0 hf
  · have hf := ine c_8 hf
    refine tt_aload_n (pc := 25) (i := 0) (j := 0) E dX12_readsFighter_25 rfl rfl ?_
    obtain ⟨r_5, hr_6, hf⟩ := bd_some hf
    have hc_7 := cX12_goOn_ok (l := l) (B := B) (D := D) (cT := cT) (n := n) (adK := adK) (adV := adV) h0 hr_6
    refine tt_cV (pc := 26) (tt_vi E lmX12_139 mtX12_goOn hc_7 h0 rfl rfl (Nat.le_of_ble_eq_true rfl) ⟨(Nat.le_of_ble_eq_true rfl), (Nat.le_of_ble_eq_true rfl)⟩ ⟨(Nat.le_of_ble_eq_true rfl), (Nat.le_of_ble_eq_true rfl)⟩ dX12_readsFighter_26) ?_
    exact tX12_readsFighter_29 E hr hlk h0 hf
set_option maxHeartbeats 4000000 in
theorem cX12_readsFighter_ok {l : Launch} {B : Nat} {D : va_G} {cT : Nat → ClassId} {n : Nat} {adK adV : Nat → Nat} {o0 : Nat} {μ : Mem} {res : Mem} (h0 : isK n o0 9) (hf : fX12_readsFighter o0 μ = some res) : MV l yX12_readsFighter cX12_readsFighter 3 (none) rmX12_readsFighter B D cT (XW B adK adV) n [.ref (B + o0)] μ res := by
  refine tt_ofW mtX12_readsFighter.1 (Nat.le_of_ble_eq_true rfl) rfl ?_
  intro p e s m below meth c E0 hr hlk
  have E : EE p s m _ c cX12_readsFighter 3 RX12 B D cT (XW B adK adV) := E0
  unfold fX12_readsFighter at hf
  refine tt_aload_n (pc := 0) (i := 0) (j := 0) E dX12_readsFighter_0 rfl rfl ?_
  obtain ⟨q_1, hq_2, hf⟩ := bd_some hf
  refine tt_getP (pc := 1) (t := 11) E lfX12_20 rfl rfl h0 dX12_readsFighter_1 hq_2 (fun kq_3 => ?_)
  refine tt_iconst (pc := 4) (v := 0) E dX12_readsFighter_4 ic_0 ?_
  obtain ⟨g_4, hf⟩ := gd_some hf
  refine tt_iald (pc := 5) E kq_3 g_4 dX12_readsFighter_5 ?_
  refine tt_nmI hf (fun v_5 hf => ?_)
  refine tt_istore_n (pc := 6) (i := 1) (lv' := [(1, .int v_5), (0, .ref (B + o0))]) E dX12_readsFighter_6 rfl (Nat.le_of_ble_eq_true rfl) rfl ?_
  refine tt_iload_n (pc := 7) (i := 1) (j := 0) E dX12_readsFighter_7 rfl rfl ?_
  refine tt_bipush (pc := 8) (v := 8) E dX12_readsFighter_8 bc_8 ?_
  refine tt_icmp_ne (pc := 10) (tgt := 18) E dX12_readsFighter_10 rfl (fun c_9 => ?_) (fun c_9 => ?_)
  · have hf := ine c_9 hf
    refine tt_sub [1, 0] (lv' := [(0, .ref (B + o0)), (1, .int v_5)]) rfl ?_
    exact tX12_readsFighter_18 E hr hlk h0 hf
  · have hf := ip c_9 hf
    refine tt_aload_n (pc := 13) (i := 0) (j := 1) E dX12_readsFighter_13 rfl rfl ?_
    refine tt_iconst (pc := 14) (v := 5) E dX12_readsFighter_14 ic_5 ?_
    obtain ⟨r_6, hr_7, hf⟩ := bd_some hf
    have hc_8 := cX12_wrong_ok (l := l) (B := B) (D := D) (cT := cT) (n := n) (adK := adK) (adV := adV) h0 hr_7
    refine tt_cV (pc := 15) (tt_vi E lmX12_136 mtX12_wrong hc_8 h0 rfl rfl (Nat.le_of_ble_eq_true rfl) ⟨(Nat.le_of_ble_eq_true rfl), (Nat.le_of_ble_eq_true rfl)⟩ ⟨(Nat.le_of_ble_eq_true rfl), (Nat.le_of_ble_eq_true rfl)⟩ dX12_readsFighter_15) ?_
    refine tt_sub [1, 0] (lv' := [(0, .ref (B + o0)), (1, .int v_5)]) rfl ?_
    exact tX12_readsFighter_18 E hr hlk h0 hf
set_option maxHeartbeats 4000000 in
theorem tX12_readsWheel_28 {p : Program} {l : Launch} {e : Env} {s : State} {m : MethodId} {args : Array Value} {below : List Frame} {meth : Method} {c : Code} {B : Nat} {D : va_G} {cT : Nat → ClassId} {n : Nat} {adK adV : Nat → Nat} {res : Mem} (E : EE p s m args c cX12_readsWheel 2 RX12 B D cT (XW B adK adV)) (hr : meth.sig.returnType = none) (hlk : meth.locks = false) {o0 : Nat} (h0 : isK n o0 9) {μ : Mem} (hf : fX12_readsWheel_28 o0 μ = some res) : TT p l e rmX12_readsWheel s m args below meth c (QV B D cT n below args s res) 2 B D cT n 0 0 μ 28 [(0, .ref (B + o0))] [] := by
  unfold fX12_readsWheel_28 at hf
  refine tt_aload_n (pc := 28) (i := 0) (j := 0) E dX12_readsWheel_28 rfl rfl ?_
  refine tt_bipush (pc := 29) (v := 100) E dX12_readsWheel_29 bc_100 ?_
  refine tt_sipush (pc := 31) (v := 999) E dX12_readsWheel_31 sc_999 ?_
  obtain ⟨r_1, hr_2, hf⟩ := bd_some hf
  have hc_3 := cX12_number_ok (l := l) (B := B) (D := D) (cT := cT) (n := n) (adK := adK) (adV := adV) h0 hr_2
  refine tt_cI (pc := 34) (tt_vi E lmX12_198 mtX12_number hc_3 h0 rfl rfl (Nat.le_of_ble_eq_true rfl) ⟨(Nat.le_of_ble_eq_true rfl), (Nat.le_of_ble_eq_true rfl)⟩ ⟨(Nat.le_of_ble_eq_true rfl), (Nat.le_of_ble_eq_true rfl)⟩ dX12_readsWheel_34) ?_
  refine tt_istore_n (pc := 37) (i := 1) (lv' := [(1, .int r_1.1), (0, .ref (B + o0))]) E dX12_readsWheel_37 rfl (Nat.le_of_ble_eq_true rfl) rfl ?_
  refine tt_aload_n (pc := 38) (i := 0) (j := 1) E dX12_readsWheel_38 rfl rfl ?_
  obtain ⟨r_4, hr_5, hf⟩ := bd_some hf
  have hc_6 := cX12_isGood_ok (l := l) (B := B) (D := D) (cT := cT) (n := n) (adK := adK) (adV := adV) h0 hr_5
  refine tt_cZ (pc := 39) (tt_vi E lmX12_129 mtX12_isGood hc_6 h0 rfl rfl (Nat.le_of_ble_eq_true rfl) ⟨(Nat.le_of_ble_eq_true rfl), (Nat.le_of_ble_eq_true rfl)⟩ ⟨(Nat.le_of_ble_eq_true rfl), (Nat.le_of_ble_eq_true rfl)⟩ dX12_readsWheel_39) (fun z_7 => ?_)
  refine tt_if_eq (pc := 42) (tgt := 52) E dX12_readsWheel_42 rfl (fun c_13 => ?_) (fun c_13 => ?_)
  · have hf := ip c_13 hf
    exact tt_vret (pc := 52) E hr hlk dX12_readsWheel_52 (Nat.le_of_ble_eq_true rfl) (Nat.le_of_ble_eq_true rfl) hf
  · have hf := ine c_13 hf
    refine tt_aload_n (pc := 45) (i := 0) (j := 1) E dX12_readsWheel_45 rfl rfl ?_
    obtain ⟨q_8, hq_9, hf⟩ := bd_some hf
    refine tt_getP (pc := 46) (t := 11) E lfX12_20 rfl rfl h0 dX12_readsWheel_46 hq_9 (fun kq_10 => ?_)
    refine tt_iconst (pc := 49) (v := 1) E dX12_readsWheel_49 ic_1 ?_
    refine tt_iload_n (pc := 50) (i := 1) (j := 0) E dX12_readsWheel_50 rfl rfl ?_
    obtain ⟨g_12, hf⟩ := gd_some hf
    refine tt_iast (pc := 51) E kq_10 g_12 dX12_readsWheel_51 (tt_nmM hf (fun m_11 hf => ?_))
    exact tt_vret (pc := 52) E hr hlk dX12_readsWheel_52 (Nat.le_of_ble_eq_true rfl) (Nat.le_of_ble_eq_true rfl) hf
set_option maxHeartbeats 4000000 in
theorem tX12_readsWheel_12 {p : Program} {l : Launch} {e : Env} {s : State} {m : MethodId} {args : Array Value} {below : List Frame} {meth : Method} {c : Code} {B : Nat} {D : va_G} {cT : Nat → ClassId} {n : Nat} {adK adV : Nat → Nat} {res : Mem} (E : EE p s m args c cX12_readsWheel 2 RX12 B D cT (XW B adK adV)) (hr : meth.sig.returnType = none) (hlk : meth.locks = false) {o0 : Nat} (h0 : isK n o0 9) {μ : Mem} (hf : fX12_readsWheel_12 o0 μ = some res) : TT p l e rmX12_readsWheel s m args below meth c (QV B D cT n below args s res) 2 B D cT n 0 0 μ 12 [(0, .ref (B + o0))] [] := by
  unfold fX12_readsWheel_12 at hf
  refine tt_aload_n (pc := 12) (i := 0) (j := 0) E dX12_readsWheel_12 rfl rfl ?_
  refine tt_iconst (pc := 13) (v := 1) E dX12_readsWheel_13 ic_1 ?_
  refine tt_putZ (pc := 14) E ((Or.inr rfl)) lfX12_235 rfl h0 dX12_readsWheel_14 (tt_nmM hf (fun m_1 hf => ?_))
  refine tt_aload_n (pc := 17) (i := 0) (j := 0) E dX12_readsWheel_17 rfl rfl ?_
  obtain ⟨r_2, hr_3, hf⟩ := bd_some hf
  have hc_4 := cX12_isGood_ok (l := l) (B := B) (D := D) (cT := cT) (n := n) (adK := adK) (adV := adV) h0 hr_3
  refine tt_cZ (pc := 18) (tt_vi E lmX12_129 mtX12_isGood hc_4 h0 rfl rfl (Nat.le_of_ble_eq_true rfl) ⟨(Nat.le_of_ble_eq_true rfl), (Nat.le_of_ble_eq_true rfl)⟩ ⟨(Nat.le_of_ble_eq_true rfl), (Nat.le_of_ble_eq_true rfl)⟩ dX12_readsWheel_18) (fun z_5 => ?_)
  refine tt_if_eq (pc := 21) (tgt := 28) E dX12_readsWheel_21 rfl (fun c_9 => ?_) (fun c_9 => ?_)
  · have hf := ip c_9 hf
    exact tX12_readsWheel_28 E hr hlk h0 hf
  · have hf := ine c_9 hf
    refine tt_aload_n (pc := 24) (i := 0) (j := 0) E dX12_readsWheel_24 rfl rfl ?_
    obtain ⟨r_6, hr_7, hf⟩ := bd_some hf
    have hc_8 := cX12_goOn_ok (l := l) (B := B) (D := D) (cT := cT) (n := n) (adK := adK) (adV := adV) h0 hr_7
    refine tt_cV (pc := 25) (tt_vi E lmX12_139 mtX12_goOn hc_8 h0 rfl rfl (Nat.le_of_ble_eq_true rfl) ⟨(Nat.le_of_ble_eq_true rfl), (Nat.le_of_ble_eq_true rfl)⟩ ⟨(Nat.le_of_ble_eq_true rfl), (Nat.le_of_ble_eq_true rfl)⟩ dX12_readsWheel_25) ?_
    exact tX12_readsWheel_28 E hr hlk h0 hf
set_option maxHeartbeats 4000000 in
theorem cX12_readsWheel_ok {l : Launch} {B : Nat} {D : va_G} {cT : Nat → ClassId} {n : Nat} {adK adV : Nat → Nat} {o0 : Nat} {μ : Mem} {res : Mem} (h0 : isK n o0 9) (hf : fX12_readsWheel o0 μ = some res) : MV l yX12_readsWheel cX12_readsWheel 2 (none) rmX12_readsWheel B D cT (XW B adK adV) n [.ref (B + o0)] μ res := by
  refine tt_ofW mtX12_readsWheel.1 (Nat.le_of_ble_eq_true rfl) rfl ?_
  intro p e s m below meth c E0 hr hlk
  have E : EE p s m _ c cX12_readsWheel 2 RX12 B D cT (XW B adK adV) := E0
  unfold fX12_readsWheel at hf
  refine tt_aload_n (pc := 0) (i := 0) (j := 0) E dX12_readsWheel_0 rfl rfl ?_
  refine tt_getZ (pc := 1) E lfX12_235 rfl h0 dX12_readsWheel_1 (fun z_1 => ?_)
  refine tt_if_eq (pc := 4) (tgt := 12) E dX12_readsWheel_4 rfl (fun c_5 => ?_) (fun c_5 => ?_)
  · have hf := ip c_5 hf
    exact tX12_readsWheel_12 E hr hlk h0 hf
  · have hf := ine c_5 hf
    refine tt_aload_n (pc := 7) (i := 0) (j := 0) E dX12_readsWheel_7 rfl rfl ?_
    refine tt_iconst (pc := 8) (v := 3) E dX12_readsWheel_8 ic_3 ?_
    obtain ⟨r_2, hr_3, hf⟩ := bd_some hf
    have hc_4 := cX12_wrong_ok (l := l) (B := B) (D := D) (cT := cT) (n := n) (adK := adK) (adV := adV) h0 hr_3
    refine tt_cV (pc := 9) (tt_vi E lmX12_136 mtX12_wrong hc_4 h0 rfl rfl (Nat.le_of_ble_eq_true rfl) ⟨(Nat.le_of_ble_eq_true rfl), (Nat.le_of_ble_eq_true rfl)⟩ ⟨(Nat.le_of_ble_eq_true rfl), (Nat.le_of_ble_eq_true rfl)⟩ dX12_readsWheel_9) ?_
    exact tX12_readsWheel_12 E hr hlk h0 hf
set_option maxHeartbeats 4000000 in
theorem cX12_statement_ok {l : Launch} {B : Nat} {D : va_G} {cT : Nat → ClassId} {n : Nat} {adK adV : Nat → Nat} {o0 : Nat} {μ : Mem} {res : Mem} (h0 : isK n o0 9) (hf : fX12_statement o0 μ = some res) : MV l yX12_statement cX12_statement 1 (none) rmX12_statement B D cT (XW B adK adV) n [.ref (B + o0)] μ res := by
  refine tt_ofW mtX12_statement.1 (Nat.le_of_ble_eq_true rfl) rfl ?_
  intro p e s m below meth c E0 hr hlk
  have E : EE p s m _ c cX12_statement 1 RX12 B D cT (XW B adK adV) := E0
  unfold fX12_statement at hf
  refine tt_aload_n (pc := 0) (i := 0) (j := 0) E dX12_statement_0 rfl rfl ?_
  refine tt_ldc2 (pc := 1) (v := 24384684) E dX12_statement_1 (gw_mem (mt7 (at_l 90 rfl)) rfl) ?_
  obtain ⟨r_1, hr_2, hf⟩ := bd_some hf
  have hc_3 := cX12_isWord_ok (l := l) (B := B) (D := D) (cT := cT) (n := n) (adK := adK) (adV := adV) h0 hr_2
  refine tt_cZ (pc := 4) (tt_vi E lmX12_142 mtX12_isWord hc_3 h0 rfl rfl (Nat.le_of_ble_eq_true rfl) ⟨(Nat.le_of_ble_eq_true rfl), (Nat.le_of_ble_eq_true rfl)⟩ ⟨(Nat.le_of_ble_eq_true rfl), (Nat.le_of_ble_eq_true rfl)⟩ dX12_statement_4) (fun z_4 => ?_)
  refine tt_if_eq (pc := 7) (tgt := 17) E dX12_statement_7 rfl (fun c_28 => ?_) (fun c_28 => ?_)
  · have hf := ip c_28 hf
    refine tt_aload_n (pc := 17) (i := 0) (j := 0) E dX12_statement_17 rfl rfl ?_
    refine tt_ldc2 (pc := 18) (v := 6752063666) E dX12_statement_18 (gw_mem (mt7 (at_l 111 rfl)) rfl) ?_
    obtain ⟨r_5, hr_6, hf⟩ := bd_some hf
    have hc_7 := cX12_isWord_ok (l := l) (B := B) (D := D) (cT := cT) (n := n) (adK := adK) (adV := adV) h0 hr_6
    refine tt_cZ (pc := 21) (tt_vi E lmX12_142 mtX12_isWord hc_7 h0 rfl rfl (Nat.le_of_ble_eq_true rfl) ⟨(Nat.le_of_ble_eq_true rfl), (Nat.le_of_ble_eq_true rfl)⟩ ⟨(Nat.le_of_ble_eq_true rfl), (Nat.le_of_ble_eq_true rfl)⟩ dX12_statement_21) (fun z_8 => ?_)
    refine tt_if_eq (pc := 24) (tgt := 34) E dX12_statement_24 rfl (fun c_21 => ?_) (fun c_21 => ?_)
    · have hf := ip c_21 hf
      refine tt_aload_n (pc := 34) (i := 0) (j := 0) E dX12_statement_34 rfl rfl ?_
      refine tt_iconst (pc := 35) (v := 1) E dX12_statement_35 ic_1 ?_
      obtain ⟨r_9, hr_10, hf⟩ := bd_some hf
      have hc_11 := cX12_wrong_ok (l := l) (B := B) (D := D) (cT := cT) (n := n) (adK := adK) (adV := adV) h0 hr_10
      refine tt_cV (pc := 36) (tt_vi E lmX12_136 mtX12_wrong hc_11 h0 rfl rfl (Nat.le_of_ble_eq_true rfl) ⟨(Nat.le_of_ble_eq_true rfl), (Nat.le_of_ble_eq_true rfl)⟩ ⟨(Nat.le_of_ble_eq_true rfl), (Nat.le_of_ble_eq_true rfl)⟩ dX12_statement_36) ?_
      refine tt_aload_n (pc := 39) (i := 0) (j := 0) E dX12_statement_39 rfl rfl ?_
      refine tt_bipush (pc := 40) (v := 59) E dX12_statement_40 bc_59 ?_
      obtain ⟨r_12, hr_13, hf⟩ := bd_some hf
      have hc_14 := cX12_mustSign_ok (l := l) (B := B) (D := D) (cT := cT) (n := n) (adK := adK) (adV := adV) h0 hr_13
      refine tt_cV (pc := 42) (tt_vi E lmX12_248 mtX12_mustSign hc_14 h0 rfl rfl (Nat.le_of_ble_eq_true rfl) ⟨(Nat.le_of_ble_eq_true rfl), (Nat.le_of_ble_eq_true rfl)⟩ ⟨(Nat.le_of_ble_eq_true rfl), (Nat.le_of_ble_eq_true rfl)⟩ dX12_statement_42) ?_
      exact tt_vret (pc := 45) E hr hlk dX12_statement_45 (Nat.le_of_ble_eq_true rfl) (Nat.le_of_ble_eq_true rfl) hf
    · have hf := ine c_21 hf
      refine tt_aload_n (pc := 27) (i := 0) (j := 0) E dX12_statement_27 rfl rfl ?_
      obtain ⟨r_15, hr_16, hf⟩ := bd_some hf
      have hc_17 := cX12_readsFighter_ok (l := l) (B := B) (D := D) (cT := cT) (n := n) (adK := adK) (adV := adV) h0 hr_16
      refine tt_cV (pc := 28) (tt_vi E lmX12_245 mtX12_readsFighter hc_17 h0 rfl rfl (Nat.le_of_ble_eq_true rfl) ⟨(Nat.le_of_ble_eq_true rfl), (Nat.le_of_ble_eq_true rfl)⟩ ⟨(Nat.le_of_ble_eq_true rfl), (Nat.le_of_ble_eq_true rfl)⟩ dX12_statement_28) ?_
      refine tt_goto (pc := 31) (tgt := 39) E dX12_statement_31 rfl ?_
      refine tt_aload_n (pc := 39) (i := 0) (j := 0) E dX12_statement_39 rfl rfl ?_
      refine tt_bipush (pc := 40) (v := 59) E dX12_statement_40 bc_59 ?_
      obtain ⟨r_18, hr_19, hf⟩ := bd_some hf
      have hc_20 := cX12_mustSign_ok (l := l) (B := B) (D := D) (cT := cT) (n := n) (adK := adK) (adV := adV) h0 hr_19
      refine tt_cV (pc := 42) (tt_vi E lmX12_248 mtX12_mustSign hc_20 h0 rfl rfl (Nat.le_of_ble_eq_true rfl) ⟨(Nat.le_of_ble_eq_true rfl), (Nat.le_of_ble_eq_true rfl)⟩ ⟨(Nat.le_of_ble_eq_true rfl), (Nat.le_of_ble_eq_true rfl)⟩ dX12_statement_42) ?_
      exact tt_vret (pc := 45) E hr hlk dX12_statement_45 (Nat.le_of_ble_eq_true rfl) (Nat.le_of_ble_eq_true rfl) hf
  · have hf := ine c_28 hf
    refine tt_aload_n (pc := 10) (i := 0) (j := 0) E dX12_statement_10 rfl rfl ?_
    obtain ⟨r_22, hr_23, hf⟩ := bd_some hf
    have hc_24 := cX12_readsWheel_ok (l := l) (B := B) (D := D) (cT := cT) (n := n) (adK := adK) (adV := adV) h0 hr_23
    refine tt_cV (pc := 11) (tt_vi E lmX12_240 mtX12_readsWheel hc_24 h0 rfl rfl (Nat.le_of_ble_eq_true rfl) ⟨(Nat.le_of_ble_eq_true rfl), (Nat.le_of_ble_eq_true rfl)⟩ ⟨(Nat.le_of_ble_eq_true rfl), (Nat.le_of_ble_eq_true rfl)⟩ dX12_statement_11) ?_
    refine tt_goto (pc := 14) (tgt := 39) E dX12_statement_14 rfl ?_
    refine tt_aload_n (pc := 39) (i := 0) (j := 0) E dX12_statement_39 rfl rfl ?_
    refine tt_bipush (pc := 40) (v := 59) E dX12_statement_40 bc_59 ?_
    obtain ⟨r_25, hr_26, hf⟩ := bd_some hf
    have hc_27 := cX12_mustSign_ok (l := l) (B := B) (D := D) (cT := cT) (n := n) (adK := adK) (adV := adV) h0 hr_26
    refine tt_cV (pc := 42) (tt_vi E lmX12_248 mtX12_mustSign hc_27 h0 rfl rfl (Nat.le_of_ble_eq_true rfl) ⟨(Nat.le_of_ble_eq_true rfl), (Nat.le_of_ble_eq_true rfl)⟩ ⟨(Nat.le_of_ble_eq_true rfl), (Nat.le_of_ble_eq_true rfl)⟩ dX12_statement_42) ?_
    exact tt_vret (pc := 45) E hr hlk dX12_statement_45 (Nat.le_of_ble_eq_true rfl) (Nat.le_of_ble_eq_true rfl) hf
