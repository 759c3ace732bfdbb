/-! contracts -/
set_option maxHeartbeats 4000000 in
theorem tX12_row_22 {p : Program} {l : Launch} {e : Env} {s : State} {m : MethodId} {args : Array Value} {below : List Frame} {meth : Method} {c : Code} {B : Nat} {D : va_G} {cT : Nat → ClassId} {n : Nat} {adK adV : Nat → Nat} {res : Int32 × Mem} (E : EE p s m args c cX12_row 5 RX12 B D cT (XW B adK adV)) (hr : meth.sig.returnType = some .int) (hlk : meth.locks = false) {kb7 : Int32 → Mem → Option (Int32 × Mem)} {o0 : Nat} {v1 : Int32} {v2 : Int32} (h0 : isK n o0 9) (hk7 : ∀ (v2b : Int32) (μb : Mem), kb7 v2b μb = some res → TT p l e rmX12_row s m args below meth c (QI B D cT n below args s res) 5 B D cT n 0 0 μb 7 [(0, .ref (B + o0)), (1, .int v1), (2, .int v2b)] []) : ∀ (fu : Nat) (v3 : Int32) (v4 : Int32) (μ : Mem), zl3 (gX12_row_22 kb7 o0 v1 v2) fu v3 v4 μ = some res → TT p l e rmX12_row s m args below meth c (QI B D cT n below args s res) 5 B D cT n 0 0 μ 22 [(0, .ref (B + o0)), (1, .int v1), (2, .int v2), (3, .int v3), (4, .int v4)] [] := by
  intro fu
  induction fu with
  | zero => intro v3 v4 μ hf; exact absurd hf (fun h => by cases h)
  | succ fu ih =>
    intro v3 v4 μ hf
    have hf : gX12_row_22 kb7 o0 v1 v2 (zl3 (gX12_row_22 kb7 o0 v1 v2) fu) v3 v4 μ = some res := hf
    unfold gX12_row_22 at hf
    refine tt_iload (pc := 22) (i := 4) (j := 4) E dX12_row_22 rfl ?_
    refine tt_aload_n (pc := 24) (i := 0) (j := 0) E dX12_row_24 rfl rfl ?_
    obtain ⟨q_1, hq_2, hf⟩ := bd_some hf
    refine tt_getP (pc := 25) (t := 11) E lfX12_20 rfl rfl h0 dX12_row_25 hq_2 (fun kq_3 => ?_)
    refine tt_iconst (pc := 28) (v := 0) E dX12_row_28 ic_0 ?_
    obtain ⟨g_4, hf⟩ := gd_some hf
    refine tt_iald (pc := 29) E kq_3 g_4 dX12_row_29 ?_
    refine tt_icmp_ge (pc := 30) (tgt := 75) E dX12_row_30 rfl (fun c_44 => ?_) (fun c_44 => ?_)
    · have hf := ip c_44 hf
      refine tt_aload_n (pc := 75) (i := 0) (j := 0) E dX12_row_75 rfl rfl ?_
      refine tt_iload_n (pc := 76) (i := 2) (j := 2) E dX12_row_76 rfl rfl ?_
      obtain ⟨r_5, hr_6, hf⟩ := bd_some hf
      have hc_7 := cX12_lives_ok (l := l) (B := B) (D := D) (cT := cT) (n := n) (adK := adK) (adV := adV) h0 hr_6
      refine tt_cZ (pc := 77) (tt_vi E lmX12_263 mtX12_lives hc_7 h0 rfl rfl (Nat.le_of_ble_eq_true rfl) ⟨(Nat.le_of_ble_eq_true rfl), (Nat.le_of_ble_eq_true rfl)⟩ ⟨(Nat.le_of_ble_eq_true rfl), (Nat.le_of_ble_eq_true rfl)⟩ dX12_row_77) (fun z_8 => ?_)
      refine tt_if_eq (pc := 80) (tgt := 90) E dX12_row_80 rfl (fun c_12 => ?_) (fun c_12 => ?_)
      · have hf := ip c_12 hf
        obtain ⟨v_9, ev_9, hf⟩ := nm_ex hf
        refine tt_iinc (pc := 90) (i := 2) (j := 2) (lv' := [(2, .int v_9), (0, .ref (B + o0)), (1, .int v1), (3, .int v3), (4, .int v4)]) E dX12_row_90 rfl (ev_9).symm (Nat.le_of_ble_eq_true rfl) rfl ?_
        refine tt_goto (pc := 93) (tgt := 7) E dX12_row_93 rfl ?_
        refine tt_sub [1, 2, 0] (lv' := [(0, .ref (B + o0)), (1, .int v1), (2, .int v_9)]) rfl ?_
        exact hk7 v_9 μ hf
      · have hf := ine c_12 hf
        refine tt_iload_n (pc := 83) (i := 3) (j := 3) E dX12_row_83 rfl rfl ?_
        refine tt_iload_n (pc := 84) (i := 1) (j := 1) E dX12_row_84 rfl rfl ?_
        refine tt_icmp_ne (pc := 85) (tgt := 90) E dX12_row_85 rfl (fun c_11 => ?_) (fun c_11 => ?_)
        · have hf := ine c_11 hf
          obtain ⟨v_10, ev_10, hf⟩ := nm_ex hf
          refine tt_iinc (pc := 90) (i := 2) (j := 2) (lv' := [(2, .int v_10), (0, .ref (B + o0)), (1, .int v1), (3, .int v3), (4, .int v4)]) E dX12_row_90 rfl (ev_10).symm (Nat.le_of_ble_eq_true rfl) rfl ?_
          refine tt_goto (pc := 93) (tgt := 7) E dX12_row_93 rfl ?_
          refine tt_sub [1, 2, 0] (lv' := [(0, .ref (B + o0)), (1, .int v1), (2, .int v_10)]) rfl ?_
          exact hk7 v_10 μ hf
        · have hf := ip c_11 hf
          refine tt_iload_n (pc := 88) (i := 2) (j := 2) E dX12_row_88 rfl rfl ?_
          exact tt_iret (pc := 89) E hr hlk dX12_row_89 (Nat.le_of_ble_eq_true rfl) (Nat.le_of_ble_eq_true rfl) hf
    · have hf := ine c_44 hf
      refine tt_iload_n (pc := 33) (i := 3) (j := 3) E dX12_row_33 rfl rfl ?_
      refine tt_iload (pc := 34) (i := 4) (j := 4) E dX12_row_34 rfl ?_
      refine tt_iload_n (pc := 36) (i := 2) (j := 2) E dX12_row_36 rfl rfl ?_
      refine tt_icmp_eq (pc := 37) (tgt := 63) E dX12_row_37 rfl (fun c_43 => ?_) (fun c_43 => ?_)
      · have hf := ip c_43 hf
        refine tt_iconst (pc := 63) (v := 0) E dX12_row_63 ic_0 ?_
        obtain ⟨r_13, hr_14, hf⟩ := bd_some hf
        have hc_15 := cX12_truth_ok (l := l) (B := B) (D := D) (cT := cT) (n := n) (adK := adK) (adV := adV) ((Or.inl rfl)) hr_14
        refine tt_cI (pc := 64) (tt_si E lmX12_78 mtX12_truth hc_15 rfl rfl (Nat.le_of_ble_eq_true rfl) ⟨(Nat.le_of_ble_eq_true rfl), (Nat.le_of_ble_eq_true rfl)⟩ ⟨(Nat.le_of_ble_eq_true rfl), (Nat.le_of_ble_eq_true rfl)⟩ dX12_row_64) ?_
        refine tt_iadd (pc := 67) E dX12_row_67 ?_
        refine tt_nmI hf (fun v_16 hf => ?_)
        refine tt_istore_n (pc := 68) (i := 3) (lv' := [(3, .int v_16), (0, .ref (B + o0)), (1, .int v1), (2, .int v2), (4, .int v4)]) E dX12_row_68 rfl (Nat.le_of_ble_eq_true rfl) rfl ?_
        obtain ⟨v_17, ev_17, hf⟩ := nm_ex hf
        refine tt_iinc (pc := 69) (i := 4) (j := 4) (lv' := [(4, .int v_17), (3, .int v_16), (0, .ref (B + o0)), (1, .int v1), (2, .int v2)]) E dX12_row_69 rfl (ev_17).symm (Nat.le_of_ble_eq_true rfl) rfl ?_
        refine tt_goto (pc := 72) (tgt := 22) E dX12_row_72 rfl ?_
        refine tt_sub [2, 3, 4, 1, 0] (lv' := [(0, .ref (B + o0)), (1, .int v1), (2, .int v2), (3, .int v_16), (4, .int v_17)]) rfl ?_
        exact ih v_16 v_17 μ hf
      · have hf := ine c_43 hf
        refine tt_aload_n (pc := 40) (i := 0) (j := 0) E dX12_row_40 rfl rfl ?_
        refine tt_iload (pc := 41) (i := 4) (j := 4) E dX12_row_41 rfl ?_
        obtain ⟨r_18, hr_19, hf⟩ := bd_some hf
        have hc_20 := cX12_lives_ok (l := l) (B := B) (D := D) (cT := cT) (n := n) (adK := adK) (adV := adV) h0 hr_19
        refine tt_cZ (pc := 43) (tt_vi E lmX12_263 mtX12_lives hc_20 h0 rfl rfl (Nat.le_of_ble_eq_true rfl) ⟨(Nat.le_of_ble_eq_true rfl), (Nat.le_of_ble_eq_true rfl)⟩ ⟨(Nat.le_of_ble_eq_true rfl), (Nat.le_of_ble_eq_true rfl)⟩ dX12_row_43) (fun z_21 => ?_)
        refine tt_if_eq (pc := 46) (tgt := 63) E dX12_row_46 rfl (fun c_42 => ?_) (fun c_42 => ?_)
        · have hf := ip c_42 hf
          refine tt_iconst (pc := 63) (v := 0) E dX12_row_63 ic_0 ?_
          obtain ⟨r_22, hr_23, hf⟩ := bd_some hf
          have hc_24 := cX12_truth_ok (l := l) (B := B) (D := D) (cT := cT) (n := n) (adK := adK) (adV := adV) ((Or.inl rfl)) hr_23
          refine tt_cI (pc := 64) (tt_si E lmX12_78 mtX12_truth hc_24 rfl rfl (Nat.le_of_ble_eq_true rfl) ⟨(Nat.le_of_ble_eq_true rfl), (Nat.le_of_ble_eq_true rfl)⟩ ⟨(Nat.le_of_ble_eq_true rfl), (Nat.le_of_ble_eq_true rfl)⟩ dX12_row_64) ?_
          refine tt_iadd (pc := 67) E dX12_row_67 ?_
          refine tt_nmI hf (fun v_25 hf => ?_)
          refine tt_istore_n (pc := 68) (i := 3) (lv' := [(3, .int v_25), (0, .ref (B + o0)), (1, .int v1), (2, .int v2), (4, .int v4)]) E dX12_row_68 rfl (Nat.le_of_ble_eq_true rfl) rfl ?_
          obtain ⟨v_26, ev_26, hf⟩ := nm_ex hf
          refine tt_iinc (pc := 69) (i := 4) (j := 4) (lv' := [(4, .int v_26), (3, .int v_25), (0, .ref (B + o0)), (1, .int v1), (2, .int v2)]) E dX12_row_69 rfl (ev_26).symm (Nat.le_of_ble_eq_true rfl) rfl ?_
          refine tt_goto (pc := 72) (tgt := 22) E dX12_row_72 rfl ?_
          refine tt_sub [2, 3, 4, 1, 0] (lv' := [(0, .ref (B + o0)), (1, .int v1), (2, .int v2), (3, .int v_25), (4, .int v_26)]) rfl ?_
          exact ih v_25 v_26 μ hf
        · have hf := ine c_42 hf
          refine tt_aload_n (pc := 49) (i := 0) (j := 0) E dX12_row_49 rfl rfl ?_
          refine tt_iload (pc := 50) (i := 4) (j := 4) E dX12_row_50 rfl ?_
          refine tt_iload_n (pc := 52) (i := 2) (j := 2) E dX12_row_52 rfl rfl ?_
          obtain ⟨r_27, hr_28, hf⟩ := bd_some hf
          have hc_29 := cX12_isSooner_ok (l := l) (B := B) (D := D) (cT := cT) (n := n) (adK := adK) (adV := adV) h0 hr_28
          refine tt_cZ (pc := 53) (tt_vi E lmX12_367 mtX12_isSooner hc_29 h0 rfl rfl (Nat.le_of_ble_eq_true rfl) ⟨(Nat.le_of_ble_eq_true rfl), (Nat.le_of_ble_eq_true rfl)⟩ ⟨(Nat.le_of_ble_eq_true rfl), (Nat.le_of_ble_eq_true rfl)⟩ dX12_row_53) (fun z_30 => ?_)
          refine tt_if_eq (pc := 56) (tgt := 63) E dX12_row_56 rfl (fun c_41 => ?_) (fun c_41 => ?_)
          · have hf := ip c_41 hf
            refine tt_iconst (pc := 63) (v := 0) E dX12_row_63 ic_0 ?_
            obtain ⟨r_31, hr_32, hf⟩ := bd_some hf
            have hc_33 := cX12_truth_ok (l := l) (B := B) (D := D) (cT := cT) (n := n) (adK := adK) (adV := adV) ((Or.inl rfl)) hr_32
            refine tt_cI (pc := 64) (tt_si E lmX12_78 mtX12_truth hc_33 rfl rfl (Nat.le_of_ble_eq_true rfl) ⟨(Nat.le_of_ble_eq_true rfl), (Nat.le_of_ble_eq_true rfl)⟩ ⟨(Nat.le_of_ble_eq_true rfl), (Nat.le_of_ble_eq_true rfl)⟩ dX12_row_64) ?_
            refine tt_iadd (pc := 67) E dX12_row_67 ?_
            refine tt_nmI hf (fun v_34 hf => ?_)
            refine tt_istore_n (pc := 68) (i := 3) (lv' := [(3, .int v_34), (0, .ref (B + o0)), (1, .int v1), (2, .int v2), (4, .int v4)]) E dX12_row_68 rfl (Nat.le_of_ble_eq_true rfl) rfl ?_
            obtain ⟨v_35, ev_35, hf⟩ := nm_ex hf
            refine tt_iinc (pc := 69) (i := 4) (j := 4) (lv' := [(4, .int v_35), (3, .int v_34), (0, .ref (B + o0)), (1, .int v1), (2, .int v2)]) E dX12_row_69 rfl (ev_35).symm (Nat.le_of_ble_eq_true rfl) rfl ?_
            refine tt_goto (pc := 72) (tgt := 22) E dX12_row_72 rfl ?_
            refine tt_sub [2, 3, 4, 1, 0] (lv' := [(0, .ref (B + o0)), (1, .int v1), (2, .int v2), (3, .int v_34), (4, .int v_35)]) rfl ?_
            exact ih v_34 v_35 μ hf
          · have hf := ine c_41 hf
            refine tt_iconst (pc := 59) (v := 1) E dX12_row_59 ic_1 ?_
            refine tt_goto (pc := 60) (tgt := 64) E dX12_row_60 rfl ?_
            obtain ⟨r_36, hr_37, hf⟩ := bd_some hf
            have hc_38 := cX12_truth_ok (l := l) (B := B) (D := D) (cT := cT) (n := n) (adK := adK) (adV := adV) ((Or.inr rfl)) hr_37
            refine tt_cI (pc := 64) (tt_si E lmX12_78 mtX12_truth hc_38 rfl rfl (Nat.le_of_ble_eq_true rfl) ⟨(Nat.le_of_ble_eq_true rfl), (Nat.le_of_ble_eq_true rfl)⟩ ⟨(Nat.le_of_ble_eq_true rfl), (Nat.le_of_ble_eq_true rfl)⟩ dX12_row_64) ?_
            refine tt_iadd (pc := 67) E dX12_row_67 ?_
            refine tt_nmI hf (fun v_39 hf => ?_)
            refine tt_istore_n (pc := 68) (i := 3) (lv' := [(3, .int v_39), (0, .ref (B + o0)), (1, .int v1), (2, .int v2), (4, .int v4)]) E dX12_row_68 rfl (Nat.le_of_ble_eq_true rfl) rfl ?_
            obtain ⟨v_40, ev_40, hf⟩ := nm_ex hf
            refine tt_iinc (pc := 69) (i := 4) (j := 4) (lv' := [(4, .int v_40), (3, .int v_39), (0, .ref (B + o0)), (1, .int v1), (2, .int v2)]) E dX12_row_69 rfl (ev_40).symm (Nat.le_of_ble_eq_true rfl) rfl ?_
            refine tt_goto (pc := 72) (tgt := 22) E dX12_row_72 rfl ?_
            refine tt_sub [2, 3, 4, 1, 0] (lv' := [(0, .ref (B + o0)), (1, .int v1), (2, .int v2), (3, .int v_39), (4, .int v_40)]) rfl ?_
            exact ih v_39 v_40 μ hf
set_option maxHeartbeats 4000000 in
theorem tX12_row_7 {p : Program} {l : Launch} {e : Env} {s : State} {m : MethodId} {args : Array Value} {below : List Frame} {meth : Method} {c : Code} {B : Nat} {D : va_G} {cT : Nat → ClassId} {n : Nat} {adK adV : Nat → Nat} {res : Int32 × Mem} (E : EE p s m args c cX12_row 5 RX12 B D cT (XW B adK adV)) (hr : meth.sig.returnType = some .int) (hlk : meth.locks = false) {o0 : Nat} {v1 : Int32} (h0 : isK n o0 9) : ∀ (fu : Nat) (v2 : Int32) (μ : Mem), zl2 (gX12_row_7 o0 v1) fu v2 μ = some res → TT p l e rmX12_row s m args below meth c (QI B D cT n below args s res) 5 B D cT n 0 0 μ 7 [(0, .ref (B + o0)), (1, .int v1), (2, .int v2)] [] := by
  intro fu
  induction fu with
  | zero => intro v2 μ hf; exact absurd hf (fun h => by cases h)
  | succ fu ih =>
    intro v2 μ hf
    have hf : gX12_row_7 o0 v1 (zl2 (gX12_row_7 o0 v1) fu) v2 μ = some res := hf
    unfold gX12_row_7 at hf
    refine tt_iload_n (pc := 7) (i := 2) (j := 2) E dX12_row_7 rfl rfl ?_
    refine tt_aload_n (pc := 8) (i := 0) (j := 0) E dX12_row_8 rfl rfl ?_
    obtain ⟨q_1, hq_2, hf⟩ := bd_some hf
    refine tt_getP (pc := 9) (t := 11) E lfX12_20 rfl rfl h0 dX12_row_9 hq_2 (fun kq_3 => ?_)
    refine tt_iconst (pc := 12) (v := 0) E dX12_row_12 ic_0 ?_
    obtain ⟨g_4, hf⟩ := gd_some hf
    refine tt_iald (pc := 13) E kq_3 g_4 dX12_row_13 ?_
    refine tt_icmp_ge (pc := 14) (tgt := 96) E dX12_row_14 rfl (fun c_5 => ?_) (fun c_5 => ?_)
    · have hf := ip c_5 hf
      refine tt_iconst (pc := 96) (v := (-1)) E dX12_row_96 ic_m1 ?_
      exact tt_iret (pc := 97) E hr hlk dX12_row_97 (Nat.le_of_ble_eq_true rfl) (Nat.le_of_ble_eq_true rfl) hf
    · have hf := ine c_5 hf
      refine tt_iconst (pc := 17) (v := 0) E dX12_row_17 ic_0 ?_
      refine tt_istore_n (pc := 18) (i := 3) (lv' := [(3, .int 0), (0, .ref (B + o0)), (1, .int v1), (2, .int v2)]) E dX12_row_18 rfl (Nat.le_of_ble_eq_true rfl) rfl ?_
      refine tt_iconst (pc := 19) (v := 0) E dX12_row_19 ic_0 ?_
      refine tt_istore (pc := 20) (i := 4) (lv' := [(4, .int 0), (3, .int 0), (0, .ref (B + o0)), (1, .int v1), (2, .int v2)]) E dX12_row_20 (Nat.le_of_ble_eq_true rfl) rfl ?_
      refine tt_sub [2, 3, 4, 1, 0] (lv' := [(0, .ref (B + o0)), (1, .int v1), (2, .int v2), (3, .int 0), (4, .int 0)]) rfl ?_
      exact tX12_row_22 E hr hlk h0 ih FU 0 0 μ hf
set_option maxHeartbeats 4000000 in
theorem cX12_row_ok {l : Launch} {B : Nat} {D : va_G} {cT : Nat → ClassId} {n : Nat} {adK adV : Nat → Nat} {o0 : Nat} {v1 : Int32} {μ : Mem} {res : Int32 × Mem} (h0 : isK n o0 9) (hf : fX12_row o0 v1 μ = some res) : MI l yX12_row cX12_row 5 (some .int) rmX12_row B D cT (XW B adK adV) n [.ref (B + o0), .int v1] μ res := by
  refine tt_ofW mtX12_row.1 (Nat.le_of_ble_eq_true rfl) rfl ?_
  intro p e s m below meth c E0 hr hlk
  have E : EE p s m _ c cX12_row 5 RX12 B D cT (XW B adK adV) := E0
  unfold fX12_row at hf
  refine tt_aload_n (pc := 0) (i := 0) (j := 0) E dX12_row_0 rfl rfl ?_
  refine tt_iconst (pc := 1) (v := 0) E dX12_row_1 ic_0 ?_
  refine tt_putI (pc := 2) E lfX12_75 rfl h0 dX12_row_2 (tt_nmM hf (fun m_1 hf => ?_))
  refine tt_iconst (pc := 5) (v := 0) E dX12_row_5 ic_0 ?_
  refine tt_istore_n (pc := 6) (i := 2) (lv' := [(2, .int 0), (0, .ref (B + o0)), (1, .int v1)]) E dX12_row_6 rfl (Nat.le_of_ble_eq_true rfl) rfl ?_
  refine tt_sub [1, 2, 0] (lv' := [(0, .ref (B + o0)), (1, .int v1), (2, .int 0)]) rfl ?_
  exact tX12_row_7 E hr hlk h0 FU 0 m_1 hf
set_option maxHeartbeats 4000000 in
theorem tX12_meanSpeed_9 {p : Program} {l : Launch} {e : Env} {s : State} {m : MethodId} {args : Array Value} {below : List Frame} {meth : Method} {c : Code} {B : Nat} {D : va_G} {cT : Nat → ClassId} {n : Nat} {adK adV : Nat → Nat} {res : UInt64 × Mem} (E : EE p s m args c cX12_meanSpeed 3 RX12 B D cT (XW B adK adV)) (hr : meth.sig.returnType = some .double) (hlk : meth.locks = false) {o0 : Nat} (h0 : isK n o0 9) : ∀ (fu : Nat) (v1 : Int32) (v2 : Int32) (μ : Mem), zl3 (gX12_meanSpeed_9 o0) fu v1 v2 μ = some res → TT p l e rmX12_meanSpeed s m args below meth c (QD B D cT n below args s res) 3 B D cT n 0 0 μ 9 [(0, .ref (B + o0)), (1, .int v1), (2, .int v2)] [] := by
  intro fu
  induction fu with
  | zero => intro v1 v2 μ hf; exact absurd hf (fun h => by cases h)
  | succ fu ih =>
    intro v1 v2 μ hf
    have hf : gX12_meanSpeed_9 o0 (zl3 (gX12_meanSpeed_9 o0) fu) v1 v2 μ = some res := hf
    unfold gX12_meanSpeed_9 at hf
    refine tt_iload_n (pc := 9) (i := 2) (j := 2) E dX12_meanSpeed_9 rfl rfl ?_
    refine tt_aload_n (pc := 10) (i := 0) (j := 0) E dX12_meanSpeed_10 rfl rfl ?_
    obtain ⟨q_1, hq_2, hf⟩ := bd_some hf
    refine tt_getP (pc := 11) (t := 11) E lfX12_20 rfl rfl h0 dX12_meanSpeed_11 hq_2 (fun kq_3 => ?_)
    refine tt_iconst (pc := 14) (v := 0) E dX12_meanSpeed_14 ic_0 ?_
    obtain ⟨g_4, hf⟩ := gd_some hf
    refine tt_iald (pc := 15) E kq_3 g_4 dX12_meanSpeed_15 ?_
    refine tt_icmp_ge (pc := 16) (tgt := 46) E dX12_meanSpeed_16 rfl (fun c_25 => ?_) (fun c_25 => ?_)
    · have hf := ip c_25 hf
      refine tt_aload_n (pc := 46) (i := 0) (j := 0) E dX12_meanSpeed_46 rfl rfl ?_
      obtain ⟨r_5, hr_6, hf⟩ := bd_some hf
      have hc_7 := cX12_living_ok (l := l) (B := B) (D := D) (cT := cT) (n := n) (adK := adK) (adV := adV) h0 hr_6
      refine tt_cI (pc := 47) (tt_vi E lmX12_336 mtX12_living hc_7 h0 rfl rfl (Nat.le_of_ble_eq_true rfl) ⟨(Nat.le_of_ble_eq_true rfl), (Nat.le_of_ble_eq_true rfl)⟩ ⟨(Nat.le_of_ble_eq_true rfl), (Nat.le_of_ble_eq_true rfl)⟩ dX12_meanSpeed_47) ?_
      refine tt_if_ne (pc := 50) (tgt := 57) E dX12_meanSpeed_50 rfl (fun c_12 => ?_) (fun c_12 => ?_)
      · have hf := ine c_12 hf
        refine tt_iload_n (pc := 57) (i := 1) (j := 1) E dX12_meanSpeed_57 rfl rfl ?_
        refine tt_i2d (pc := 58) E dX12_meanSpeed_58 ?_
        refine tt_aload_n (pc := 59) (i := 0) (j := 0) E dX12_meanSpeed_59 rfl rfl ?_
        obtain ⟨r_8, hr_9, hf⟩ := bd_some hf
        have hc_10 := cX12_living_ok (l := l) (B := B) (D := D) (cT := cT) (n := n) (adK := adK) (adV := adV) h0 hr_9
        refine tt_cI (pc := 60) (tt_vi E lmX12_336 mtX12_living hc_10 h0 rfl rfl (Nat.le_of_ble_eq_true rfl) ⟨(Nat.le_of_ble_eq_true rfl), (Nat.le_of_ble_eq_true rfl)⟩ ⟨(Nat.le_of_ble_eq_true rfl), (Nat.le_of_ble_eq_true rfl)⟩ dX12_meanSpeed_60) ?_
        refine tt_i2d (pc := 63) E dX12_meanSpeed_63 ?_
        obtain ⟨g_11, hf⟩ := gd_some hf
        refine tt_ddiv (pc := 64) E dX12_meanSpeed_64 (nn64_ok g_11) ?_
        exact tt_dret (pc := 65) E hr hlk dX12_meanSpeed_65 (Nat.le_of_ble_eq_true rfl) (Nat.le_of_ble_eq_true rfl) hf
      · have hf := ip c_12 hf
        refine tt_dconst0 (pc := 53) E dX12_meanSpeed_53 ?_
        refine tt_goto (pc := 54) (tgt := 65) E dX12_meanSpeed_54 rfl ?_
        exact tt_dret (pc := 65) E hr hlk dX12_meanSpeed_65 (Nat.le_of_ble_eq_true rfl) (Nat.le_of_ble_eq_true rfl) hf
    · have hf := ine c_25 hf
      refine tt_iload_n (pc := 19) (i := 1) (j := 1) E dX12_meanSpeed_19 rfl rfl ?_
      refine tt_aload_n (pc := 20) (i := 0) (j := 0) E dX12_meanSpeed_20 rfl rfl ?_
      refine tt_iload_n (pc := 21) (i := 2) (j := 2) E dX12_meanSpeed_21 rfl rfl ?_
      obtain ⟨r_13, hr_14, hf⟩ := bd_some hf
      have hc_15 := cX12_lives_ok (l := l) (B := B) (D := D) (cT := cT) (n := n) (adK := adK) (adV := adV) h0 hr_14
      refine tt_cZ (pc := 22) (tt_vi E lmX12_263 mtX12_lives hc_15 h0 rfl rfl (Nat.le_of_ble_eq_true rfl) ⟨(Nat.le_of_ble_eq_true rfl), (Nat.le_of_ble_eq_true rfl)⟩ ⟨(Nat.le_of_ble_eq_true rfl), (Nat.le_of_ble_eq_true rfl)⟩ dX12_meanSpeed_22) (fun z_16 => ?_)
      refine tt_if_eq (pc := 25) (tgt := 37) E dX12_meanSpeed_25 rfl (fun c_24 => ?_) (fun c_24 => ?_)
      · have hf := ip c_24 hf
        refine tt_iconst (pc := 37) (v := 0) E dX12_meanSpeed_37 ic_0 ?_
        refine tt_iadd (pc := 38) E dX12_meanSpeed_38 ?_
        refine tt_nmI hf (fun v_17 hf => ?_)
        refine tt_istore_n (pc := 39) (i := 1) (lv' := [(1, .int v_17), (0, .ref (B + o0)), (2, .int v2)]) E dX12_meanSpeed_39 rfl (Nat.le_of_ble_eq_true rfl) rfl ?_
        obtain ⟨v_18, ev_18, hf⟩ := nm_ex hf
        refine tt_iinc (pc := 40) (i := 2) (j := 2) (lv' := [(2, .int v_18), (1, .int v_17), (0, .ref (B + o0))]) E dX12_meanSpeed_40 rfl (ev_18).symm (Nat.le_of_ble_eq_true rfl) rfl ?_
        refine tt_goto (pc := 43) (tgt := 9) E dX12_meanSpeed_43 rfl ?_
        refine tt_sub [2, 1, 0] (lv' := [(0, .ref (B + o0)), (1, .int v_17), (2, .int v_18)]) rfl ?_
        exact ih v_17 v_18 μ hf
      · have hf := ine c_24 hf
        refine tt_aload_n (pc := 28) (i := 0) (j := 0) E dX12_meanSpeed_28 rfl rfl ?_
        refine tt_iload_n (pc := 29) (i := 2) (j := 2) E dX12_meanSpeed_29 rfl rfl ?_
        refine tt_iconst (pc := 30) (v := 1) E dX12_meanSpeed_30 ic_1 ?_
        obtain ⟨r_19, hr_20, hf⟩ := bd_some hf
        have hc_21 := cX12_of_ok (l := l) (B := B) (D := D) (cT := cT) (n := n) (adK := adK) (adV := adV) h0 hr_20
        refine tt_cI (pc := 31) (tt_vi E lmX12_192 mtX12_of hc_21 h0 rfl rfl (Nat.le_of_ble_eq_true rfl) ⟨(Nat.le_of_ble_eq_true rfl), (Nat.le_of_ble_eq_true rfl)⟩ ⟨(Nat.le_of_ble_eq_true rfl), (Nat.le_of_ble_eq_true rfl)⟩ dX12_meanSpeed_31) ?_
        refine tt_goto (pc := 34) (tgt := 38) E dX12_meanSpeed_34 rfl ?_
        refine tt_iadd (pc := 38) E dX12_meanSpeed_38 ?_
        refine tt_nmI hf (fun v_22 hf => ?_)
        refine tt_istore_n (pc := 39) (i := 1) (lv' := [(1, .int v_22), (0, .ref (B + o0)), (2, .int v2)]) E dX12_meanSpeed_39 rfl (Nat.le_of_ble_eq_true rfl) rfl ?_
        obtain ⟨v_23, ev_23, hf⟩ := nm_ex hf
        refine tt_iinc (pc := 40) (i := 2) (j := 2) (lv' := [(2, .int v_23), (1, .int v_22), (0, .ref (B + o0))]) E dX12_meanSpeed_40 rfl (ev_23).symm (Nat.le_of_ble_eq_true rfl) rfl ?_
        refine tt_goto (pc := 43) (tgt := 9) E dX12_meanSpeed_43 rfl ?_
        refine tt_sub [2, 1, 0] (lv' := [(0, .ref (B + o0)), (1, .int v_22), (2, .int v_23)]) rfl ?_
        exact ih v_22 v_23 μ hf
set_option maxHeartbeats 4000000 in
theorem cX12_meanSpeed_ok {l : Launch} {B : Nat} {D : va_G} {cT : Nat → ClassId} {n : Nat} {adK adV : Nat → Nat} {o0 : Nat} {μ : Mem} {res : UInt64 × Mem} (h0 : isK n o0 9) (hf : fX12_meanSpeed o0 μ = some res) : MD l yX12_meanSpeed cX12_meanSpeed 3 (some .double) rmX12_meanSpeed B D cT (XW B adK adV) n [.ref (B + o0)] μ res := by
  refine tt_ofW mtX12_meanSpeed.1 (Nat.le_of_ble_eq_true rfl) rfl ?_
  intro p e s m below meth c E0 hr hlk
  have E : EE p s m _ c cX12_meanSpeed 3 RX12 B D cT (XW B adK adV) := E0
  unfold fX12_meanSpeed at hf
  refine tt_aload_n (pc := 0) (i := 0) (j := 0) E dX12_meanSpeed_0 rfl rfl ?_
  refine tt_iconst (pc := 1) (v := 0) E dX12_meanSpeed_1 ic_0 ?_
  refine tt_putI (pc := 2) E lfX12_75 rfl h0 dX12_meanSpeed_2 (tt_nmM hf (fun m_1 hf => ?_))
  refine tt_iconst (pc := 5) (v := 0) E dX12_meanSpeed_5 ic_0 ?_
  refine tt_istore_n (pc := 6) (i := 1) (lv' := [(1, .int 0), (0, .ref (B + o0))]) E dX12_meanSpeed_6 rfl (Nat.le_of_ble_eq_true rfl) rfl ?_
  refine tt_iconst (pc := 7) (v := 0) E dX12_meanSpeed_7 ic_0 ?_
  refine tt_istore_n (pc := 8) (i := 2) (lv' := [(2, .int 0), (1, .int 0), (0, .ref (B + o0))]) E dX12_meanSpeed_8 rfl (Nat.le_of_ble_eq_true rfl) rfl ?_
  refine tt_sub [2, 1, 0] (lv' := [(0, .ref (B + o0)), (1, .int 0), (2, .int 0)]) rfl ?_
  exact tX12_meanSpeed_9 E hr hlk h0 FU 0 0 m_1 hf
set_option maxHeartbeats 4000000 in
theorem cX12_share_ok {l : Launch} {B : Nat} {D : va_G} {cT : Nat → ClassId} {n : Nat} {adK adV : Nat → Nat} {o0 : Nat} {μ : Mem} {res : UInt32 × Mem} (h0 : isK n o0 9) (hf : fX12_share o0 μ = some res) : MF l yX12_share cX12_share 2 (some .float) rmX12_share B D cT (XW B adK adV) n [.ref (B + o0)] μ res := by
  refine tt_ofW mtX12_share.1 (Nat.le_of_ble_eq_true rfl) rfl ?_
  intro p e s m below meth c E0 hr hlk
  have E : EE p s m _ c cX12_share 2 RX12 B D cT (XW B adK adV) := E0
  unfold fX12_share at hf
  refine tt_aload_n (pc := 0) (i := 0) (j := 0) E dX12_share_0 rfl rfl ?_
  refine tt_iconst (pc := 1) (v := 0) E dX12_share_1 ic_0 ?_
  refine tt_putI (pc := 2) E lfX12_75 rfl h0 dX12_share_2 (tt_nmM hf (fun m_1 hf => ?_))
  refine tt_aload_n (pc := 5) (i := 0) (j := 0) E dX12_share_5 rfl rfl ?_
  refine tt_iconst (pc := 6) (v := 0) E dX12_share_6 ic_0 ?_
  obtain ⟨r_2, hr_3, hf⟩ := bd_some hf
  have hc_4 := cX12_lifeOn_ok (l := l) (B := B) (D := D) (cT := cT) (n := n) (adK := adK) (adV := adV) h0 hr_3
  refine tt_cI (pc := 7) (tt_vi E lmX12_339 mtX12_lifeOn hc_4 h0 rfl rfl (Nat.le_of_ble_eq_true rfl) ⟨(Nat.le_of_ble_eq_true rfl), (Nat.le_of_ble_eq_true rfl)⟩ ⟨(Nat.le_of_ble_eq_true rfl), (Nat.le_of_ble_eq_true rfl)⟩ dX12_share_7) ?_
  refine tt_aload_n (pc := 10) (i := 0) (j := 0) E dX12_share_10 rfl rfl ?_
  refine tt_iconst (pc := 11) (v := 1) E dX12_share_11 ic_1 ?_
  obtain ⟨r_5, hr_6, hf⟩ := bd_some hf
  have hc_7 := cX12_lifeOn_ok (l := l) (B := B) (D := D) (cT := cT) (n := n) (adK := adK) (adV := adV) h0 hr_6
  refine tt_cI (pc := 12) (tt_vi E lmX12_339 mtX12_lifeOn hc_7 h0 rfl rfl (Nat.le_of_ble_eq_true rfl) ⟨(Nat.le_of_ble_eq_true rfl), (Nat.le_of_ble_eq_true rfl)⟩ ⟨(Nat.le_of_ble_eq_true rfl), (Nat.le_of_ble_eq_true rfl)⟩ dX12_share_12) ?_
  refine tt_iadd (pc := 15) E dX12_share_15 ?_
  refine tt_nmI hf (fun v_8 hf => ?_)
  refine tt_istore_n (pc := 16) (i := 1) (lv' := [(1, .int v_8), (0, .ref (B + o0))]) E dX12_share_16 rfl (Nat.le_of_ble_eq_true rfl) rfl ?_
  refine tt_iload_n (pc := 17) (i := 1) (j := 0) E dX12_share_17 rfl rfl ?_
  refine tt_if_ne (pc := 18) (tgt := 25) E dX12_share_18 rfl (fun c_13 => ?_) (fun c_13 => ?_)
  · have hf := ine c_13 hf
    refine tt_aload_n (pc := 25) (i := 0) (j := 1) E dX12_share_25 rfl rfl ?_
    refine tt_iconst (pc := 26) (v := 0) E dX12_share_26 ic_0 ?_
    obtain ⟨r_9, hr_10, hf⟩ := bd_some hf
    have hc_11 := cX12_lifeOn_ok (l := l) (B := B) (D := D) (cT := cT) (n := n) (adK := adK) (adV := adV) h0 hr_10
    refine tt_cI (pc := 27) (tt_vi E lmX12_339 mtX12_lifeOn hc_11 h0 rfl rfl (Nat.le_of_ble_eq_true rfl) ⟨(Nat.le_of_ble_eq_true rfl), (Nat.le_of_ble_eq_true rfl)⟩ ⟨(Nat.le_of_ble_eq_true rfl), (Nat.le_of_ble_eq_true rfl)⟩ dX12_share_27) ?_
    refine tt_i2f (pc := 30) E dX12_share_30 ?_
    refine tt_iload_n (pc := 31) (i := 1) (j := 0) E dX12_share_31 rfl rfl ?_
    refine tt_i2f (pc := 32) E dX12_share_32 ?_
    obtain ⟨g_12, hf⟩ := gd_some hf
    refine tt_fdiv (pc := 33) E dX12_share_33 (nn32_ok g_12) ?_
    exact tt_fret (pc := 34) E hr hlk dX12_share_34 (Nat.le_of_ble_eq_true rfl) (Nat.le_of_ble_eq_true rfl) hf
  · have hf := ip c_13 hf
    refine tt_fconst0 (pc := 21) E dX12_share_21 ?_
    refine tt_goto (pc := 22) (tgt := 34) E dX12_share_22 rfl ?_
    exact tt_fret (pc := 34) E hr hlk dX12_share_34 (Nat.le_of_ble_eq_true rfl) (Nat.le_of_ble_eq_true rfl) hf
set_option maxHeartbeats 4000000 in
theorem cX12_leaves_ok {l : Launch} {B : Nat} {D : va_G} {cT : Nat → ClassId} {n : Nat} {adK adV : Nat → Nat} {o0 : Nat} {μ : Mem} {res : Mem} (h0 : isK n o0 9) (hf : fX12_leaves o0 μ = some res) : MV l yX12_leaves cX12_leaves 1 (none) rmX12_leaves B D cT (XW B adK adV) n [.ref (B + o0)] μ res := by
  refine tt_ofW mtX12_leaves.1 (Nat.le_of_ble_eq_true rfl) rfl ?_
  intro p e s m below meth c E0 hr hlk
  have E : EE p s m _ c cX12_leaves 1 RX12 B D cT (XW B adK adV) := E0
  unfold fX12_leaves at hf
  refine tt_aload_n (pc := 0) (i := 0) (j := 0) E dX12_leaves_0 rfl rfl ?_
  obtain ⟨q_1, hq_2, hf⟩ := bd_some hf
  refine tt_getP (pc := 1) (t := 11) E lfX12_20 rfl rfl h0 dX12_leaves_1 hq_2 (fun kq_3 => ?_)
  refine tt_iconst (pc := 4) (v := 0) E dX12_leaves_4 ic_0 ?_
  refine tt_aload_n (pc := 5) (i := 0) (j := 0) E dX12_leaves_5 rfl rfl ?_
  obtain ⟨q_4, hq_5, hf⟩ := bd_some hf
  refine tt_getP (pc := 6) (t := 11) E lfX12_29 rfl rfl h0 dX12_leaves_6 hq_5 (fun kq_6 => ?_)
  refine tt_iconst (pc := 9) (v := 0) E dX12_leaves_9 ic_0 ?_
  obtain ⟨r_7, hr_8, hf⟩ := bd_some hf
  have hc_9 := cX12_copiesRow_ok (l := l) (B := B) (D := D) (cT := cT) (n := n) (adK := adK) (adV := adV) kq_3 kq_6 hr_8
  refine tt_cV (pc := 10) (tt_si E lmX12_153 mtX12_copiesRow hc_9 rfl rfl (Nat.le_of_ble_eq_true rfl) ⟨(Nat.le_of_ble_eq_true rfl), (Nat.le_of_ble_eq_true rfl)⟩ ⟨(Nat.le_of_ble_eq_true rfl), (Nat.le_of_ble_eq_true rfl)⟩ dX12_leaves_10) ?_
  exact tt_vret (pc := 13) E hr hlk dX12_leaves_13 (Nat.le_of_ble_eq_true rfl) (Nat.le_of_ble_eq_true rfl) hf
set_option maxHeartbeats 4000000 in
theorem cX12_comesBack_ok {l : Launch} {B : Nat} {D : va_G} {cT : Nat → ClassId} {n : Nat} {adK adV : Nat → Nat} {o0 : Nat} {v1 : Int32} {μ : Mem} {res : Int32 × Mem} (h0 : isK n o0 9) (hf : fX12_comesBack o0 v1 μ = some res) : MI l yX12_comesBack cX12_comesBack 2 (some .int) rmX12_comesBack B D cT (XW B adK adV) n [.ref (B + o0), .int v1] μ res := by
  refine tt_ofW mtX12_comesBack.1 (Nat.le_of_ble_eq_true rfl) rfl ?_
  intro p e s m below meth c E0 hr hlk
  have E : EE p s m _ c cX12_comesBack 2 RX12 B D cT (XW B adK adV) := E0
  unfold fX12_comesBack at hf
  refine tt_aload_n (pc := 0) (i := 0) (j := 0) E dX12_comesBack_0 rfl rfl ?_
  obtain ⟨q_1, hq_2, hf⟩ := bd_some hf
  refine tt_getP (pc := 1) (t := 11) E lfX12_29 rfl rfl h0 dX12_comesBack_1 hq_2 (fun kq_3 => ?_)
  refine tt_iconst (pc := 4) (v := 0) E dX12_comesBack_4 ic_0 ?_
  refine tt_aload_n (pc := 5) (i := 0) (j := 0) E dX12_comesBack_5 rfl rfl ?_
  obtain ⟨q_4, hq_5, hf⟩ := bd_some hf
  refine tt_getP (pc := 6) (t := 11) E lfX12_20 rfl rfl h0 dX12_comesBack_6 hq_5 (fun kq_6 => ?_)
  refine tt_iconst (pc := 9) (v := 0) E dX12_comesBack_9 ic_0 ?_
  obtain ⟨r_7, hr_8, hf⟩ := bd_some hf
  have hc_9 := cX12_copiesRow_ok (l := l) (B := B) (D := D) (cT := cT) (n := n) (adK := adK) (adV := adV) kq_3 kq_6 hr_8
  refine tt_cV (pc := 10) (tt_si E lmX12_153 mtX12_copiesRow hc_9 rfl rfl (Nat.le_of_ble_eq_true rfl) ⟨(Nat.le_of_ble_eq_true rfl), (Nat.le_of_ble_eq_true rfl)⟩ ⟨(Nat.le_of_ble_eq_true rfl), (Nat.le_of_ble_eq_true rfl)⟩ dX12_comesBack_10) ?_
  refine tt_iload_n (pc := 13) (i := 1) (j := 1) E dX12_comesBack_13 rfl rfl ?_
  exact tt_iret (pc := 14) E hr hlk dX12_comesBack_14 (Nat.le_of_ble_eq_true rfl) (Nat.le_of_ble_eq_true rfl) hf
set_option maxHeartbeats 4000000 in
theorem cX12_areTurns_ok {l : Launch} {B : Nat} {D : va_G} {cT : Nat → ClassId} {n : Nat} {adK adV : Nat → Nat} {v0 : Int32} {μ : Mem} {res : Int32} (hf : fX12_areTurns v0 μ = some res) : MZ l yX12_areTurns cX12_areTurns 1 (some .boolean) rmX12_areTurns B D cT (XW B adK adV) n [.int v0] μ (res, μ) := by
  refine tt_ofW mtX12_areTurns.1 (Nat.le_of_ble_eq_true rfl) rfl ?_
  intro p e s m below meth c E0 hr hlk
  have E : EE p s m _ c cX12_areTurns 1 RX12 B D cT (XW B adK adV) := E0
  unfold fX12_areTurns at hf
  refine tt_iload_n (pc := 0) (i := 0) (j := 0) E dX12_areTurns_0 rfl rfl ?_
  refine tt_i2l (pc := 1) E dX12_areTurns_1 ?_
  refine tt_lconst (pc := 2) (v := 0) E dX12_areTurns_2 lc_0 ?_
  refine tt_ldc2 (pc := 3) (v := 200) E dX12_areTurns_3 (gw_mem (mt8 (at_l 136 rfl)) rfl) ?_
  obtain ⟨r_1, hr_2, hf⟩ := bd_some hf
  have hc_3 := cX12_isIn_ok (l := l) (B := B) (D := D) (cT := cT) (n := n) (adK := adK) (adV := adV) hr_2
  refine tt_cZ (pc := 6) (tt_si E lmX12_92 mtX12_isIn hc_3 rfl rfl (Nat.le_of_ble_eq_true rfl) ⟨(Nat.le_of_ble_eq_true rfl), (Nat.le_of_ble_eq_true rfl)⟩ ⟨(Nat.le_of_ble_eq_true rfl), (Nat.le_of_ble_eq_true rfl)⟩ dX12_areTurns_6) (fun z_4 => ?_)
  exact tt_zret (pc := 9) E z_4 hr hlk dX12_areTurns_9 (Nat.le_of_ble_eq_true rfl) (Nat.le_of_ble_eq_true rfl) (pv hf)
set_option maxHeartbeats 4000000 in
theorem cX12_isNear_ok {l : Launch} {B : Nat} {D : va_G} {cT : Nat → ClassId} {n : Nat} {adK adV : Nat → Nat} {v0 : Int32} {μ : Mem} {res : Int32} (hf : fX12_isNear v0 μ = some res) : MZ l yX12_isNear cX12_isNear 1 (some .boolean) rmX12_isNear B D cT (XW B adK adV) n [.int v0] μ (res, μ) := by
  refine tt_ofW mtX12_isNear.1 (Nat.le_of_ble_eq_true rfl) rfl ?_
  intro p e s m below meth c E0 hr hlk
  have E : EE p s m _ c cX12_isNear 1 RX12 B D cT (XW B adK adV) := E0
  unfold fX12_isNear at hf
  refine tt_iload_n (pc := 0) (i := 0) (j := 0) E dX12_isNear_0 rfl rfl ?_
  refine tt_i2l (pc := 1) E dX12_isNear_1 ?_
  refine tt_lconst (pc := 2) (v := 0) E dX12_isNear_2 lc_0 ?_
  refine tt_ldc2 (pc := 3) (v := 99) E dX12_isNear_3 (gw_mem (mt8 (at_l 38 rfl)) rfl) ?_
  obtain ⟨r_1, hr_2, hf⟩ := bd_some hf
  have hc_3 := cX12_isIn_ok (l := l) (B := B) (D := D) (cT := cT) (n := n) (adK := adK) (adV := adV) hr_2
  refine tt_cZ (pc := 6) (tt_si E lmX12_92 mtX12_isIn hc_3 rfl rfl (Nat.le_of_ble_eq_true rfl) ⟨(Nat.le_of_ble_eq_true rfl), (Nat.le_of_ble_eq_true rfl)⟩ ⟨(Nat.le_of_ble_eq_true rfl), (Nat.le_of_ble_eq_true rfl)⟩ dX12_isNear_6) (fun z_4 => ?_)
  exact tt_zret (pc := 9) E z_4 hr hlk dX12_isNear_9 (Nat.le_of_ble_eq_true rfl) (Nat.le_of_ble_eq_true rfl) (pv hf)
set_option maxHeartbeats 4000000 in
theorem cX12_comes_ok {l : Launch} {B : Nat} {D : va_G} {cT : Nat → ClassId} {n : Nat} {adK adV : Nat → Nat} {o0 : Nat} {v1 : Int32} {μ : Mem} {res : Int32 × Mem} (h0 : isK n o0 9) (hf : fX12_comes o0 v1 μ = some res) : MZ l yX12_comes cX12_comes 2 (some .boolean) rmX12_comes B D cT (XW B adK adV) n [.ref (B + o0), .int v1] μ res := by
  refine tt_ofW mtX12_comes.1 (Nat.le_of_ble_eq_true rfl) rfl ?_
  intro p e s m below meth c E0 hr hlk
  have E : EE p s m _ c cX12_comes 2 RX12 B D cT (XW B adK adV) := E0
  unfold fX12_comes at hf
  refine tt_aload_n (pc := 0) (i := 0) (j := 0) E dX12_comes_0 rfl rfl ?_
  obtain ⟨r_1, hr_2, hf⟩ := bd_some hf
  have hc_3 := cX12_leaves_ok (l := l) (B := B) (D := D) (cT := cT) (n := n) (adK := adK) (adV := adV) h0 hr_2
  refine tt_cV (pc := 1) (tt_vi E lmX12_374 mtX12_leaves hc_3 h0 rfl rfl (Nat.le_of_ble_eq_true rfl) ⟨(Nat.le_of_ble_eq_true rfl), (Nat.le_of_ble_eq_true rfl)⟩ ⟨(Nat.le_of_ble_eq_true rfl), (Nat.le_of_ble_eq_true rfl)⟩ dX12_comes_1) ?_
  refine tt_aload_n (pc := 4) (i := 0) (j := 0) E dX12_comes_4 rfl rfl ?_
  refine tt_iload_n (pc := 5) (i := 1) (j := 1) E dX12_comes_5 rfl rfl ?_
  refine tt_iconst (pc := 6) (v := 1) E dX12_comes_6 ic_1 ?_
  refine tt_iadd (pc := 7) E dX12_comes_7 ?_
  obtain ⟨r_4, hr_5, hf⟩ := bd_some hf
  have hc_6 := cX12_plays_ok (l := l) (B := B) (D := D) (cT := cT) (n := n) (adK := adK) (adV := adV) h0 hr_5
  refine tt_cI (pc := 8) (tt_vi E lmX12_377 mtX12_plays hc_6 h0 rfl rfl (Nat.le_of_ble_eq_true rfl) ⟨(Nat.le_of_ble_eq_true rfl), (Nat.le_of_ble_eq_true rfl)⟩ ⟨(Nat.le_of_ble_eq_true rfl), (Nat.le_of_ble_eq_true rfl)⟩ dX12_comes_8) ?_
  refine tt_iload_n (pc := 11) (i := 1) (j := 1) E dX12_comes_11 rfl rfl ?_
  refine tt_iconst (pc := 12) (v := 1) E dX12_comes_12 ic_1 ?_
  refine tt_iadd (pc := 13) E dX12_comes_13 ?_
  refine tt_icmp_ne (pc := 14) (tgt := 21) E dX12_comes_14 rfl (fun c_7 => ?_) (fun c_7 => ?_)
  · have hf := ine c_7 hf
    refine tt_iconst (pc := 21) (v := 0) E dX12_comes_21 ic_0 ?_
    exact tt_zret (pc := 22) E ((Or.inl rfl)) hr hlk dX12_comes_22 (Nat.le_of_ble_eq_true rfl) (Nat.le_of_ble_eq_true rfl) hf
  · have hf := ip c_7 hf
    refine tt_iconst (pc := 17) (v := 1) E dX12_comes_17 ic_1 ?_
    refine tt_goto (pc := 18) (tgt := 22) E dX12_comes_18 rfl ?_
    exact tt_zret (pc := 22) E ((Or.inr rfl)) hr hlk dX12_comes_22 (Nat.le_of_ble_eq_true rfl) (Nat.le_of_ble_eq_true rfl) hf
set_option maxHeartbeats 4000000 in
theorem cX12_turn_ok {l : Launch} {B : Nat} {D : va_G} {cT : Nat → ClassId} {n : Nat} {adK adV : Nat → Nat} {o0 : Nat} {v1 : Int32} {μ : Mem} {res : Int32 × Mem} (h0 : isK n o0 9) (hf : fX12_turn o0 v1 μ = some res) : MI l yX12_turn cX12_turn 3 (some .int) rmX12_turn B D cT (XW B adK adV) n [.ref (B + o0), .int v1] μ res := by
  refine tt_ofW mtX12_turn.1 (Nat.le_of_ble_eq_true rfl) rfl ?_
  intro p e s m below meth c E0 hr hlk
  have E : EE p s m _ c cX12_turn 3 RX12 B D cT (XW B adK adV) := E0
  unfold fX12_turn at hf
  refine tt_aload_n (pc := 0) (i := 0) (j := 0) E dX12_turn_0 rfl rfl ?_
  refine tt_iload_n (pc := 1) (i := 1) (j := 1) E dX12_turn_1 rfl rfl ?_
  obtain ⟨r_1, hr_2, hf⟩ := bd_some hf
  have hc_3 := cX12_isNear_ok (l := l) (B := B) (D := D) (cT := cT) (n := n) (adK := adK) (adV := adV) hr_2
  refine tt_cZ (pc := 2) (tt_si E lmX12_380 mtX12_isNear hc_3 rfl rfl (Nat.le_of_ble_eq_true rfl) ⟨(Nat.le_of_ble_eq_true rfl), (Nat.le_of_ble_eq_true rfl)⟩ ⟨(Nat.le_of_ble_eq_true rfl), (Nat.le_of_ble_eq_true rfl)⟩ dX12_turn_2) (fun z_4 => ?_)
  obtain ⟨r_5, hr_6, hf⟩ := bd_some hf
  have hc_7 := cX12_goes_ok (l := l) (B := B) (D := D) (cT := cT) (n := n) (adK := adK) (adV := adV) h0 z_4 hr_6
  refine tt_cZ (pc := 5) (tt_vi E lmX12_85 mtX12_goes hc_7 h0 rfl rfl (Nat.le_of_ble_eq_true rfl) ⟨(Nat.le_of_ble_eq_true rfl), (Nat.le_of_ble_eq_true rfl)⟩ ⟨(Nat.le_of_ble_eq_true rfl), (Nat.le_of_ble_eq_true rfl)⟩ dX12_turn_5) (fun z_8 => ?_)
  refine tt_if_ne (pc := 8) (tgt := 13) E dX12_turn_8 rfl (fun c_20 => ?_) (fun c_20 => ?_)
  · have hf := ine c_20 hf
    refine tt_aload_n (pc := 13) (i := 0) (j := 0) E dX12_turn_13 rfl rfl ?_
    refine tt_iload_n (pc := 14) (i := 1) (j := 1) E dX12_turn_14 rfl rfl ?_
    obtain ⟨r_9, hr_10, hf⟩ := bd_some hf
    have hc_11 := cX12_comes_ok (l := l) (B := B) (D := D) (cT := cT) (n := n) (adK := adK) (adV := adV) h0 hr_10
    refine tt_cZ (pc := 15) (tt_vi E lmX12_383 mtX12_comes hc_11 h0 rfl rfl (Nat.le_of_ble_eq_true rfl) ⟨(Nat.le_of_ble_eq_true rfl), (Nat.le_of_ble_eq_true rfl)⟩ ⟨(Nat.le_of_ble_eq_true rfl), (Nat.le_of_ble_eq_true rfl)⟩ dX12_turn_15) (fun z_12 => ?_)
    refine tt_istore_n (pc := 18) (i := 2) (lv' := [(2, .int r_9.1), (0, .ref (B + o0)), (1, .int v1)]) E dX12_turn_18 rfl (Nat.le_of_ble_eq_true rfl) rfl ?_
    refine tt_aload_n (pc := 19) (i := 0) (j := 1) E dX12_turn_19 rfl rfl ?_
    refine tt_iload_n (pc := 20) (i := 2) (j := 0) E dX12_turn_20 rfl rfl ?_
    refine tt_if_eq (pc := 21) (tgt := 31) E dX12_turn_21 rfl (fun c_19 => ?_) (fun c_19 => ?_)
    · have hf := ip c_19 hf
      refine tt_iconst (pc := 31) (v := (-1)) E dX12_turn_31 ic_m1 ?_
      obtain ⟨r_13, hr_14, hf⟩ := bd_some hf
      have hc_15 := cX12_comesBack_ok (l := l) (B := B) (D := D) (cT := cT) (n := n) (adK := adK) (adV := adV) h0 hr_14
      refine tt_cI (pc := 32) (tt_vi E lmX12_386 mtX12_comesBack hc_15 h0 rfl rfl (Nat.le_of_ble_eq_true rfl) ⟨(Nat.le_of_ble_eq_true rfl), (Nat.le_of_ble_eq_true rfl)⟩ ⟨(Nat.le_of_ble_eq_true rfl), (Nat.le_of_ble_eq_true rfl)⟩ dX12_turn_32) ?_
      exact tt_iret (pc := 35) E hr hlk dX12_turn_35 (Nat.le_of_ble_eq_true rfl) (Nat.le_of_ble_eq_true rfl) hf
    · have hf := ine c_19 hf
      refine tt_aload_n (pc := 24) (i := 0) (j := 1) E dX12_turn_24 rfl rfl ?_
      refine tt_getI (pc := 25) E lfX12_322 rfl h0 dX12_turn_25 ?_
      refine tt_goto (pc := 28) (tgt := 32) E dX12_turn_28 rfl ?_
      obtain ⟨r_16, hr_17, hf⟩ := bd_some hf
      have hc_18 := cX12_comesBack_ok (l := l) (B := B) (D := D) (cT := cT) (n := n) (adK := adK) (adV := adV) h0 hr_17
      refine tt_cI (pc := 32) (tt_vi E lmX12_386 mtX12_comesBack hc_18 h0 rfl rfl (Nat.le_of_ble_eq_true rfl) ⟨(Nat.le_of_ble_eq_true rfl), (Nat.le_of_ble_eq_true rfl)⟩ ⟨(Nat.le_of_ble_eq_true rfl), (Nat.le_of_ble_eq_true rfl)⟩ dX12_turn_32) ?_
      exact tt_iret (pc := 35) E hr hlk dX12_turn_35 (Nat.le_of_ble_eq_true rfl) (Nat.le_of_ble_eq_true rfl) hf
  · have hf := ip c_20 hf
    refine tt_iconst (pc := 11) (v := 0) E dX12_turn_11 ic_0 ?_
    exact tt_iret (pc := 12) E hr hlk dX12_turn_12 (Nat.le_of_ble_eq_true rfl) (Nat.le_of_ble_eq_true rfl) hf
set_option maxHeartbeats 4000000 in
theorem cX12_turnTime_ok {l : Launch} {B : Nat} {D : va_G} {cT : Nat → ClassId} {n : Nat} {adK adV : Nat → Nat} {o0 : Nat} {v1 : Int32} {μ : Mem} {res : Int32 × Mem} (h0 : isK n o0 9) (hf : fX12_turnTime o0 v1 μ = some res) : MI l yX12_turnTime cX12_turnTime 3 (some .int) rmX12_turnTime B D cT (XW B adK adV) n [.ref (B + o0), .int v1] μ res := by
  refine tt_ofW mtX12_turnTime.1 (Nat.le_of_ble_eq_true rfl) rfl ?_
  intro p e s m below meth c E0 hr hlk
  have E : EE p s m _ c cX12_turnTime 3 RX12 B D cT (XW B adK adV) := E0
  unfold fX12_turnTime at hf
  refine tt_aload_n (pc := 0) (i := 0) (j := 0) E dX12_turnTime_0 rfl rfl ?_
  refine tt_iload_n (pc := 1) (i := 1) (j := 1) E dX12_turnTime_1 rfl rfl ?_
  obtain ⟨r_1, hr_2, hf⟩ := bd_some hf
  have hc_3 := cX12_isNear_ok (l := l) (B := B) (D := D) (cT := cT) (n := n) (adK := adK) (adV := adV) hr_2
  refine tt_cZ (pc := 2) (tt_si E lmX12_380 mtX12_isNear hc_3 rfl rfl (Nat.le_of_ble_eq_true rfl) ⟨(Nat.le_of_ble_eq_true rfl), (Nat.le_of_ble_eq_true rfl)⟩ ⟨(Nat.le_of_ble_eq_true rfl), (Nat.le_of_ble_eq_true rfl)⟩ dX12_turnTime_2) (fun z_4 => ?_)
  obtain ⟨r_5, hr_6, hf⟩ := bd_some hf
  have hc_7 := cX12_goes_ok (l := l) (B := B) (D := D) (cT := cT) (n := n) (adK := adK) (adV := adV) h0 z_4 hr_6
  refine tt_cZ (pc := 5) (tt_vi E lmX12_85 mtX12_goes hc_7 h0 rfl rfl (Nat.le_of_ble_eq_true rfl) ⟨(Nat.le_of_ble_eq_true rfl), (Nat.le_of_ble_eq_true rfl)⟩ ⟨(Nat.le_of_ble_eq_true rfl), (Nat.le_of_ble_eq_true rfl)⟩ dX12_turnTime_5) (fun z_8 => ?_)
  refine tt_if_ne (pc := 8) (tgt := 13) E dX12_turnTime_8 rfl (fun c_24 => ?_) (fun c_24 => ?_)
  · have hf := ine c_24 hf
    refine tt_aload_n (pc := 13) (i := 0) (j := 0) E dX12_turnTime_13 rfl rfl ?_
    refine tt_iload_n (pc := 14) (i := 1) (j := 1) E dX12_turnTime_14 rfl rfl ?_
    obtain ⟨r_9, hr_10, hf⟩ := bd_some hf
    have hc_11 := cX12_comes_ok (l := l) (B := B) (D := D) (cT := cT) (n := n) (adK := adK) (adV := adV) h0 hr_10
    refine tt_cZ (pc := 15) (tt_vi E lmX12_383 mtX12_comes hc_11 h0 rfl rfl (Nat.le_of_ble_eq_true rfl) ⟨(Nat.le_of_ble_eq_true rfl), (Nat.le_of_ble_eq_true rfl)⟩ ⟨(Nat.le_of_ble_eq_true rfl), (Nat.le_of_ble_eq_true rfl)⟩ dX12_turnTime_15) (fun z_12 => ?_)
    refine tt_istore_n (pc := 18) (i := 2) (lv' := [(2, .int r_9.1), (0, .ref (B + o0)), (1, .int v1)]) E dX12_turnTime_18 rfl (Nat.le_of_ble_eq_true rfl) rfl ?_
    refine tt_aload_n (pc := 19) (i := 0) (j := 1) E dX12_turnTime_19 rfl rfl ?_
    refine tt_iload_n (pc := 20) (i := 2) (j := 0) E dX12_turnTime_20 rfl rfl ?_
    refine tt_if_eq (pc := 21) (tgt := 33) E dX12_turnTime_21 rfl (fun c_23 => ?_) (fun c_23 => ?_)
    · have hf := ip c_23 hf
      refine tt_iconst (pc := 33) (v := (-1)) E dX12_turnTime_33 ic_m1 ?_
      obtain ⟨r_13, hr_14, hf⟩ := bd_some hf
      have hc_15 := cX12_comesBack_ok (l := l) (B := B) (D := D) (cT := cT) (n := n) (adK := adK) (adV := adV) h0 hr_14
      refine tt_cI (pc := 34) (tt_vi E lmX12_386 mtX12_comesBack hc_15 h0 rfl rfl (Nat.le_of_ble_eq_true rfl) ⟨(Nat.le_of_ble_eq_true rfl), (Nat.le_of_ble_eq_true rfl)⟩ ⟨(Nat.le_of_ble_eq_true rfl), (Nat.le_of_ble_eq_true rfl)⟩ dX12_turnTime_34) ?_
      exact tt_iret (pc := 37) E hr hlk dX12_turnTime_37 (Nat.le_of_ble_eq_true rfl) (Nat.le_of_ble_eq_true rfl) hf
    · have hf := ine c_23 hf
      refine tt_aload_n (pc := 24) (i := 0) (j := 1) E dX12_turnTime_24 rfl rfl ?_
      obtain ⟨q_16, hq_17, hf⟩ := bd_some hf
      refine tt_getP (pc := 25) (t := 11) E lfX12_20 rfl rfl h0 dX12_turnTime_25 hq_17 (fun kq_18 => ?_)
      refine tt_iconst (pc := 28) (v := 2) E dX12_turnTime_28 ic_2 ?_
      obtain ⟨g_19, hf⟩ := gd_some hf
      refine tt_iald (pc := 29) E kq_18 g_19 dX12_turnTime_29 ?_
      refine tt_goto (pc := 30) (tgt := 34) E dX12_turnTime_30 rfl ?_
      obtain ⟨r_20, hr_21, hf⟩ := bd_some hf
      have hc_22 := cX12_comesBack_ok (l := l) (B := B) (D := D) (cT := cT) (n := n) (adK := adK) (adV := adV) h0 hr_21
      refine tt_cI (pc := 34) (tt_vi E lmX12_386 mtX12_comesBack hc_22 h0 rfl rfl (Nat.le_of_ble_eq_true rfl) ⟨(Nat.le_of_ble_eq_true rfl), (Nat.le_of_ble_eq_true rfl)⟩ ⟨(Nat.le_of_ble_eq_true rfl), (Nat.le_of_ble_eq_true rfl)⟩ dX12_turnTime_34) ?_
      exact tt_iret (pc := 37) E hr hlk dX12_turnTime_37 (Nat.le_of_ble_eq_true rfl) (Nat.le_of_ble_eq_true rfl) hf
  · have hf := ip c_24 hf
    refine tt_iconst (pc := 11) (v := 0) E dX12_turnTime_11 ic_0 ?_
    exact tt_iret (pc := 12) E hr hlk dX12_turnTime_12 (Nat.le_of_ble_eq_true rfl) (Nat.le_of_ble_eq_true rfl) hf
set_option maxHeartbeats 4000000 in
theorem cX12_turnKind_ok {l : Launch} {B : Nat} {D : va_G} {cT : Nat → ClassId} {n : Nat} {adK adV : Nat → Nat} {o0 : Nat} {v1 : Int32} {μ : Mem} {res : Int32 × Mem} (h0 : isK n o0 9) (hf : fX12_turnKind o0 v1 μ = some res) : MI l yX12_turnKind cX12_turnKind 3 (some .int) rmX12_turnKind B D cT (XW B adK adV) n [.ref (B + o0), .int v1] μ res := by
  refine tt_ofW mtX12_turnKind.1 (Nat.le_of_ble_eq_true rfl) rfl ?_
  intro p e s m below meth c E0 hr hlk
  have E : EE p s m _ c cX12_turnKind 3 RX12 B D cT (XW B adK adV) := E0
  unfold fX12_turnKind at hf
  refine tt_aload_n (pc := 0) (i := 0) (j := 0) E dX12_turnKind_0 rfl rfl ?_
  refine tt_iload_n (pc := 1) (i := 1) (j := 1) E dX12_turnKind_1 rfl rfl ?_
  obtain ⟨r_1, hr_2, hf⟩ := bd_some hf
  have hc_3 := cX12_isNear_ok (l := l) (B := B) (D := D) (cT := cT) (n := n) (adK := adK) (adV := adV) hr_2
  refine tt_cZ (pc := 2) (tt_si E lmX12_380 mtX12_isNear hc_3 rfl rfl (Nat.le_of_ble_eq_true rfl) ⟨(Nat.le_of_ble_eq_true rfl), (Nat.le_of_ble_eq_true rfl)⟩ ⟨(Nat.le_of_ble_eq_true rfl), (Nat.le_of_ble_eq_true rfl)⟩ dX12_turnKind_2) (fun z_4 => ?_)
  obtain ⟨r_5, hr_6, hf⟩ := bd_some hf
  have hc_7 := cX12_goes_ok (l := l) (B := B) (D := D) (cT := cT) (n := n) (adK := adK) (adV := adV) h0 z_4 hr_6
  refine tt_cZ (pc := 5) (tt_vi E lmX12_85 mtX12_goes hc_7 h0 rfl rfl (Nat.le_of_ble_eq_true rfl) ⟨(Nat.le_of_ble_eq_true rfl), (Nat.le_of_ble_eq_true rfl)⟩ ⟨(Nat.le_of_ble_eq_true rfl), (Nat.le_of_ble_eq_true rfl)⟩ dX12_turnKind_5) (fun z_8 => ?_)
  refine tt_if_ne (pc := 8) (tgt := 13) E dX12_turnKind_8 rfl (fun c_20 => ?_) (fun c_20 => ?_)
  · have hf := ine c_20 hf
    refine tt_aload_n (pc := 13) (i := 0) (j := 0) E dX12_turnKind_13 rfl rfl ?_
    refine tt_iload_n (pc := 14) (i := 1) (j := 1) E dX12_turnKind_14 rfl rfl ?_
    obtain ⟨r_9, hr_10, hf⟩ := bd_some hf
    have hc_11 := cX12_comes_ok (l := l) (B := B) (D := D) (cT := cT) (n := n) (adK := adK) (adV := adV) h0 hr_10
    refine tt_cZ (pc := 15) (tt_vi E lmX12_383 mtX12_comes hc_11 h0 rfl rfl (Nat.le_of_ble_eq_true rfl) ⟨(Nat.le_of_ble_eq_true rfl), (Nat.le_of_ble_eq_true rfl)⟩ ⟨(Nat.le_of_ble_eq_true rfl), (Nat.le_of_ble_eq_true rfl)⟩ dX12_turnKind_15) (fun z_12 => ?_)
    refine tt_istore_n (pc := 18) (i := 2) (lv' := [(2, .int r_9.1), (0, .ref (B + o0)), (1, .int v1)]) E dX12_turnKind_18 rfl (Nat.le_of_ble_eq_true rfl) rfl ?_
    refine tt_aload_n (pc := 19) (i := 0) (j := 1) E dX12_turnKind_19 rfl rfl ?_
    refine tt_iload_n (pc := 20) (i := 2) (j := 0) E dX12_turnKind_20 rfl rfl ?_
    refine tt_if_eq (pc := 21) (tgt := 31) E dX12_turnKind_21 rfl (fun c_19 => ?_) (fun c_19 => ?_)
    · have hf := ip c_19 hf
      refine tt_iconst (pc := 31) (v := (-1)) E dX12_turnKind_31 ic_m1 ?_
      obtain ⟨r_13, hr_14, hf⟩ := bd_some hf
      have hc_15 := cX12_comesBack_ok (l := l) (B := B) (D := D) (cT := cT) (n := n) (adK := adK) (adV := adV) h0 hr_14
      refine tt_cI (pc := 32) (tt_vi E lmX12_386 mtX12_comesBack hc_15 h0 rfl rfl (Nat.le_of_ble_eq_true rfl) ⟨(Nat.le_of_ble_eq_true rfl), (Nat.le_of_ble_eq_true rfl)⟩ ⟨(Nat.le_of_ble_eq_true rfl), (Nat.le_of_ble_eq_true rfl)⟩ dX12_turnKind_32) ?_
      exact tt_iret (pc := 35) E hr hlk dX12_turnKind_35 (Nat.le_of_ble_eq_true rfl) (Nat.le_of_ble_eq_true rfl) hf
    · have hf := ine c_19 hf
      refine tt_aload_n (pc := 24) (i := 0) (j := 1) E dX12_turnKind_24 rfl rfl ?_
      refine tt_getI (pc := 25) E lfX12_325 rfl h0 dX12_turnKind_25 ?_
      refine tt_goto (pc := 28) (tgt := 32) E dX12_turnKind_28 rfl ?_
      obtain ⟨r_16, hr_17, hf⟩ := bd_some hf
      have hc_18 := cX12_comesBack_ok (l := l) (B := B) (D := D) (cT := cT) (n := n) (adK := adK) (adV := adV) h0 hr_17
      refine tt_cI (pc := 32) (tt_vi E lmX12_386 mtX12_comesBack hc_18 h0 rfl rfl (Nat.le_of_ble_eq_true rfl) ⟨(Nat.le_of_ble_eq_true rfl), (Nat.le_of_ble_eq_true rfl)⟩ ⟨(Nat.le_of_ble_eq_true rfl), (Nat.le_of_ble_eq_true rfl)⟩ dX12_turnKind_32) ?_
      exact tt_iret (pc := 35) E hr hlk dX12_turnKind_35 (Nat.le_of_ble_eq_true rfl) (Nat.le_of_ble_eq_true rfl) hf
  · have hf := ip c_20 hf
    refine tt_iconst (pc := 11) (v := 0) E dX12_turnKind_11 ic_0 ?_
    exact tt_iret (pc := 12) E hr hlk dX12_turnKind_12 (Nat.le_of_ble_eq_true rfl) (Nat.le_of_ble_eq_true rfl) hf
set_option maxHeartbeats 4000000 in
theorem cX12_cellIn_ok {l : Launch} {B : Nat} {D : va_G} {cT : Nat → ClassId} {n : Nat} {adK adV : Nat → Nat} {o0 : Nat} {v1 : Int32} {v2 : Int32} {v3 : Int32} {μ : Mem} {res : Int32 × Mem} (h0 : isK n o0 9) (hf : fX12_cellIn o0 v1 v2 v3 μ = some res) : MI l yX12_cellIn cX12_cellIn 5 (some .int) rmX12_cellIn B D cT (XW B adK adV) n [.ref (B + o0), .int v1, .int v2, .int v3] μ res := by
  refine tt_ofW mtX12_cellIn.1 (Nat.le_of_ble_eq_true rfl) rfl ?_
  intro p e s m below meth c E0 hr hlk
  have E : EE p s m _ c cX12_cellIn 5 RX12 B D cT (XW B adK adV) := E0
  unfold fX12_cellIn at hf
  refine tt_aload_n (pc := 0) (i := 0) (j := 0) E dX12_cellIn_0 rfl rfl ?_
  obtain ⟨r_1, hr_2, hf⟩ := bd_some hf
  have hc_3 := cX12_leaves_ok (l := l) (B := B) (D := D) (cT := cT) (n := n) (adK := adK) (adV := adV) h0 hr_2
  refine tt_cV (pc := 1) (tt_vi E lmX12_374 mtX12_leaves hc_3 h0 rfl rfl (Nat.le_of_ble_eq_true rfl) ⟨(Nat.le_of_ble_eq_true rfl), (Nat.le_of_ble_eq_true rfl)⟩ ⟨(Nat.le_of_ble_eq_true rfl), (Nat.le_of_ble_eq_true rfl)⟩ dX12_cellIn_1) ?_
  refine tt_aload_n (pc := 4) (i := 0) (j := 0) E dX12_cellIn_4 rfl rfl ?_
  refine tt_iload_n (pc := 5) (i := 3) (j := 3) E dX12_cellIn_5 rfl rfl ?_
  obtain ⟨r_4, hr_5, hf⟩ := bd_some hf
  have hc_6 := cX12_plays_ok (l := l) (B := B) (D := D) (cT := cT) (n := n) (adK := adK) (adV := adV) h0 hr_5
  refine tt_cI (pc := 6) (tt_vi E lmX12_377 mtX12_plays hc_6 h0 rfl rfl (Nat.le_of_ble_eq_true rfl) ⟨(Nat.le_of_ble_eq_true rfl), (Nat.le_of_ble_eq_true rfl)⟩ ⟨(Nat.le_of_ble_eq_true rfl), (Nat.le_of_ble_eq_true rfl)⟩ dX12_cellIn_6) ?_
  refine tt_istore (pc := 9) (i := 4) (lv' := [(4, .int r_4.1), (0, .ref (B + o0)), (1, .int v1), (2, .int v2), (3, .int v3)]) E dX12_cellIn_9 (Nat.le_of_ble_eq_true rfl) rfl ?_
  refine tt_aload_n (pc := 11) (i := 0) (j := 1) E dX12_cellIn_11 rfl rfl ?_
  refine tt_aload_n (pc := 12) (i := 0) (j := 1) E dX12_cellIn_12 rfl rfl ?_
  refine tt_iload_n (pc := 13) (i := 1) (j := 2) E dX12_cellIn_13 rfl rfl ?_
  refine tt_iload_n (pc := 14) (i := 2) (j := 3) E dX12_cellIn_14 rfl rfl ?_
  obtain ⟨r_7, hr_8, hf⟩ := bd_some hf
  have hc_9 := cX12_of_ok (l := l) (B := B) (D := D) (cT := cT) (n := n) (adK := adK) (adV := adV) h0 hr_8
  refine tt_cI (pc := 15) (tt_vi E lmX12_192 mtX12_of hc_9 h0 rfl rfl (Nat.le_of_ble_eq_true rfl) ⟨(Nat.le_of_ble_eq_true rfl), (Nat.le_of_ble_eq_true rfl)⟩ ⟨(Nat.le_of_ble_eq_true rfl), (Nat.le_of_ble_eq_true rfl)⟩ dX12_cellIn_15) ?_
  obtain ⟨r_10, hr_11, hf⟩ := bd_some hf
  have hc_12 := cX12_comesBack_ok (l := l) (B := B) (D := D) (cT := cT) (n := n) (adK := adK) (adV := adV) h0 hr_11
  refine tt_cI (pc := 18) (tt_vi E lmX12_386 mtX12_comesBack hc_12 h0 rfl rfl (Nat.le_of_ble_eq_true rfl) ⟨(Nat.le_of_ble_eq_true rfl), (Nat.le_of_ble_eq_true rfl)⟩ ⟨(Nat.le_of_ble_eq_true rfl), (Nat.le_of_ble_eq_true rfl)⟩ dX12_cellIn_18) ?_
  exact tt_iret (pc := 21) E hr hlk dX12_cellIn_21 (Nat.le_of_ble_eq_true rfl) (Nat.le_of_ble_eq_true rfl) hf
set_option maxHeartbeats 4000000 in
theorem cX12_lifeIn_ok {l : Launch} {B : Nat} {D : va_G} {cT : Nat → ClassId} {n : Nat} {adK adV : Nat → Nat} {o0 : Nat} {v1 : Int32} {v2 : Int32} {μ : Mem} {res : Int32 × Mem} (h0 : isK n o0 9) (hf : fX12_lifeIn o0 v1 v2 μ = some res) : MI l yX12_lifeIn cX12_lifeIn 3 (some .int) rmX12_lifeIn B D cT (XW B adK adV) n [.ref (B + o0), .int v1, .int v2] μ res := by
  refine tt_ofW mtX12_lifeIn.1 (Nat.le_of_ble_eq_true rfl) rfl ?_
  intro p e s m below meth c E0 hr hlk
  have E : EE p s m _ c cX12_lifeIn 3 RX12 B D cT (XW B adK adV) := E0
  unfold fX12_lifeIn at hf
  refine tt_aload_n (pc := 0) (i := 0) (j := 0) E dX12_lifeIn_0 rfl rfl ?_
  refine tt_aload_n (pc := 1) (i := 0) (j := 0) E dX12_lifeIn_1 rfl rfl ?_
  refine tt_iload_n (pc := 2) (i := 1) (j := 1) E dX12_lifeIn_2 rfl rfl ?_
  obtain ⟨r_1, hr_2, hf⟩ := bd_some hf
  have hc_3 := cX12_isFighter_ok (l := l) (B := B) (D := D) (cT := cT) (n := n) (adK := adK) (adV := adV) h0 hr_2
  refine tt_cZ (pc := 3) (tt_vi E lmX12_345 mtX12_isFighter hc_3 h0 rfl rfl (Nat.le_of_ble_eq_true rfl) ⟨(Nat.le_of_ble_eq_true rfl), (Nat.le_of_ble_eq_true rfl)⟩ ⟨(Nat.le_of_ble_eq_true rfl), (Nat.le_of_ble_eq_true rfl)⟩ dX12_lifeIn_3) (fun z_4 => ?_)
  refine tt_iload_n (pc := 6) (i := 2) (j := 2) E dX12_lifeIn_6 rfl rfl ?_
  obtain ⟨r_5, hr_6, hf⟩ := bd_some hf
  have hc_7 := cX12_areTurns_ok (l := l) (B := B) (D := D) (cT := cT) (n := n) (adK := adK) (adV := adV) hr_6
  refine tt_cZ (pc := 7) (tt_si E lmX12_389 mtX12_areTurns hc_7 rfl rfl (Nat.le_of_ble_eq_true rfl) ⟨(Nat.le_of_ble_eq_true rfl), (Nat.le_of_ble_eq_true rfl)⟩ ⟨(Nat.le_of_ble_eq_true rfl), (Nat.le_of_ble_eq_true rfl)⟩ dX12_lifeIn_7) (fun z_8 => ?_)
  obtain ⟨r_9, hr_10, hf⟩ := bd_some hf
  have hc_11 := cX12_goesBoth_ok (l := l) (B := B) (D := D) (cT := cT) (n := n) (adK := adK) (adV := adV) h0 z_4 z_8 hr_10
  refine tt_cZ (pc := 10) (tt_vi E lmX12_350 mtX12_goesBoth hc_11 h0 rfl rfl (Nat.le_of_ble_eq_true rfl) ⟨(Nat.le_of_ble_eq_true rfl), (Nat.le_of_ble_eq_true rfl)⟩ ⟨(Nat.le_of_ble_eq_true rfl), (Nat.le_of_ble_eq_true rfl)⟩ dX12_lifeIn_10) (fun z_12 => ?_)
  refine tt_if_eq (pc := 13) (tgt := 26) E dX12_lifeIn_13 rfl (fun c_16 => ?_) (fun c_16 => ?_)
  · have hf := ip c_16 hf
    refine tt_iconst (pc := 26) (v := 0) E dX12_lifeIn_26 ic_0 ?_
    exact tt_iret (pc := 27) E hr hlk dX12_lifeIn_27 (Nat.le_of_ble_eq_true rfl) (Nat.le_of_ble_eq_true rfl) hf
  · have hf := ine c_16 hf
    refine tt_aload_n (pc := 16) (i := 0) (j := 0) E dX12_lifeIn_16 rfl rfl ?_
    refine tt_iload_n (pc := 17) (i := 1) (j := 1) E dX12_lifeIn_17 rfl rfl ?_
    refine tt_iconst (pc := 18) (v := 2) E dX12_lifeIn_18 ic_2 ?_
    refine tt_iload_n (pc := 19) (i := 2) (j := 2) E dX12_lifeIn_19 rfl rfl ?_
    obtain ⟨r_13, hr_14, hf⟩ := bd_some hf
    have hc_15 := cX12_cellIn_ok (l := l) (B := B) (D := D) (cT := cT) (n := n) (adK := adK) (adV := adV) h0 hr_14
    refine tt_cI (pc := 20) (tt_vi E lmX12_392 mtX12_cellIn hc_15 h0 rfl rfl (Nat.le_of_ble_eq_true rfl) ⟨(Nat.le_of_ble_eq_true rfl), (Nat.le_of_ble_eq_true rfl)⟩ ⟨(Nat.le_of_ble_eq_true rfl), (Nat.le_of_ble_eq_true rfl)⟩ dX12_lifeIn_20) ?_
    refine tt_goto (pc := 23) (tgt := 27) E dX12_lifeIn_23 rfl ?_
    exact tt_iret (pc := 27) E hr hlk dX12_lifeIn_27 (Nat.le_of_ble_eq_true rfl) (Nat.le_of_ble_eq_true rfl) hf
set_option maxHeartbeats 4000000 in
theorem cX12_gaugeIn_ok {l : Launch} {B : Nat} {D : va_G} {cT : Nat → ClassId} {n : Nat} {adK adV : Nat → Nat} {o0 : Nat} {v1 : Int32} {v2 : Int32} {μ : Mem} {res : Int32 × Mem} (h0 : isK n o0 9) (hf : fX12_gaugeIn o0 v1 v2 μ = some res) : MI l yX12_gaugeIn cX12_gaugeIn 3 (some .int) rmX12_gaugeIn B D cT (XW B adK adV) n [.ref (B + o0), .int v1, .int v2] μ res := by
  refine tt_ofW mtX12_gaugeIn.1 (Nat.le_of_ble_eq_true rfl) rfl ?_
  intro p e s m below meth c E0 hr hlk
  have E : EE p s m _ c cX12_gaugeIn 3 RX12 B D cT (XW B adK adV) := E0
  unfold fX12_gaugeIn at hf
  refine tt_aload_n (pc := 0) (i := 0) (j := 0) E dX12_gaugeIn_0 rfl rfl ?_
  refine tt_aload_n (pc := 1) (i := 0) (j := 0) E dX12_gaugeIn_1 rfl rfl ?_
  refine tt_iload_n (pc := 2) (i := 1) (j := 1) E dX12_gaugeIn_2 rfl rfl ?_
  obtain ⟨r_1, hr_2, hf⟩ := bd_some hf
  have hc_3 := cX12_isFighter_ok (l := l) (B := B) (D := D) (cT := cT) (n := n) (adK := adK) (adV := adV) h0 hr_2
  refine tt_cZ (pc := 3) (tt_vi E lmX12_345 mtX12_isFighter hc_3 h0 rfl rfl (Nat.le_of_ble_eq_true rfl) ⟨(Nat.le_of_ble_eq_true rfl), (Nat.le_of_ble_eq_true rfl)⟩ ⟨(Nat.le_of_ble_eq_true rfl), (Nat.le_of_ble_eq_true rfl)⟩ dX12_gaugeIn_3) (fun z_4 => ?_)
  refine tt_iload_n (pc := 6) (i := 2) (j := 2) E dX12_gaugeIn_6 rfl rfl ?_
  obtain ⟨r_5, hr_6, hf⟩ := bd_some hf
  have hc_7 := cX12_areTurns_ok (l := l) (B := B) (D := D) (cT := cT) (n := n) (adK := adK) (adV := adV) hr_6
  refine tt_cZ (pc := 7) (tt_si E lmX12_389 mtX12_areTurns hc_7 rfl rfl (Nat.le_of_ble_eq_true rfl) ⟨(Nat.le_of_ble_eq_true rfl), (Nat.le_of_ble_eq_true rfl)⟩ ⟨(Nat.le_of_ble_eq_true rfl), (Nat.le_of_ble_eq_true rfl)⟩ dX12_gaugeIn_7) (fun z_8 => ?_)
  obtain ⟨r_9, hr_10, hf⟩ := bd_some hf
  have hc_11 := cX12_goesBoth_ok (l := l) (B := B) (D := D) (cT := cT) (n := n) (adK := adK) (adV := adV) h0 z_4 z_8 hr_10
  refine tt_cZ (pc := 10) (tt_vi E lmX12_350 mtX12_goesBoth hc_11 h0 rfl rfl (Nat.le_of_ble_eq_true rfl) ⟨(Nat.le_of_ble_eq_true rfl), (Nat.le_of_ble_eq_true rfl)⟩ ⟨(Nat.le_of_ble_eq_true rfl), (Nat.le_of_ble_eq_true rfl)⟩ dX12_gaugeIn_10) (fun z_12 => ?_)
  refine tt_if_eq (pc := 13) (tgt := 26) E dX12_gaugeIn_13 rfl (fun c_16 => ?_) (fun c_16 => ?_)
  · have hf := ip c_16 hf
    refine tt_iconst (pc := 26) (v := 0) E dX12_gaugeIn_26 ic_0 ?_
    exact tt_iret (pc := 27) E hr hlk dX12_gaugeIn_27 (Nat.le_of_ble_eq_true rfl) (Nat.le_of_ble_eq_true rfl) hf
  · have hf := ine c_16 hf
    refine tt_aload_n (pc := 16) (i := 0) (j := 0) E dX12_gaugeIn_16 rfl rfl ?_
    refine tt_iload_n (pc := 17) (i := 1) (j := 1) E dX12_gaugeIn_17 rfl rfl ?_
    refine tt_iconst (pc := 18) (v := 4) E dX12_gaugeIn_18 ic_4 ?_
    refine tt_iload_n (pc := 19) (i := 2) (j := 2) E dX12_gaugeIn_19 rfl rfl ?_
    obtain ⟨r_13, hr_14, hf⟩ := bd_some hf
    have hc_15 := cX12_cellIn_ok (l := l) (B := B) (D := D) (cT := cT) (n := n) (adK := adK) (adV := adV) h0 hr_14
    refine tt_cI (pc := 20) (tt_vi E lmX12_392 mtX12_cellIn hc_15 h0 rfl rfl (Nat.le_of_ble_eq_true rfl) ⟨(Nat.le_of_ble_eq_true rfl), (Nat.le_of_ble_eq_true rfl)⟩ ⟨(Nat.le_of_ble_eq_true rfl), (Nat.le_of_ble_eq_true rfl)⟩ dX12_gaugeIn_20) ?_
    refine tt_goto (pc := 23) (tgt := 27) E dX12_gaugeIn_23 rfl ?_
    exact tt_iret (pc := 27) E hr hlk dX12_gaugeIn_27 (Nat.le_of_ble_eq_true rfl) (Nat.le_of_ble_eq_true rfl) hf
set_option maxHeartbeats 4000000 in
theorem cX12_turnsOf_ok {l : Launch} {B : Nat} {D : va_G} {cT : Nat → ClassId} {n : Nat} {adK adV : Nat → Nat} {o0 : Nat} {v1 : Int32} {v2 : Int32} {μ : Mem} {res : Int32 × Mem} (h0 : isK n o0 9) (hf : fX12_turnsOf o0 v1 v2 μ = some res) : MI l yX12_turnsOf cX12_turnsOf 3 (some .int) rmX12_turnsOf B D cT (XW B adK adV) n [.ref (B + o0), .int v1, .int v2] μ res := by
  refine tt_ofW mtX12_turnsOf.1 (Nat.le_of_ble_eq_true rfl) rfl ?_
  intro p e s m below meth c E0 hr hlk
  have E : EE p s m _ c cX12_turnsOf 3 RX12 B D cT (XW B adK adV) := E0
  unfold fX12_turnsOf at hf
  refine tt_aload_n (pc := 0) (i := 0) (j := 0) E dX12_turnsOf_0 rfl rfl ?_
  refine tt_aload_n (pc := 1) (i := 0) (j := 0) E dX12_turnsOf_1 rfl rfl ?_
  refine tt_iload_n (pc := 2) (i := 1) (j := 1) E dX12_turnsOf_2 rfl rfl ?_
  obtain ⟨r_1, hr_2, hf⟩ := bd_some hf
  have hc_3 := cX12_isFighter_ok (l := l) (B := B) (D := D) (cT := cT) (n := n) (adK := adK) (adV := adV) h0 hr_2
  refine tt_cZ (pc := 3) (tt_vi E lmX12_345 mtX12_isFighter hc_3 h0 rfl rfl (Nat.le_of_ble_eq_true rfl) ⟨(Nat.le_of_ble_eq_true rfl), (Nat.le_of_ble_eq_true rfl)⟩ ⟨(Nat.le_of_ble_eq_true rfl), (Nat.le_of_ble_eq_true rfl)⟩ dX12_turnsOf_3) (fun z_4 => ?_)
  refine tt_iload_n (pc := 6) (i := 2) (j := 2) E dX12_turnsOf_6 rfl rfl ?_
  obtain ⟨r_5, hr_6, hf⟩ := bd_some hf
  have hc_7 := cX12_areTurns_ok (l := l) (B := B) (D := D) (cT := cT) (n := n) (adK := adK) (adV := adV) hr_6
  refine tt_cZ (pc := 7) (tt_si E lmX12_389 mtX12_areTurns hc_7 rfl rfl (Nat.le_of_ble_eq_true rfl) ⟨(Nat.le_of_ble_eq_true rfl), (Nat.le_of_ble_eq_true rfl)⟩ ⟨(Nat.le_of_ble_eq_true rfl), (Nat.le_of_ble_eq_true rfl)⟩ dX12_turnsOf_7) (fun z_8 => ?_)
  obtain ⟨r_9, hr_10, hf⟩ := bd_some hf
  have hc_11 := cX12_goesBoth_ok (l := l) (B := B) (D := D) (cT := cT) (n := n) (adK := adK) (adV := adV) h0 z_4 z_8 hr_10
  refine tt_cZ (pc := 10) (tt_vi E lmX12_350 mtX12_goesBoth hc_11 h0 rfl rfl (Nat.le_of_ble_eq_true rfl) ⟨(Nat.le_of_ble_eq_true rfl), (Nat.le_of_ble_eq_true rfl)⟩ ⟨(Nat.le_of_ble_eq_true rfl), (Nat.le_of_ble_eq_true rfl)⟩ dX12_turnsOf_10) (fun z_12 => ?_)
  refine tt_if_ne (pc := 13) (tgt := 18) E dX12_turnsOf_13 rfl (fun c_19 => ?_) (fun c_19 => ?_)
  · have hf := ine c_19 hf
    refine tt_aload_n (pc := 18) (i := 0) (j := 0) E dX12_turnsOf_18 rfl rfl ?_
    refine tt_iload_n (pc := 19) (i := 1) (j := 1) E dX12_turnsOf_19 rfl rfl ?_
    refine tt_bipush (pc := 20) (v := 9) E dX12_turnsOf_20 bc_9 ?_
    refine tt_iload_n (pc := 22) (i := 2) (j := 2) E dX12_turnsOf_22 rfl rfl ?_
    obtain ⟨r_13, hr_14, hf⟩ := bd_some hf
    have hc_15 := cX12_cellIn_ok (l := l) (B := B) (D := D) (cT := cT) (n := n) (adK := adK) (adV := adV) h0 hr_14
    refine tt_cI (pc := 23) (tt_vi E lmX12_392 mtX12_cellIn hc_15 h0 rfl rfl (Nat.le_of_ble_eq_true rfl) ⟨(Nat.le_of_ble_eq_true rfl), (Nat.le_of_ble_eq_true rfl)⟩ ⟨(Nat.le_of_ble_eq_true rfl), (Nat.le_of_ble_eq_true rfl)⟩ dX12_turnsOf_23) ?_
    refine tt_aload_n (pc := 26) (i := 0) (j := 0) E dX12_turnsOf_26 rfl rfl ?_
    refine tt_iload_n (pc := 27) (i := 1) (j := 1) E dX12_turnsOf_27 rfl rfl ?_
    refine tt_bipush (pc := 28) (v := 9) E dX12_turnsOf_28 bc_9 ?_
    obtain ⟨r_16, hr_17, hf⟩ := bd_some hf
    have hc_18 := cX12_of_ok (l := l) (B := B) (D := D) (cT := cT) (n := n) (adK := adK) (adV := adV) h0 hr_17
    refine tt_cI (pc := 30) (tt_vi E lmX12_192 mtX12_of hc_18 h0 rfl rfl (Nat.le_of_ble_eq_true rfl) ⟨(Nat.le_of_ble_eq_true rfl), (Nat.le_of_ble_eq_true rfl)⟩ ⟨(Nat.le_of_ble_eq_true rfl), (Nat.le_of_ble_eq_true rfl)⟩ dX12_turnsOf_30) ?_
    refine tt_isub (pc := 33) E dX12_turnsOf_33 ?_
    exact tt_iret (pc := 34) E hr hlk dX12_turnsOf_34 (Nat.le_of_ble_eq_true rfl) (Nat.le_of_ble_eq_true rfl) hf
  · have hf := ip c_19 hf
    refine tt_iconst (pc := 16) (v := 0) E dX12_turnsOf_16 ic_0 ?_
    exact tt_iret (pc := 17) E hr hlk dX12_turnsOf_17 (Nat.le_of_ble_eq_true rfl) (Nat.le_of_ble_eq_true rfl) hf
set_option maxHeartbeats 4000000 in
theorem tX12_longestRun_60 {p : Program} {l : Launch} {e : Env} {s : State} {m : MethodId} {args : Array Value} {below : List Frame} {meth : Method} {c : Code} {B : Nat} {D : va_G} {cT : Nat → ClassId} {n : Nat} {adK adV : Nat → Nat} {res : Int32 × Mem} (E : EE p s m args c cX12_longestRun 6 RX12 B D cT (XW B adK adV)) (hr : meth.sig.returnType = some .int) (hlk : meth.locks = false) {kb27 : Int32 → Int32 → Int32 → Int32 → Mem → Option (Int32 × Mem)} {o0 : Nat} {v1 : Int32} {v2 : Int32} {v5 : Int32} {vt0 : Int32} (h0 : isK n o0 9) {μ : Mem} (hk27 : ∀ (v2b : Int32) (v3b : Int32) (v4b : Int32) (v5b : Int32) (μb : Mem), kb27 v2b v3b v4b v5b μb = some res → TT p l e rmX12_longestRun s m args below meth c (QI B D cT n below args s res) 6 B D cT n 0 0 μb 27 [(0, .ref (B + o0)), (1, .int v1), (2, .int v2b), (3, .int v3b), (4, .int v4b), (5, .int v5b)] []) (hf : fX12_longestRun_60 kb27 o0 v1 v2 v5 vt0 μ = some res) : TT p l e rmX12_longestRun s m args below meth c (QI B D cT n below args s res) 6 B D cT n 0 0 μ 60 [(0, .ref (B + o0)), (1, .int v1), (2, .int v2), (5, .int v5)] [.int vt0] := by
  unfold fX12_longestRun_60 at hf
  refine tt_istore_n (pc := 60) (i := 3) (lv' := [(3, .int vt0), (0, .ref (B + o0)), (1, .int v1), (2, .int v2), (5, .int v5)]) E dX12_longestRun_60 rfl (Nat.le_of_ble_eq_true rfl) rfl ?_
  refine tt_aload_n (pc := 61) (i := 0) (j := 1) E dX12_longestRun_61 rfl rfl ?_
  refine tt_getI (pc := 62) E lfX12_322 rfl h0 dX12_longestRun_62 ?_
  refine tt_nmI hf (fun v_1 hf => ?_)
  refine tt_istore (pc := 65) (i := 4) (lv' := [(4, .int v_1), (3, .int vt0), (0, .ref (B + o0)), (1, .int v1), (2, .int v2), (5, .int v5)]) E dX12_longestRun_65 (Nat.le_of_ble_eq_true rfl) rfl ?_
  refine tt_iload_n (pc := 67) (i := 2) (j := 4) E dX12_longestRun_67 rfl rfl ?_
  refine tt_iload_n (pc := 68) (i := 3) (j := 1) E dX12_longestRun_68 rfl rfl ?_
  obtain ⟨r_2, hr_3, hf⟩ := bd_some hf
  have hc_4 := cX12_greater_ok (l := l) (B := B) (D := D) (cT := cT) (n := n) (adK := adK) (adV := adV) hr_3
  refine tt_cI (pc := 69) (tt_si E lmX12_294 mtX12_greater hc_4 rfl rfl (Nat.le_of_ble_eq_true rfl) ⟨(Nat.le_of_ble_eq_true rfl), (Nat.le_of_ble_eq_true rfl)⟩ ⟨(Nat.le_of_ble_eq_true rfl), (Nat.le_of_ble_eq_true rfl)⟩ dX12_longestRun_69) ?_
  refine tt_istore_n (pc := 72) (i := 2) (lv' := [(2, .int r_2), (4, .int v_1), (3, .int vt0), (0, .ref (B + o0)), (1, .int v1), (5, .int v5)]) E dX12_longestRun_72 rfl (Nat.le_of_ble_eq_true rfl) rfl ?_
  obtain ⟨v_5, ev_5, hf⟩ := nm_ex hf
  refine tt_iinc (pc := 73) (i := 5) (j := 5) (lv' := [(5, .int v_5), (2, .int r_2), (4, .int v_1), (3, .int vt0), (0, .ref (B + o0)), (1, .int v1)]) E dX12_longestRun_73 rfl (ev_5).symm (Nat.le_of_ble_eq_true rfl) rfl ?_
  refine tt_goto (pc := 76) (tgt := 27) E dX12_longestRun_76 rfl ?_
  refine tt_sub [4, 5, 1, 3, 2, 0] (lv' := [(0, .ref (B + o0)), (1, .int v1), (2, .int r_2), (3, .int vt0), (4, .int v_1), (5, .int v_5)]) rfl ?_
  exact hk27 r_2 vt0 v_1 v_5 μ hf
set_option maxHeartbeats 4000000 in
theorem tX12_longestRun_27 {p : Program} {l : Launch} {e : Env} {s : State} {m : MethodId} {args : Array Value} {below : List Frame} {meth : Method} {c : Code} {B : Nat} {D : va_G} {cT : Nat → ClassId} {n : Nat} {adK adV : Nat → Nat} {res : Int32 × Mem} (E : EE p s m args c cX12_longestRun 6 RX12 B D cT (XW B adK adV)) (hr : meth.sig.returnType = some .int) (hlk : meth.locks = false) {o0 : Nat} {v1 : Int32} (h0 : isK n o0 9) : ∀ (fu : Nat) (v2 : Int32) (v3 : Int32) (v4 : Int32) (v5 : Int32) (μ : Mem), zl5 (gX12_longestRun_27 o0 v1) fu v2 v3 v4 v5 μ = some res → TT p l e rmX12_longestRun s m args below meth c (QI B D cT n below args s res) 6 B D cT n 0 0 μ 27 [(0, .ref (B + o0)), (1, .int v1), (2, .int v2), (3, .int v3), (4, .int v4), (5, .int v5)] [] := by
  intro fu
  induction fu with
  | zero => intro v2 v3 v4 v5 μ hf; exact absurd hf (fun h => by cases h)
  | succ fu ih =>
    intro v2 v3 v4 v5 μ hf
    have hf : gX12_longestRun_27 o0 v1 (zl5 (gX12_longestRun_27 o0 v1) fu) v2 v3 v4 v5 μ = some res := hf
    unfold gX12_longestRun_27 at hf
    refine tt_iload (pc := 27) (i := 5) (j := 5) E dX12_longestRun_27 rfl ?_
    refine tt_iload_n (pc := 29) (i := 1) (j := 1) E dX12_longestRun_29 rfl rfl ?_
    refine tt_icmp_ge (pc := 30) (tgt := 79) E dX12_longestRun_30 rfl (fun c_16 => ?_) (fun c_16 => ?_)
    · have hf := ip c_16 hf
      refine tt_aload_n (pc := 79) (i := 0) (j := 0) E dX12_longestRun_79 rfl rfl ?_
      refine tt_iload_n (pc := 80) (i := 2) (j := 2) E dX12_longestRun_80 rfl rfl ?_
      obtain ⟨r_1, hr_2, hf⟩ := bd_some hf
      have hc_3 := cX12_comesBack_ok (l := l) (B := B) (D := D) (cT := cT) (n := n) (adK := adK) (adV := adV) h0 hr_2
      refine tt_cI (pc := 81) (tt_vi E lmX12_386 mtX12_comesBack hc_3 h0 rfl rfl (Nat.le_of_ble_eq_true rfl) ⟨(Nat.le_of_ble_eq_true rfl), (Nat.le_of_ble_eq_true rfl)⟩ ⟨(Nat.le_of_ble_eq_true rfl), (Nat.le_of_ble_eq_true rfl)⟩ dX12_longestRun_81) ?_
      exact tt_iret (pc := 84) E hr hlk dX12_longestRun_84 (Nat.le_of_ble_eq_true rfl) (Nat.le_of_ble_eq_true rfl) hf
    · have hf := ine c_16 hf
      refine tt_aload_n (pc := 33) (i := 0) (j := 0) E dX12_longestRun_33 rfl rfl ?_
      obtain ⟨r_4, hr_5, hf⟩ := bd_some hf
      have hc_6 := cX12_isOver_ok (l := l) (B := B) (D := D) (cT := cT) (n := n) (adK := adK) (adV := adV) h0 hr_5
      refine tt_cZ (pc := 34) (tt_vi E lmX12_269 mtX12_isOver hc_6 h0 rfl rfl (Nat.le_of_ble_eq_true rfl) ⟨(Nat.le_of_ble_eq_true rfl), (Nat.le_of_ble_eq_true rfl)⟩ ⟨(Nat.le_of_ble_eq_true rfl), (Nat.le_of_ble_eq_true rfl)⟩ dX12_longestRun_34) (fun z_7 => ?_)
      refine tt_if_ne (pc := 37) (tgt := 79) E dX12_longestRun_37 rfl (fun c_15 => ?_) (fun c_15 => ?_)
      · have hf := ine c_15 hf
        refine tt_aload_n (pc := 79) (i := 0) (j := 0) E dX12_longestRun_79 rfl rfl ?_
        refine tt_iload_n (pc := 80) (i := 2) (j := 2) E dX12_longestRun_80 rfl rfl ?_
        obtain ⟨r_8, hr_9, hf⟩ := bd_some hf
        have hc_10 := cX12_comesBack_ok (l := l) (B := B) (D := D) (cT := cT) (n := n) (adK := adK) (adV := adV) h0 hr_9
        refine tt_cI (pc := 81) (tt_vi E lmX12_386 mtX12_comesBack hc_10 h0 rfl rfl (Nat.le_of_ble_eq_true rfl) ⟨(Nat.le_of_ble_eq_true rfl), (Nat.le_of_ble_eq_true rfl)⟩ ⟨(Nat.le_of_ble_eq_true rfl), (Nat.le_of_ble_eq_true rfl)⟩ dX12_longestRun_81) ?_
        exact tt_iret (pc := 84) E hr hlk dX12_longestRun_84 (Nat.le_of_ble_eq_true rfl) (Nat.le_of_ble_eq_true rfl) hf
      · have hf := ip c_15 hf
        refine tt_aload_n (pc := 40) (i := 0) (j := 0) E dX12_longestRun_40 rfl rfl ?_
        obtain ⟨r_11, hr_12, hf⟩ := bd_some hf
        have hc_13 := cX12_turns_ok (l := l) (B := B) (D := D) (cT := cT) (n := n) (adK := adK) (adV := adV) h0 hr_12
        refine tt_cV (pc := 41) (tt_vi E lmX12_331 mtX12_turns hc_13 h0 rfl rfl (Nat.le_of_ble_eq_true rfl) ⟨(Nat.le_of_ble_eq_true rfl), (Nat.le_of_ble_eq_true rfl)⟩ ⟨(Nat.le_of_ble_eq_true rfl), (Nat.le_of_ble_eq_true rfl)⟩ dX12_longestRun_41) ?_
        refine tt_aload_n (pc := 44) (i := 0) (j := 0) E dX12_longestRun_44 rfl rfl ?_
        refine tt_getI (pc := 45) E lfX12_322 rfl h0 dX12_longestRun_45 ?_
        refine tt_iload (pc := 48) (i := 4) (j := 4) E dX12_longestRun_48 rfl ?_
        refine tt_icmp_ne (pc := 50) (tgt := 59) E dX12_longestRun_50 rfl (fun c_14 => ?_) (fun c_14 => ?_)
        · have hf := ine c_14 hf
          refine tt_iconst (pc := 59) (v := 1) E dX12_longestRun_59 ic_1 ?_
          refine tt_sub [0, 1, 2, 5] (lv' := [(0, .ref (B + o0)), (1, .int v1), (2, .int v2), (5, .int v5)]) rfl ?_
          exact tX12_longestRun_60 E hr hlk h0 ih hf
        · have hf := ip c_14 hf
          refine tt_iload_n (pc := 53) (i := 3) (j := 3) E dX12_longestRun_53 rfl rfl ?_
          refine tt_iconst (pc := 54) (v := 1) E dX12_longestRun_54 ic_1 ?_
          refine tt_iadd (pc := 55) E dX12_longestRun_55 ?_
          refine tt_goto (pc := 56) (tgt := 60) E dX12_longestRun_56 rfl ?_
          refine tt_sub [0, 1, 2, 5] (lv' := [(0, .ref (B + o0)), (1, .int v1), (2, .int v2), (5, .int v5)]) rfl ?_
          exact tX12_longestRun_60 E hr hlk h0 ih hf
set_option maxHeartbeats 4000000 in
theorem cX12_longestRun_ok {l : Launch} {B : Nat} {D : va_G} {cT : Nat → ClassId} {n : Nat} {adK adV : Nat → Nat} {o0 : Nat} {v1 : Int32} {μ : Mem} {res : Int32 × Mem} (h0 : isK n o0 9) (hf : fX12_longestRun o0 v1 μ = some res) : MI l yX12_longestRun cX12_longestRun 6 (some .int) rmX12_longestRun B D cT (XW B adK adV) n [.ref (B + o0), .int v1] μ res := by
  refine tt_ofW mtX12_longestRun.1 (Nat.le_of_ble_eq_true rfl) rfl ?_
  intro p e s m below meth c E0 hr hlk
  have E : EE p s m _ c cX12_longestRun 6 RX12 B D cT (XW B adK adV) := E0
  unfold fX12_longestRun at hf
  refine tt_aload_n (pc := 0) (i := 0) (j := 0) E dX12_longestRun_0 rfl rfl ?_
  refine tt_iload_n (pc := 1) (i := 1) (j := 1) E dX12_longestRun_1 rfl rfl ?_
  obtain ⟨r_1, hr_2, hf⟩ := bd_some hf
  have hc_3 := cX12_areTurns_ok (l := l) (B := B) (D := D) (cT := cT) (n := n) (adK := adK) (adV := adV) hr_2
  refine tt_cZ (pc := 2) (tt_si E lmX12_389 mtX12_areTurns hc_3 rfl rfl (Nat.le_of_ble_eq_true rfl) ⟨(Nat.le_of_ble_eq_true rfl), (Nat.le_of_ble_eq_true rfl)⟩ ⟨(Nat.le_of_ble_eq_true rfl), (Nat.le_of_ble_eq_true rfl)⟩ dX12_longestRun_2) (fun z_4 => ?_)
  obtain ⟨r_5, hr_6, hf⟩ := bd_some hf
  have hc_7 := cX12_goes_ok (l := l) (B := B) (D := D) (cT := cT) (n := n) (adK := adK) (adV := adV) h0 z_4 hr_6
  refine tt_cZ (pc := 5) (tt_vi E lmX12_85 mtX12_goes hc_7 h0 rfl rfl (Nat.le_of_ble_eq_true rfl) ⟨(Nat.le_of_ble_eq_true rfl), (Nat.le_of_ble_eq_true rfl)⟩ ⟨(Nat.le_of_ble_eq_true rfl), (Nat.le_of_ble_eq_true rfl)⟩ dX12_longestRun_5) (fun z_8 => ?_)
  refine tt_if_ne (pc := 8) (tgt := 13) E dX12_longestRun_8 rfl (fun c_12 => ?_) (fun c_12 => ?_)
  · have hf := ine c_12 hf
    refine tt_aload_n (pc := 13) (i := 0) (j := 0) E dX12_longestRun_13 rfl rfl ?_
    obtain ⟨r_9, hr_10, hf⟩ := bd_some hf
    have hc_11 := cX12_leaves_ok (l := l) (B := B) (D := D) (cT := cT) (n := n) (adK := adK) (adV := adV) h0 hr_10
    refine tt_cV (pc := 14) (tt_vi E lmX12_374 mtX12_leaves hc_11 h0 rfl rfl (Nat.le_of_ble_eq_true rfl) ⟨(Nat.le_of_ble_eq_true rfl), (Nat.le_of_ble_eq_true rfl)⟩ ⟨(Nat.le_of_ble_eq_true rfl), (Nat.le_of_ble_eq_true rfl)⟩ dX12_longestRun_14) ?_
    refine tt_iconst (pc := 17) (v := 0) E dX12_longestRun_17 ic_0 ?_
    refine tt_istore_n (pc := 18) (i := 2) (lv' := [(2, .int 0), (0, .ref (B + o0)), (1, .int v1)]) E dX12_longestRun_18 rfl (Nat.le_of_ble_eq_true rfl) rfl ?_
    refine tt_iconst (pc := 19) (v := 0) E dX12_longestRun_19 ic_0 ?_
    refine tt_istore_n (pc := 20) (i := 3) (lv' := [(3, .int 0), (2, .int 0), (0, .ref (B + o0)), (1, .int v1)]) E dX12_longestRun_20 rfl (Nat.le_of_ble_eq_true rfl) rfl ?_
    refine tt_iconst (pc := 21) (v := (-1)) E dX12_longestRun_21 ic_m1 ?_
    refine tt_istore (pc := 22) (i := 4) (lv' := [(4, .int ((-1))), (3, .int 0), (2, .int 0), (0, .ref (B + o0)), (1, .int v1)]) E dX12_longestRun_22 (Nat.le_of_ble_eq_true rfl) rfl ?_
    refine tt_iconst (pc := 24) (v := 0) E dX12_longestRun_24 ic_0 ?_
    refine tt_istore (pc := 25) (i := 5) (lv' := [(5, .int 0), (4, .int ((-1))), (3, .int 0), (2, .int 0), (0, .ref (B + o0)), (1, .int v1)]) E dX12_longestRun_25 (Nat.le_of_ble_eq_true rfl) rfl ?_
    refine tt_sub [4, 5, 3, 2, 1, 0] (lv' := [(0, .ref (B + o0)), (1, .int v1), (2, .int 0), (3, .int 0), (4, .int ((-1))), (5, .int 0)]) rfl ?_
    exact tX12_longestRun_27 E hr hlk h0 FU 0 0 ((-1)) 0 r_9 hf
  · have hf := ip c_12 hf
    refine tt_iconst (pc := 11) (v := 0) E dX12_longestRun_11 ic_0 ?_
    exact tt_iret (pc := 12) E hr hlk dX12_longestRun_12 (Nat.le_of_ble_eq_true rfl) (Nat.le_of_ble_eq_true rfl) hf
set_option maxHeartbeats 4000000 in
theorem cX12_endsWithin_ok {l : Launch} {B : Nat} {D : va_G} {cT : Nat → ClassId} {n : Nat} {adK adV : Nat → Nat} {o0 : Nat} {μ : Mem} {res : Int32 × Mem} (h0 : isK n o0 9) (hf : fX12_endsWithin o0 μ = some res) : MI l yX12_endsWithin cX12_endsWithin 2 (some .int) rmX12_endsWithin B D cT (XW B adK adV) n [.ref (B + o0)] μ res := by
  refine tt_ofW mtX12_endsWithin.1 (Nat.le_of_ble_eq_true rfl) rfl ?_
  intro p e s m below meth c E0 hr hlk
  have E : EE p s m _ c cX12_endsWithin 2 RX12 B D cT (XW B adK adV) := E0
  unfold fX12_endsWithin at hf
  refine tt_aload_n (pc := 0) (i := 0) (j := 0) E dX12_endsWithin_0 rfl rfl ?_
  obtain ⟨r_1, hr_2, hf⟩ := bd_some hf
  have hc_3 := cX12_leaves_ok (l := l) (B := B) (D := D) (cT := cT) (n := n) (adK := adK) (adV := adV) h0 hr_2
  refine tt_cV (pc := 1) (tt_vi E lmX12_374 mtX12_leaves hc_3 h0 rfl rfl (Nat.le_of_ble_eq_true rfl) ⟨(Nat.le_of_ble_eq_true rfl), (Nat.le_of_ble_eq_true rfl)⟩ ⟨(Nat.le_of_ble_eq_true rfl), (Nat.le_of_ble_eq_true rfl)⟩ dX12_endsWithin_1) ?_
  refine tt_aload_n (pc := 4) (i := 0) (j := 0) E dX12_endsWithin_4 rfl rfl ?_
  refine tt_sipush (pc := 5) (v := 200) E dX12_endsWithin_5 sc_200 ?_
  obtain ⟨r_4, hr_5, hf⟩ := bd_some hf
  have hc_6 := cX12_plays_ok (l := l) (B := B) (D := D) (cT := cT) (n := n) (adK := adK) (adV := adV) h0 hr_5
  refine tt_cI (pc := 8) (tt_vi E lmX12_377 mtX12_plays hc_6 h0 rfl rfl (Nat.le_of_ble_eq_true rfl) ⟨(Nat.le_of_ble_eq_true rfl), (Nat.le_of_ble_eq_true rfl)⟩ ⟨(Nat.le_of_ble_eq_true rfl), (Nat.le_of_ble_eq_true rfl)⟩ dX12_endsWithin_8) ?_
  refine tt_istore_n (pc := 11) (i := 1) (lv' := [(1, .int r_4.1), (0, .ref (B + o0))]) E dX12_endsWithin_11 rfl (Nat.le_of_ble_eq_true rfl) rfl ?_
  refine tt_aload_n (pc := 12) (i := 0) (j := 1) E dX12_endsWithin_12 rfl rfl ?_
  refine tt_aload_n (pc := 13) (i := 0) (j := 1) E dX12_endsWithin_13 rfl rfl ?_
  obtain ⟨r_7, hr_8, hf⟩ := bd_some hf
  have hc_9 := cX12_isOver_ok (l := l) (B := B) (D := D) (cT := cT) (n := n) (adK := adK) (adV := adV) h0 hr_8
  refine tt_cZ (pc := 14) (tt_vi E lmX12_269 mtX12_isOver hc_9 h0 rfl rfl (Nat.le_of_ble_eq_true rfl) ⟨(Nat.le_of_ble_eq_true rfl), (Nat.le_of_ble_eq_true rfl)⟩ ⟨(Nat.le_of_ble_eq_true rfl), (Nat.le_of_ble_eq_true rfl)⟩ dX12_endsWithin_14) (fun z_10 => ?_)
  refine tt_if_eq (pc := 17) (tgt := 24) E dX12_endsWithin_17 rfl (fun c_17 => ?_) (fun c_17 => ?_)
  · have hf := ip c_17 hf
    refine tt_iconst (pc := 24) (v := (-1)) E dX12_endsWithin_24 ic_m1 ?_
    obtain ⟨r_11, hr_12, hf⟩ := bd_some hf
    have hc_13 := cX12_comesBack_ok (l := l) (B := B) (D := D) (cT := cT) (n := n) (adK := adK) (adV := adV) h0 hr_12
    refine tt_cI (pc := 25) (tt_vi E lmX12_386 mtX12_comesBack hc_13 h0 rfl rfl (Nat.le_of_ble_eq_true rfl) ⟨(Nat.le_of_ble_eq_true rfl), (Nat.le_of_ble_eq_true rfl)⟩ ⟨(Nat.le_of_ble_eq_true rfl), (Nat.le_of_ble_eq_true rfl)⟩ dX12_endsWithin_25) ?_
    exact tt_iret (pc := 28) E hr hlk dX12_endsWithin_28 (Nat.le_of_ble_eq_true rfl) (Nat.le_of_ble_eq_true rfl) hf
  · have hf := ine c_17 hf
    refine tt_iload_n (pc := 20) (i := 1) (j := 0) E dX12_endsWithin_20 rfl rfl ?_
    refine tt_goto (pc := 21) (tgt := 25) E dX12_endsWithin_21 rfl ?_
    obtain ⟨r_14, hr_15, hf⟩ := bd_some hf
    have hc_16 := cX12_comesBack_ok (l := l) (B := B) (D := D) (cT := cT) (n := n) (adK := adK) (adV := adV) h0 hr_15
    refine tt_cI (pc := 25) (tt_vi E lmX12_386 mtX12_comesBack hc_16 h0 rfl rfl (Nat.le_of_ble_eq_true rfl) ⟨(Nat.le_of_ble_eq_true rfl), (Nat.le_of_ble_eq_true rfl)⟩ ⟨(Nat.le_of_ble_eq_true rfl), (Nat.le_of_ble_eq_true rfl)⟩ dX12_endsWithin_25) ?_
    exact tt_iret (pc := 28) E hr hlk dX12_endsWithin_28 (Nat.le_of_ble_eq_true rfl) (Nat.le_of_ble_eq_true rfl) hf
set_option maxHeartbeats 4000000 in
theorem cX12_endsIn_ok {l : Launch} {B : Nat} {D : va_G} {cT : Nat → ClassId} {n : Nat} {adK adV : Nat → Nat} {o0 : Nat} {μ : Mem} {res : Int32 × Mem} (h0 : isK n o0 9) (hf : fX12_endsIn o0 μ = some res) : MI l yX12_endsIn cX12_endsIn 1 (some .int) rmX12_endsIn B D cT (XW B adK adV) n [.ref (B + o0)] μ res := by
  refine tt_ofW mtX12_endsIn.1 (Nat.le_of_ble_eq_true rfl) rfl ?_
  intro p e s m below meth c E0 hr hlk
  have E : EE p s m _ c cX12_endsIn 1 RX12 B D cT (XW B adK adV) := E0
  unfold fX12_endsIn at hf
  refine tt_aload_n (pc := 0) (i := 0) (j := 0) E dX12_endsIn_0 rfl rfl ?_
  refine tt_iconst (pc := 1) (v := 0) E dX12_endsIn_1 ic_0 ?_
  refine tt_putI (pc := 2) E lfX12_75 rfl h0 dX12_endsIn_2 (tt_nmM hf (fun m_1 hf => ?_))
  refine tt_aload_n (pc := 5) (i := 0) (j := 0) E dX12_endsIn_5 rfl rfl ?_
  obtain ⟨r_2, hr_3, hf⟩ := bd_some hf
  have hc_4 := cX12_endsWithin_ok (l := l) (B := B) (D := D) (cT := cT) (n := n) (adK := adK) (adV := adV) h0 hr_3
  refine tt_cI (pc := 6) (tt_vi E lmX12_396 mtX12_endsWithin hc_4 h0 rfl rfl (Nat.le_of_ble_eq_true rfl) ⟨(Nat.le_of_ble_eq_true rfl), (Nat.le_of_ble_eq_true rfl)⟩ ⟨(Nat.le_of_ble_eq_true rfl), (Nat.le_of_ble_eq_true rfl)⟩ dX12_endsIn_6) ?_
  exact tt_iret (pc := 9) E hr hlk dX12_endsIn_9 (Nat.le_of_ble_eq_true rfl) (Nat.le_of_ble_eq_true rfl) hf
set_option maxHeartbeats 4000000 in
theorem cX12_winnerThen_ok {l : Launch} {B : Nat} {D : va_G} {cT : Nat → ClassId} {n : Nat} {adK adV : Nat → Nat} {o0 : Nat} {μ : Mem} {res : Int32 × Mem} (h0 : isK n o0 9) (hf : fX12_winnerThen o0 μ = some res) : MI l yX12_winnerThen cX12_winnerThen 2 (some .int) rmX12_winnerThen B D cT (XW B adK adV) n [.ref (B + o0)] μ res := by
  refine tt_ofW mtX12_winnerThen.1 (Nat.le_of_ble_eq_true rfl) rfl ?_
  intro p e s m below meth c E0 hr hlk
  have E : EE p s m _ c cX12_winnerThen 2 RX12 B D cT (XW B adK adV) := E0
  unfold fX12_winnerThen at hf
  refine tt_aload_n (pc := 0) (i := 0) (j := 0) E dX12_winnerThen_0 rfl rfl ?_
  obtain ⟨r_1, hr_2, hf⟩ := bd_some hf
  have hc_3 := cX12_leaves_ok (l := l) (B := B) (D := D) (cT := cT) (n := n) (adK := adK) (adV := adV) h0 hr_2
  refine tt_cV (pc := 1) (tt_vi E lmX12_374 mtX12_leaves hc_3 h0 rfl rfl (Nat.le_of_ble_eq_true rfl) ⟨(Nat.le_of_ble_eq_true rfl), (Nat.le_of_ble_eq_true rfl)⟩ ⟨(Nat.le_of_ble_eq_true rfl), (Nat.le_of_ble_eq_true rfl)⟩ dX12_winnerThen_1) ?_
  refine tt_aload_n (pc := 4) (i := 0) (j := 0) E dX12_winnerThen_4 rfl rfl ?_
  refine tt_sipush (pc := 5) (v := 200) E dX12_winnerThen_5 sc_200 ?_
  obtain ⟨r_4, hr_5, hf⟩ := bd_some hf
  have hc_6 := cX12_plays_ok (l := l) (B := B) (D := D) (cT := cT) (n := n) (adK := adK) (adV := adV) h0 hr_5
  refine tt_cI (pc := 8) (tt_vi E lmX12_377 mtX12_plays hc_6 h0 rfl rfl (Nat.le_of_ble_eq_true rfl) ⟨(Nat.le_of_ble_eq_true rfl), (Nat.le_of_ble_eq_true rfl)⟩ ⟨(Nat.le_of_ble_eq_true rfl), (Nat.le_of_ble_eq_true rfl)⟩ dX12_winnerThen_8) ?_
  refine tt_istore_n (pc := 11) (i := 1) (lv' := [(1, .int r_4.1), (0, .ref (B + o0))]) E dX12_winnerThen_11 rfl (Nat.le_of_ble_eq_true rfl) rfl ?_
  refine tt_aload_n (pc := 12) (i := 0) (j := 1) E dX12_winnerThen_12 rfl rfl ?_
  refine tt_aload_n (pc := 13) (i := 0) (j := 1) E dX12_winnerThen_13 rfl rfl ?_
  obtain ⟨r_7, hr_8, hf⟩ := bd_some hf
  have hc_9 := cX12_sideThatWon_ok (l := l) (B := B) (D := D) (cT := cT) (n := n) (adK := adK) (adV := adV) h0 hr_8
  refine tt_cI (pc := 14) (tt_vi E lmX12_342 mtX12_sideThatWon hc_9 h0 rfl rfl (Nat.le_of_ble_eq_true rfl) ⟨(Nat.le_of_ble_eq_true rfl), (Nat.le_of_ble_eq_true rfl)⟩ ⟨(Nat.le_of_ble_eq_true rfl), (Nat.le_of_ble_eq_true rfl)⟩ dX12_winnerThen_14) ?_
  obtain ⟨r_10, hr_11, hf⟩ := bd_some hf
  have hc_12 := cX12_comesBack_ok (l := l) (B := B) (D := D) (cT := cT) (n := n) (adK := adK) (adV := adV) h0 hr_11
  refine tt_cI (pc := 17) (tt_vi E lmX12_386 mtX12_comesBack hc_12 h0 rfl rfl (Nat.le_of_ble_eq_true rfl) ⟨(Nat.le_of_ble_eq_true rfl), (Nat.le_of_ble_eq_true rfl)⟩ ⟨(Nat.le_of_ble_eq_true rfl), (Nat.le_of_ble_eq_true rfl)⟩ dX12_winnerThen_17) ?_
  exact tt_iret (pc := 20) E hr hlk dX12_winnerThen_20 (Nat.le_of_ble_eq_true rfl) (Nat.le_of_ble_eq_true rfl) hf
set_option maxHeartbeats 4000000 in
theorem cX12_winner_ok {l : Launch} {B : Nat} {D : va_G} {cT : Nat → ClassId} {n : Nat} {adK adV : Nat → Nat} {o0 : Nat} {μ : Mem} {res : Int32 × Mem} (h0 : isK n o0 9) (hf : fX12_winner o0 μ = some res) : MI l yX12_winner cX12_winner 1 (some .int) rmX12_winner B D cT (XW B adK adV) n [.ref (B + o0)] μ res := by
  refine tt_ofW mtX12_winner.1 (Nat.le_of_ble_eq_true rfl) rfl ?_
  intro p e s m below meth c E0 hr hlk
  have E : EE p s m _ c cX12_winner 1 RX12 B D cT (XW B adK adV) := E0
  unfold fX12_winner at hf
  refine tt_aload_n (pc := 0) (i := 0) (j := 0) E dX12_winner_0 rfl rfl ?_
  refine tt_iconst (pc := 1) (v := 0) E dX12_winner_1 ic_0 ?_
  refine tt_putI (pc := 2) E lfX12_75 rfl h0 dX12_winner_2 (tt_nmM hf (fun m_1 hf => ?_))
  refine tt_aload_n (pc := 5) (i := 0) (j := 0) E dX12_winner_5 rfl rfl ?_
  obtain ⟨r_2, hr_3, hf⟩ := bd_some hf
  have hc_4 := cX12_winnerThen_ok (l := l) (B := B) (D := D) (cT := cT) (n := n) (adK := adK) (adV := adV) h0 hr_3
  refine tt_cI (pc := 6) (tt_vi E lmX12_399 mtX12_winnerThen hc_4 h0 rfl rfl (Nat.le_of_ble_eq_true rfl) ⟨(Nat.le_of_ble_eq_true rfl), (Nat.le_of_ble_eq_true rfl)⟩ ⟨(Nat.le_of_ble_eq_true rfl), (Nat.le_of_ble_eq_true rfl)⟩ dX12_winner_6) ?_
  exact tt_iret (pc := 9) E hr hlk dX12_winner_9 (Nat.le_of_ble_eq_true rfl) (Nat.le_of_ble_eq_true rfl) hf
set_option maxHeartbeats 4000000 in
theorem tX12_firstLoss_22 {p : Program} {l : Launch} {e : Env} {s : State} {m : MethodId} {args : Array Value} {below : List Frame} {meth : Method} {c : Code} {B : Nat} {D : va_G} {cT : Nat → ClassId} {n : Nat} {adK adV : Nat → Nat} {res : Int32 × Mem} (E : EE p s m args c cX12_firstLoss 5 RX12 B D cT (XW B adK adV)) (hr : meth.sig.returnType = some .int) (hlk : meth.locks = false) {o0 : Nat} {v1 : Int32} (h0 : isK n o0 9) : ∀ (fu : Nat) (v2 : Int32) (v3 : Int32) (μ : Mem), zl3 (gX12_firstLoss_22 o0 v1) fu v2 v3 μ = some res → TT p l e rmX12_firstLoss s m args below meth c (QI B D cT n below args s res) 5 B D cT n 0 0 μ 22 [(0, .ref (B + o0)), (1, .int v1), (2, .int v2), (3, .int v3)] [] := by
  intro fu
  induction fu with
  | zero => intro v2 v3 μ hf; exact absurd hf (fun h => by cases h)
  | succ fu ih =>
    intro v2 v3 μ hf
    have hf : gX12_firstLoss_22 o0 v1 (zl3 (gX12_firstLoss_22 o0 v1) fu) v2 v3 μ = some res := hf
    unfold gX12_firstLoss_22 at hf
    refine tt_iload_n (pc := 22) (i := 2) (j := 2) E dX12_firstLoss_22 rfl rfl ?_
    refine tt_sipush (pc := 23) (v := 200) E dX12_firstLoss_23 sc_200 ?_
    refine tt_icmp_ge (pc := 26) (tgt := 76) E dX12_firstLoss_26 rfl (fun c_27 => ?_) (fun c_27 => ?_)
    · have hf := ip c_27 hf
      refine tt_aload_n (pc := 76) (i := 0) (j := 0) E dX12_firstLoss_76 rfl rfl ?_
      refine tt_iload_n (pc := 77) (i := 3) (j := 3) E dX12_firstLoss_77 rfl rfl ?_
      obtain ⟨r_1, hr_2, hf⟩ := bd_some hf
      have hc_3 := cX12_comesBack_ok (l := l) (B := B) (D := D) (cT := cT) (n := n) (adK := adK) (adV := adV) h0 hr_2
      refine tt_cI (pc := 78) (tt_vi E lmX12_386 mtX12_comesBack hc_3 h0 rfl rfl (Nat.le_of_ble_eq_true rfl) ⟨(Nat.le_of_ble_eq_true rfl), (Nat.le_of_ble_eq_true rfl)⟩ ⟨(Nat.le_of_ble_eq_true rfl), (Nat.le_of_ble_eq_true rfl)⟩ dX12_firstLoss_78) ?_
      exact tt_iret (pc := 81) E hr hlk dX12_firstLoss_81 (Nat.le_of_ble_eq_true rfl) (Nat.le_of_ble_eq_true rfl) hf
    · have hf := ine c_27 hf
      refine tt_iload_n (pc := 29) (i := 3) (j := 3) E dX12_firstLoss_29 rfl rfl ?_
      refine tt_iconst (pc := 30) (v := (-1)) E dX12_firstLoss_30 ic_m1 ?_
      refine tt_icmp_ne (pc := 31) (tgt := 76) E dX12_firstLoss_31 rfl (fun c_26 => ?_) (fun c_26 => ?_)
      · have hf := ine c_26 hf
        refine tt_aload_n (pc := 76) (i := 0) (j := 0) E dX12_firstLoss_76 rfl rfl ?_
        refine tt_iload_n (pc := 77) (i := 3) (j := 3) E dX12_firstLoss_77 rfl rfl ?_
        obtain ⟨r_4, hr_5, hf⟩ := bd_some hf
        have hc_6 := cX12_comesBack_ok (l := l) (B := B) (D := D) (cT := cT) (n := n) (adK := adK) (adV := adV) h0 hr_5
        refine tt_cI (pc := 78) (tt_vi E lmX12_386 mtX12_comesBack hc_6 h0 rfl rfl (Nat.le_of_ble_eq_true rfl) ⟨(Nat.le_of_ble_eq_true rfl), (Nat.le_of_ble_eq_true rfl)⟩ ⟨(Nat.le_of_ble_eq_true rfl), (Nat.le_of_ble_eq_true rfl)⟩ dX12_firstLoss_78) ?_
        exact tt_iret (pc := 81) E hr hlk dX12_firstLoss_81 (Nat.le_of_ble_eq_true rfl) (Nat.le_of_ble_eq_true rfl) hf
      · have hf := ip c_26 hf
        refine tt_aload_n (pc := 34) (i := 0) (j := 0) E dX12_firstLoss_34 rfl rfl ?_
        obtain ⟨r_7, hr_8, hf⟩ := bd_some hf
        have hc_9 := cX12_isOver_ok (l := l) (B := B) (D := D) (cT := cT) (n := n) (adK := adK) (adV := adV) h0 hr_8
        refine tt_cZ (pc := 35) (tt_vi E lmX12_269 mtX12_isOver hc_9 h0 rfl rfl (Nat.le_of_ble_eq_true rfl) ⟨(Nat.le_of_ble_eq_true rfl), (Nat.le_of_ble_eq_true rfl)⟩ ⟨(Nat.le_of_ble_eq_true rfl), (Nat.le_of_ble_eq_true rfl)⟩ dX12_firstLoss_35) (fun z_10 => ?_)
        refine tt_if_ne (pc := 38) (tgt := 76) E dX12_firstLoss_38 rfl (fun c_25 => ?_) (fun c_25 => ?_)
        · have hf := ine c_25 hf
          refine tt_aload_n (pc := 76) (i := 0) (j := 0) E dX12_firstLoss_76 rfl rfl ?_
          refine tt_iload_n (pc := 77) (i := 3) (j := 3) E dX12_firstLoss_77 rfl rfl ?_
          obtain ⟨r_11, hr_12, hf⟩ := bd_some hf
          have hc_13 := cX12_comesBack_ok (l := l) (B := B) (D := D) (cT := cT) (n := n) (adK := adK) (adV := adV) h0 hr_12
          refine tt_cI (pc := 78) (tt_vi E lmX12_386 mtX12_comesBack hc_13 h0 rfl rfl (Nat.le_of_ble_eq_true rfl) ⟨(Nat.le_of_ble_eq_true rfl), (Nat.le_of_ble_eq_true rfl)⟩ ⟨(Nat.le_of_ble_eq_true rfl), (Nat.le_of_ble_eq_true rfl)⟩ dX12_firstLoss_78) ?_
          exact tt_iret (pc := 81) E hr hlk dX12_firstLoss_81 (Nat.le_of_ble_eq_true rfl) (Nat.le_of_ble_eq_true rfl) hf
        · have hf := ip c_25 hf
          refine tt_aload_n (pc := 41) (i := 0) (j := 0) E dX12_firstLoss_41 rfl rfl ?_
          refine tt_iload_n (pc := 42) (i := 1) (j := 1) E dX12_firstLoss_42 rfl rfl ?_
          refine tt_iconst (pc := 43) (v := 2) E dX12_firstLoss_43 ic_2 ?_
          obtain ⟨r_14, hr_15, hf⟩ := bd_some hf
          have hc_16 := cX12_of_ok (l := l) (B := B) (D := D) (cT := cT) (n := n) (adK := adK) (adV := adV) h0 hr_15
          refine tt_cI (pc := 44) (tt_vi E lmX12_192 mtX12_of hc_16 h0 rfl rfl (Nat.le_of_ble_eq_true rfl) ⟨(Nat.le_of_ble_eq_true rfl), (Nat.le_of_ble_eq_true rfl)⟩ ⟨(Nat.le_of_ble_eq_true rfl), (Nat.le_of_ble_eq_true rfl)⟩ dX12_firstLoss_44) ?_
          refine tt_istore (pc := 47) (i := 4) (lv' := [(4, .int r_14), (0, .ref (B + o0)), (1, .int v1), (2, .int v2), (3, .int v3)]) E dX12_firstLoss_47 (Nat.le_of_ble_eq_true rfl) rfl ?_
          refine tt_aload_n (pc := 49) (i := 0) (j := 1) E dX12_firstLoss_49 rfl rfl ?_
          obtain ⟨r_17, hr_18, hf⟩ := bd_some hf
          have hc_19 := cX12_turns_ok (l := l) (B := B) (D := D) (cT := cT) (n := n) (adK := adK) (adV := adV) h0 hr_18
          refine tt_cV (pc := 50) (tt_vi E lmX12_331 mtX12_turns hc_19 h0 rfl rfl (Nat.le_of_ble_eq_true rfl) ⟨(Nat.le_of_ble_eq_true rfl), (Nat.le_of_ble_eq_true rfl)⟩ ⟨(Nat.le_of_ble_eq_true rfl), (Nat.le_of_ble_eq_true rfl)⟩ dX12_firstLoss_50) ?_
          obtain ⟨v_20, ev_20, hf⟩ := nm_ex hf
          refine tt_iinc (pc := 53) (i := 2) (j := 3) (lv' := [(2, .int v_20), (4, .int r_14), (0, .ref (B + o0)), (1, .int v1), (3, .int v3)]) E dX12_firstLoss_53 rfl (ev_20).symm (Nat.le_of_ble_eq_true rfl) rfl ?_
          refine tt_aload_n (pc := 56) (i := 0) (j := 2) E dX12_firstLoss_56 rfl rfl ?_
          refine tt_iload_n (pc := 57) (i := 1) (j := 3) E dX12_firstLoss_57 rfl rfl ?_
          refine tt_iconst (pc := 58) (v := 2) E dX12_firstLoss_58 ic_2 ?_
          obtain ⟨r_21, hr_22, hf⟩ := bd_some hf
          have hc_23 := cX12_of_ok (l := l) (B := B) (D := D) (cT := cT) (n := n) (adK := adK) (adV := adV) h0 hr_22
          refine tt_cI (pc := 59) (tt_vi E lmX12_192 mtX12_of hc_23 h0 rfl rfl (Nat.le_of_ble_eq_true rfl) ⟨(Nat.le_of_ble_eq_true rfl), (Nat.le_of_ble_eq_true rfl)⟩ ⟨(Nat.le_of_ble_eq_true rfl), (Nat.le_of_ble_eq_true rfl)⟩ dX12_firstLoss_59) ?_
          refine tt_iload (pc := 62) (i := 4) (j := 1) E dX12_firstLoss_62 rfl ?_
          refine tt_icmp_ge (pc := 64) (tgt := 71) E dX12_firstLoss_64 rfl (fun c_24 => ?_) (fun c_24 => ?_)
          · have hf := ip c_24 hf
            refine tt_iconst (pc := 71) (v := (-1)) E dX12_firstLoss_71 ic_m1 ?_
            refine tt_istore_n (pc := 72) (i := 3) (lv' := [(3, .int ((-1))), (2, .int v_20), (4, .int r_14), (0, .ref (B + o0)), (1, .int v1)]) E dX12_firstLoss_72 rfl (Nat.le_of_ble_eq_true rfl) rfl ?_
            refine tt_goto (pc := 73) (tgt := 22) E dX12_firstLoss_73 rfl ?_
            refine tt_sub [3, 4, 1, 0] (lv' := [(0, .ref (B + o0)), (1, .int v1), (2, .int v_20), (3, .int ((-1)))]) rfl ?_
            exact ih v_20 ((-1)) r_17 hf
          · have hf := ine c_24 hf
            refine tt_iload_n (pc := 67) (i := 2) (j := 0) E dX12_firstLoss_67 rfl rfl ?_
            refine tt_goto (pc := 68) (tgt := 72) E dX12_firstLoss_68 rfl ?_
            refine tt_istore_n (pc := 72) (i := 3) (lv' := [(3, .int v_20), (2, .int v_20), (4, .int r_14), (0, .ref (B + o0)), (1, .int v1)]) E dX12_firstLoss_72 rfl (Nat.le_of_ble_eq_true rfl) rfl ?_
            refine tt_goto (pc := 73) (tgt := 22) E dX12_firstLoss_73 rfl ?_
            refine tt_sub [3, 4, 1, 0] (lv' := [(0, .ref (B + o0)), (1, .int v1), (2, .int v_20), (3, .int v_20)]) rfl ?_
            exact ih v_20 v_20 r_17 hf
set_option maxHeartbeats 4000000 in
theorem cX12_firstLoss_ok {l : Launch} {B : Nat} {D : va_G} {cT : Nat → ClassId} {n : Nat} {adK adV : Nat → Nat} {o0 : Nat} {v1 : Int32} {μ : Mem} {res : Int32 × Mem} (h0 : isK n o0 9) (hf : fX12_firstLoss o0 v1 μ = some res) : MI l yX12_firstLoss cX12_firstLoss 5 (some .int) rmX12_firstLoss B D cT (XW B adK adV) n [.ref (B + o0), .int v1] μ res := by
  refine tt_ofW mtX12_firstLoss.1 (Nat.le_of_ble_eq_true rfl) rfl ?_
  intro p e s m below meth c E0 hr hlk
  have E : EE p s m _ c cX12_firstLoss 5 RX12 B D cT (XW B adK adV) := E0
  unfold fX12_firstLoss at hf
  refine tt_aload_n (pc := 0) (i := 0) (j := 0) E dX12_firstLoss_0 rfl rfl ?_
  refine tt_aload_n (pc := 1) (i := 0) (j := 0) E dX12_firstLoss_1 rfl rfl ?_
  refine tt_iload_n (pc := 2) (i := 1) (j := 1) E dX12_firstLoss_2 rfl rfl ?_
  obtain ⟨r_1, hr_2, hf⟩ := bd_some hf
  have hc_3 := cX12_isFighter_ok (l := l) (B := B) (D := D) (cT := cT) (n := n) (adK := adK) (adV := adV) h0 hr_2
  refine tt_cZ (pc := 3) (tt_vi E lmX12_345 mtX12_isFighter hc_3 h0 rfl rfl (Nat.le_of_ble_eq_true rfl) ⟨(Nat.le_of_ble_eq_true rfl), (Nat.le_of_ble_eq_true rfl)⟩ ⟨(Nat.le_of_ble_eq_true rfl), (Nat.le_of_ble_eq_true rfl)⟩ dX12_firstLoss_3) (fun z_4 => ?_)
  obtain ⟨r_5, hr_6, hf⟩ := bd_some hf
  have hc_7 := cX12_goes_ok (l := l) (B := B) (D := D) (cT := cT) (n := n) (adK := adK) (adV := adV) h0 z_4 hr_6
  refine tt_cZ (pc := 6) (tt_vi E lmX12_85 mtX12_goes hc_7 h0 rfl rfl (Nat.le_of_ble_eq_true rfl) ⟨(Nat.le_of_ble_eq_true rfl), (Nat.le_of_ble_eq_true rfl)⟩ ⟨(Nat.le_of_ble_eq_true rfl), (Nat.le_of_ble_eq_true rfl)⟩ dX12_firstLoss_6) (fun z_8 => ?_)
  refine tt_if_ne (pc := 9) (tgt := 14) E dX12_firstLoss_9 rfl (fun c_12 => ?_) (fun c_12 => ?_)
  · have hf := ine c_12 hf
    refine tt_aload_n (pc := 14) (i := 0) (j := 0) E dX12_firstLoss_14 rfl rfl ?_
    obtain ⟨r_9, hr_10, hf⟩ := bd_some hf
    have hc_11 := cX12_leaves_ok (l := l) (B := B) (D := D) (cT := cT) (n := n) (adK := adK) (adV := adV) h0 hr_10
    refine tt_cV (pc := 15) (tt_vi E lmX12_374 mtX12_leaves hc_11 h0 rfl rfl (Nat.le_of_ble_eq_true rfl) ⟨(Nat.le_of_ble_eq_true rfl), (Nat.le_of_ble_eq_true rfl)⟩ ⟨(Nat.le_of_ble_eq_true rfl), (Nat.le_of_ble_eq_true rfl)⟩ dX12_firstLoss_15) ?_
    refine tt_iconst (pc := 18) (v := 0) E dX12_firstLoss_18 ic_0 ?_
    refine tt_istore_n (pc := 19) (i := 2) (lv' := [(2, .int 0), (0, .ref (B + o0)), (1, .int v1)]) E dX12_firstLoss_19 rfl (Nat.le_of_ble_eq_true rfl) rfl ?_
    refine tt_iconst (pc := 20) (v := (-1)) E dX12_firstLoss_20 ic_m1 ?_
    refine tt_istore_n (pc := 21) (i := 3) (lv' := [(3, .int ((-1))), (2, .int 0), (0, .ref (B + o0)), (1, .int v1)]) E dX12_firstLoss_21 rfl (Nat.le_of_ble_eq_true rfl) rfl ?_
    refine tt_sub [2, 3, 1, 0] (lv' := [(0, .ref (B + o0)), (1, .int v1), (2, .int 0), (3, .int ((-1)))]) rfl ?_
    exact tX12_firstLoss_22 E hr hlk h0 FU 0 ((-1)) r_9 hf
  · have hf := ip c_12 hf
    refine tt_iconst (pc := 12) (v := 0) E dX12_firstLoss_12 ic_0 ?_
    exact tt_iret (pc := 13) E hr hlk dX12_firstLoss_13 (Nat.le_of_ble_eq_true rfl) (Nat.le_of_ble_eq_true rfl) hf
set_option maxHeartbeats 4000000 in
theorem cX12_seenCell_ok {l : Launch} {B : Nat} {D : va_G} {cT : Nat → ClassId} {n : Nat} {adK adV : Nat → Nat} {o0 : Nat} {v1 : Int32} {v2 : Int32} {μ : Mem} {res : Int32} (h0 : isK n o0 9) (hf : fX12_seenCell o0 v1 v2 μ = some res) : MI l yX12_seenCell cX12_seenCell 3 (some .int) rmX12_seenCell B D cT (XW B adK adV) n [.ref (B + o0), .int v1, .int v2] μ (res, μ) := by
  refine tt_ofW mtX12_seenCell.1 (Nat.le_of_ble_eq_true rfl) rfl ?_
  intro p e s m below meth c E0 hr hlk
  have E : EE p s m _ c cX12_seenCell 3 RX12 B D cT (XW B adK adV) := E0
  unfold fX12_seenCell at hf
  refine tt_iload_n (pc := 0) (i := 2) (j := 2) E dX12_seenCell_0 rfl rfl ?_
  by_cases s1_0 : v2 = 0
  · have hf := ip s1_0 hf
    refine tt_swIn (pc := 1) (tgt := 36) E dX12_seenCell_1 (sw1 s1_0 (by decide)) (sw2 s1_0 (by decide)) (sw3 s1_0 rfl) rfl ?_
    refine tt_aload_n (pc := 36) (i := 0) (j := 0) E dX12_seenCell_36 rfl rfl ?_
    refine tt_iload_n (pc := 37) (i := 1) (j := 1) E dX12_seenCell_37 rfl rfl ?_
    refine tt_iconst (pc := 38) (v := 2) E dX12_seenCell_38 ic_2 ?_
    obtain ⟨r_16, hr_17, hf⟩ := bd_some hf
    have hc_18 := cX12_of_ok (l := l) (B := B) (D := D) (cT := cT) (n := n) (adK := adK) (adV := adV) h0 hr_17
    refine tt_cI (pc := 39) (tt_vi E lmX12_192 mtX12_of hc_18 h0 rfl rfl (Nat.le_of_ble_eq_true rfl) ⟨(Nat.le_of_ble_eq_true rfl), (Nat.le_of_ble_eq_true rfl)⟩ ⟨(Nat.le_of_ble_eq_true rfl), (Nat.le_of_ble_eq_true rfl)⟩ dX12_seenCell_39) ?_
    exact tt_iret (pc := 42) E hr hlk dX12_seenCell_42 (Nat.le_of_ble_eq_true rfl) (Nat.le_of_ble_eq_true rfl) (pv hf)
  have hf := ine s1_0 hf
  by_cases s1_1 : v2 = 1
  · have hf := ip s1_1 hf
    refine tt_swIn (pc := 1) (tgt := 43) E dX12_seenCell_1 (sw1 s1_1 (by decide)) (sw2 s1_1 (by decide)) (sw3 s1_1 rfl) rfl ?_
    refine tt_aload_n (pc := 43) (i := 0) (j := 0) E dX12_seenCell_43 rfl rfl ?_
    refine tt_iload_n (pc := 44) (i := 1) (j := 1) E dX12_seenCell_44 rfl rfl ?_
    refine tt_iconst (pc := 45) (v := 1) E dX12_seenCell_45 ic_1 ?_
    obtain ⟨r_13, hr_14, hf⟩ := bd_some hf
    have hc_15 := cX12_of_ok (l := l) (B := B) (D := D) (cT := cT) (n := n) (adK := adK) (adV := adV) h0 hr_14
    refine tt_cI (pc := 46) (tt_vi E lmX12_192 mtX12_of hc_15 h0 rfl rfl (Nat.le_of_ble_eq_true rfl) ⟨(Nat.le_of_ble_eq_true rfl), (Nat.le_of_ble_eq_true rfl)⟩ ⟨(Nat.le_of_ble_eq_true rfl), (Nat.le_of_ble_eq_true rfl)⟩ dX12_seenCell_46) ?_
    exact tt_iret (pc := 49) E hr hlk dX12_seenCell_49 (Nat.le_of_ble_eq_true rfl) (Nat.le_of_ble_eq_true rfl) (pv hf)
  have hf := ine s1_1 hf
  by_cases s1_2 : v2 = 2
  · have hf := ip s1_2 hf
    refine tt_swIn (pc := 1) (tgt := 50) E dX12_seenCell_1 (sw1 s1_2 (by decide)) (sw2 s1_2 (by decide)) (sw3 s1_2 rfl) rfl ?_
    refine tt_aload_n (pc := 50) (i := 0) (j := 0) E dX12_seenCell_50 rfl rfl ?_
    refine tt_iload_n (pc := 51) (i := 1) (j := 1) E dX12_seenCell_51 rfl rfl ?_
    refine tt_iconst (pc := 52) (v := 4) E dX12_seenCell_52 ic_4 ?_
    obtain ⟨r_10, hr_11, hf⟩ := bd_some hf
    have hc_12 := cX12_of_ok (l := l) (B := B) (D := D) (cT := cT) (n := n) (adK := adK) (adV := adV) h0 hr_11
    refine tt_cI (pc := 53) (tt_vi E lmX12_192 mtX12_of hc_12 h0 rfl rfl (Nat.le_of_ble_eq_true rfl) ⟨(Nat.le_of_ble_eq_true rfl), (Nat.le_of_ble_eq_true rfl)⟩ ⟨(Nat.le_of_ble_eq_true rfl), (Nat.le_of_ble_eq_true rfl)⟩ dX12_seenCell_53) ?_
    exact tt_iret (pc := 56) E hr hlk dX12_seenCell_56 (Nat.le_of_ble_eq_true rfl) (Nat.le_of_ble_eq_true rfl) (pv hf)
  have hf := ine s1_2 hf
  by_cases s1_3 : v2 = 3
  · have hf := ip s1_3 hf
    refine tt_swIn (pc := 1) (tgt := 57) E dX12_seenCell_1 (sw1 s1_3 (by decide)) (sw2 s1_3 (by decide)) (sw3 s1_3 rfl) rfl ?_
    refine tt_aload_n (pc := 57) (i := 0) (j := 0) E dX12_seenCell_57 rfl rfl ?_
    refine tt_iload_n (pc := 58) (i := 1) (j := 1) E dX12_seenCell_58 rfl rfl ?_
    refine tt_iconst (pc := 59) (v := 5) E dX12_seenCell_59 ic_5 ?_
    obtain ⟨r_7, hr_8, hf⟩ := bd_some hf
    have hc_9 := cX12_of_ok (l := l) (B := B) (D := D) (cT := cT) (n := n) (adK := adK) (adV := adV) h0 hr_8
    refine tt_cI (pc := 60) (tt_vi E lmX12_192 mtX12_of hc_9 h0 rfl rfl (Nat.le_of_ble_eq_true rfl) ⟨(Nat.le_of_ble_eq_true rfl), (Nat.le_of_ble_eq_true rfl)⟩ ⟨(Nat.le_of_ble_eq_true rfl), (Nat.le_of_ble_eq_true rfl)⟩ dX12_seenCell_60) ?_
    exact tt_iret (pc := 63) E hr hlk dX12_seenCell_63 (Nat.le_of_ble_eq_true rfl) (Nat.le_of_ble_eq_true rfl) (pv hf)
  have hf := ine s1_3 hf
  by_cases s1_4 : v2 = 4
  · have hf := ip s1_4 hf
    refine tt_swIn (pc := 1) (tgt := 64) E dX12_seenCell_1 (sw1 s1_4 (by decide)) (sw2 s1_4 (by decide)) (sw3 s1_4 rfl) rfl ?_
    refine tt_aload_n (pc := 64) (i := 0) (j := 0) E dX12_seenCell_64 rfl rfl ?_
    refine tt_iload_n (pc := 65) (i := 1) (j := 1) E dX12_seenCell_65 rfl rfl ?_
    refine tt_bipush (pc := 66) (v := 6) E dX12_seenCell_66 bc_6 ?_
    obtain ⟨r_4, hr_5, hf⟩ := bd_some hf
    have hc_6 := cX12_of_ok (l := l) (B := B) (D := D) (cT := cT) (n := n) (adK := adK) (adV := adV) h0 hr_5
    refine tt_cI (pc := 68) (tt_vi E lmX12_192 mtX12_of hc_6 h0 rfl rfl (Nat.le_of_ble_eq_true rfl) ⟨(Nat.le_of_ble_eq_true rfl), (Nat.le_of_ble_eq_true rfl)⟩ ⟨(Nat.le_of_ble_eq_true rfl), (Nat.le_of_ble_eq_true rfl)⟩ dX12_seenCell_68) ?_
    exact tt_iret (pc := 71) E hr hlk dX12_seenCell_71 (Nat.le_of_ble_eq_true rfl) (Nat.le_of_ble_eq_true rfl) (pv hf)
  have hf := ine s1_4 hf
  refine tt_swOut (pc := 1) (tgt := 72) E dX12_seenCell_1 (sw_out (N := 5) (fun j hj => by
    match j, hj with
    | 0, _ => exact s1_0
    | 1, _ => exact s1_1
    | 2, _ => exact s1_2
    | 3, _ => exact s1_3
    | 4, _ => exact s1_4
    | j + 5, hj => exact absurd hj (by omega))) rfl ?_
  refine tt_aload_n (pc := 72) (i := 0) (j := 0) E dX12_seenCell_72 rfl rfl ?_
  refine tt_iload_n (pc := 73) (i := 1) (j := 1) E dX12_seenCell_73 rfl rfl ?_
  refine tt_bipush (pc := 74) (v := 7) E dX12_seenCell_74 bc_7 ?_
  obtain ⟨r_1, hr_2, hf⟩ := bd_some hf
  have hc_3 := cX12_of_ok (l := l) (B := B) (D := D) (cT := cT) (n := n) (adK := adK) (adV := adV) h0 hr_2
  refine tt_cI (pc := 76) (tt_vi E lmX12_192 mtX12_of hc_3 h0 rfl rfl (Nat.le_of_ble_eq_true rfl) ⟨(Nat.le_of_ble_eq_true rfl), (Nat.le_of_ble_eq_true rfl)⟩ ⟨(Nat.le_of_ble_eq_true rfl), (Nat.le_of_ble_eq_true rfl)⟩ dX12_seenCell_76) ?_
  exact tt_iret (pc := 79) E hr hlk dX12_seenCell_79 (Nat.le_of_ble_eq_true rfl) (Nat.le_of_ble_eq_true rfl) (pv hf)
set_option maxHeartbeats 4000000 in
theorem tX12_sees_14 {p : Program} {l : Launch} {e : Env} {s : State} {m : MethodId} {args : Array Value} {below : List Frame} {meth : Method} {c : Code} {B : Nat} {D : va_G} {cT : Nat → ClassId} {n : Nat} {adK adV : Nat → Nat} {res : Mem} (E : EE p s m args c cX12_sees 4 RX12 B D cT (XW B adK adV)) (hr : meth.sig.returnType = none) (hlk : meth.locks = false) {kb2 : Int32 → Mem → Option (Mem)} {o0 : Nat} {v1 : Int32} {v2 : Int32} (h0 : isK n o0 9) (hk2 : ∀ (v2b : Int32) (μb : Mem), kb2 v2b μb = some res → TT p l e rmX12_sees s m args below meth c (QV B D cT n below args s res) 4 B D cT n 0 0 μb 2 [(0, .ref (B + o0)), (1, .int v1), (2, .int v2b)] []) : ∀ (fu : Nat) (v3 : Int32) (μ : Mem), zl2 (gX12_sees_14 kb2 o0 v1 v2) fu v3 μ = some res → TT p l e rmX12_sees s m args below meth c (QV B D cT n below args s res) 4 B D cT n 0 0 μ 14 [(0, .ref (B + o0)), (1, .int v1), (2, .int v2), (3, .int v3)] [] := by
  intro fu
  induction fu with
  | zero => intro v3 μ hf; exact absurd hf (fun h => by cases h)
  | succ fu ih =>
    intro v3 μ hf
    have hf : gX12_sees_14 kb2 o0 v1 v2 (zl2 (gX12_sees_14 kb2 o0 v1 v2) fu) v3 μ = some res := hf
    unfold gX12_sees_14 at hf
    refine tt_iload_n (pc := 14) (i := 3) (j := 3) E dX12_sees_14 rfl rfl ?_
    refine tt_bipush (pc := 15) (v := 6) E dX12_sees_15 bc_6 ?_
    refine tt_icmp_ge (pc := 17) (tgt := 48) E dX12_sees_17 rfl (fun c_11 => ?_) (fun c_11 => ?_)
    · have hf := ip c_11 hf
      obtain ⟨v_1, ev_1, hf⟩ := nm_ex hf
      refine tt_iinc (pc := 48) (i := 2) (j := 2) (lv' := [(2, .int v_1), (0, .ref (B + o0)), (1, .int v1), (3, .int v3)]) E dX12_sees_48 rfl (ev_1).symm (Nat.le_of_ble_eq_true rfl) rfl ?_
      refine tt_goto (pc := 51) (tgt := 2) E dX12_sees_51 rfl ?_
      refine tt_sub [1, 2, 0] (lv' := [(0, .ref (B + o0)), (1, .int v1), (2, .int v_1)]) rfl ?_
      exact hk2 v_1 μ hf
    · have hf := ine c_11 hf
      refine tt_aload_n (pc := 20) (i := 0) (j := 0) E dX12_sees_20 rfl rfl ?_
      obtain ⟨q_2, hq_3, hf⟩ := bd_some hf
      refine tt_getP (pc := 21) (t := 11) E lfX12_45 rfl rfl h0 dX12_sees_21 hq_3 (fun kq_4 => ?_)
      refine tt_bipush (pc := 24) (v := 48) E dX12_sees_24 bc_48 ?_
      refine tt_iload_n (pc := 26) (i := 1) (j := 1) E dX12_sees_26 rfl rfl ?_
      refine tt_imul (pc := 27) E dX12_sees_27 ?_
      refine tt_bipush (pc := 28) (v := 6) E dX12_sees_28 bc_6 ?_
      refine tt_iload_n (pc := 30) (i := 2) (j := 2) E dX12_sees_30 rfl rfl ?_
      refine tt_imul (pc := 31) E dX12_sees_31 ?_
      refine tt_iadd (pc := 32) E dX12_sees_32 ?_
      refine tt_iload_n (pc := 33) (i := 3) (j := 3) E dX12_sees_33 rfl rfl ?_
      refine tt_iadd (pc := 34) E dX12_sees_34 ?_
      refine tt_aload_n (pc := 35) (i := 0) (j := 0) E dX12_sees_35 rfl rfl ?_
      refine tt_iload_n (pc := 36) (i := 2) (j := 2) E dX12_sees_36 rfl rfl ?_
      refine tt_iload_n (pc := 37) (i := 3) (j := 3) E dX12_sees_37 rfl rfl ?_
      obtain ⟨r_5, hr_6, hf⟩ := bd_some hf
      have hc_7 := cX12_seenCell_ok (l := l) (B := B) (D := D) (cT := cT) (n := n) (adK := adK) (adV := adV) h0 hr_6
      refine tt_cI (pc := 38) (tt_vi E lmX12_402 mtX12_seenCell hc_7 h0 rfl rfl (Nat.le_of_ble_eq_true rfl) ⟨(Nat.le_of_ble_eq_true rfl), (Nat.le_of_ble_eq_true rfl)⟩ ⟨(Nat.le_of_ble_eq_true rfl), (Nat.le_of_ble_eq_true rfl)⟩ dX12_sees_38) ?_
      obtain ⟨g_9, hf⟩ := gd_some hf
      refine tt_iast (pc := 41) E kq_4 g_9 dX12_sees_41 (tt_nmM hf (fun m_8 hf => ?_))
      obtain ⟨v_10, ev_10, hf⟩ := nm_ex hf
      refine tt_iinc (pc := 42) (i := 3) (j := 3) (lv' := [(3, .int v_10), (0, .ref (B + o0)), (1, .int v1), (2, .int v2)]) E dX12_sees_42 rfl (ev_10).symm (Nat.le_of_ble_eq_true rfl) rfl ?_
      refine tt_goto (pc := 45) (tgt := 14) E dX12_sees_45 rfl ?_
      refine tt_sub [1, 2, 3, 0] (lv' := [(0, .ref (B + o0)), (1, .int v1), (2, .int v2), (3, .int v_10)]) rfl ?_
      exact ih v_10 m_8 hf
set_option maxHeartbeats 4000000 in
theorem tX12_sees_2 {p : Program} {l : Launch} {e : Env} {s : State} {m : MethodId} {args : Array Value} {below : List Frame} {meth : Method} {c : Code} {B : Nat} {D : va_G} {cT : Nat → ClassId} {n : Nat} {adK adV : Nat → Nat} {res : Mem} (E : EE p s m args c cX12_sees 4 RX12 B D cT (XW B adK adV)) (hr : meth.sig.returnType = none) (hlk : meth.locks = false) {o0 : Nat} {v1 : Int32} (h0 : isK n o0 9) : ∀ (fu : Nat) (v2 : Int32) (μ : Mem), zl2 (gX12_sees_2 o0 v1) fu v2 μ = some res → TT p l e rmX12_sees s m args below meth c (QV B D cT n below args s res) 4 B D cT n 0 0 μ 2 [(0, .ref (B + o0)), (1, .int v1), (2, .int v2)] [] := by
  intro fu
  induction fu with
  | zero => intro v2 μ hf; exact absurd hf (fun h => by cases h)
  | succ fu ih =>
    intro v2 μ hf
    have hf : gX12_sees_2 o0 v1 (zl2 (gX12_sees_2 o0 v1) fu) v2 μ = some res := hf
    unfold gX12_sees_2 at hf
    refine tt_iload_n (pc := 2) (i := 2) (j := 2) E dX12_sees_2 rfl rfl ?_
    refine tt_aload_n (pc := 3) (i := 0) (j := 0) E dX12_sees_3 rfl rfl ?_
    obtain ⟨q_1, hq_2, hf⟩ := bd_some hf
    refine tt_getP (pc := 4) (t := 11) E lfX12_20 rfl rfl h0 dX12_sees_4 hq_2 (fun kq_3 => ?_)
    refine tt_iconst (pc := 7) (v := 0) E dX12_sees_7 ic_0 ?_
    obtain ⟨g_4, hf⟩ := gd_some hf
    refine tt_iald (pc := 8) E kq_3 g_4 dX12_sees_8 ?_
    refine tt_icmp_ge (pc := 9) (tgt := 54) E dX12_sees_9 rfl (fun c_5 => ?_) (fun c_5 => ?_)
    · have hf := ip c_5 hf
      exact tt_vret (pc := 54) E hr hlk dX12_sees_54 (Nat.le_of_ble_eq_true rfl) (Nat.le_of_ble_eq_true rfl) hf
    · have hf := ine c_5 hf
      refine tt_iconst (pc := 12) (v := 0) E dX12_sees_12 ic_0 ?_
      refine tt_istore_n (pc := 13) (i := 3) (lv' := [(3, .int 0), (0, .ref (B + o0)), (1, .int v1), (2, .int v2)]) E dX12_sees_13 rfl (Nat.le_of_ble_eq_true rfl) rfl ?_
      refine tt_sub [1, 2, 3, 0] (lv' := [(0, .ref (B + o0)), (1, .int v1), (2, .int v2), (3, .int 0)]) rfl ?_
      exact tX12_sees_14 E hr hlk h0 ih FU 0 μ hf
set_option maxHeartbeats 4000000 in
theorem cX12_sees_ok {l : Launch} {B : Nat} {D : va_G} {cT : Nat → ClassId} {n : Nat} {adK adV : Nat → Nat} {o0 : Nat} {v1 : Int32} {μ : Mem} {res : Mem} (h0 : isK n o0 9) (hf : fX12_sees o0 v1 μ = some res) : MV l yX12_sees cX12_sees 4 (none) rmX12_sees B D cT (XW B adK adV) n [.ref (B + o0), .int v1] μ res := by
  refine tt_ofW mtX12_sees.1 (Nat.le_of_ble_eq_true rfl) rfl ?_
  intro p e s m below meth c E0 hr hlk
  have E : EE p s m _ c cX12_sees 4 RX12 B D cT (XW B adK adV) := E0
  unfold fX12_sees at hf
  refine tt_iconst (pc := 0) (v := 0) E dX12_sees_0 ic_0 ?_
  refine tt_istore_n (pc := 1) (i := 2) (lv' := [(2, .int 0), (0, .ref (B + o0)), (1, .int v1)]) E dX12_sees_1 rfl (Nat.le_of_ble_eq_true rfl) rfl ?_
  refine tt_sub [1, 2, 0] (lv' := [(0, .ref (B + o0)), (1, .int v1), (2, .int 0)]) rfl ?_
  exact tX12_sees_2 E hr hlk h0 FU 0 μ hf
set_option maxHeartbeats 4000000 in
theorem tX12_areLike_5 {p : Program} {l : Launch} {e : Env} {s : State} {m : MethodId} {args : Array Value} {below : List Frame} {meth : Method} {c : Code} {B : Nat} {D : va_G} {cT : Nat → ClassId} {n : Nat} {adK adV : Nat → Nat} {res : Int32} (E : EE p s m args c cX12_areLike 5 RX12 B D cT (XW B adK adV)) (hr : meth.sig.returnType = some .boolean) (hlk : meth.locks = false) {o0 : Nat} {v1 : Int32} {v2 : Int32} (h0 : isK n o0 9) {μ : Mem} : ∀ (fu : Nat) (v3 : Int32) (v4 : Int32) (h3 : zb v3), zl2 (gX12_areLike_5 o0 v1 v2 μ) fu v3 v4 = some res → TT p l e rmX12_areLike s m args below meth c (QZ B D cT n below args s (res, μ)) 5 B D cT n 0 0 μ 5 [(0, .ref (B + o0)), (1, .int v1), (2, .int v2), (3, .int v3), (4, .int v4)] [] := by
  intro fu
  induction fu with
  | zero => intro v3 v4 h3 hf; exact absurd hf (fun h => by cases h)
  | succ fu ih =>
    intro v3 v4 h3 hf
    have hf : gX12_areLike_5 o0 v1 v2 μ (zl2 (gX12_areLike_5 o0 v1 v2 μ) fu) v3 v4 = some res := hf
    unfold gX12_areLike_5 at hf
    refine tt_iload (pc := 5) (i := 4) (j := 4) E dX12_areLike_5 rfl ?_
    refine tt_bipush (pc := 7) (v := 6) E dX12_areLike_7 bc_6 ?_
    refine tt_aload_n (pc := 9) (i := 0) (j := 0) E dX12_areLike_9 rfl rfl ?_
    obtain ⟨q_1, hq_2, hf⟩ := bd_some hf
    refine tt_getP (pc := 10) (t := 11) E lfX12_20 rfl rfl h0 dX12_areLike_10 hq_2 (fun kq_3 => ?_)
    refine tt_iconst (pc := 13) (v := 0) E dX12_areLike_13 ic_0 ?_
    obtain ⟨g_4, hf⟩ := gd_some hf
    refine tt_iald (pc := 14) E kq_3 g_4 dX12_areLike_14 ?_
    refine tt_imul (pc := 15) E dX12_areLike_15 ?_
    refine tt_icmp_ge (pc := 16) (tgt := 62) E dX12_areLike_16 rfl (fun c_17 => ?_) (fun c_17 => ?_)
    · have hf := ip c_17 hf
      refine tt_iload_n (pc := 62) (i := 3) (j := 3) E dX12_areLike_62 rfl rfl ?_
      exact tt_zret (pc := 63) E h3 hr hlk dX12_areLike_63 (Nat.le_of_ble_eq_true rfl) (Nat.le_of_ble_eq_true rfl) (pv hf)
    · have hf := ine c_17 hf
      refine tt_iload_n (pc := 19) (i := 3) (j := 3) E dX12_areLike_19 rfl rfl ?_
      refine tt_if_eq (pc := 20) (tgt := 62) E dX12_areLike_20 rfl (fun c_16 => ?_) (fun c_16 => ?_)
      · have hf := ip c_16 hf
        refine tt_iload_n (pc := 62) (i := 3) (j := 3) E dX12_areLike_62 rfl rfl ?_
        exact tt_zret (pc := 63) E h3 hr hlk dX12_areLike_63 (Nat.le_of_ble_eq_true rfl) (Nat.le_of_ble_eq_true rfl) (pv hf)
      · have hf := ine c_16 hf
        refine tt_aload_n (pc := 23) (i := 0) (j := 0) E dX12_areLike_23 rfl rfl ?_
        obtain ⟨q_5, hq_6, hf⟩ := bd_some hf
        refine tt_getP (pc := 24) (t := 11) E lfX12_45 rfl rfl h0 dX12_areLike_24 hq_6 (fun kq_7 => ?_)
        refine tt_bipush (pc := 27) (v := 48) E dX12_areLike_27 bc_48 ?_
        refine tt_iload_n (pc := 29) (i := 1) (j := 1) E dX12_areLike_29 rfl rfl ?_
        refine tt_imul (pc := 30) E dX12_areLike_30 ?_
        refine tt_iload (pc := 31) (i := 4) (j := 4) E dX12_areLike_31 rfl ?_
        refine tt_iadd (pc := 33) E dX12_areLike_33 ?_
        obtain ⟨g_8, hf⟩ := gd_some hf
        refine tt_iald (pc := 34) E kq_7 g_8 dX12_areLike_34 ?_
        refine tt_aload_n (pc := 35) (i := 0) (j := 0) E dX12_areLike_35 rfl rfl ?_
        obtain ⟨q_9, hq_10, hf⟩ := bd_some hf
        refine tt_getP (pc := 36) (t := 11) E lfX12_45 rfl rfl h0 dX12_areLike_36 hq_10 (fun kq_11 => ?_)
        refine tt_bipush (pc := 39) (v := 48) E dX12_areLike_39 bc_48 ?_
        refine tt_iload_n (pc := 41) (i := 2) (j := 2) E dX12_areLike_41 rfl rfl ?_
        refine tt_imul (pc := 42) E dX12_areLike_42 ?_
        refine tt_iload (pc := 43) (i := 4) (j := 4) E dX12_areLike_43 rfl ?_
        refine tt_iadd (pc := 45) E dX12_areLike_45 ?_
        obtain ⟨g_12, hf⟩ := gd_some hf
        refine tt_iald (pc := 46) E kq_11 g_12 dX12_areLike_46 ?_
        refine tt_icmp_ne (pc := 47) (tgt := 54) E dX12_areLike_47 rfl (fun c_15 => ?_) (fun c_15 => ?_)
        · have hf := ine c_15 hf
          refine tt_iconst (pc := 54) (v := 0) E dX12_areLike_54 ic_0 ?_
          refine tt_istore_n (pc := 55) (i := 3) (lv' := [(3, .int 0), (0, .ref (B + o0)), (1, .int v1), (2, .int v2), (4, .int v4)]) E dX12_areLike_55 rfl (Nat.le_of_ble_eq_true rfl) rfl ?_
          obtain ⟨v_13, ev_13, hf⟩ := nm_ex hf
          refine tt_iinc (pc := 56) (i := 4) (j := 4) (lv' := [(4, .int v_13), (3, .int 0), (0, .ref (B + o0)), (1, .int v1), (2, .int v2)]) E dX12_areLike_56 rfl (ev_13).symm (Nat.le_of_ble_eq_true rfl) rfl ?_
          refine tt_goto (pc := 59) (tgt := 5) E dX12_areLike_59 rfl ?_
          refine tt_sub [2, 3, 4, 1, 0] (lv' := [(0, .ref (B + o0)), (1, .int v1), (2, .int v2), (3, .int 0), (4, .int v_13)]) rfl ?_
          exact ih 0 v_13 ((Or.inl rfl)) hf
        · have hf := ip c_15 hf
          refine tt_iconst (pc := 50) (v := 1) E dX12_areLike_50 ic_1 ?_
          refine tt_goto (pc := 51) (tgt := 55) E dX12_areLike_51 rfl ?_
          refine tt_istore_n (pc := 55) (i := 3) (lv' := [(3, .int 1), (0, .ref (B + o0)), (1, .int v1), (2, .int v2), (4, .int v4)]) E dX12_areLike_55 rfl (Nat.le_of_ble_eq_true rfl) rfl ?_
          obtain ⟨v_14, ev_14, hf⟩ := nm_ex hf
          refine tt_iinc (pc := 56) (i := 4) (j := 4) (lv' := [(4, .int v_14), (3, .int 1), (0, .ref (B + o0)), (1, .int v1), (2, .int v2)]) E dX12_areLike_56 rfl (ev_14).symm (Nat.le_of_ble_eq_true rfl) rfl ?_
          refine tt_goto (pc := 59) (tgt := 5) E dX12_areLike_59 rfl ?_
          refine tt_sub [2, 3, 4, 1, 0] (lv' := [(0, .ref (B + o0)), (1, .int v1), (2, .int v2), (3, .int 1), (4, .int v_14)]) rfl ?_
          exact ih 1 v_14 ((Or.inr rfl)) hf
set_option maxHeartbeats 4000000 in
theorem cX12_areLike_ok {l : Launch} {B : Nat} {D : va_G} {cT : Nat → ClassId} {n : Nat} {adK adV : Nat → Nat} {o0 : Nat} {v1 : Int32} {v2 : Int32} {μ : Mem} {res : Int32} (h0 : isK n o0 9) (hf : fX12_areLike o0 v1 v2 μ = some res) : MZ l yX12_areLike cX12_areLike 5 (some .boolean) rmX12_areLike B D cT (XW B adK adV) n [.ref (B + o0), .int v1, .int v2] μ (res, μ) := by
  refine tt_ofW mtX12_areLike.1 (Nat.le_of_ble_eq_true rfl) rfl ?_
  intro p e s m below meth c E0 hr hlk
  have E : EE p s m _ c cX12_areLike 5 RX12 B D cT (XW B adK adV) := E0
  unfold fX12_areLike at hf
  refine tt_iconst (pc := 0) (v := 1) E dX12_areLike_0 ic_1 ?_
  refine tt_istore_n (pc := 1) (i := 3) (lv' := [(3, .int 1), (0, .ref (B + o0)), (1, .int v1), (2, .int v2)]) E dX12_areLike_1 rfl (Nat.le_of_ble_eq_true rfl) rfl ?_
  refine tt_iconst (pc := 2) (v := 0) E dX12_areLike_2 ic_0 ?_
  refine tt_istore (pc := 3) (i := 4) (lv' := [(4, .int 0), (3, .int 1), (0, .ref (B + o0)), (1, .int v1), (2, .int v2)]) E dX12_areLike_3 (Nat.le_of_ble_eq_true rfl) rfl ?_
  refine tt_sub [2, 3, 4, 1, 0] (lv' := [(0, .ref (B + o0)), (1, .int v1), (2, .int v2), (3, .int 1), (4, .int 0)]) rfl ?_
  exact tX12_areLike_5 E hr hlk h0 FU 1 0 ((Or.inr rfl)) hf
set_option maxHeartbeats 4000000 in
theorem tX12_looksForAgain_54 {p : Program} {l : Launch} {e : Env} {s : State} {m : MethodId} {args : Array Value} {below : List Frame} {meth : Method} {c : Code} {B : Nat} {D : va_G} {cT : Nat → ClassId} {n : Nat} {adK adV : Nat → Nat} {res : Mem} (E : EE p s m args c cX12_looksForAgain 3 RX12 B D cT (XW B adK adV)) (hr : meth.sig.returnType = none) (hlk : meth.locks = false) {kb21 : Int32 → Mem → Option (Mem)} {o0 : Nat} {v1 : Int32} (h0 : isK n o0 9) (hk21 : ∀ (v1b : Int32) (μb : Mem), kb21 v1b μb = some res → TT p l e rmX12_looksForAgain s m args below meth c (QV B D cT n below args s res) 3 B D cT n 0 0 μb 21 [(0, .ref (B + o0)), (1, .int v1b)] []) : ∀ (fu : Nat) (v2 : Int32) (μ : Mem), zl2 (gX12_looksForAgain_54 kb21 o0 v1) fu v2 μ = some res → TT p l e rmX12_looksForAgain s m args below meth c (QV B D cT n below args s res) 3 B D cT n 0 0 μ 54 [(0, .ref (B + o0)), (1, .int v1), (2, .int v2)] [] := by
  intro fu
  induction fu with
  | zero => intro v2 μ hf; exact absurd hf (fun h => by cases h)
  | succ fu ih =>
    intro v2 μ hf
    have hf : gX12_looksForAgain_54 kb21 o0 v1 (zl2 (gX12_looksForAgain_54 kb21 o0 v1) fu) v2 μ = some res := hf
    unfold gX12_looksForAgain_54 at hf
    refine tt_iload_n (pc := 54) (i := 2) (j := 2) E dX12_looksForAgain_54 rfl rfl ?_
    refine tt_iload_n (pc := 55) (i := 1) (j := 1) E dX12_looksForAgain_55 rfl rfl ?_
    refine tt_icmp_ge (pc := 56) (tgt := 86) E dX12_looksForAgain_56 rfl (fun c_15 => ?_) (fun c_15 => ?_)
    · have hf := ip c_15 hf
      refine tt_aload_n (pc := 86) (i := 0) (j := 0) E dX12_looksForAgain_86 rfl rfl ?_
      refine tt_aload_n (pc := 87) (i := 0) (j := 0) E dX12_looksForAgain_87 rfl rfl ?_
      refine tt_getI (pc := 88) E lfX12_408 rfl h0 dX12_looksForAgain_88 ?_
      refine tt_iconst (pc := 91) (v := (-1)) E dX12_looksForAgain_91 ic_m1 ?_
      refine tt_icmp_ne (pc := 92) (tgt := 99) E dX12_looksForAgain_92 rfl (fun c_5 => ?_) (fun c_5 => ?_)
      · have hf := ine c_5 hf
        refine tt_iload_n (pc := 99) (i := 1) (j := 1) E dX12_looksForAgain_99 rfl rfl ?_
        refine tt_putI (pc := 100) E lfX12_405 rfl h0 dX12_looksForAgain_100 (tt_nmM hf (fun m_1 hf => ?_))
        obtain ⟨v_2, ev_2, hf⟩ := nm_ex hf
        refine tt_iinc (pc := 103) (i := 1) (j := 1) (lv' := [(1, .int v_2), (0, .ref (B + o0)), (2, .int v2)]) E dX12_looksForAgain_103 rfl (ev_2).symm (Nat.le_of_ble_eq_true rfl) rfl ?_
        refine tt_goto (pc := 106) (tgt := 21) E dX12_looksForAgain_106 rfl ?_
        refine tt_sub [1, 0] (lv' := [(0, .ref (B + o0)), (1, .int v_2)]) rfl ?_
        exact hk21 v_2 m_1 hf
      · have hf := ip c_5 hf
        refine tt_iconst (pc := 95) (v := (-1)) E dX12_looksForAgain_95 ic_m1 ?_
        refine tt_goto (pc := 96) (tgt := 100) E dX12_looksForAgain_96 rfl ?_
        refine tt_putI (pc := 100) E lfX12_405 rfl h0 dX12_looksForAgain_100 (tt_nmM hf (fun m_3 hf => ?_))
        obtain ⟨v_4, ev_4, hf⟩ := nm_ex hf
        refine tt_iinc (pc := 103) (i := 1) (j := 1) (lv' := [(1, .int v_4), (0, .ref (B + o0)), (2, .int v2)]) E dX12_looksForAgain_103 rfl (ev_4).symm (Nat.le_of_ble_eq_true rfl) rfl ?_
        refine tt_goto (pc := 106) (tgt := 21) E dX12_looksForAgain_106 rfl ?_
        refine tt_sub [1, 0] (lv' := [(0, .ref (B + o0)), (1, .int v_4)]) rfl ?_
        exact hk21 v_4 m_3 hf
    · have hf := ine c_15 hf
      refine tt_aload_n (pc := 59) (i := 0) (j := 0) E dX12_looksForAgain_59 rfl rfl ?_
      refine tt_aload_n (pc := 60) (i := 0) (j := 0) E dX12_looksForAgain_60 rfl rfl ?_
      refine tt_iload_n (pc := 61) (i := 2) (j := 2) E dX12_looksForAgain_61 rfl rfl ?_
      refine tt_iload_n (pc := 62) (i := 1) (j := 1) E dX12_looksForAgain_62 rfl rfl ?_
      obtain ⟨r_6, hr_7, hf⟩ := bd_some hf
      have hc_8 := cX12_areLike_ok (l := l) (B := B) (D := D) (cT := cT) (n := n) (adK := adK) (adV := adV) h0 hr_7
      refine tt_cZ (pc := 63) (tt_vi E lmX12_414 mtX12_areLike hc_8 h0 rfl rfl (Nat.le_of_ble_eq_true rfl) ⟨(Nat.le_of_ble_eq_true rfl), (Nat.le_of_ble_eq_true rfl)⟩ ⟨(Nat.le_of_ble_eq_true rfl), (Nat.le_of_ble_eq_true rfl)⟩ dX12_looksForAgain_63) (fun z_9 => ?_)
      refine tt_if_eq (pc := 66) (tgt := 73) E dX12_looksForAgain_66 rfl (fun c_14 => ?_) (fun c_14 => ?_)
      · have hf := ip c_14 hf
        refine tt_aload_n (pc := 73) (i := 0) (j := 0) E dX12_looksForAgain_73 rfl rfl ?_
        refine tt_getI (pc := 74) E lfX12_408 rfl h0 dX12_looksForAgain_74 ?_
        refine tt_putI (pc := 77) E lfX12_408 rfl h0 dX12_looksForAgain_77 (tt_nmM hf (fun m_10 hf => ?_))
        obtain ⟨v_11, ev_11, hf⟩ := nm_ex hf
        refine tt_iinc (pc := 80) (i := 2) (j := 2) (lv' := [(2, .int v_11), (0, .ref (B + o0)), (1, .int v1)]) E dX12_looksForAgain_80 rfl (ev_11).symm (Nat.le_of_ble_eq_true rfl) rfl ?_
        refine tt_goto (pc := 83) (tgt := 54) E dX12_looksForAgain_83 rfl ?_
        refine tt_sub [1, 2, 0] (lv' := [(0, .ref (B + o0)), (1, .int v1), (2, .int v_11)]) rfl ?_
        exact ih v_11 m_10 hf
      · have hf := ine c_14 hf
        refine tt_iload_n (pc := 69) (i := 2) (j := 2) E dX12_looksForAgain_69 rfl rfl ?_
        refine tt_goto (pc := 70) (tgt := 77) E dX12_looksForAgain_70 rfl ?_
        refine tt_putI (pc := 77) E lfX12_408 rfl h0 dX12_looksForAgain_77 (tt_nmM hf (fun m_12 hf => ?_))
        obtain ⟨v_13, ev_13, hf⟩ := nm_ex hf
        refine tt_iinc (pc := 80) (i := 2) (j := 2) (lv' := [(2, .int v_13), (0, .ref (B + o0)), (1, .int v1)]) E dX12_looksForAgain_80 rfl (ev_13).symm (Nat.le_of_ble_eq_true rfl) rfl ?_
        refine tt_goto (pc := 83) (tgt := 54) E dX12_looksForAgain_83 rfl ?_
        refine tt_sub [1, 2, 0] (lv' := [(0, .ref (B + o0)), (1, .int v1), (2, .int v_13)]) rfl ?_
        exact ih v_13 m_12 hf
set_option maxHeartbeats 4000000 in
theorem tX12_looksForAgain_21 {p : Program} {l : Launch} {e : Env} {s : State} {m : MethodId} {args : Array Value} {below : List Frame} {meth : Method} {c : Code} {B : Nat} {D : va_G} {cT : Nat → ClassId} {n : Nat} {adK adV : Nat → Nat} {res : Mem} (E : EE p s m args c cX12_looksForAgain 3 RX12 B D cT (XW B adK adV)) (hr : meth.sig.returnType = none) (hlk : meth.locks = false) {o0 : Nat} (h0 : isK n o0 9) : ∀ (fu : Nat) (v1 : Int32) (μ : Mem), zl2 (gX12_looksForAgain_21 o0) fu v1 μ = some res → TT p l e rmX12_looksForAgain s m args below meth c (QV B D cT n below args s res) 3 B D cT n 0 0 μ 21 [(0, .ref (B + o0)), (1, .int v1)] [] := by
  intro fu
  induction fu with
  | zero => intro v1 μ hf; exact absurd hf (fun h => by cases h)
  | succ fu ih =>
    intro v1 μ hf
    have hf : gX12_looksForAgain_21 o0 (zl2 (gX12_looksForAgain_21 o0) fu) v1 μ = some res := hf
    unfold gX12_looksForAgain_21 at hf
    refine tt_iload_n (pc := 21) (i := 1) (j := 1) E dX12_looksForAgain_21 rfl rfl ?_
    refine tt_sipush (pc := 22) (v := 200) E dX12_looksForAgain_22 sc_200 ?_
    refine tt_icmp_gt (pc := 25) (tgt := 109) E dX12_looksForAgain_25 rfl (fun c_22 => ?_) (fun c_22 => ?_)
    · have hf := ip c_22 hf
      refine tt_aload_n (pc := 109) (i := 0) (j := 0) E dX12_looksForAgain_109 rfl rfl ?_
      refine tt_iconst (pc := 110) (v := 0) E dX12_looksForAgain_110 ic_0 ?_
      obtain ⟨r_1, hr_2, hf⟩ := bd_some hf
      have hc_3 := cX12_comesBack_ok (l := l) (B := B) (D := D) (cT := cT) (n := n) (adK := adK) (adV := adV) h0 hr_2
      refine tt_cI (pc := 111) (tt_vi E lmX12_386 mtX12_comesBack hc_3 h0 rfl rfl (Nat.le_of_ble_eq_true rfl) ⟨(Nat.le_of_ble_eq_true rfl), (Nat.le_of_ble_eq_true rfl)⟩ ⟨(Nat.le_of_ble_eq_true rfl), (Nat.le_of_ble_eq_true rfl)⟩ dX12_looksForAgain_111) ?_
      refine tt_istore_n (pc := 114) (i := 1) (lv' := [(1, .int r_1.1), (0, .ref (B + o0))]) E dX12_looksForAgain_114 rfl (Nat.le_of_ble_eq_true rfl) rfl ?_
      exact tt_vret (pc := 115) E hr hlk dX12_looksForAgain_115 (Nat.le_of_ble_eq_true rfl) (Nat.le_of_ble_eq_true rfl) hf
    · have hf := ine c_22 hf
      refine tt_aload_n (pc := 28) (i := 0) (j := 0) E dX12_looksForAgain_28 rfl rfl ?_
      refine tt_getI (pc := 29) E lfX12_405 rfl h0 dX12_looksForAgain_29 ?_
      refine tt_iconst (pc := 32) (v := (-1)) E dX12_looksForAgain_32 ic_m1 ?_
      refine tt_icmp_ne (pc := 33) (tgt := 109) E dX12_looksForAgain_33 rfl (fun c_21 => ?_) (fun c_21 => ?_)
      · have hf := ine c_21 hf
        refine tt_aload_n (pc := 109) (i := 0) (j := 0) E dX12_looksForAgain_109 rfl rfl ?_
        refine tt_iconst (pc := 110) (v := 0) E dX12_looksForAgain_110 ic_0 ?_
        obtain ⟨r_4, hr_5, hf⟩ := bd_some hf
        have hc_6 := cX12_comesBack_ok (l := l) (B := B) (D := D) (cT := cT) (n := n) (adK := adK) (adV := adV) h0 hr_5
        refine tt_cI (pc := 111) (tt_vi E lmX12_386 mtX12_comesBack hc_6 h0 rfl rfl (Nat.le_of_ble_eq_true rfl) ⟨(Nat.le_of_ble_eq_true rfl), (Nat.le_of_ble_eq_true rfl)⟩ ⟨(Nat.le_of_ble_eq_true rfl), (Nat.le_of_ble_eq_true rfl)⟩ dX12_looksForAgain_111) ?_
        refine tt_istore_n (pc := 114) (i := 1) (lv' := [(1, .int r_4.1), (0, .ref (B + o0))]) E dX12_looksForAgain_114 rfl (Nat.le_of_ble_eq_true rfl) rfl ?_
        exact tt_vret (pc := 115) E hr hlk dX12_looksForAgain_115 (Nat.le_of_ble_eq_true rfl) (Nat.le_of_ble_eq_true rfl) hf
      · have hf := ip c_21 hf
        refine tt_aload_n (pc := 36) (i := 0) (j := 0) E dX12_looksForAgain_36 rfl rfl ?_
        obtain ⟨r_7, hr_8, hf⟩ := bd_some hf
        have hc_9 := cX12_isOver_ok (l := l) (B := B) (D := D) (cT := cT) (n := n) (adK := adK) (adV := adV) h0 hr_8
        refine tt_cZ (pc := 37) (tt_vi E lmX12_269 mtX12_isOver hc_9 h0 rfl rfl (Nat.le_of_ble_eq_true rfl) ⟨(Nat.le_of_ble_eq_true rfl), (Nat.le_of_ble_eq_true rfl)⟩ ⟨(Nat.le_of_ble_eq_true rfl), (Nat.le_of_ble_eq_true rfl)⟩ dX12_looksForAgain_37) (fun z_10 => ?_)
        refine tt_if_ne (pc := 40) (tgt := 109) E dX12_looksForAgain_40 rfl (fun c_20 => ?_) (fun c_20 => ?_)
        · have hf := ine c_20 hf
          refine tt_aload_n (pc := 109) (i := 0) (j := 0) E dX12_looksForAgain_109 rfl rfl ?_
          refine tt_iconst (pc := 110) (v := 0) E dX12_looksForAgain_110 ic_0 ?_
          obtain ⟨r_11, hr_12, hf⟩ := bd_some hf
          have hc_13 := cX12_comesBack_ok (l := l) (B := B) (D := D) (cT := cT) (n := n) (adK := adK) (adV := adV) h0 hr_12
          refine tt_cI (pc := 111) (tt_vi E lmX12_386 mtX12_comesBack hc_13 h0 rfl rfl (Nat.le_of_ble_eq_true rfl) ⟨(Nat.le_of_ble_eq_true rfl), (Nat.le_of_ble_eq_true rfl)⟩ ⟨(Nat.le_of_ble_eq_true rfl), (Nat.le_of_ble_eq_true rfl)⟩ dX12_looksForAgain_111) ?_
          refine tt_istore_n (pc := 114) (i := 1) (lv' := [(1, .int r_11.1), (0, .ref (B + o0))]) E dX12_looksForAgain_114 rfl (Nat.le_of_ble_eq_true rfl) rfl ?_
          exact tt_vret (pc := 115) E hr hlk dX12_looksForAgain_115 (Nat.le_of_ble_eq_true rfl) (Nat.le_of_ble_eq_true rfl) hf
        · have hf := ip c_20 hf
          refine tt_aload_n (pc := 43) (i := 0) (j := 0) E dX12_looksForAgain_43 rfl rfl ?_
          obtain ⟨r_14, hr_15, hf⟩ := bd_some hf
          have hc_16 := cX12_turns_ok (l := l) (B := B) (D := D) (cT := cT) (n := n) (adK := adK) (adV := adV) h0 hr_15
          refine tt_cV (pc := 44) (tt_vi E lmX12_331 mtX12_turns hc_16 h0 rfl rfl (Nat.le_of_ble_eq_true rfl) ⟨(Nat.le_of_ble_eq_true rfl), (Nat.le_of_ble_eq_true rfl)⟩ ⟨(Nat.le_of_ble_eq_true rfl), (Nat.le_of_ble_eq_true rfl)⟩ dX12_looksForAgain_44) ?_
          refine tt_aload_n (pc := 47) (i := 0) (j := 0) E dX12_looksForAgain_47 rfl rfl ?_
          refine tt_iload_n (pc := 48) (i := 1) (j := 1) E dX12_looksForAgain_48 rfl rfl ?_
          obtain ⟨r_17, hr_18, hf⟩ := bd_some hf
          have hc_19 := cX12_sees_ok (l := l) (B := B) (D := D) (cT := cT) (n := n) (adK := adK) (adV := adV) h0 hr_18
          refine tt_cV (pc := 49) (tt_vi E lmX12_411 mtX12_sees hc_19 h0 rfl rfl (Nat.le_of_ble_eq_true rfl) ⟨(Nat.le_of_ble_eq_true rfl), (Nat.le_of_ble_eq_true rfl)⟩ ⟨(Nat.le_of_ble_eq_true rfl), (Nat.le_of_ble_eq_true rfl)⟩ dX12_looksForAgain_49) ?_
          refine tt_iconst (pc := 52) (v := 0) E dX12_looksForAgain_52 ic_0 ?_
          refine tt_istore_n (pc := 53) (i := 2) (lv' := [(2, .int 0), (0, .ref (B + o0)), (1, .int v1)]) E dX12_looksForAgain_53 rfl (Nat.le_of_ble_eq_true rfl) rfl ?_
          refine tt_sub [1, 2, 0] (lv' := [(0, .ref (B + o0)), (1, .int v1), (2, .int 0)]) rfl ?_
          exact tX12_looksForAgain_54 E hr hlk h0 ih FU 0 r_17 hf
set_option maxHeartbeats 4000000 in
theorem cX12_looksForAgain_ok {l : Launch} {B : Nat} {D : va_G} {cT : Nat → ClassId} {n : Nat} {adK adV : Nat → Nat} {o0 : Nat} {μ : Mem} {res : Mem} (h0 : isK n o0 9) (hf : fX12_looksForAgain o0 μ = some res) : MV l yX12_looksForAgain cX12_looksForAgain 3 (none) rmX12_looksForAgain B D cT (XW B adK adV) n [.ref (B + o0)] μ res := by
  refine tt_ofW mtX12_looksForAgain.1 (Nat.le_of_ble_eq_true rfl) rfl ?_
  intro p e s m below meth c E0 hr hlk
  have E : EE p s m _ c cX12_looksForAgain 3 RX12 B D cT (XW B adK adV) := E0
  unfold fX12_looksForAgain at hf
  refine tt_aload_n (pc := 0) (i := 0) (j := 0) E dX12_looksForAgain_0 rfl rfl ?_
  obtain ⟨r_1, hr_2, hf⟩ := bd_some hf
  have hc_3 := cX12_leaves_ok (l := l) (B := B) (D := D) (cT := cT) (n := n) (adK := adK) (adV := adV) h0 hr_2
  refine tt_cV (pc := 1) (tt_vi E lmX12_374 mtX12_leaves hc_3 h0 rfl rfl (Nat.le_of_ble_eq_true rfl) ⟨(Nat.le_of_ble_eq_true rfl), (Nat.le_of_ble_eq_true rfl)⟩ ⟨(Nat.le_of_ble_eq_true rfl), (Nat.le_of_ble_eq_true rfl)⟩ dX12_looksForAgain_1) ?_
  refine tt_aload_n (pc := 4) (i := 0) (j := 0) E dX12_looksForAgain_4 rfl rfl ?_
  refine tt_iconst (pc := 5) (v := (-1)) E dX12_looksForAgain_5 ic_m1 ?_
  refine tt_putI (pc := 6) E lfX12_405 rfl h0 dX12_looksForAgain_6 (tt_nmM hf (fun m_4 hf => ?_))
  refine tt_aload_n (pc := 9) (i := 0) (j := 0) E dX12_looksForAgain_9 rfl rfl ?_
  refine tt_iconst (pc := 10) (v := (-1)) E dX12_looksForAgain_10 ic_m1 ?_
  refine tt_putI (pc := 11) E lfX12_408 rfl h0 dX12_looksForAgain_11 (tt_nmM hf (fun m_5 hf => ?_))
  refine tt_aload_n (pc := 14) (i := 0) (j := 0) E dX12_looksForAgain_14 rfl rfl ?_
  refine tt_iconst (pc := 15) (v := 0) E dX12_looksForAgain_15 ic_0 ?_
  obtain ⟨r_6, hr_7, hf⟩ := bd_some hf
  have hc_8 := cX12_sees_ok (l := l) (B := B) (D := D) (cT := cT) (n := n) (adK := adK) (adV := adV) h0 hr_7
  refine tt_cV (pc := 16) (tt_vi E lmX12_411 mtX12_sees hc_8 h0 rfl rfl (Nat.le_of_ble_eq_true rfl) ⟨(Nat.le_of_ble_eq_true rfl), (Nat.le_of_ble_eq_true rfl)⟩ ⟨(Nat.le_of_ble_eq_true rfl), (Nat.le_of_ble_eq_true rfl)⟩ dX12_looksForAgain_16) ?_
  refine tt_iconst (pc := 19) (v := 1) E dX12_looksForAgain_19 ic_1 ?_
  refine tt_istore_n (pc := 20) (i := 1) (lv' := [(1, .int 1), (0, .ref (B + o0))]) E dX12_looksForAgain_20 rfl (Nat.le_of_ble_eq_true rfl) rfl ?_
  refine tt_sub [1, 0] (lv' := [(0, .ref (B + o0)), (1, .int 1)]) rfl ?_
  exact tX12_looksForAgain_21 E hr hlk h0 FU 1 r_6 hf
set_option maxHeartbeats 4000000 in
theorem cX12_repeatIn_ok {l : Launch} {B : Nat} {D : va_G} {cT : Nat → ClassId} {n : Nat} {adK adV : Nat → Nat} {o0 : Nat} {μ : Mem} {res : Int32 × Mem} (h0 : isK n o0 9) (hf : fX12_repeatIn o0 μ = some res) : MI l yX12_repeatIn cX12_repeatIn 1 (some .int) rmX12_repeatIn B D cT (XW B adK adV) n [.ref (B + o0)] μ res := by
  refine tt_ofW mtX12_repeatIn.1 (Nat.le_of_ble_eq_true rfl) rfl ?_
  intro p e s m below meth c E0 hr hlk
  have E : EE p s m _ c cX12_repeatIn 1 RX12 B D cT (XW B adK adV) := E0
  unfold fX12_repeatIn at hf
  refine tt_aload_n (pc := 0) (i := 0) (j := 0) E dX12_repeatIn_0 rfl rfl ?_
  refine tt_iconst (pc := 1) (v := 0) E dX12_repeatIn_1 ic_0 ?_
  refine tt_putI (pc := 2) E lfX12_75 rfl h0 dX12_repeatIn_2 (tt_nmM hf (fun m_1 hf => ?_))
  refine tt_aload_n (pc := 5) (i := 0) (j := 0) E dX12_repeatIn_5 rfl rfl ?_
  obtain ⟨r_2, hr_3, hf⟩ := bd_some hf
  have hc_4 := cX12_looksForAgain_ok (l := l) (B := B) (D := D) (cT := cT) (n := n) (adK := adK) (adV := adV) h0 hr_3
  refine tt_cV (pc := 6) (tt_vi E lmX12_417 mtX12_looksForAgain hc_4 h0 rfl rfl (Nat.le_of_ble_eq_true rfl) ⟨(Nat.le_of_ble_eq_true rfl), (Nat.le_of_ble_eq_true rfl)⟩ ⟨(Nat.le_of_ble_eq_true rfl), (Nat.le_of_ble_eq_true rfl)⟩ dX12_repeatIn_6) ?_
  refine tt_aload_n (pc := 9) (i := 0) (j := 0) E dX12_repeatIn_9 rfl rfl ?_
  refine tt_getI (pc := 10) E lfX12_405 rfl h0 dX12_repeatIn_10 ?_
  exact tt_iret (pc := 13) E hr hlk dX12_repeatIn_13 (Nat.le_of_ble_eq_true rfl) (Nat.le_of_ble_eq_true rfl) hf
set_option maxHeartbeats 4000000 in
theorem cX12_cycle_ok {l : Launch} {B : Nat} {D : va_G} {cT : Nat → ClassId} {n : Nat} {adK adV : Nat → Nat} {o0 : Nat} {μ : Mem} {res : Int32 × Mem} (h0 : isK n o0 9) (hf : fX12_cycle o0 μ = some res) : MI l yX12_cycle cX12_cycle 1 (some .int) rmX12_cycle B D cT (XW B adK adV) n [.ref (B + o0)] μ res := by
  refine tt_ofW mtX12_cycle.1 (Nat.le_of_ble_eq_true rfl) rfl ?_
  intro p e s m below meth c E0 hr hlk
  have E : EE p s m _ c cX12_cycle 1 RX12 B D cT (XW B adK adV) := E0
  unfold fX12_cycle at hf
  refine tt_aload_n (pc := 0) (i := 0) (j := 0) E dX12_cycle_0 rfl rfl ?_
  refine tt_iconst (pc := 1) (v := 0) E dX12_cycle_1 ic_0 ?_
  refine tt_putI (pc := 2) E lfX12_75 rfl h0 dX12_cycle_2 (tt_nmM hf (fun m_1 hf => ?_))
  refine tt_aload_n (pc := 5) (i := 0) (j := 0) E dX12_cycle_5 rfl rfl ?_
  obtain ⟨r_2, hr_3, hf⟩ := bd_some hf
  have hc_4 := cX12_looksForAgain_ok (l := l) (B := B) (D := D) (cT := cT) (n := n) (adK := adK) (adV := adV) h0 hr_3
  refine tt_cV (pc := 6) (tt_vi E lmX12_417 mtX12_looksForAgain hc_4 h0 rfl rfl (Nat.le_of_ble_eq_true rfl) ⟨(Nat.le_of_ble_eq_true rfl), (Nat.le_of_ble_eq_true rfl)⟩ ⟨(Nat.le_of_ble_eq_true rfl), (Nat.le_of_ble_eq_true rfl)⟩ dX12_cycle_6) ?_
  refine tt_aload_n (pc := 9) (i := 0) (j := 0) E dX12_cycle_9 rfl rfl ?_
  refine tt_getI (pc := 10) E lfX12_405 rfl h0 dX12_cycle_10 ?_
  refine tt_iconst (pc := 13) (v := (-1)) E dX12_cycle_13 ic_m1 ?_
  refine tt_icmp_ne (pc := 14) (tgt := 21) E dX12_cycle_14 rfl (fun c_5 => ?_) (fun c_5 => ?_)
  · have hf := ine c_5 hf
    refine tt_aload_n (pc := 21) (i := 0) (j := 0) E dX12_cycle_21 rfl rfl ?_
    refine tt_getI (pc := 22) E lfX12_405 rfl h0 dX12_cycle_22 ?_
    refine tt_aload_n (pc := 25) (i := 0) (j := 0) E dX12_cycle_25 rfl rfl ?_
    refine tt_getI (pc := 26) E lfX12_408 rfl h0 dX12_cycle_26 ?_
    refine tt_isub (pc := 29) E dX12_cycle_29 ?_
    exact tt_iret (pc := 30) E hr hlk dX12_cycle_30 (Nat.le_of_ble_eq_true rfl) (Nat.le_of_ble_eq_true rfl) hf
  · have hf := ip c_5 hf
    refine tt_iconst (pc := 17) (v := (-1)) E dX12_cycle_17 ic_m1 ?_
    refine tt_goto (pc := 18) (tgt := 30) E dX12_cycle_18 rfl ?_
    exact tt_iret (pc := 30) E hr hlk dX12_cycle_30 (Nat.le_of_ble_eq_true rfl) (Nat.le_of_ble_eq_true rfl) hf
set_option maxHeartbeats 4000000 in
theorem cX12_winsWith_ok {l : Launch} {B : Nat} {D : va_G} {cT : Nat → ClassId} {n : Nat} {adK adV : Nat → Nat} {o0 : Nat} {v1 : Int32} {v2 : Int32} {μ : Mem} {res : Int32 × Mem} (h0 : isK n o0 9) (hf : fX12_winsWith o0 v1 v2 μ = some res) : MZ l yX12_winsWith cX12_winsWith 4 (some .boolean) rmX12_winsWith B D cT (XW B adK adV) n [.ref (B + o0), .int v1, .int v2] μ res := by
  refine tt_ofW mtX12_winsWith.1 (Nat.le_of_ble_eq_true rfl) rfl ?_
  intro p e s m below meth c E0 hr hlk
  have E : EE p s m _ c cX12_winsWith 4 RX12 B D cT (XW B adK adV) := E0
  unfold fX12_winsWith at hf
  refine tt_aload_n (pc := 0) (i := 0) (j := 0) E dX12_winsWith_0 rfl rfl ?_
  obtain ⟨r_1, hr_2, hf⟩ := bd_some hf
  have hc_3 := cX12_leaves_ok (l := l) (B := B) (D := D) (cT := cT) (n := n) (adK := adK) (adV := adV) h0 hr_2
  refine tt_cV (pc := 1) (tt_vi E lmX12_374 mtX12_leaves hc_3 h0 rfl rfl (Nat.le_of_ble_eq_true rfl) ⟨(Nat.le_of_ble_eq_true rfl), (Nat.le_of_ble_eq_true rfl)⟩ ⟨(Nat.le_of_ble_eq_true rfl), (Nat.le_of_ble_eq_true rfl)⟩ dX12_winsWith_1) ?_
  refine tt_aload_n (pc := 4) (i := 0) (j := 0) E dX12_winsWith_4 rfl rfl ?_
  refine tt_iload_n (pc := 5) (i := 1) (j := 1) E dX12_winsWith_5 rfl rfl ?_
  refine tt_iconst (pc := 6) (v := 1) E dX12_winsWith_6 ic_1 ?_
  refine tt_iload_n (pc := 7) (i := 2) (j := 2) E dX12_winsWith_7 rfl rfl ?_
  obtain ⟨r_4, hr_5, hf⟩ := bd_some hf
  have hc_6 := cX12_sets_ok (l := l) (B := B) (D := D) (cT := cT) (n := n) (adK := adK) (adV := adV) h0 hr_5
  refine tt_cV (pc := 8) (tt_vi E lmX12_201 mtX12_sets hc_6 h0 rfl rfl (Nat.le_of_ble_eq_true rfl) ⟨(Nat.le_of_ble_eq_true rfl), (Nat.le_of_ble_eq_true rfl)⟩ ⟨(Nat.le_of_ble_eq_true rfl), (Nat.le_of_ble_eq_true rfl)⟩ dX12_winsWith_8) ?_
  refine tt_aload_n (pc := 11) (i := 0) (j := 0) E dX12_winsWith_11 rfl rfl ?_
  refine tt_sipush (pc := 12) (v := 200) E dX12_winsWith_12 sc_200 ?_
  obtain ⟨r_7, hr_8, hf⟩ := bd_some hf
  have hc_9 := cX12_plays_ok (l := l) (B := B) (D := D) (cT := cT) (n := n) (adK := adK) (adV := adV) h0 hr_8
  refine tt_cI (pc := 15) (tt_vi E lmX12_377 mtX12_plays hc_9 h0 rfl rfl (Nat.le_of_ble_eq_true rfl) ⟨(Nat.le_of_ble_eq_true rfl), (Nat.le_of_ble_eq_true rfl)⟩ ⟨(Nat.le_of_ble_eq_true rfl), (Nat.le_of_ble_eq_true rfl)⟩ dX12_winsWith_15) ?_
  refine tt_istore_n (pc := 18) (i := 3) (lv' := [(3, .int r_7.1), (0, .ref (B + o0)), (1, .int v1), (2, .int v2)]) E dX12_winsWith_18 rfl (Nat.le_of_ble_eq_true rfl) rfl ?_
  refine tt_aload_n (pc := 19) (i := 0) (j := 1) E dX12_winsWith_19 rfl rfl ?_
  refine tt_aload_n (pc := 20) (i := 0) (j := 1) E dX12_winsWith_20 rfl rfl ?_
  obtain ⟨r_10, hr_11, hf⟩ := bd_some hf
  have hc_12 := cX12_sideThatWon_ok (l := l) (B := B) (D := D) (cT := cT) (n := n) (adK := adK) (adV := adV) h0 hr_11
  refine tt_cI (pc := 21) (tt_vi E lmX12_342 mtX12_sideThatWon hc_12 h0 rfl rfl (Nat.le_of_ble_eq_true rfl) ⟨(Nat.le_of_ble_eq_true rfl), (Nat.le_of_ble_eq_true rfl)⟩ ⟨(Nat.le_of_ble_eq_true rfl), (Nat.le_of_ble_eq_true rfl)⟩ dX12_winsWith_21) ?_
  obtain ⟨r_13, hr_14, hf⟩ := bd_some hf
  have hc_15 := cX12_comesBack_ok (l := l) (B := B) (D := D) (cT := cT) (n := n) (adK := adK) (adV := adV) h0 hr_14
  refine tt_cI (pc := 24) (tt_vi E lmX12_386 mtX12_comesBack hc_15 h0 rfl rfl (Nat.le_of_ble_eq_true rfl) ⟨(Nat.le_of_ble_eq_true rfl), (Nat.le_of_ble_eq_true rfl)⟩ ⟨(Nat.le_of_ble_eq_true rfl), (Nat.le_of_ble_eq_true rfl)⟩ dX12_winsWith_24) ?_
  refine tt_aload_n (pc := 27) (i := 0) (j := 1) E dX12_winsWith_27 rfl rfl ?_
  refine tt_iload_n (pc := 28) (i := 1) (j := 2) E dX12_winsWith_28 rfl rfl ?_
  refine tt_iconst (pc := 29) (v := 0) E dX12_winsWith_29 ic_0 ?_
  obtain ⟨r_16, hr_17, hf⟩ := bd_some hf
  have hc_18 := cX12_of_ok (l := l) (B := B) (D := D) (cT := cT) (n := n) (adK := adK) (adV := adV) h0 hr_17
  refine tt_cI (pc := 30) (tt_vi E lmX12_192 mtX12_of hc_18 h0 rfl rfl (Nat.le_of_ble_eq_true rfl) ⟨(Nat.le_of_ble_eq_true rfl), (Nat.le_of_ble_eq_true rfl)⟩ ⟨(Nat.le_of_ble_eq_true rfl), (Nat.le_of_ble_eq_true rfl)⟩ dX12_winsWith_30) ?_
  refine tt_icmp_ne (pc := 33) (tgt := 40) E dX12_winsWith_33 rfl (fun c_19 => ?_) (fun c_19 => ?_)
  · have hf := ine c_19 hf
    refine tt_iconst (pc := 40) (v := 0) E dX12_winsWith_40 ic_0 ?_
    exact tt_zret (pc := 41) E ((Or.inl rfl)) hr hlk dX12_winsWith_41 (Nat.le_of_ble_eq_true rfl) (Nat.le_of_ble_eq_true rfl) hf
  · have hf := ip c_19 hf
    refine tt_iconst (pc := 36) (v := 1) E dX12_winsWith_36 ic_1 ?_
    refine tt_goto (pc := 37) (tgt := 41) E dX12_winsWith_37 rfl ?_
    exact tt_zret (pc := 41) E ((Or.inr rfl)) hr hlk dX12_winsWith_41 (Nat.le_of_ble_eq_true rfl) (Nat.le_of_ble_eq_true rfl) hf
set_option maxHeartbeats 4000000 in
theorem tX12_leastSpeed_16 {p : Program} {l : Launch} {e : Env} {s : State} {m : MethodId} {args : Array Value} {below : List Frame} {meth : Method} {c : Code} {B : Nat} {D : va_G} {cT : Nat → ClassId} {n : Nat} {adK adV : Nat → Nat} {res : Int32 × Mem} (E : EE p s m args c cX12_leastSpeed 3 RX12 B D cT (XW B adK adV)) (hr : meth.sig.returnType = some .int) (hlk : meth.locks = false) {o0 : Nat} {v1 : Int32} (h0 : isK n o0 9) : ∀ (fu : Nat) (v2 : Int32) (μ : Mem), zl2 (gX12_leastSpeed_16 o0 v1) fu v2 μ = some res → TT p l e rmX12_leastSpeed s m args below meth c (QI B D cT n below args s res) 3 B D cT n 0 0 μ 16 [(0, .ref (B + o0)), (1, .int v1), (2, .int v2)] [] := by
  intro fu
  induction fu with
  | zero => intro v2 μ hf; exact absurd hf (fun h => by cases h)
  | succ fu ih =>
    intro v2 μ hf
    have hf : gX12_leastSpeed_16 o0 v1 (zl2 (gX12_leastSpeed_16 o0 v1) fu) v2 μ = some res := hf
    unfold gX12_leastSpeed_16 at hf
    refine tt_iload_n (pc := 16) (i := 2) (j := 2) E dX12_leastSpeed_16 rfl rfl ?_
    refine tt_bipush (pc := 17) (v := 100) E dX12_leastSpeed_17 bc_100 ?_
    refine tt_icmp_ge (pc := 19) (tgt := 39) E dX12_leastSpeed_19 rfl (fun c_7 => ?_) (fun c_7 => ?_)
    · have hf := ip c_7 hf
      refine tt_iconst (pc := 39) (v := (-1)) E dX12_leastSpeed_39 ic_m1 ?_
      exact tt_iret (pc := 40) E hr hlk dX12_leastSpeed_40 (Nat.le_of_ble_eq_true rfl) (Nat.le_of_ble_eq_true rfl) hf
    · have hf := ine c_7 hf
      refine tt_aload_n (pc := 22) (i := 0) (j := 0) E dX12_leastSpeed_22 rfl rfl ?_
      refine tt_iload_n (pc := 23) (i := 1) (j := 1) E dX12_leastSpeed_23 rfl rfl ?_
      refine tt_iload_n (pc := 24) (i := 2) (j := 2) E dX12_leastSpeed_24 rfl rfl ?_
      obtain ⟨r_1, hr_2, hf⟩ := bd_some hf
      have hc_3 := cX12_winsWith_ok (l := l) (B := B) (D := D) (cT := cT) (n := n) (adK := adK) (adV := adV) h0 hr_2
      refine tt_cZ (pc := 25) (tt_vi E lmX12_420 mtX12_winsWith hc_3 h0 rfl rfl (Nat.le_of_ble_eq_true rfl) ⟨(Nat.le_of_ble_eq_true rfl), (Nat.le_of_ble_eq_true rfl)⟩ ⟨(Nat.le_of_ble_eq_true rfl), (Nat.le_of_ble_eq_true rfl)⟩ dX12_leastSpeed_25) (fun z_4 => ?_)
      refine tt_if_eq (pc := 28) (tgt := 33) E dX12_leastSpeed_28 rfl (fun c_6 => ?_) (fun c_6 => ?_)
      · have hf := ip c_6 hf
        obtain ⟨v_5, ev_5, hf⟩ := nm_ex hf
        refine tt_iinc (pc := 33) (i := 2) (j := 2) (lv' := [(2, .int v_5), (0, .ref (B + o0)), (1, .int v1)]) E dX12_leastSpeed_33 rfl (ev_5).symm (Nat.le_of_ble_eq_true rfl) rfl ?_
        refine tt_goto (pc := 36) (tgt := 16) E dX12_leastSpeed_36 rfl ?_
        refine tt_sub [1, 2, 0] (lv' := [(0, .ref (B + o0)), (1, .int v1), (2, .int v_5)]) rfl ?_
        exact ih v_5 r_1.2 hf
      · have hf := ine c_6 hf
        refine tt_iload_n (pc := 31) (i := 2) (j := 2) E dX12_leastSpeed_31 rfl rfl ?_
        exact tt_iret (pc := 32) E hr hlk dX12_leastSpeed_32 (Nat.le_of_ble_eq_true rfl) (Nat.le_of_ble_eq_true rfl) hf
set_option maxHeartbeats 4000000 in
theorem cX12_leastSpeed_ok {l : Launch} {B : Nat} {D : va_G} {cT : Nat → ClassId} {n : Nat} {adK adV : Nat → Nat} {o0 : Nat} {v1 : Int32} {μ : Mem} {res : Int32 × Mem} (h0 : isK n o0 9) (hf : fX12_leastSpeed o0 v1 μ = some res) : MI l yX12_leastSpeed cX12_leastSpeed 3 (some .int) rmX12_leastSpeed B D cT (XW B adK adV) n [.ref (B + o0), .int v1] μ res := by
  refine tt_ofW mtX12_leastSpeed.1 (Nat.le_of_ble_eq_true rfl) rfl ?_
  intro p e s m below meth c E0 hr hlk
  have E : EE p s m _ c cX12_leastSpeed 3 RX12 B D cT (XW B adK adV) := E0
  unfold fX12_leastSpeed at hf
  refine tt_aload_n (pc := 0) (i := 0) (j := 0) E dX12_leastSpeed_0 rfl rfl ?_
  refine tt_aload_n (pc := 1) (i := 0) (j := 0) E dX12_leastSpeed_1 rfl rfl ?_
  refine tt_iload_n (pc := 2) (i := 1) (j := 1) E dX12_leastSpeed_2 rfl rfl ?_
  obtain ⟨r_1, hr_2, hf⟩ := bd_some hf
  have hc_3 := cX12_isFighter_ok (l := l) (B := B) (D := D) (cT := cT) (n := n) (adK := adK) (adV := adV) h0 hr_2
  refine tt_cZ (pc := 3) (tt_vi E lmX12_345 mtX12_isFighter hc_3 h0 rfl rfl (Nat.le_of_ble_eq_true rfl) ⟨(Nat.le_of_ble_eq_true rfl), (Nat.le_of_ble_eq_true rfl)⟩ ⟨(Nat.le_of_ble_eq_true rfl), (Nat.le_of_ble_eq_true rfl)⟩ dX12_leastSpeed_3) (fun z_4 => ?_)
  obtain ⟨r_5, hr_6, hf⟩ := bd_some hf
  have hc_7 := cX12_goes_ok (l := l) (B := B) (D := D) (cT := cT) (n := n) (adK := adK) (adV := adV) h0 z_4 hr_6
  refine tt_cZ (pc := 6) (tt_vi E lmX12_85 mtX12_goes hc_7 h0 rfl rfl (Nat.le_of_ble_eq_true rfl) ⟨(Nat.le_of_ble_eq_true rfl), (Nat.le_of_ble_eq_true rfl)⟩ ⟨(Nat.le_of_ble_eq_true rfl), (Nat.le_of_ble_eq_true rfl)⟩ dX12_leastSpeed_6) (fun z_8 => ?_)
  refine tt_if_ne (pc := 9) (tgt := 14) E dX12_leastSpeed_9 rfl (fun c_9 => ?_) (fun c_9 => ?_)
  · have hf := ine c_9 hf
    refine tt_iconst (pc := 14) (v := 1) E dX12_leastSpeed_14 ic_1 ?_
    refine tt_istore_n (pc := 15) (i := 2) (lv' := [(2, .int 1), (0, .ref (B + o0)), (1, .int v1)]) E dX12_leastSpeed_15 rfl (Nat.le_of_ble_eq_true rfl) rfl ?_
    refine tt_sub [1, 2, 0] (lv' := [(0, .ref (B + o0)), (1, .int v1), (2, .int 1)]) rfl ?_
    exact tX12_leastSpeed_16 E hr hlk h0 FU 1 r_5.2 hf
  · have hf := ip c_9 hf
    refine tt_iconst (pc := 12) (v := 0) E dX12_leastSpeed_12 ic_0 ?_
    exact tt_iret (pc := 13) E hr hlk dX12_leastSpeed_13 (Nat.le_of_ble_eq_true rfl) (Nat.le_of_ble_eq_true rfl) hf
set_option maxHeartbeats 4000000 in
theorem cX12_thenOn_ok {l : Launch} {B : Nat} {D : va_G} {cT : Nat → ClassId} {n : Nat} {adK adV : Nat → Nat} {o0 : Nat} {v1 : Int32} {μ : Mem} {res : Int32 × Mem} (h0 : isK n o0 9) (hf : fX12_thenOn o0 v1 μ = some res) : MI l yX12_thenOn cX12_thenOn 3 (some .int) rmX12_thenOn B D cT (XW B adK adV) n [.ref (B + o0), .int v1] μ res := by
  refine tt_ofW mtX12_thenOn.1 (Nat.le_of_ble_eq_true rfl) rfl ?_
  intro p e s m below meth c E0 hr hlk
  have E : EE p s m _ c cX12_thenOn 3 RX12 B D cT (XW B adK adV) := E0
  unfold fX12_thenOn at hf
  refine tt_aload_n (pc := 0) (i := 0) (j := 0) E dX12_thenOn_0 rfl rfl ?_
  refine tt_bipush (pc := 1) (v := 20) E dX12_thenOn_1 bc_20 ?_
  obtain ⟨r_1, hr_2, hf⟩ := bd_some hf
  have hc_3 := cX12_plays_ok (l := l) (B := B) (D := D) (cT := cT) (n := n) (adK := adK) (adV := adV) h0 hr_2
  refine tt_cI (pc := 3) (tt_vi E lmX12_377 mtX12_plays hc_3 h0 rfl rfl (Nat.le_of_ble_eq_true rfl) ⟨(Nat.le_of_ble_eq_true rfl), (Nat.le_of_ble_eq_true rfl)⟩ ⟨(Nat.le_of_ble_eq_true rfl), (Nat.le_of_ble_eq_true rfl)⟩ dX12_thenOn_3) ?_
  refine tt_istore_n (pc := 6) (i := 2) (lv' := [(2, .int r_1.1), (0, .ref (B + o0)), (1, .int v1)]) E dX12_thenOn_6 rfl (Nat.le_of_ble_eq_true rfl) rfl ?_
  refine tt_aload_n (pc := 7) (i := 0) (j := 1) E dX12_thenOn_7 rfl rfl ?_
  refine tt_aload_n (pc := 8) (i := 0) (j := 1) E dX12_thenOn_8 rfl rfl ?_
  refine tt_iload_n (pc := 9) (i := 1) (j := 2) E dX12_thenOn_9 rfl rfl ?_
  obtain ⟨r_4, hr_5, hf⟩ := bd_some hf
  have hc_6 := cX12_lifeOn_ok (l := l) (B := B) (D := D) (cT := cT) (n := n) (adK := adK) (adV := adV) h0 hr_5
  refine tt_cI (pc := 10) (tt_vi E lmX12_339 mtX12_lifeOn hc_6 h0 rfl rfl (Nat.le_of_ble_eq_true rfl) ⟨(Nat.le_of_ble_eq_true rfl), (Nat.le_of_ble_eq_true rfl)⟩ ⟨(Nat.le_of_ble_eq_true rfl), (Nat.le_of_ble_eq_true rfl)⟩ dX12_thenOn_10) ?_
  obtain ⟨r_7, hr_8, hf⟩ := bd_some hf
  have hc_9 := cX12_comesBack_ok (l := l) (B := B) (D := D) (cT := cT) (n := n) (adK := adK) (adV := adV) h0 hr_8
  refine tt_cI (pc := 13) (tt_vi E lmX12_386 mtX12_comesBack hc_9 h0 rfl rfl (Nat.le_of_ble_eq_true rfl) ⟨(Nat.le_of_ble_eq_true rfl), (Nat.le_of_ble_eq_true rfl)⟩ ⟨(Nat.le_of_ble_eq_true rfl), (Nat.le_of_ble_eq_true rfl)⟩ dX12_thenOn_13) ?_
  exact tt_iret (pc := 16) E hr hlk dX12_thenOn_16 (Nat.le_of_ble_eq_true rfl) (Nat.le_of_ble_eq_true rfl) hf
set_option maxHeartbeats 4000000 in
theorem cX12_byPush_ok {l : Launch} {B : Nat} {D : va_G} {cT : Nat → ClassId} {n : Nat} {adK adV : Nat → Nat} {o0 : Nat} {v1 : Int32} {v2 : Int32} {v3 : Int32} {μ : Mem} {res : Int32 × Mem} (h0 : isK n o0 9) (hf : fX12_byPush o0 v1 v2 v3 μ = some res) : MI l yX12_byPush cX12_byPush 5 (some .int) rmX12_byPush B D cT (XW B adK adV) n [.ref (B + o0), .int v1, .int v2, .int v3] μ res := by
  refine tt_ofW mtX12_byPush.1 (Nat.le_of_ble_eq_true rfl) rfl ?_
  intro p e s m below meth c E0 hr hlk
  have E : EE p s m _ c cX12_byPush 5 RX12 B D cT (XW B adK adV) := E0
  unfold fX12_byPush at hf
  refine tt_aload_n (pc := 0) (i := 0) (j := 0) E dX12_byPush_0 rfl rfl ?_
  obtain ⟨r_1, hr_2, hf⟩ := bd_some hf
  have hc_3 := cX12_leaves_ok (l := l) (B := B) (D := D) (cT := cT) (n := n) (adK := adK) (adV := adV) h0 hr_2
  refine tt_cV (pc := 1) (tt_vi E lmX12_374 mtX12_leaves hc_3 h0 rfl rfl (Nat.le_of_ble_eq_true rfl) ⟨(Nat.le_of_ble_eq_true rfl), (Nat.le_of_ble_eq_true rfl)⟩ ⟨(Nat.le_of_ble_eq_true rfl), (Nat.le_of_ble_eq_true rfl)⟩ dX12_byPush_1) ?_
  refine tt_aload_n (pc := 4) (i := 0) (j := 0) E dX12_byPush_4 rfl rfl ?_
  refine tt_iload_n (pc := 5) (i := 2) (j := 2) E dX12_byPush_5 rfl rfl ?_
  refine tt_iload_n (pc := 6) (i := 3) (j := 3) E dX12_byPush_6 rfl rfl ?_
  obtain ⟨r_4, hr_5, hf⟩ := bd_some hf
  have hc_6 := cX12_lowers_ok (l := l) (B := B) (D := D) (cT := cT) (n := n) (adK := adK) (adV := adV) h0 hr_5
  refine tt_cI (pc := 7) (tt_vi E lmX12_307 mtX12_lowers hc_6 h0 rfl rfl (Nat.le_of_ble_eq_true rfl) ⟨(Nat.le_of_ble_eq_true rfl), (Nat.le_of_ble_eq_true rfl)⟩ ⟨(Nat.le_of_ble_eq_true rfl), (Nat.le_of_ble_eq_true rfl)⟩ dX12_byPush_7) ?_
  refine tt_istore (pc := 10) (i := 4) (lv' := [(4, .int r_4.1), (0, .ref (B + o0)), (1, .int v1), (2, .int v2), (3, .int v3)]) E dX12_byPush_10 (Nat.le_of_ble_eq_true rfl) rfl ?_
  refine tt_aload_n (pc := 12) (i := 0) (j := 1) E dX12_byPush_12 rfl rfl ?_
  refine tt_iload_n (pc := 13) (i := 1) (j := 2) E dX12_byPush_13 rfl rfl ?_
  obtain ⟨r_7, hr_8, hf⟩ := bd_some hf
  have hc_9 := cX12_thenOn_ok (l := l) (B := B) (D := D) (cT := cT) (n := n) (adK := adK) (adV := adV) h0 hr_8
  refine tt_cI (pc := 14) (tt_vi E lmX12_423 mtX12_thenOn hc_9 h0 rfl rfl (Nat.le_of_ble_eq_true rfl) ⟨(Nat.le_of_ble_eq_true rfl), (Nat.le_of_ble_eq_true rfl)⟩ ⟨(Nat.le_of_ble_eq_true rfl), (Nat.le_of_ble_eq_true rfl)⟩ dX12_byPush_14) ?_
  exact tt_iret (pc := 17) E hr hlk dX12_byPush_17 (Nat.le_of_ble_eq_true rfl) (Nat.le_of_ble_eq_true rfl) hf
set_option maxHeartbeats 4000000 in
theorem tX12_bestPush_44 {p : Program} {l : Launch} {e : Env} {s : State} {m : MethodId} {args : Array Value} {below : List Frame} {meth : Method} {c : Code} {B : Nat} {D : va_G} {cT : Nat → ClassId} {n : Nat} {adK adV : Nat → Nat} {res : Int32 × Mem} (E : EE p s m args c cX12_bestPush 7 RX12 B D cT (XW B adK adV)) (hr : meth.sig.returnType = some .int) (hlk : meth.locks = false) {o0 : Nat} {v1 : Int32} {v2 : Int32} (h0 : isK n o0 9) : ∀ (fu : Nat) (v3 : Int32) (v4 : Int32) (v5 : Int32) (μ : Mem), zl4 (gX12_bestPush_44 o0 v1 v2) fu v3 v4 v5 μ = some res → TT p l e rmX12_bestPush s m args below meth c (QI B D cT n below args s res) 7 B D cT n 0 0 μ 44 [(0, .ref (B + o0)), (1, .int v1), (2, .int v2), (3, .int v3), (4, .int v4), (5, .int v5)] [] := by
  intro fu
  induction fu with
  | zero => intro v3 v4 v5 μ hf; exact absurd hf (fun h => by cases h)
  | succ fu ih =>
    intro v3 v4 v5 μ hf
    have hf : gX12_bestPush_44 o0 v1 v2 (zl4 (gX12_bestPush_44 o0 v1 v2) fu) v3 v4 v5 μ = some res := hf
    unfold gX12_bestPush_44 at hf
    refine tt_iload (pc := 44) (i := 5) (j := 5) E dX12_bestPush_44 rfl ?_
    refine tt_aload_n (pc := 46) (i := 0) (j := 0) E dX12_bestPush_46 rfl rfl ?_
    obtain ⟨q_1, hq_2, hf⟩ := bd_some hf
    refine tt_getP (pc := 47) (t := 11) E lfX12_20 rfl rfl h0 dX12_bestPush_47 hq_2 (fun kq_3 => ?_)
    refine tt_iconst (pc := 50) (v := 0) E dX12_bestPush_50 ic_0 ?_
    obtain ⟨g_4, hf⟩ := gd_some hf
    refine tt_iald (pc := 51) E kq_3 g_4 dX12_bestPush_51 ?_
    refine tt_icmp_ge (pc := 52) (tgt := 116) E dX12_bestPush_52 rfl (fun c_24 => ?_) (fun c_24 => ?_)
    · have hf := ip c_24 hf
      refine tt_iload_n (pc := 116) (i := 3) (j := 3) E dX12_bestPush_116 rfl rfl ?_
      exact tt_iret (pc := 117) E hr hlk dX12_bestPush_117 (Nat.le_of_ble_eq_true rfl) (Nat.le_of_ble_eq_true rfl) hf
    · have hf := ine c_24 hf
      refine tt_aload_n (pc := 55) (i := 0) (j := 0) E dX12_bestPush_55 rfl rfl ?_
      refine tt_iload (pc := 56) (i := 5) (j := 5) E dX12_bestPush_56 rfl ?_
      obtain ⟨r_5, hr_6, hf⟩ := bd_some hf
      have hc_7 := cX12_lives_ok (l := l) (B := B) (D := D) (cT := cT) (n := n) (adK := adK) (adV := adV) h0 hr_6
      refine tt_cZ (pc := 58) (tt_vi E lmX12_263 mtX12_lives hc_7 h0 rfl rfl (Nat.le_of_ble_eq_true rfl) ⟨(Nat.le_of_ble_eq_true rfl), (Nat.le_of_ble_eq_true rfl)⟩ ⟨(Nat.le_of_ble_eq_true rfl), (Nat.le_of_ble_eq_true rfl)⟩ dX12_bestPush_58) (fun z_8 => ?_)
      refine tt_if_eq (pc := 61) (tgt := 110) E dX12_bestPush_61 rfl (fun c_23 => ?_) (fun c_23 => ?_)
      · have hf := ip c_23 hf
        obtain ⟨v_9, ev_9, hf⟩ := nm_ex hf
        refine tt_iinc (pc := 110) (i := 5) (j := 5) (lv' := [(5, .int v_9), (0, .ref (B + o0)), (1, .int v1), (2, .int v2), (3, .int v3), (4, .int v4)]) E dX12_bestPush_110 rfl (ev_9).symm (Nat.le_of_ble_eq_true rfl) rfl ?_
        refine tt_goto (pc := 113) (tgt := 44) E dX12_bestPush_113 rfl ?_
        refine tt_sub [1, 2, 3, 4, 5, 0] (lv' := [(0, .ref (B + o0)), (1, .int v1), (2, .int v2), (3, .int v3), (4, .int v4), (5, .int v_9)]) rfl ?_
        exact ih v3 v4 v_9 μ hf
      · have hf := ine c_23 hf
        refine tt_aload_n (pc := 64) (i := 0) (j := 0) E dX12_bestPush_64 rfl rfl ?_
        refine tt_iload (pc := 65) (i := 5) (j := 5) E dX12_bestPush_65 rfl ?_
        refine tt_iconst (pc := 67) (v := 0) E dX12_bestPush_67 ic_0 ?_
        obtain ⟨r_10, hr_11, hf⟩ := bd_some hf
        have hc_12 := cX12_of_ok (l := l) (B := B) (D := D) (cT := cT) (n := n) (adK := adK) (adV := adV) h0 hr_11
        refine tt_cI (pc := 68) (tt_vi E lmX12_192 mtX12_of hc_12 h0 rfl rfl (Nat.le_of_ble_eq_true rfl) ⟨(Nat.le_of_ble_eq_true rfl), (Nat.le_of_ble_eq_true rfl)⟩ ⟨(Nat.le_of_ble_eq_true rfl), (Nat.le_of_ble_eq_true rfl)⟩ dX12_bestPush_68) ?_
        refine tt_iload_n (pc := 71) (i := 1) (j := 1) E dX12_bestPush_71 rfl rfl ?_
        refine tt_icmp_ne (pc := 72) (tgt := 78) E dX12_bestPush_72 rfl (fun c_22 => ?_) (fun c_22 => ?_)
        · have hf := ine c_22 hf
          refine tt_aload_n (pc := 78) (i := 0) (j := 0) E dX12_bestPush_78 rfl rfl ?_
          refine tt_iload_n (pc := 79) (i := 1) (j := 1) E dX12_bestPush_79 rfl rfl ?_
          refine tt_iload (pc := 80) (i := 5) (j := 5) E dX12_bestPush_80 rfl ?_
          refine tt_iload_n (pc := 82) (i := 2) (j := 2) E dX12_bestPush_82 rfl rfl ?_
          obtain ⟨r_13, hr_14, hf⟩ := bd_some hf
          have hc_15 := cX12_byPush_ok (l := l) (B := B) (D := D) (cT := cT) (n := n) (adK := adK) (adV := adV) h0 hr_14
          refine tt_cI (pc := 83) (tt_vi E lmX12_428 mtX12_byPush hc_15 h0 rfl rfl (Nat.le_of_ble_eq_true rfl) ⟨(Nat.le_of_ble_eq_true rfl), (Nat.le_of_ble_eq_true rfl)⟩ ⟨(Nat.le_of_ble_eq_true rfl), (Nat.le_of_ble_eq_true rfl)⟩ dX12_bestPush_83) ?_
          refine tt_istore (pc := 86) (i := 6) (lv' := [(6, .int r_13.1), (0, .ref (B + o0)), (1, .int v1), (2, .int v2), (3, .int v3), (4, .int v4), (5, .int v5)]) E dX12_bestPush_86 (Nat.le_of_ble_eq_true rfl) rfl ?_
          refine tt_iload_n (pc := 88) (i := 3) (j := 4) E dX12_bestPush_88 rfl rfl ?_
          refine tt_iconst (pc := 89) (v := (-1)) E dX12_bestPush_89 ic_m1 ?_
          refine tt_icmp_eq (pc := 90) (tgt := 103) E dX12_bestPush_90 rfl (fun c_20 => ?_) (fun c_20 => ?_)
          · have hf := ip c_20 hf
            refine tt_iload (pc := 103) (i := 5) (j := 6) E dX12_bestPush_103 rfl ?_
            refine tt_istore_n (pc := 105) (i := 3) (lv' := [(3, .int v5), (6, .int r_13.1), (0, .ref (B + o0)), (1, .int v1), (2, .int v2), (4, .int v4), (5, .int v5)]) E dX12_bestPush_105 rfl (Nat.le_of_ble_eq_true rfl) rfl ?_
            refine tt_iload (pc := 106) (i := 6) (j := 1) E dX12_bestPush_106 rfl ?_
            refine tt_istore (pc := 108) (i := 4) (lv' := [(4, .int r_13.1), (3, .int v5), (6, .int r_13.1), (0, .ref (B + o0)), (1, .int v1), (2, .int v2), (5, .int v5)]) E dX12_bestPush_108 (Nat.le_of_ble_eq_true rfl) rfl ?_
            obtain ⟨v_16, ev_16, hf⟩ := nm_ex hf
            refine tt_iinc (pc := 110) (i := 5) (j := 6) (lv' := [(5, .int v_16), (4, .int r_13.1), (3, .int v5), (6, .int r_13.1), (0, .ref (B + o0)), (1, .int v1), (2, .int v2)]) E dX12_bestPush_110 rfl (ev_16).symm (Nat.le_of_ble_eq_true rfl) rfl ?_
            refine tt_goto (pc := 113) (tgt := 44) E dX12_bestPush_113 rfl ?_
            refine tt_sub [4, 5, 6, 2, 1, 0] (lv' := [(0, .ref (B + o0)), (1, .int v1), (2, .int v2), (3, .int v5), (4, .int r_13.1), (5, .int v_16)]) rfl ?_
            exact ih v5 r_13.1 v_16 r_13.2 hf
          · have hf := ine c_20 hf
            refine tt_iload (pc := 93) (i := 6) (j := 0) E dX12_bestPush_93 rfl ?_
            refine tt_iload (pc := 95) (i := 4) (j := 5) E dX12_bestPush_95 rfl ?_
            refine tt_icmp_gt (pc := 97) (tgt := 103) E dX12_bestPush_97 rfl (fun c_19 => ?_) (fun c_19 => ?_)
            · have hf := ip c_19 hf
              refine tt_iload (pc := 103) (i := 5) (j := 6) E dX12_bestPush_103 rfl ?_
              refine tt_istore_n (pc := 105) (i := 3) (lv' := [(3, .int v5), (6, .int r_13.1), (0, .ref (B + o0)), (1, .int v1), (2, .int v2), (4, .int v4), (5, .int v5)]) E dX12_bestPush_105 rfl (Nat.le_of_ble_eq_true rfl) rfl ?_
              refine tt_iload (pc := 106) (i := 6) (j := 1) E dX12_bestPush_106 rfl ?_
              refine tt_istore (pc := 108) (i := 4) (lv' := [(4, .int r_13.1), (3, .int v5), (6, .int r_13.1), (0, .ref (B + o0)), (1, .int v1), (2, .int v2), (5, .int v5)]) E dX12_bestPush_108 (Nat.le_of_ble_eq_true rfl) rfl ?_
              obtain ⟨v_17, ev_17, hf⟩ := nm_ex hf
              refine tt_iinc (pc := 110) (i := 5) (j := 6) (lv' := [(5, .int v_17), (4, .int r_13.1), (3, .int v5), (6, .int r_13.1), (0, .ref (B + o0)), (1, .int v1), (2, .int v2)]) E dX12_bestPush_110 rfl (ev_17).symm (Nat.le_of_ble_eq_true rfl) rfl ?_
              refine tt_goto (pc := 113) (tgt := 44) E dX12_bestPush_113 rfl ?_
              refine tt_sub [4, 5, 6, 2, 1, 0] (lv' := [(0, .ref (B + o0)), (1, .int v1), (2, .int v2), (3, .int v5), (4, .int r_13.1), (5, .int v_17)]) rfl ?_
              exact ih v5 r_13.1 v_17 r_13.2 hf
            · have hf := ine c_19 hf
              refine tt_goto (pc := 100) (tgt := 110) E dX12_bestPush_100 rfl ?_
              obtain ⟨v_18, ev_18, hf⟩ := nm_ex hf
              refine tt_iinc (pc := 110) (i := 5) (j := 6) (lv' := [(5, .int v_18), (6, .int r_13.1), (0, .ref (B + o0)), (1, .int v1), (2, .int v2), (3, .int v3), (4, .int v4)]) E dX12_bestPush_110 rfl (ev_18).symm (Nat.le_of_ble_eq_true rfl) rfl ?_
              refine tt_goto (pc := 113) (tgt := 44) E dX12_bestPush_113 rfl ?_
              refine tt_sub [2, 3, 4, 5, 6, 0] (lv' := [(0, .ref (B + o0)), (1, .int v1), (2, .int v2), (3, .int v3), (4, .int v4), (5, .int v_18)]) rfl ?_
              exact ih v3 v4 v_18 r_13.2 hf
        · have hf := ip c_22 hf
          refine tt_goto (pc := 75) (tgt := 110) E dX12_bestPush_75 rfl ?_
          obtain ⟨v_21, ev_21, hf⟩ := nm_ex hf
          refine tt_iinc (pc := 110) (i := 5) (j := 5) (lv' := [(5, .int v_21), (0, .ref (B + o0)), (1, .int v1), (2, .int v2), (3, .int v3), (4, .int v4)]) E dX12_bestPush_110 rfl (ev_21).symm (Nat.le_of_ble_eq_true rfl) rfl ?_
          refine tt_goto (pc := 113) (tgt := 44) E dX12_bestPush_113 rfl ?_
          refine tt_sub [1, 2, 3, 4, 5, 0] (lv' := [(0, .ref (B + o0)), (1, .int v1), (2, .int v2), (3, .int v3), (4, .int v4), (5, .int v_21)]) rfl ?_
          exact ih v3 v4 v_21 μ hf
set_option maxHeartbeats 4000000 in
theorem tX12_bestPush_28 {p : Program} {l : Launch} {e : Env} {s : State} {m : MethodId} {args : Array Value} {below : List Frame} {meth : Method} {c : Code} {B : Nat} {D : va_G} {cT : Nat → ClassId} {n : Nat} {adK adV : Nat → Nat} {res : Int32 × Mem} (E : EE p s m args c cX12_bestPush 7 RX12 B D cT (XW B adK adV)) (hr : meth.sig.returnType = some .int) (hlk : meth.locks = false) {o0 : Nat} {v1 : Int32} {v2 : Int32} {ot0 : Nat} {vt1 : Int32} (h0 : isK n o0 9) (ht0 : isK n ot0 9) (ht1 : zb vt1) {μ : Mem} (hf : fX12_bestPush_28 o0 v1 v2 ot0 vt1 μ = some res) : TT p l e rmX12_bestPush s m args below meth c (QI B D cT n below args s res) 7 B D cT n 0 0 μ 28 [(0, .ref (B + o0)), (1, .int v1), (2, .int v2)] [.int vt1, .ref (B + ot0)] := by
  unfold fX12_bestPush_28 at hf
  obtain ⟨r_1, hr_2, hf⟩ := bd_some hf
  have hc_3 := cX12_goes_ok (l := l) (B := B) (D := D) (cT := cT) (n := n) (adK := adK) (adV := adV) ht0 ht1 hr_2
  refine tt_cZ (pc := 28) (tt_vi E lmX12_85 mtX12_goes hc_3 ht0 rfl rfl (Nat.le_of_ble_eq_true rfl) ⟨(Nat.le_of_ble_eq_true rfl), (Nat.le_of_ble_eq_true rfl)⟩ ⟨(Nat.le_of_ble_eq_true rfl), (Nat.le_of_ble_eq_true rfl)⟩ dX12_bestPush_28) (fun z_4 => ?_)
  refine tt_if_ne (pc := 31) (tgt := 36) E dX12_bestPush_31 rfl (fun c_5 => ?_) (fun c_5 => ?_)
  · have hf := ine c_5 hf
    refine tt_iconst (pc := 36) (v := (-1)) E dX12_bestPush_36 ic_m1 ?_
    refine tt_istore_n (pc := 37) (i := 3) (lv' := [(3, .int ((-1))), (0, .ref (B + o0)), (1, .int v1), (2, .int v2)]) E dX12_bestPush_37 rfl (Nat.le_of_ble_eq_true rfl) rfl ?_
    refine tt_iconst (pc := 38) (v := 0) E dX12_bestPush_38 ic_0 ?_
    refine tt_istore (pc := 39) (i := 4) (lv' := [(4, .int 0), (3, .int ((-1))), (0, .ref (B + o0)), (1, .int v1), (2, .int v2)]) E dX12_bestPush_39 (Nat.le_of_ble_eq_true rfl) rfl ?_
    refine tt_iconst (pc := 41) (v := 0) E dX12_bestPush_41 ic_0 ?_
    refine tt_istore (pc := 42) (i := 5) (lv' := [(5, .int 0), (4, .int 0), (3, .int ((-1))), (0, .ref (B + o0)), (1, .int v1), (2, .int v2)]) E dX12_bestPush_42 (Nat.le_of_ble_eq_true rfl) rfl ?_
    refine tt_sub [3, 4, 5, 2, 1, 0] (lv' := [(0, .ref (B + o0)), (1, .int v1), (2, .int v2), (3, .int ((-1))), (4, .int 0), (5, .int 0)]) rfl ?_
    exact tX12_bestPush_44 E hr hlk h0 FU ((-1)) 0 0 r_1.2 hf
  · have hf := ip c_5 hf
    refine tt_iconst (pc := 34) (v := 0) E dX12_bestPush_34 ic_0 ?_
    exact tt_iret (pc := 35) E hr hlk dX12_bestPush_35 (Nat.le_of_ble_eq_true rfl) (Nat.le_of_ble_eq_true rfl) hf
set_option maxHeartbeats 4000000 in
theorem tX12_bestPush_27 {p : Program} {l : Launch} {e : Env} {s : State} {m : MethodId} {args : Array Value} {below : List Frame} {meth : Method} {c : Code} {B : Nat} {D : va_G} {cT : Nat → ClassId} {n : Nat} {adK adV : Nat → Nat} {res : Int32 × Mem} (E : EE p s m args c cX12_bestPush 7 RX12 B D cT (XW B adK adV)) (hr : meth.sig.returnType = some .int) (hlk : meth.locks = false) {o0 : Nat} {v1 : Int32} {v2 : Int32} {ot0 : Nat} (h0 : isK n o0 9) (ht0 : isK n ot0 9) {μ : Mem} (hf : fX12_bestPush_27 o0 v1 v2 ot0 μ = some res) : TT p l e rmX12_bestPush s m args below meth c (QI B D cT n below args s res) 7 B D cT n 0 0 μ 27 [(0, .ref (B + o0)), (1, .int v1), (2, .int v2)] [.ref (B + ot0)] := by
  unfold fX12_bestPush_27 at hf
  refine tt_iconst (pc := 27) (v := 0) E dX12_bestPush_27 ic_0 ?_
  exact tX12_bestPush_28 E hr hlk h0 ht0 ((Or.inl rfl)) hf
set_option maxHeartbeats 4000000 in
theorem cX12_bestPush_ok {l : Launch} {B : Nat} {D : va_G} {cT : Nat → ClassId} {n : Nat} {adK adV : Nat → Nat} {o0 : Nat} {v1 : Int32} {v2 : Int32} {μ : Mem} {res : Int32 × Mem} (h0 : isK n o0 9) (hf : fX12_bestPush o0 v1 v2 μ = some res) : MI l yX12_bestPush cX12_bestPush 7 (some .int) rmX12_bestPush B D cT (XW B adK adV) n [.ref (B + o0), .int v1, .int v2] μ res := by
  refine tt_ofW mtX12_bestPush.1 (Nat.le_of_ble_eq_true rfl) rfl ?_
  intro p e s m below meth c E0 hr hlk
  have E : EE p s m _ c cX12_bestPush 7 RX12 B D cT (XW B adK adV) := E0
  unfold fX12_bestPush at hf
  refine tt_aload_n (pc := 0) (i := 0) (j := 0) E dX12_bestPush_0 rfl rfl ?_
  refine tt_iload_n (pc := 1) (i := 1) (j := 1) E dX12_bestPush_1 rfl rfl ?_
  refine tt_i2l (pc := 2) E dX12_bestPush_2 ?_
  refine tt_lconst (pc := 3) (v := 0) E dX12_bestPush_3 lc_0 ?_
  refine tt_lconst (pc := 4) (v := 1) E dX12_bestPush_4 lc_1 ?_
  obtain ⟨r_1, hr_2, hf⟩ := bd_some hf
  have hc_3 := cX12_isIn_ok (l := l) (B := B) (D := D) (cT := cT) (n := n) (adK := adK) (adV := adV) hr_2
  refine tt_cZ (pc := 5) (tt_si E lmX12_92 mtX12_isIn hc_3 rfl rfl (Nat.le_of_ble_eq_true rfl) ⟨(Nat.le_of_ble_eq_true rfl), (Nat.le_of_ble_eq_true rfl)⟩ ⟨(Nat.le_of_ble_eq_true rfl), (Nat.le_of_ble_eq_true rfl)⟩ dX12_bestPush_5) (fun z_4 => ?_)
  refine tt_if_eq (pc := 8) (tgt := 27) E dX12_bestPush_8 rfl (fun c_10 => ?_) (fun c_10 => ?_)
  · have hf := ip c_10 hf
    exact tX12_bestPush_27 E hr hlk h0 h0 hf
  · have hf := ine c_10 hf
    refine tt_iload_n (pc := 11) (i := 2) (j := 2) E dX12_bestPush_11 rfl rfl ?_
    refine tt_i2l (pc := 12) E dX12_bestPush_12 ?_
    refine tt_lconst (pc := 13) (v := 1) E dX12_bestPush_13 lc_1 ?_
    refine tt_ldc2 (pc := 14) (v := 999) E dX12_bestPush_14 (gw_mem (mt8 (at_l 209 rfl)) rfl) ?_
    obtain ⟨r_5, hr_6, hf⟩ := bd_some hf
    have hc_7 := cX12_isIn_ok (l := l) (B := B) (D := D) (cT := cT) (n := n) (adK := adK) (adV := adV) hr_6
    refine tt_cZ (pc := 17) (tt_si E lmX12_92 mtX12_isIn hc_7 rfl rfl (Nat.le_of_ble_eq_true rfl) ⟨(Nat.le_of_ble_eq_true rfl), (Nat.le_of_ble_eq_true rfl)⟩ ⟨(Nat.le_of_ble_eq_true rfl), (Nat.le_of_ble_eq_true rfl)⟩ dX12_bestPush_17) (fun z_8 => ?_)
    refine tt_if_eq (pc := 20) (tgt := 27) E dX12_bestPush_20 rfl (fun c_9 => ?_) (fun c_9 => ?_)
    · have hf := ip c_9 hf
      exact tX12_bestPush_27 E hr hlk h0 h0 hf
    · have hf := ine c_9 hf
      refine tt_iconst (pc := 23) (v := 1) E dX12_bestPush_23 ic_1 ?_
      refine tt_goto (pc := 24) (tgt := 28) E dX12_bestPush_24 rfl ?_
      exact tX12_bestPush_28 E hr hlk h0 h0 ((Or.inr rfl)) hf
set_option maxHeartbeats 4000000 in
theorem cX12_bySwap_ok {l : Launch} {B : Nat} {D : va_G} {cT : Nat → ClassId} {n : Nat} {adK adV : Nat → Nat} {o0 : Nat} {v1 : Int32} {v2 : Int32} {μ : Mem} {res : Int32 × Mem} (h0 : isK n o0 9) (hf : fX12_bySwap o0 v1 v2 μ = some res) : MI l yX12_bySwap cX12_bySwap 4 (some .int) rmX12_bySwap B D cT (XW B adK adV) n [.ref (B + o0), .int v1, .int v2] μ res := by
  refine tt_ofW mtX12_bySwap.1 (Nat.le_of_ble_eq_true rfl) rfl ?_
  intro p e s m below meth c E0 hr hlk
  have E : EE p s m _ c cX12_bySwap 4 RX12 B D cT (XW B adK adV) := E0
  unfold fX12_bySwap at hf
  refine tt_aload_n (pc := 0) (i := 0) (j := 0) E dX12_bySwap_0 rfl rfl ?_
  obtain ⟨r_1, hr_2, hf⟩ := bd_some hf
  have hc_3 := cX12_leaves_ok (l := l) (B := B) (D := D) (cT := cT) (n := n) (adK := adK) (adV := adV) h0 hr_2
  refine tt_cV (pc := 1) (tt_vi E lmX12_374 mtX12_leaves hc_3 h0 rfl rfl (Nat.le_of_ble_eq_true rfl) ⟨(Nat.le_of_ble_eq_true rfl), (Nat.le_of_ble_eq_true rfl)⟩ ⟨(Nat.le_of_ble_eq_true rfl), (Nat.le_of_ble_eq_true rfl)⟩ dX12_bySwap_1) ?_
  refine tt_aload_n (pc := 4) (i := 0) (j := 0) E dX12_bySwap_4 rfl rfl ?_
  refine tt_iload_n (pc := 5) (i := 1) (j := 1) E dX12_bySwap_5 rfl rfl ?_
  refine tt_iconst (pc := 6) (v := 4) E dX12_bySwap_6 ic_4 ?_
  obtain ⟨r_4, hr_5, hf⟩ := bd_some hf
  have hc_6 := cX12_of_ok (l := l) (B := B) (D := D) (cT := cT) (n := n) (adK := adK) (adV := adV) h0 hr_5
  refine tt_cI (pc := 7) (tt_vi E lmX12_192 mtX12_of hc_6 h0 rfl rfl (Nat.le_of_ble_eq_true rfl) ⟨(Nat.le_of_ble_eq_true rfl), (Nat.le_of_ble_eq_true rfl)⟩ ⟨(Nat.le_of_ble_eq_true rfl), (Nat.le_of_ble_eq_true rfl)⟩ dX12_bySwap_7) ?_
  refine tt_istore_n (pc := 10) (i := 3) (lv' := [(3, .int r_4), (0, .ref (B + o0)), (1, .int v1), (2, .int v2)]) E dX12_bySwap_10 rfl (Nat.le_of_ble_eq_true rfl) rfl ?_
  refine tt_aload_n (pc := 11) (i := 0) (j := 1) E dX12_bySwap_11 rfl rfl ?_
  refine tt_iload_n (pc := 12) (i := 1) (j := 2) E dX12_bySwap_12 rfl rfl ?_
  refine tt_iconst (pc := 13) (v := 4) E dX12_bySwap_13 ic_4 ?_
  refine tt_aload_n (pc := 14) (i := 0) (j := 1) E dX12_bySwap_14 rfl rfl ?_
  refine tt_iload_n (pc := 15) (i := 2) (j := 3) E dX12_bySwap_15 rfl rfl ?_
  refine tt_iconst (pc := 16) (v := 4) E dX12_bySwap_16 ic_4 ?_
  obtain ⟨r_7, hr_8, hf⟩ := bd_some hf
  have hc_9 := cX12_of_ok (l := l) (B := B) (D := D) (cT := cT) (n := n) (adK := adK) (adV := adV) h0 hr_8
  refine tt_cI (pc := 17) (tt_vi E lmX12_192 mtX12_of hc_9 h0 rfl rfl (Nat.le_of_ble_eq_true rfl) ⟨(Nat.le_of_ble_eq_true rfl), (Nat.le_of_ble_eq_true rfl)⟩ ⟨(Nat.le_of_ble_eq_true rfl), (Nat.le_of_ble_eq_true rfl)⟩ dX12_bySwap_17) ?_
  obtain ⟨r_10, hr_11, hf⟩ := bd_some hf
  have hc_12 := cX12_sets_ok (l := l) (B := B) (D := D) (cT := cT) (n := n) (adK := adK) (adV := adV) h0 hr_11
  refine tt_cV (pc := 20) (tt_vi E lmX12_201 mtX12_sets hc_12 h0 rfl rfl (Nat.le_of_ble_eq_true rfl) ⟨(Nat.le_of_ble_eq_true rfl), (Nat.le_of_ble_eq_true rfl)⟩ ⟨(Nat.le_of_ble_eq_true rfl), (Nat.le_of_ble_eq_true rfl)⟩ dX12_bySwap_20) ?_
  refine tt_aload_n (pc := 23) (i := 0) (j := 1) E dX12_bySwap_23 rfl rfl ?_
  refine tt_iload_n (pc := 24) (i := 2) (j := 3) E dX12_bySwap_24 rfl rfl ?_
  refine tt_iconst (pc := 25) (v := 4) E dX12_bySwap_25 ic_4 ?_
  refine tt_iload_n (pc := 26) (i := 3) (j := 0) E dX12_bySwap_26 rfl rfl ?_
  obtain ⟨r_13, hr_14, hf⟩ := bd_some hf
  have hc_15 := cX12_sets_ok (l := l) (B := B) (D := D) (cT := cT) (n := n) (adK := adK) (adV := adV) h0 hr_14
  refine tt_cV (pc := 27) (tt_vi E lmX12_201 mtX12_sets hc_15 h0 rfl rfl (Nat.le_of_ble_eq_true rfl) ⟨(Nat.le_of_ble_eq_true rfl), (Nat.le_of_ble_eq_true rfl)⟩ ⟨(Nat.le_of_ble_eq_true rfl), (Nat.le_of_ble_eq_true rfl)⟩ dX12_bySwap_27) ?_
  refine tt_aload_n (pc := 30) (i := 0) (j := 1) E dX12_bySwap_30 rfl rfl ?_
  refine tt_aload_n (pc := 31) (i := 0) (j := 1) E dX12_bySwap_31 rfl rfl ?_
  refine tt_iload_n (pc := 32) (i := 1) (j := 2) E dX12_bySwap_32 rfl rfl ?_
  refine tt_iconst (pc := 33) (v := 0) E dX12_bySwap_33 ic_0 ?_
  obtain ⟨r_16, hr_17, hf⟩ := bd_some hf
  have hc_18 := cX12_of_ok (l := l) (B := B) (D := D) (cT := cT) (n := n) (adK := adK) (adV := adV) h0 hr_17
  refine tt_cI (pc := 34) (tt_vi E lmX12_192 mtX12_of hc_18 h0 rfl rfl (Nat.le_of_ble_eq_true rfl) ⟨(Nat.le_of_ble_eq_true rfl), (Nat.le_of_ble_eq_true rfl)⟩ ⟨(Nat.le_of_ble_eq_true rfl), (Nat.le_of_ble_eq_true rfl)⟩ dX12_bySwap_34) ?_
  obtain ⟨r_19, hr_20, hf⟩ := bd_some hf
  have hc_21 := cX12_thenOn_ok (l := l) (B := B) (D := D) (cT := cT) (n := n) (adK := adK) (adV := adV) h0 hr_20
  refine tt_cI (pc := 37) (tt_vi E lmX12_423 mtX12_thenOn hc_21 h0 rfl rfl (Nat.le_of_ble_eq_true rfl) ⟨(Nat.le_of_ble_eq_true rfl), (Nat.le_of_ble_eq_true rfl)⟩ ⟨(Nat.le_of_ble_eq_true rfl), (Nat.le_of_ble_eq_true rfl)⟩ dX12_bySwap_37) ?_
  exact tt_iret (pc := 40) E hr hlk dX12_bySwap_40 (Nat.le_of_ble_eq_true rfl) (Nat.le_of_ble_eq_true rfl) hf
set_option maxHeartbeats 4000000 in
theorem tX12_bestSwap_45 {p : Program} {l : Launch} {e : Env} {s : State} {m : MethodId} {args : Array Value} {below : List Frame} {meth : Method} {c : Code} {B : Nat} {D : va_G} {cT : Nat → ClassId} {n : Nat} {adK adV : Nat → Nat} {res : Int32 × Mem} (E : EE p s m args c cX12_bestSwap 6 RX12 B D cT (XW B adK adV)) (hr : meth.sig.returnType = some .int) (hlk : meth.locks = false) {o0 : Nat} {v1 : Int32} (h0 : isK n o0 9) : ∀ (fu : Nat) (v2 : Int32) (v3 : Int32) (v4 : Int32) (μ : Mem), zl4 (gX12_bestSwap_45 o0 v1) fu v2 v3 v4 μ = some res → TT p l e rmX12_bestSwap s m args below meth c (QI B D cT n below args s res) 6 B D cT n 0 0 μ 45 [(0, .ref (B + o0)), (1, .int v1), (2, .int v2), (3, .int v3), (4, .int v4)] [] := by
  intro fu
  induction fu with
  | zero => intro v2 v3 v4 μ hf; exact absurd hf (fun h => by cases h)
  | succ fu ih =>
    intro v2 v3 v4 μ hf
    have hf : gX12_bestSwap_45 o0 v1 (zl4 (gX12_bestSwap_45 o0 v1) fu) v2 v3 v4 μ = some res := hf
    unfold gX12_bestSwap_45 at hf
    refine tt_iload (pc := 45) (i := 4) (j := 4) E dX12_bestSwap_45 rfl ?_
    refine tt_aload_n (pc := 47) (i := 0) (j := 0) E dX12_bestSwap_47 rfl rfl ?_
    obtain ⟨q_1, hq_2, hf⟩ := bd_some hf
    refine tt_getP (pc := 48) (t := 11) E lfX12_20 rfl rfl h0 dX12_bestSwap_48 hq_2 (fun kq_3 => ?_)
    refine tt_iconst (pc := 51) (v := 0) E dX12_bestSwap_51 ic_0 ?_
    obtain ⟨g_4, hf⟩ := gd_some hf
    refine tt_iald (pc := 52) E kq_3 g_4 dX12_bestSwap_52 ?_
    refine tt_icmp_ge (pc := 53) (tgt := 120) E dX12_bestSwap_53 rfl (fun c_27 => ?_) (fun c_27 => ?_)
    · have hf := ip c_27 hf
      refine tt_iload_n (pc := 120) (i := 2) (j := 2) E dX12_bestSwap_120 rfl rfl ?_
      exact tt_iret (pc := 121) E hr hlk dX12_bestSwap_121 (Nat.le_of_ble_eq_true rfl) (Nat.le_of_ble_eq_true rfl) hf
    · have hf := ine c_27 hf
      refine tt_iload (pc := 56) (i := 4) (j := 4) E dX12_bestSwap_56 rfl ?_
      refine tt_iload_n (pc := 58) (i := 1) (j := 1) E dX12_bestSwap_58 rfl rfl ?_
      refine tt_icmp_eq (pc := 59) (tgt := 114) E dX12_bestSwap_59 rfl (fun c_26 => ?_) (fun c_26 => ?_)
      · have hf := ip c_26 hf
        obtain ⟨v_5, ev_5, hf⟩ := nm_ex hf
        refine tt_iinc (pc := 114) (i := 4) (j := 4) (lv' := [(4, .int v_5), (0, .ref (B + o0)), (1, .int v1), (2, .int v2), (3, .int v3)]) E dX12_bestSwap_114 rfl (ev_5).symm (Nat.le_of_ble_eq_true rfl) rfl ?_
        refine tt_goto (pc := 117) (tgt := 45) E dX12_bestSwap_117 rfl ?_
        refine tt_sub [1, 2, 3, 4, 0] (lv' := [(0, .ref (B + o0)), (1, .int v1), (2, .int v2), (3, .int v3), (4, .int v_5)]) rfl ?_
        exact ih v2 v3 v_5 μ hf
      · have hf := ine c_26 hf
        refine tt_aload_n (pc := 62) (i := 0) (j := 0) E dX12_bestSwap_62 rfl rfl ?_
        refine tt_iload (pc := 63) (i := 4) (j := 4) E dX12_bestSwap_63 rfl ?_
        obtain ⟨r_6, hr_7, hf⟩ := bd_some hf
        have hc_8 := cX12_lives_ok (l := l) (B := B) (D := D) (cT := cT) (n := n) (adK := adK) (adV := adV) h0 hr_7
        refine tt_cZ (pc := 65) (tt_vi E lmX12_263 mtX12_lives hc_8 h0 rfl rfl (Nat.le_of_ble_eq_true rfl) ⟨(Nat.le_of_ble_eq_true rfl), (Nat.le_of_ble_eq_true rfl)⟩ ⟨(Nat.le_of_ble_eq_true rfl), (Nat.le_of_ble_eq_true rfl)⟩ dX12_bestSwap_65) (fun z_9 => ?_)
        refine tt_if_eq (pc := 68) (tgt := 114) E dX12_bestSwap_68 rfl (fun c_25 => ?_) (fun c_25 => ?_)
        · have hf := ip c_25 hf
          obtain ⟨v_10, ev_10, hf⟩ := nm_ex hf
          refine tt_iinc (pc := 114) (i := 4) (j := 4) (lv' := [(4, .int v_10), (0, .ref (B + o0)), (1, .int v1), (2, .int v2), (3, .int v3)]) E dX12_bestSwap_114 rfl (ev_10).symm (Nat.le_of_ble_eq_true rfl) rfl ?_
          refine tt_goto (pc := 117) (tgt := 45) E dX12_bestSwap_117 rfl ?_
          refine tt_sub [1, 2, 3, 4, 0] (lv' := [(0, .ref (B + o0)), (1, .int v1), (2, .int v2), (3, .int v3), (4, .int v_10)]) rfl ?_
          exact ih v2 v3 v_10 μ hf
        · have hf := ine c_25 hf
          refine tt_aload_n (pc := 71) (i := 0) (j := 0) E dX12_bestSwap_71 rfl rfl ?_
          refine tt_iload (pc := 72) (i := 4) (j := 4) E dX12_bestSwap_72 rfl ?_
          refine tt_iconst (pc := 74) (v := 0) E dX12_bestSwap_74 ic_0 ?_
          obtain ⟨r_11, hr_12, hf⟩ := bd_some hf
          have hc_13 := cX12_of_ok (l := l) (B := B) (D := D) (cT := cT) (n := n) (adK := adK) (adV := adV) h0 hr_12
          refine tt_cI (pc := 75) (tt_vi E lmX12_192 mtX12_of hc_13 h0 rfl rfl (Nat.le_of_ble_eq_true rfl) ⟨(Nat.le_of_ble_eq_true rfl), (Nat.le_of_ble_eq_true rfl)⟩ ⟨(Nat.le_of_ble_eq_true rfl), (Nat.le_of_ble_eq_true rfl)⟩ dX12_bestSwap_75) ?_
          refine tt_aload_n (pc := 78) (i := 0) (j := 0) E dX12_bestSwap_78 rfl rfl ?_
          refine tt_iload_n (pc := 79) (i := 1) (j := 1) E dX12_bestSwap_79 rfl rfl ?_
          refine tt_iconst (pc := 80) (v := 0) E dX12_bestSwap_80 ic_0 ?_
          obtain ⟨r_14, hr_15, hf⟩ := bd_some hf
          have hc_16 := cX12_of_ok (l := l) (B := B) (D := D) (cT := cT) (n := n) (adK := adK) (adV := adV) h0 hr_15
          refine tt_cI (pc := 81) (tt_vi E lmX12_192 mtX12_of hc_16 h0 rfl rfl (Nat.le_of_ble_eq_true rfl) ⟨(Nat.le_of_ble_eq_true rfl), (Nat.le_of_ble_eq_true rfl)⟩ ⟨(Nat.le_of_ble_eq_true rfl), (Nat.le_of_ble_eq_true rfl)⟩ dX12_bestSwap_81) ?_
          refine tt_icmp_eq (pc := 84) (tgt := 90) E dX12_bestSwap_84 rfl (fun c_24 => ?_) (fun c_24 => ?_)
          · have hf := ip c_24 hf
            refine tt_aload_n (pc := 90) (i := 0) (j := 0) E dX12_bestSwap_90 rfl rfl ?_
            refine tt_iload_n (pc := 91) (i := 1) (j := 1) E dX12_bestSwap_91 rfl rfl ?_
            refine tt_iload (pc := 92) (i := 4) (j := 4) E dX12_bestSwap_92 rfl ?_
            obtain ⟨r_17, hr_18, hf⟩ := bd_some hf
            have hc_19 := cX12_bySwap_ok (l := l) (B := B) (D := D) (cT := cT) (n := n) (adK := adK) (adV := adV) h0 hr_18
            refine tt_cI (pc := 94) (tt_vi E lmX12_431 mtX12_bySwap hc_19 h0 rfl rfl (Nat.le_of_ble_eq_true rfl) ⟨(Nat.le_of_ble_eq_true rfl), (Nat.le_of_ble_eq_true rfl)⟩ ⟨(Nat.le_of_ble_eq_true rfl), (Nat.le_of_ble_eq_true rfl)⟩ dX12_bestSwap_94) ?_
            refine tt_istore (pc := 97) (i := 5) (lv' := [(5, .int r_17.1), (0, .ref (B + o0)), (1, .int v1), (2, .int v2), (3, .int v3), (4, .int v4)]) E dX12_bestSwap_97 (Nat.le_of_ble_eq_true rfl) rfl ?_
            refine tt_iload (pc := 99) (i := 5) (j := 0) E dX12_bestSwap_99 rfl ?_
            refine tt_iload_n (pc := 101) (i := 3) (j := 4) E dX12_bestSwap_101 rfl rfl ?_
            refine tt_icmp_gt (pc := 102) (tgt := 108) E dX12_bestSwap_102 rfl (fun c_22 => ?_) (fun c_22 => ?_)
            · have hf := ip c_22 hf
              refine tt_iload (pc := 108) (i := 4) (j := 5) E dX12_bestSwap_108 rfl ?_
              refine tt_istore_n (pc := 110) (i := 2) (lv' := [(2, .int v4), (5, .int r_17.1), (0, .ref (B + o0)), (1, .int v1), (3, .int v3), (4, .int v4)]) E dX12_bestSwap_110 rfl (Nat.le_of_ble_eq_true rfl) rfl ?_
              refine tt_iload (pc := 111) (i := 5) (j := 1) E dX12_bestSwap_111 rfl ?_
              refine tt_istore_n (pc := 113) (i := 3) (lv' := [(3, .int r_17.1), (2, .int v4), (5, .int r_17.1), (0, .ref (B + o0)), (1, .int v1), (4, .int v4)]) E dX12_bestSwap_113 rfl (Nat.le_of_ble_eq_true rfl) rfl ?_
              obtain ⟨v_20, ev_20, hf⟩ := nm_ex hf
              refine tt_iinc (pc := 114) (i := 4) (j := 5) (lv' := [(4, .int v_20), (3, .int r_17.1), (2, .int v4), (5, .int r_17.1), (0, .ref (B + o0)), (1, .int v1)]) E dX12_bestSwap_114 rfl (ev_20).symm (Nat.le_of_ble_eq_true rfl) rfl ?_
              refine tt_goto (pc := 117) (tgt := 45) E dX12_bestSwap_117 rfl ?_
              refine tt_sub [4, 5, 2, 1, 0] (lv' := [(0, .ref (B + o0)), (1, .int v1), (2, .int v4), (3, .int r_17.1), (4, .int v_20)]) rfl ?_
              exact ih v4 r_17.1 v_20 r_17.2 hf
            · have hf := ine c_22 hf
              refine tt_goto (pc := 105) (tgt := 114) E dX12_bestSwap_105 rfl ?_
              obtain ⟨v_21, ev_21, hf⟩ := nm_ex hf
              refine tt_iinc (pc := 114) (i := 4) (j := 5) (lv' := [(4, .int v_21), (5, .int r_17.1), (0, .ref (B + o0)), (1, .int v1), (2, .int v2), (3, .int v3)]) E dX12_bestSwap_114 rfl (ev_21).symm (Nat.le_of_ble_eq_true rfl) rfl ?_
              refine tt_goto (pc := 117) (tgt := 45) E dX12_bestSwap_117 rfl ?_
              refine tt_sub [2, 3, 4, 5, 0] (lv' := [(0, .ref (B + o0)), (1, .int v1), (2, .int v2), (3, .int v3), (4, .int v_21)]) rfl ?_
              exact ih v2 v3 v_21 r_17.2 hf
          · have hf := ine c_24 hf
            refine tt_goto (pc := 87) (tgt := 114) E dX12_bestSwap_87 rfl ?_
            obtain ⟨v_23, ev_23, hf⟩ := nm_ex hf
            refine tt_iinc (pc := 114) (i := 4) (j := 4) (lv' := [(4, .int v_23), (0, .ref (B + o0)), (1, .int v1), (2, .int v2), (3, .int v3)]) E dX12_bestSwap_114 rfl (ev_23).symm (Nat.le_of_ble_eq_true rfl) rfl ?_
            refine tt_goto (pc := 117) (tgt := 45) E dX12_bestSwap_117 rfl ?_
            refine tt_sub [1, 2, 3, 4, 0] (lv' := [(0, .ref (B + o0)), (1, .int v1), (2, .int v2), (3, .int v3), (4, .int v_23)]) rfl ?_
            exact ih v2 v3 v_23 μ hf
set_option maxHeartbeats 4000000 in
theorem cX12_bestSwap_ok {l : Launch} {B : Nat} {D : va_G} {cT : Nat → ClassId} {n : Nat} {adK adV : Nat → Nat} {o0 : Nat} {v1 : Int32} {μ : Mem} {res : Int32 × Mem} (h0 : isK n o0 9) (hf : fX12_bestSwap o0 v1 μ = some res) : MI l yX12_bestSwap cX12_bestSwap 6 (some .int) rmX12_bestSwap B D cT (XW B adK adV) n [.ref (B + o0), .int v1] μ res := by
  refine tt_ofW mtX12_bestSwap.1 (Nat.le_of_ble_eq_true rfl) rfl ?_
  intro p e s m below meth c E0 hr hlk
  have E : EE p s m _ c cX12_bestSwap 6 RX12 B D cT (XW B adK adV) := E0
  unfold fX12_bestSwap at hf
  refine tt_aload_n (pc := 0) (i := 0) (j := 0) E dX12_bestSwap_0 rfl rfl ?_
  refine tt_aload_n (pc := 1) (i := 0) (j := 0) E dX12_bestSwap_1 rfl rfl ?_
  refine tt_iload_n (pc := 2) (i := 1) (j := 1) E dX12_bestSwap_2 rfl rfl ?_
  obtain ⟨r_1, hr_2, hf⟩ := bd_some hf
  have hc_3 := cX12_isFighter_ok (l := l) (B := B) (D := D) (cT := cT) (n := n) (adK := adK) (adV := adV) h0 hr_2
  refine tt_cZ (pc := 3) (tt_vi E lmX12_345 mtX12_isFighter hc_3 h0 rfl rfl (Nat.le_of_ble_eq_true rfl) ⟨(Nat.le_of_ble_eq_true rfl), (Nat.le_of_ble_eq_true rfl)⟩ ⟨(Nat.le_of_ble_eq_true rfl), (Nat.le_of_ble_eq_true rfl)⟩ dX12_bestSwap_3) (fun z_4 => ?_)
  obtain ⟨r_5, hr_6, hf⟩ := bd_some hf
  have hc_7 := cX12_goes_ok (l := l) (B := B) (D := D) (cT := cT) (n := n) (adK := adK) (adV := adV) h0 z_4 hr_6
  refine tt_cZ (pc := 6) (tt_vi E lmX12_85 mtX12_goes hc_7 h0 rfl rfl (Nat.le_of_ble_eq_true rfl) ⟨(Nat.le_of_ble_eq_true rfl), (Nat.le_of_ble_eq_true rfl)⟩ ⟨(Nat.le_of_ble_eq_true rfl), (Nat.le_of_ble_eq_true rfl)⟩ dX12_bestSwap_6) (fun z_8 => ?_)
  refine tt_if_eq (pc := 9) (tgt := 20) E dX12_bestSwap_9 rfl (fun c_19 => ?_) (fun c_19 => ?_)
  · have hf := ip c_19 hf
    refine tt_aload_n (pc := 20) (i := 0) (j := 0) E dX12_bestSwap_20 rfl rfl ?_
    refine tt_getI (pc := 21) E lfX12_75 rfl h0 dX12_bestSwap_21 ?_
    refine tt_if_le (pc := 24) (tgt := 31) E dX12_bestSwap_24 rfl (fun c_9 => ?_) (fun c_9 => ?_)
    · have hf := ip c_9 hf
      refine tt_iconst (pc := 31) (v := (-1)) E dX12_bestSwap_31 ic_m1 ?_
      exact tt_iret (pc := 32) E hr hlk dX12_bestSwap_32 (Nat.le_of_ble_eq_true rfl) (Nat.le_of_ble_eq_true rfl) hf
    · have hf := ine c_9 hf
      refine tt_iconst (pc := 27) (v := 0) E dX12_bestSwap_27 ic_0 ?_
      refine tt_goto (pc := 28) (tgt := 32) E dX12_bestSwap_28 rfl ?_
      exact tt_iret (pc := 32) E hr hlk dX12_bestSwap_32 (Nat.le_of_ble_eq_true rfl) (Nat.le_of_ble_eq_true rfl) hf
  · have hf := ine c_19 hf
    refine tt_aload_n (pc := 12) (i := 0) (j := 0) E dX12_bestSwap_12 rfl rfl ?_
    refine tt_iload_n (pc := 13) (i := 1) (j := 1) E dX12_bestSwap_13 rfl rfl ?_
    obtain ⟨r_10, hr_11, hf⟩ := bd_some hf
    have hc_12 := cX12_lives_ok (l := l) (B := B) (D := D) (cT := cT) (n := n) (adK := adK) (adV := adV) h0 hr_11
    refine tt_cZ (pc := 14) (tt_vi E lmX12_263 mtX12_lives hc_12 h0 rfl rfl (Nat.le_of_ble_eq_true rfl) ⟨(Nat.le_of_ble_eq_true rfl), (Nat.le_of_ble_eq_true rfl)⟩ ⟨(Nat.le_of_ble_eq_true rfl), (Nat.le_of_ble_eq_true rfl)⟩ dX12_bestSwap_14) (fun z_13 => ?_)
    refine tt_if_ne (pc := 17) (tgt := 33) E dX12_bestSwap_17 rfl (fun c_18 => ?_) (fun c_18 => ?_)
    · have hf := ine c_18 hf
      refine tt_iconst (pc := 33) (v := (-1)) E dX12_bestSwap_33 ic_m1 ?_
      refine tt_istore_n (pc := 34) (i := 2) (lv' := [(2, .int ((-1))), (0, .ref (B + o0)), (1, .int v1)]) E dX12_bestSwap_34 rfl (Nat.le_of_ble_eq_true rfl) rfl ?_
      refine tt_aload_n (pc := 35) (i := 0) (j := 1) E dX12_bestSwap_35 rfl rfl ?_
      refine tt_iload_n (pc := 36) (i := 1) (j := 2) E dX12_bestSwap_36 rfl rfl ?_
      refine tt_iload_n (pc := 37) (i := 1) (j := 2) E dX12_bestSwap_37 rfl rfl ?_
      obtain ⟨r_14, hr_15, hf⟩ := bd_some hf
      have hc_16 := cX12_bySwap_ok (l := l) (B := B) (D := D) (cT := cT) (n := n) (adK := adK) (adV := adV) h0 hr_15
      refine tt_cI (pc := 38) (tt_vi E lmX12_431 mtX12_bySwap hc_16 h0 rfl rfl (Nat.le_of_ble_eq_true rfl) ⟨(Nat.le_of_ble_eq_true rfl), (Nat.le_of_ble_eq_true rfl)⟩ ⟨(Nat.le_of_ble_eq_true rfl), (Nat.le_of_ble_eq_true rfl)⟩ dX12_bestSwap_38) ?_
      refine tt_istore_n (pc := 41) (i := 3) (lv' := [(3, .int r_14.1), (2, .int ((-1))), (0, .ref (B + o0)), (1, .int v1)]) E dX12_bestSwap_41 rfl (Nat.le_of_ble_eq_true rfl) rfl ?_
      refine tt_iconst (pc := 42) (v := 0) E dX12_bestSwap_42 ic_0 ?_
      refine tt_istore (pc := 43) (i := 4) (lv' := [(4, .int 0), (3, .int r_14.1), (2, .int ((-1))), (0, .ref (B + o0)), (1, .int v1)]) E dX12_bestSwap_43 (Nat.le_of_ble_eq_true rfl) rfl ?_
      refine tt_sub [3, 4, 2, 1, 0] (lv' := [(0, .ref (B + o0)), (1, .int v1), (2, .int ((-1))), (3, .int r_14.1), (4, .int 0)]) rfl ?_
      exact tX12_bestSwap_45 E hr hlk h0 FU ((-1)) r_14.1 0 r_14.2 hf
    · have hf := ip c_18 hf
      refine tt_aload_n (pc := 20) (i := 0) (j := 0) E dX12_bestSwap_20 rfl rfl ?_
      refine tt_getI (pc := 21) E lfX12_75 rfl h0 dX12_bestSwap_21 ?_
      refine tt_if_le (pc := 24) (tgt := 31) E dX12_bestSwap_24 rfl (fun c_17 => ?_) (fun c_17 => ?_)
      · have hf := ip c_17 hf
        refine tt_iconst (pc := 31) (v := (-1)) E dX12_bestSwap_31 ic_m1 ?_
        exact tt_iret (pc := 32) E hr hlk dX12_bestSwap_32 (Nat.le_of_ble_eq_true rfl) (Nat.le_of_ble_eq_true rfl) hf
      · have hf := ine c_17 hf
        refine tt_iconst (pc := 27) (v := 0) E dX12_bestSwap_27 ic_0 ?_
        refine tt_goto (pc := 28) (tgt := 32) E dX12_bestSwap_28 rfl ?_
        exact tt_iret (pc := 32) E hr hlk dX12_bestSwap_32 (Nat.le_of_ble_eq_true rfl) (Nat.le_of_ble_eq_true rfl) hf
set_option maxHeartbeats 4000000 in
theorem cX12_byPlace_ok {l : Launch} {B : Nat} {D : va_G} {cT : Nat → ClassId} {n : Nat} {adK adV : Nat → Nat} {o0 : Nat} {v1 : Int32} {v2 : Int32} {μ : Mem} {res : Int32 × Mem} (h0 : isK n o0 9) (hf : fX12_byPlace o0 v1 v2 μ = some res) : MI l yX12_byPlace cX12_byPlace 3 (some .int) rmX12_byPlace B D cT (XW B adK adV) n [.ref (B + o0), .int v1, .int v2] μ res := by
  refine tt_ofW mtX12_byPlace.1 (Nat.le_of_ble_eq_true rfl) rfl ?_
  intro p e s m below meth c E0 hr hlk
  have E : EE p s m _ c cX12_byPlace 3 RX12 B D cT (XW B adK adV) := E0
  unfold fX12_byPlace at hf
  refine tt_aload_n (pc := 0) (i := 0) (j := 0) E dX12_byPlace_0 rfl rfl ?_
  obtain ⟨r_1, hr_2, hf⟩ := bd_some hf
  have hc_3 := cX12_leaves_ok (l := l) (B := B) (D := D) (cT := cT) (n := n) (adK := adK) (adV := adV) h0 hr_2
  refine tt_cV (pc := 1) (tt_vi E lmX12_374 mtX12_leaves hc_3 h0 rfl rfl (Nat.le_of_ble_eq_true rfl) ⟨(Nat.le_of_ble_eq_true rfl), (Nat.le_of_ble_eq_true rfl)⟩ ⟨(Nat.le_of_ble_eq_true rfl), (Nat.le_of_ble_eq_true rfl)⟩ dX12_byPlace_1) ?_
  refine tt_aload_n (pc := 4) (i := 0) (j := 0) E dX12_byPlace_4 rfl rfl ?_
  refine tt_iload_n (pc := 5) (i := 1) (j := 1) E dX12_byPlace_5 rfl rfl ?_
  refine tt_bipush (pc := 6) (v := 7) E dX12_byPlace_6 bc_7 ?_
  refine tt_iload_n (pc := 8) (i := 2) (j := 2) E dX12_byPlace_8 rfl rfl ?_
  obtain ⟨r_4, hr_5, hf⟩ := bd_some hf
  have hc_6 := cX12_sets_ok (l := l) (B := B) (D := D) (cT := cT) (n := n) (adK := adK) (adV := adV) h0 hr_5
  refine tt_cV (pc := 9) (tt_vi E lmX12_201 mtX12_sets hc_6 h0 rfl rfl (Nat.le_of_ble_eq_true rfl) ⟨(Nat.le_of_ble_eq_true rfl), (Nat.le_of_ble_eq_true rfl)⟩ ⟨(Nat.le_of_ble_eq_true rfl), (Nat.le_of_ble_eq_true rfl)⟩ dX12_byPlace_9) ?_
  refine tt_aload_n (pc := 12) (i := 0) (j := 0) E dX12_byPlace_12 rfl rfl ?_
  refine tt_aload_n (pc := 13) (i := 0) (j := 0) E dX12_byPlace_13 rfl rfl ?_
  refine tt_iload_n (pc := 14) (i := 1) (j := 1) E dX12_byPlace_14 rfl rfl ?_
  refine tt_iconst (pc := 15) (v := 0) E dX12_byPlace_15 ic_0 ?_
  obtain ⟨r_7, hr_8, hf⟩ := bd_some hf
  have hc_9 := cX12_of_ok (l := l) (B := B) (D := D) (cT := cT) (n := n) (adK := adK) (adV := adV) h0 hr_8
  refine tt_cI (pc := 16) (tt_vi E lmX12_192 mtX12_of hc_9 h0 rfl rfl (Nat.le_of_ble_eq_true rfl) ⟨(Nat.le_of_ble_eq_true rfl), (Nat.le_of_ble_eq_true rfl)⟩ ⟨(Nat.le_of_ble_eq_true rfl), (Nat.le_of_ble_eq_true rfl)⟩ dX12_byPlace_16) ?_
  obtain ⟨r_10, hr_11, hf⟩ := bd_some hf
  have hc_12 := cX12_thenOn_ok (l := l) (B := B) (D := D) (cT := cT) (n := n) (adK := adK) (adV := adV) h0 hr_11
  refine tt_cI (pc := 19) (tt_vi E lmX12_423 mtX12_thenOn hc_12 h0 rfl rfl (Nat.le_of_ble_eq_true rfl) ⟨(Nat.le_of_ble_eq_true rfl), (Nat.le_of_ble_eq_true rfl)⟩ ⟨(Nat.le_of_ble_eq_true rfl), (Nat.le_of_ble_eq_true rfl)⟩ dX12_byPlace_19) ?_
  exact tt_iret (pc := 22) E hr hlk dX12_byPlace_22 (Nat.le_of_ble_eq_true rfl) (Nat.le_of_ble_eq_true rfl) hf
set_option maxHeartbeats 4000000 in
theorem tX12_bestPlace_26 {p : Program} {l : Launch} {e : Env} {s : State} {m : MethodId} {args : Array Value} {below : List Frame} {meth : Method} {c : Code} {B : Nat} {D : va_G} {cT : Nat → ClassId} {n : Nat} {adK adV : Nat → Nat} {res : Int32 × Mem} (E : EE p s m args c cX12_bestPlace 6 RX12 B D cT (XW B adK adV)) (hr : meth.sig.returnType = some .int) (hlk : meth.locks = false) {o0 : Nat} {v1 : Int32} (h0 : isK n o0 9) : ∀ (fu : Nat) (v2 : Int32) (v3 : Int32) (v4 : Int32) (μ : Mem), zl4 (gX12_bestPlace_26 o0 v1) fu v2 v3 v4 μ = some res → TT p l e rmX12_bestPlace s m args below meth c (QI B D cT n below args s res) 6 B D cT n 0 0 μ 26 [(0, .ref (B + o0)), (1, .int v1), (2, .int v2), (3, .int v3), (4, .int v4)] [] := by
  intro fu
  induction fu with
  | zero => intro v2 v3 v4 μ hf; exact absurd hf (fun h => by cases h)
  | succ fu ih =>
    intro v2 v3 v4 μ hf
    have hf : gX12_bestPlace_26 o0 v1 (zl4 (gX12_bestPlace_26 o0 v1) fu) v2 v3 v4 μ = some res := hf
    unfold gX12_bestPlace_26 at hf
    refine tt_iload (pc := 26) (i := 4) (j := 4) E dX12_bestPlace_26 rfl ?_
    refine tt_aload_n (pc := 28) (i := 0) (j := 0) E dX12_bestPlace_28 rfl rfl ?_
    refine tt_iload_n (pc := 29) (i := 1) (j := 1) E dX12_bestPlace_29 rfl rfl ?_
    refine tt_bipush (pc := 30) (v := 8) E dX12_bestPlace_30 bc_8 ?_
    obtain ⟨r_1, hr_2, hf⟩ := bd_some hf
    have hc_3 := cX12_of_ok (l := l) (B := B) (D := D) (cT := cT) (n := n) (adK := adK) (adV := adV) h0 hr_2
    refine tt_cI (pc := 32) (tt_vi E lmX12_192 mtX12_of hc_3 h0 rfl rfl (Nat.le_of_ble_eq_true rfl) ⟨(Nat.le_of_ble_eq_true rfl), (Nat.le_of_ble_eq_true rfl)⟩ ⟨(Nat.le_of_ble_eq_true rfl), (Nat.le_of_ble_eq_true rfl)⟩ dX12_bestPlace_32) ?_
    refine tt_icmp_ge (pc := 35) (tgt := 68) E dX12_bestPlace_35 rfl (fun c_10 => ?_) (fun c_10 => ?_)
    · have hf := ip c_10 hf
      refine tt_iload_n (pc := 68) (i := 2) (j := 2) E dX12_bestPlace_68 rfl rfl ?_
      exact tt_iret (pc := 69) E hr hlk dX12_bestPlace_69 (Nat.le_of_ble_eq_true rfl) (Nat.le_of_ble_eq_true rfl) hf
    · have hf := ine c_10 hf
      refine tt_aload_n (pc := 38) (i := 0) (j := 0) E dX12_bestPlace_38 rfl rfl ?_
      refine tt_iload_n (pc := 39) (i := 1) (j := 1) E dX12_bestPlace_39 rfl rfl ?_
      refine tt_iload (pc := 40) (i := 4) (j := 4) E dX12_bestPlace_40 rfl ?_
      obtain ⟨r_4, hr_5, hf⟩ := bd_some hf
      have hc_6 := cX12_byPlace_ok (l := l) (B := B) (D := D) (cT := cT) (n := n) (adK := adK) (adV := adV) h0 hr_5
      refine tt_cI (pc := 42) (tt_vi E lmX12_434 mtX12_byPlace hc_6 h0 rfl rfl (Nat.le_of_ble_eq_true rfl) ⟨(Nat.le_of_ble_eq_true rfl), (Nat.le_of_ble_eq_true rfl)⟩ ⟨(Nat.le_of_ble_eq_true rfl), (Nat.le_of_ble_eq_true rfl)⟩ dX12_bestPlace_42) ?_
      refine tt_istore (pc := 45) (i := 5) (lv' := [(5, .int r_4.1), (0, .ref (B + o0)), (1, .int v1), (2, .int v2), (3, .int v3), (4, .int v4)]) E dX12_bestPlace_45 (Nat.le_of_ble_eq_true rfl) rfl ?_
      refine tt_iload (pc := 47) (i := 5) (j := 0) E dX12_bestPlace_47 rfl ?_
      refine tt_iload_n (pc := 49) (i := 3) (j := 4) E dX12_bestPlace_49 rfl rfl ?_
      refine tt_icmp_gt (pc := 50) (tgt := 56) E dX12_bestPlace_50 rfl (fun c_9 => ?_) (fun c_9 => ?_)
      · have hf := ip c_9 hf
        refine tt_iload (pc := 56) (i := 4) (j := 5) E dX12_bestPlace_56 rfl ?_
        refine tt_istore_n (pc := 58) (i := 2) (lv' := [(2, .int v4), (5, .int r_4.1), (0, .ref (B + o0)), (1, .int v1), (3, .int v3), (4, .int v4)]) E dX12_bestPlace_58 rfl (Nat.le_of_ble_eq_true rfl) rfl ?_
        refine tt_iload (pc := 59) (i := 5) (j := 1) E dX12_bestPlace_59 rfl ?_
        refine tt_istore_n (pc := 61) (i := 3) (lv' := [(3, .int r_4.1), (2, .int v4), (5, .int r_4.1), (0, .ref (B + o0)), (1, .int v1), (4, .int v4)]) E dX12_bestPlace_61 rfl (Nat.le_of_ble_eq_true rfl) rfl ?_
        obtain ⟨v_7, ev_7, hf⟩ := nm_ex hf
        refine tt_iinc (pc := 62) (i := 4) (j := 5) (lv' := [(4, .int v_7), (3, .int r_4.1), (2, .int v4), (5, .int r_4.1), (0, .ref (B + o0)), (1, .int v1)]) E dX12_bestPlace_62 rfl (ev_7).symm (Nat.le_of_ble_eq_true rfl) rfl ?_
        refine tt_goto (pc := 65) (tgt := 26) E dX12_bestPlace_65 rfl ?_
        refine tt_sub [4, 5, 2, 1, 0] (lv' := [(0, .ref (B + o0)), (1, .int v1), (2, .int v4), (3, .int r_4.1), (4, .int v_7)]) rfl ?_
        exact ih v4 r_4.1 v_7 r_4.2 hf
      · have hf := ine c_9 hf
        refine tt_goto (pc := 53) (tgt := 62) E dX12_bestPlace_53 rfl ?_
        obtain ⟨v_8, ev_8, hf⟩ := nm_ex hf
        refine tt_iinc (pc := 62) (i := 4) (j := 5) (lv' := [(4, .int v_8), (5, .int r_4.1), (0, .ref (B + o0)), (1, .int v1), (2, .int v2), (3, .int v3)]) E dX12_bestPlace_62 rfl (ev_8).symm (Nat.le_of_ble_eq_true rfl) rfl ?_
        refine tt_goto (pc := 65) (tgt := 26) E dX12_bestPlace_65 rfl ?_
        refine tt_sub [2, 3, 4, 5, 0] (lv' := [(0, .ref (B + o0)), (1, .int v1), (2, .int v2), (3, .int v3), (4, .int v_8)]) rfl ?_
        exact ih v2 v3 v_8 r_4.2 hf
set_option maxHeartbeats 4000000 in
theorem cX12_bestPlace_ok {l : Launch} {B : Nat} {D : va_G} {cT : Nat → ClassId} {n : Nat} {adK adV : Nat → Nat} {o0 : Nat} {v1 : Int32} {μ : Mem} {res : Int32 × Mem} (h0 : isK n o0 9) (hf : fX12_bestPlace o0 v1 μ = some res) : MI l yX12_bestPlace cX12_bestPlace 6 (some .int) rmX12_bestPlace B D cT (XW B adK adV) n [.ref (B + o0), .int v1] μ res := by
  refine tt_ofW mtX12_bestPlace.1 (Nat.le_of_ble_eq_true rfl) rfl ?_
  intro p e s m below meth c E0 hr hlk
  have E : EE p s m _ c cX12_bestPlace 6 RX12 B D cT (XW B adK adV) := E0
  unfold fX12_bestPlace at hf
  refine tt_aload_n (pc := 0) (i := 0) (j := 0) E dX12_bestPlace_0 rfl rfl ?_
  refine tt_aload_n (pc := 1) (i := 0) (j := 0) E dX12_bestPlace_1 rfl rfl ?_
  refine tt_iload_n (pc := 2) (i := 1) (j := 1) E dX12_bestPlace_2 rfl rfl ?_
  obtain ⟨r_1, hr_2, hf⟩ := bd_some hf
  have hc_3 := cX12_isFighter_ok (l := l) (B := B) (D := D) (cT := cT) (n := n) (adK := adK) (adV := adV) h0 hr_2
  refine tt_cZ (pc := 3) (tt_vi E lmX12_345 mtX12_isFighter hc_3 h0 rfl rfl (Nat.le_of_ble_eq_true rfl) ⟨(Nat.le_of_ble_eq_true rfl), (Nat.le_of_ble_eq_true rfl)⟩ ⟨(Nat.le_of_ble_eq_true rfl), (Nat.le_of_ble_eq_true rfl)⟩ dX12_bestPlace_3) (fun z_4 => ?_)
  obtain ⟨r_5, hr_6, hf⟩ := bd_some hf
  have hc_7 := cX12_goes_ok (l := l) (B := B) (D := D) (cT := cT) (n := n) (adK := adK) (adV := adV) h0 z_4 hr_6
  refine tt_cZ (pc := 6) (tt_vi E lmX12_85 mtX12_goes hc_7 h0 rfl rfl (Nat.le_of_ble_eq_true rfl) ⟨(Nat.le_of_ble_eq_true rfl), (Nat.le_of_ble_eq_true rfl)⟩ ⟨(Nat.le_of_ble_eq_true rfl), (Nat.le_of_ble_eq_true rfl)⟩ dX12_bestPlace_6) (fun z_8 => ?_)
  refine tt_if_ne (pc := 9) (tgt := 14) E dX12_bestPlace_9 rfl (fun c_12 => ?_) (fun c_12 => ?_)
  · have hf := ine c_12 hf
    refine tt_iconst (pc := 14) (v := 0) E dX12_bestPlace_14 ic_0 ?_
    refine tt_istore_n (pc := 15) (i := 2) (lv' := [(2, .int 0), (0, .ref (B + o0)), (1, .int v1)]) E dX12_bestPlace_15 rfl (Nat.le_of_ble_eq_true rfl) rfl ?_
    refine tt_aload_n (pc := 16) (i := 0) (j := 1) E dX12_bestPlace_16 rfl rfl ?_
    refine tt_iload_n (pc := 17) (i := 1) (j := 2) E dX12_bestPlace_17 rfl rfl ?_
    refine tt_iconst (pc := 18) (v := 0) E dX12_bestPlace_18 ic_0 ?_
    obtain ⟨r_9, hr_10, hf⟩ := bd_some hf
    have hc_11 := cX12_byPlace_ok (l := l) (B := B) (D := D) (cT := cT) (n := n) (adK := adK) (adV := adV) h0 hr_10
    refine tt_cI (pc := 19) (tt_vi E lmX12_434 mtX12_byPlace hc_11 h0 rfl rfl (Nat.le_of_ble_eq_true rfl) ⟨(Nat.le_of_ble_eq_true rfl), (Nat.le_of_ble_eq_true rfl)⟩ ⟨(Nat.le_of_ble_eq_true rfl), (Nat.le_of_ble_eq_true rfl)⟩ dX12_bestPlace_19) ?_
    refine tt_istore_n (pc := 22) (i := 3) (lv' := [(3, .int r_9.1), (2, .int 0), (0, .ref (B + o0)), (1, .int v1)]) E dX12_bestPlace_22 rfl (Nat.le_of_ble_eq_true rfl) rfl ?_
    refine tt_iconst (pc := 23) (v := 1) E dX12_bestPlace_23 ic_1 ?_
    refine tt_istore (pc := 24) (i := 4) (lv' := [(4, .int 1), (3, .int r_9.1), (2, .int 0), (0, .ref (B + o0)), (1, .int v1)]) E dX12_bestPlace_24 (Nat.le_of_ble_eq_true rfl) rfl ?_
    refine tt_sub [3, 4, 2, 1, 0] (lv' := [(0, .ref (B + o0)), (1, .int v1), (2, .int 0), (3, .int r_9.1), (4, .int 1)]) rfl ?_
    exact tX12_bestPlace_26 E hr hlk h0 FU 0 r_9.1 1 r_9.2 hf
  · have hf := ip c_12 hf
    refine tt_iconst (pc := 12) (v := 0) E dX12_bestPlace_12 ic_0 ?_
    exact tt_iret (pc := 13) E hr hlk dX12_bestPlace_13 (Nat.le_of_ble_eq_true rfl) (Nat.le_of_ble_eq_true rfl) hf
set_option maxHeartbeats 4000000 in
theorem cX12_goesAll_ok {l : Launch} {B : Nat} {D : va_G} {cT : Nat → ClassId} {n : Nat} {adK adV : Nat → Nat} {o0 : Nat} {v1 : Int32} {v2 : Int32} {v3 : Int32} {μ : Mem} {res : Int32 × Mem} (h0 : isK n o0 9) (h1 : zb v1) (h2 : zb v2) (h3 : zb v3) (hf : fX12_goesAll o0 v1 v2 v3 μ = some res) : MZ l yX12_goesAll cX12_goesAll 4 (some .boolean) rmX12_goesAll B D cT (XW B adK adV) n [.ref (B + o0), .int v1, .int v2, .int v3] μ res := by
  refine tt_ofW mtX12_goesAll.1 (Nat.le_of_ble_eq_true rfl) rfl ?_
  intro p e s m below meth c E0 hr hlk
  have E : EE p s m _ c cX12_goesAll 4 RX12 B D cT (XW B adK adV) := E0
  unfold fX12_goesAll at hf
  refine tt_aload_n (pc := 0) (i := 0) (j := 0) E dX12_goesAll_0 rfl rfl ?_
  refine tt_iload_n (pc := 1) (i := 1) (j := 1) E dX12_goesAll_1 rfl rfl ?_
  refine tt_iload_n (pc := 2) (i := 2) (j := 2) E dX12_goesAll_2 rfl rfl ?_
  obtain ⟨r_1, hr_2, hf⟩ := bd_some hf
  have hc_3 := cX12_goesBoth_ok (l := l) (B := B) (D := D) (cT := cT) (n := n) (adK := adK) (adV := adV) h0 h1 h2 hr_2
  refine tt_cZ (pc := 3) (tt_vi E lmX12_350 mtX12_goesBoth hc_3 h0 rfl rfl (Nat.le_of_ble_eq_true rfl) ⟨(Nat.le_of_ble_eq_true rfl), (Nat.le_of_ble_eq_true rfl)⟩ ⟨(Nat.le_of_ble_eq_true rfl), (Nat.le_of_ble_eq_true rfl)⟩ dX12_goesAll_3) (fun z_4 => ?_)
  refine tt_if_eq (pc := 6) (tgt := 18) E dX12_goesAll_6 rfl (fun c_10 => ?_) (fun c_10 => ?_)
  · have hf := ip c_10 hf
    refine tt_aload_n (pc := 18) (i := 0) (j := 0) E dX12_goesAll_18 rfl rfl ?_
    refine tt_getI (pc := 19) E lfX12_75 rfl h0 dX12_goesAll_19 ?_
    refine tt_if_ne (pc := 22) (tgt := 29) E dX12_goesAll_22 rfl (fun c_5 => ?_) (fun c_5 => ?_)
    · have hf := ine c_5 hf
      refine tt_iconst (pc := 29) (v := 0) E dX12_goesAll_29 ic_0 ?_
      exact tt_zret (pc := 30) E ((Or.inl rfl)) hr hlk dX12_goesAll_30 (Nat.le_of_ble_eq_true rfl) (Nat.le_of_ble_eq_true rfl) hf
    · have hf := ip c_5 hf
      refine tt_iconst (pc := 25) (v := 1) E dX12_goesAll_25 ic_1 ?_
      refine tt_goto (pc := 26) (tgt := 30) E dX12_goesAll_26 rfl ?_
      exact tt_zret (pc := 30) E ((Or.inr rfl)) hr hlk dX12_goesAll_30 (Nat.le_of_ble_eq_true rfl) (Nat.le_of_ble_eq_true rfl) hf
  · have hf := ine c_10 hf
    refine tt_iload_n (pc := 9) (i := 3) (j := 3) E dX12_goesAll_9 rfl rfl ?_
    refine tt_if_ne (pc := 10) (tgt := 18) E dX12_goesAll_10 rfl (fun c_9 => ?_) (fun c_9 => ?_)
    · have hf := ine c_9 hf
      refine tt_aload_n (pc := 18) (i := 0) (j := 0) E dX12_goesAll_18 rfl rfl ?_
      refine tt_getI (pc := 19) E lfX12_75 rfl h0 dX12_goesAll_19 ?_
      refine tt_if_ne (pc := 22) (tgt := 29) E dX12_goesAll_22 rfl (fun c_6 => ?_) (fun c_6 => ?_)
      · have hf := ine c_6 hf
        refine tt_iconst (pc := 29) (v := 0) E dX12_goesAll_29 ic_0 ?_
        exact tt_zret (pc := 30) E ((Or.inl rfl)) hr hlk dX12_goesAll_30 (Nat.le_of_ble_eq_true rfl) (Nat.le_of_ble_eq_true rfl) hf
      · have hf := ip c_6 hf
        refine tt_iconst (pc := 25) (v := 1) E dX12_goesAll_25 ic_1 ?_
        refine tt_goto (pc := 26) (tgt := 30) E dX12_goesAll_26 rfl ?_
        exact tt_zret (pc := 30) E ((Or.inr rfl)) hr hlk dX12_goesAll_30 (Nat.le_of_ble_eq_true rfl) (Nat.le_of_ble_eq_true rfl) hf
    · have hf := ip c_9 hf
      refine tt_aload_n (pc := 13) (i := 0) (j := 0) E dX12_goesAll_13 rfl rfl ?_
      refine tt_iconst (pc := 14) (v := 3) E dX12_goesAll_14 ic_3 ?_
      refine tt_putI (pc := 15) E lfX12_75 rfl h0 dX12_goesAll_15 (tt_nmM hf (fun m_7 hf => ?_))
      refine tt_aload_n (pc := 18) (i := 0) (j := 0) E dX12_goesAll_18 rfl rfl ?_
      refine tt_getI (pc := 19) E lfX12_75 rfl h0 dX12_goesAll_19 ?_
      refine tt_if_ne (pc := 22) (tgt := 29) E dX12_goesAll_22 rfl (fun c_8 => ?_) (fun c_8 => ?_)
      · have hf := ine c_8 hf
        refine tt_iconst (pc := 29) (v := 0) E dX12_goesAll_29 ic_0 ?_
        exact tt_zret (pc := 30) E ((Or.inl rfl)) hr hlk dX12_goesAll_30 (Nat.le_of_ble_eq_true rfl) (Nat.le_of_ble_eq_true rfl) hf
      · have hf := ip c_8 hf
        refine tt_iconst (pc := 25) (v := 1) E dX12_goesAll_25 ic_1 ?_
        refine tt_goto (pc := 26) (tgt := 30) E dX12_goesAll_26 rfl ?_
        exact tt_zret (pc := 30) E ((Or.inr rfl)) hr hlk dX12_goesAll_30 (Nat.le_of_ble_eq_true rfl) (Nat.le_of_ble_eq_true rfl) hf
set_option maxHeartbeats 4000000 in
theorem cX12_isBy_ok {l : Launch} {B : Nat} {D : va_G} {cT : Nat → ClassId} {n : Nat} {adK adV : Nat → Nat} {v0 : Int32} {μ : Mem} {res : Int32} (hf : fX12_isBy v0 μ = some res) : MZ l yX12_isBy cX12_isBy 1 (some .boolean) rmX12_isBy B D cT (XW B adK adV) n [.int v0] μ (res, μ) := by
  refine tt_ofW mtX12_isBy.1 (Nat.le_of_ble_eq_true rfl) rfl ?_
  intro p e s m below meth c E0 hr hlk
  have E : EE p s m _ c cX12_isBy 1 RX12 B D cT (XW B adK adV) := E0
  unfold fX12_isBy at hf
  refine tt_iload_n (pc := 0) (i := 0) (j := 0) E dX12_isBy_0 rfl rfl ?_
  refine tt_i2l (pc := 1) E dX12_isBy_1 ?_
  refine tt_lconst (pc := 2) (v := 1) E dX12_isBy_2 lc_1 ?_
  refine tt_ldc2 (pc := 3) (v := 999) E dX12_isBy_3 (gw_mem (mt8 (at_l 209 rfl)) rfl) ?_
  obtain ⟨r_1, hr_2, hf⟩ := bd_some hf
  have hc_3 := cX12_isIn_ok (l := l) (B := B) (D := D) (cT := cT) (n := n) (adK := adK) (adV := adV) hr_2
  refine tt_cZ (pc := 6) (tt_si E lmX12_92 mtX12_isIn hc_3 rfl rfl (Nat.le_of_ble_eq_true rfl) ⟨(Nat.le_of_ble_eq_true rfl), (Nat.le_of_ble_eq_true rfl)⟩ ⟨(Nat.le_of_ble_eq_true rfl), (Nat.le_of_ble_eq_true rfl)⟩ dX12_isBy_6) (fun z_4 => ?_)
  exact tt_zret (pc := 9) E z_4 hr hlk dX12_isBy_9 (Nat.le_of_ble_eq_true rfl) (Nat.le_of_ble_eq_true rfl) (pv hf)
set_option maxHeartbeats 4000000 in
theorem cX12_mayPlay_ok {l : Launch} {B : Nat} {D : va_G} {cT : Nat → ClassId} {n : Nat} {adK adV : Nat → Nat} {o0 : Nat} {v1 : Int32} {μ : Mem} {res : Int32} (h0 : isK n o0 9) (hf : fX12_mayPlay o0 v1 μ = some res) : MZ l yX12_mayPlay cX12_mayPlay 2 (some .boolean) rmX12_mayPlay B D cT (XW B adK adV) n [.ref (B + o0), .int v1] μ (res, μ) := by
  refine tt_ofW mtX12_mayPlay.1 (Nat.le_of_ble_eq_true rfl) rfl ?_
  intro p e s m below meth c E0 hr hlk
  have E : EE p s m _ c cX12_mayPlay 2 RX12 B D cT (XW B adK adV) := E0
  unfold fX12_mayPlay at hf
  refine tt_aload_n (pc := 0) (i := 0) (j := 0) E dX12_mayPlay_0 rfl rfl ?_
  obtain ⟨r_1, hr_2, hf⟩ := bd_some hf
  have hc_3 := cX12_isOver_ok (l := l) (B := B) (D := D) (cT := cT) (n := n) (adK := adK) (adV := adV) h0 hr_2
  refine tt_cZ (pc := 1) (tt_vi E lmX12_269 mtX12_isOver hc_3 h0 rfl rfl (Nat.le_of_ble_eq_true rfl) ⟨(Nat.le_of_ble_eq_true rfl), (Nat.le_of_ble_eq_true rfl)⟩ ⟨(Nat.le_of_ble_eq_true rfl), (Nat.le_of_ble_eq_true rfl)⟩ dX12_mayPlay_1) (fun z_4 => ?_)
  refine tt_if_ne (pc := 4) (tgt := 25) E dX12_mayPlay_4 rfl (fun c_10 => ?_) (fun c_10 => ?_)
  · have hf := ine c_10 hf
    refine tt_iconst (pc := 25) (v := 0) E dX12_mayPlay_25 ic_0 ?_
    exact tt_zret (pc := 26) E ((Or.inl rfl)) hr hlk dX12_mayPlay_26 (Nat.le_of_ble_eq_true rfl) (Nat.le_of_ble_eq_true rfl) (pv hf)
  · have hf := ip c_10 hf
    refine tt_aload_n (pc := 7) (i := 0) (j := 0) E dX12_mayPlay_7 rfl rfl ?_
    obtain ⟨q_5, hq_6, hf⟩ := bd_some hf
    refine tt_getP (pc := 8) (t := 11) E lfX12_20 rfl rfl h0 dX12_mayPlay_8 hq_6 (fun kq_7 => ?_)
    refine tt_iconst (pc := 11) (v := 3) E dX12_mayPlay_11 ic_3 ?_
    obtain ⟨g_8, hf⟩ := gd_some hf
    refine tt_iald (pc := 12) E kq_7 g_8 dX12_mayPlay_12 ?_
    refine tt_iload_n (pc := 13) (i := 1) (j := 1) E dX12_mayPlay_13 rfl rfl ?_
    refine tt_iadd (pc := 14) E dX12_mayPlay_14 ?_
    refine tt_sipush (pc := 15) (v := 9999) E dX12_mayPlay_15 sc_9999 ?_
    refine tt_icmp_gt (pc := 18) (tgt := 25) E dX12_mayPlay_18 rfl (fun c_9 => ?_) (fun c_9 => ?_)
    · have hf := ip c_9 hf
      refine tt_iconst (pc := 25) (v := 0) E dX12_mayPlay_25 ic_0 ?_
      exact tt_zret (pc := 26) E ((Or.inl rfl)) hr hlk dX12_mayPlay_26 (Nat.le_of_ble_eq_true rfl) (Nat.le_of_ble_eq_true rfl) (pv hf)
    · have hf := ine c_9 hf
      refine tt_iconst (pc := 21) (v := 1) E dX12_mayPlay_21 ic_1 ?_
      refine tt_goto (pc := 22) (tgt := 26) E dX12_mayPlay_22 rfl ?_
      exact tt_zret (pc := 26) E ((Or.inr rfl)) hr hlk dX12_mayPlay_26 (Nat.le_of_ble_eq_true rfl) (Nat.le_of_ble_eq_true rfl) (pv hf)
set_option maxHeartbeats 4000000 in
theorem tX12_play_29 {p : Program} {l : Launch} {e : Env} {s : State} {m : MethodId} {args : Array Value} {below : List Frame} {meth : Method} {c : Code} {B : Nat} {D : va_G} {cT : Nat → ClassId} {n : Nat} {adK adV : Nat → Nat} {res : Int32 × Mem} (E : EE p s m args c cX12_play 3 RX12 B D cT (XW B adK adV)) (hr : meth.sig.returnType = some .int) (hlk : meth.locks = false) {o0 : Nat} {v1 : Int32} {ot0 : Nat} {vt1 : Int32} {vt2 : Int32} (h0 : isK n o0 9) (ht0 : isK n ot0 9) (ht1 : zb vt1) (ht2 : zb vt2) {μ : Mem} (hf : fX12_play_29 o0 v1 ot0 vt1 vt2 μ = some res) : TT p l e rmX12_play s m args below meth c (QI B D cT n below args s res) 3 B D cT n 0 0 μ 29 [(0, .ref (B + o0)), (1, .int v1)] [.int vt2, .int vt1, .ref (B + ot0)] := by
  unfold fX12_play_29 at hf
  obtain ⟨r_1, hr_2, hf⟩ := bd_some hf
  have hc_3 := cX12_goesBoth_ok (l := l) (B := B) (D := D) (cT := cT) (n := n) (adK := adK) (adV := adV) ht0 ht1 ht2 hr_2
  refine tt_cZ (pc := 29) (tt_vi E lmX12_350 mtX12_goesBoth hc_3 ht0 rfl rfl (Nat.le_of_ble_eq_true rfl) ⟨(Nat.le_of_ble_eq_true rfl), (Nat.le_of_ble_eq_true rfl)⟩ ⟨(Nat.le_of_ble_eq_true rfl), (Nat.le_of_ble_eq_true rfl)⟩ dX12_play_29) (fun z_4 => ?_)
  refine tt_if_ne (pc := 32) (tgt := 37) E dX12_play_32 rfl (fun c_14 => ?_) (fun c_14 => ?_)
  · have hf := ine c_14 hf
    refine tt_aload_n (pc := 37) (i := 0) (j := 0) E dX12_play_37 rfl rfl ?_
    obtain ⟨r_5, hr_6, hf⟩ := bd_some hf
    have hc_7 := cX12_laysAside_ok (l := l) (B := B) (D := D) (cT := cT) (n := n) (adK := adK) (adV := adV) h0 hr_6
    refine tt_cV (pc := 38) (tt_vi E lmX12_254 mtX12_laysAside hc_7 h0 rfl rfl (Nat.le_of_ble_eq_true rfl) ⟨(Nat.le_of_ble_eq_true rfl), (Nat.le_of_ble_eq_true rfl)⟩ ⟨(Nat.le_of_ble_eq_true rfl), (Nat.le_of_ble_eq_true rfl)⟩ dX12_play_38) ?_
    refine tt_aload_n (pc := 41) (i := 0) (j := 0) E dX12_play_41 rfl rfl ?_
    refine tt_aload_n (pc := 42) (i := 0) (j := 0) E dX12_play_42 rfl rfl ?_
    refine tt_iload_n (pc := 43) (i := 1) (j := 1) E dX12_play_43 rfl rfl ?_
    obtain ⟨r_8, hr_9, hf⟩ := bd_some hf
    have hc_10 := cX12_plays_ok (l := l) (B := B) (D := D) (cT := cT) (n := n) (adK := adK) (adV := adV) h0 hr_9
    refine tt_cI (pc := 44) (tt_vi E lmX12_377 mtX12_plays hc_10 h0 rfl rfl (Nat.le_of_ble_eq_true rfl) ⟨(Nat.le_of_ble_eq_true rfl), (Nat.le_of_ble_eq_true rfl)⟩ ⟨(Nat.le_of_ble_eq_true rfl), (Nat.le_of_ble_eq_true rfl)⟩ dX12_play_44) ?_
    obtain ⟨r_11, hr_12, hf⟩ := bd_some hf
    have hc_13 := cX12_kept_ok (l := l) (B := B) (D := D) (cT := cT) (n := n) (adK := adK) (adV := adV) h0 hr_12
    refine tt_cI (pc := 47) (tt_vi E lmX12_440 mtX12_kept hc_13 h0 rfl rfl (Nat.le_of_ble_eq_true rfl) ⟨(Nat.le_of_ble_eq_true rfl), (Nat.le_of_ble_eq_true rfl)⟩ ⟨(Nat.le_of_ble_eq_true rfl), (Nat.le_of_ble_eq_true rfl)⟩ dX12_play_47) ?_
    exact tt_iret (pc := 50) E hr hlk dX12_play_50 (Nat.le_of_ble_eq_true rfl) (Nat.le_of_ble_eq_true rfl) hf
  · have hf := ip c_14 hf
    refine tt_iconst (pc := 35) (v := 0) E dX12_play_35 ic_0 ?_
    exact tt_iret (pc := 36) E hr hlk dX12_play_36 (Nat.le_of_ble_eq_true rfl) (Nat.le_of_ble_eq_true rfl) hf
set_option maxHeartbeats 4000000 in
theorem tX12_play_28 {p : Program} {l : Launch} {e : Env} {s : State} {m : MethodId} {args : Array Value} {below : List Frame} {meth : Method} {c : Code} {B : Nat} {D : va_G} {cT : Nat → ClassId} {n : Nat} {adK adV : Nat → Nat} {res : Int32 × Mem} (E : EE p s m args c cX12_play 3 RX12 B D cT (XW B adK adV)) (hr : meth.sig.returnType = some .int) (hlk : meth.locks = false) {o0 : Nat} {v1 : Int32} {ot0 : Nat} {vt1 : Int32} (h0 : isK n o0 9) (ht0 : isK n ot0 9) (ht1 : zb vt1) {μ : Mem} (hf : fX12_play_28 o0 v1 ot0 vt1 μ = some res) : TT p l e rmX12_play s m args below meth c (QI B D cT n below args s res) 3 B D cT n 0 0 μ 28 [(0, .ref (B + o0)), (1, .int v1)] [.int vt1, .ref (B + ot0)] := by
  unfold fX12_play_28 at hf
  refine tt_iconst (pc := 28) (v := 0) E dX12_play_28 ic_0 ?_
  exact tX12_play_29 E hr hlk h0 ht0 ht1 ((Or.inl rfl)) hf
set_option maxHeartbeats 4000000 in
theorem cX12_play_ok {l : Launch} {B : Nat} {D : va_G} {cT : Nat → ClassId} {n : Nat} {adK adV : Nat → Nat} {o0 : Nat} {v1 : Int32} {μ : Mem} {res : Int32 × Mem} (h0 : isK n o0 9) (hf : fX12_play o0 v1 μ = some res) : MI l yX12_play cX12_play 3 (some .int) rmX12_play B D cT (XW B adK adV) n [.ref (B + o0), .int v1] μ res := by
  refine tt_ofW mtX12_play.1 (Nat.le_of_ble_eq_true rfl) rfl ?_
  intro p e s m below meth c E0 hr hlk
  have E : EE p s m _ c cX12_play 3 RX12 B D cT (XW B adK adV) := E0
  unfold fX12_play at hf
  refine tt_iload_n (pc := 0) (i := 1) (j := 1) E dX12_play_0 rfl rfl ?_
  refine tt_i2l (pc := 1) E dX12_play_1 ?_
  refine tt_lconst (pc := 2) (v := 1) E dX12_play_2 lc_1 ?_
  refine tt_ldc2 (pc := 3) (v := 99) E dX12_play_3 (gw_mem (mt8 (at_l 38 rfl)) rfl) ?_
  obtain ⟨r_1, hr_2, hf⟩ := bd_some hf
  have hc_3 := cX12_isIn_ok (l := l) (B := B) (D := D) (cT := cT) (n := n) (adK := adK) (adV := adV) hr_2
  refine tt_cZ (pc := 6) (tt_si E lmX12_92 mtX12_isIn hc_3 rfl rfl (Nat.le_of_ble_eq_true rfl) ⟨(Nat.le_of_ble_eq_true rfl), (Nat.le_of_ble_eq_true rfl)⟩ ⟨(Nat.le_of_ble_eq_true rfl), (Nat.le_of_ble_eq_true rfl)⟩ dX12_play_6) (fun z_4 => ?_)
  refine tt_istore_n (pc := 9) (i := 2) (lv' := [(2, .int r_1), (0, .ref (B + o0)), (1, .int v1)]) E dX12_play_9 rfl (Nat.le_of_ble_eq_true rfl) rfl ?_
  refine tt_aload_n (pc := 10) (i := 0) (j := 1) E dX12_play_10 rfl rfl ?_
  refine tt_iload_n (pc := 11) (i := 2) (j := 0) E dX12_play_11 rfl rfl ?_
  refine tt_iload_n (pc := 12) (i := 2) (j := 0) E dX12_play_12 rfl rfl ?_
  refine tt_if_eq (pc := 13) (tgt := 28) E dX12_play_13 rfl (fun c_10 => ?_) (fun c_10 => ?_)
  · have hf := ip c_10 hf
    refine tt_sub [1, 2] (lv' := [(0, .ref (B + o0)), (1, .int v1)]) rfl ?_
    exact tX12_play_28 E hr hlk h0 h0 z_4 hf
  · have hf := ine c_10 hf
    refine tt_aload_n (pc := 16) (i := 0) (j := 1) E dX12_play_16 rfl rfl ?_
    refine tt_iload_n (pc := 17) (i := 1) (j := 2) E dX12_play_17 rfl rfl ?_
    obtain ⟨r_5, hr_6, hf⟩ := bd_some hf
    have hc_7 := cX12_mayPlay_ok (l := l) (B := B) (D := D) (cT := cT) (n := n) (adK := adK) (adV := adV) h0 hr_6
    refine tt_cZ (pc := 18) (tt_vi E lmX12_437 mtX12_mayPlay hc_7 h0 rfl rfl (Nat.le_of_ble_eq_true rfl) ⟨(Nat.le_of_ble_eq_true rfl), (Nat.le_of_ble_eq_true rfl)⟩ ⟨(Nat.le_of_ble_eq_true rfl), (Nat.le_of_ble_eq_true rfl)⟩ dX12_play_18) (fun z_8 => ?_)
    refine tt_if_eq (pc := 21) (tgt := 28) E dX12_play_21 rfl (fun c_9 => ?_) (fun c_9 => ?_)
    · have hf := ip c_9 hf
      refine tt_sub [1, 2] (lv' := [(0, .ref (B + o0)), (1, .int v1)]) rfl ?_
      exact tX12_play_28 E hr hlk h0 h0 z_4 hf
    · have hf := ine c_9 hf
      refine tt_iconst (pc := 24) (v := 1) E dX12_play_24 ic_1 ?_
      refine tt_goto (pc := 25) (tgt := 29) E dX12_play_25 rfl ?_
      refine tt_sub [1, 2] (lv' := [(0, .ref (B + o0)), (1, .int v1)]) rfl ?_
      exact tX12_play_29 E hr hlk h0 h0 z_4 ((Or.inr rfl)) hf
set_option maxHeartbeats 4000000 in
theorem tX12_push_29 {p : Program} {l : Launch} {e : Env} {s : State} {m : MethodId} {args : Array Value} {below : List Frame} {meth : Method} {c : Code} {B : Nat} {D : va_G} {cT : Nat → ClassId} {n : Nat} {adK adV : Nat → Nat} {res : Int32 × Mem} (E : EE p s m args c cX12_push 4 RX12 B D cT (XW B adK adV)) (hr : meth.sig.returnType = some .int) (hlk : meth.locks = false) {o0 : Nat} {v1 : Int32} {v2 : Int32} {ot0 : Nat} {vt1 : Int32} {vt2 : Int32} {vt3 : Int32} (h0 : isK n o0 9) (ht0 : isK n ot0 9) (ht1 : zb vt1) (ht2 : zb vt2) (ht3 : zb vt3) {μ : Mem} (hf : fX12_push_29 o0 v1 v2 ot0 vt1 vt2 vt3 μ = some res) : TT p l e rmX12_push s m args below meth c (QI B D cT n below args s res) 4 B D cT n 0 0 μ 29 [(0, .ref (B + o0)), (1, .int v1), (2, .int v2)] [.int vt3, .int vt2, .int vt1, .ref (B + ot0)] := by
  unfold fX12_push_29 at hf
  obtain ⟨r_1, hr_2, hf⟩ := bd_some hf
  have hc_3 := cX12_goesAll_ok (l := l) (B := B) (D := D) (cT := cT) (n := n) (adK := adK) (adV := adV) ht0 ht1 ht2 ht3 hr_2
  refine tt_cZ (pc := 29) (tt_vi E lmX12_446 mtX12_goesAll hc_3 ht0 rfl rfl (Nat.le_of_ble_eq_true rfl) ⟨(Nat.le_of_ble_eq_true rfl), (Nat.le_of_ble_eq_true rfl)⟩ ⟨(Nat.le_of_ble_eq_true rfl), (Nat.le_of_ble_eq_true rfl)⟩ dX12_push_29) (fun z_4 => ?_)
  refine tt_if_ne (pc := 32) (tgt := 37) E dX12_push_32 rfl (fun c_14 => ?_) (fun c_14 => ?_)
  · have hf := ine c_14 hf
    refine tt_aload_n (pc := 37) (i := 0) (j := 0) E dX12_push_37 rfl rfl ?_
    obtain ⟨r_5, hr_6, hf⟩ := bd_some hf
    have hc_7 := cX12_laysAside_ok (l := l) (B := B) (D := D) (cT := cT) (n := n) (adK := adK) (adV := adV) h0 hr_6
    refine tt_cV (pc := 38) (tt_vi E lmX12_254 mtX12_laysAside hc_7 h0 rfl rfl (Nat.le_of_ble_eq_true rfl) ⟨(Nat.le_of_ble_eq_true rfl), (Nat.le_of_ble_eq_true rfl)⟩ ⟨(Nat.le_of_ble_eq_true rfl), (Nat.le_of_ble_eq_true rfl)⟩ dX12_push_38) ?_
    refine tt_aload_n (pc := 41) (i := 0) (j := 0) E dX12_push_41 rfl rfl ?_
    refine tt_aload_n (pc := 42) (i := 0) (j := 0) E dX12_push_42 rfl rfl ?_
    refine tt_iload_n (pc := 43) (i := 1) (j := 1) E dX12_push_43 rfl rfl ?_
    refine tt_iload_n (pc := 44) (i := 2) (j := 2) E dX12_push_44 rfl rfl ?_
    obtain ⟨r_8, hr_9, hf⟩ := bd_some hf
    have hc_10 := cX12_lowers_ok (l := l) (B := B) (D := D) (cT := cT) (n := n) (adK := adK) (adV := adV) h0 hr_9
    refine tt_cI (pc := 45) (tt_vi E lmX12_307 mtX12_lowers hc_10 h0 rfl rfl (Nat.le_of_ble_eq_true rfl) ⟨(Nat.le_of_ble_eq_true rfl), (Nat.le_of_ble_eq_true rfl)⟩ ⟨(Nat.le_of_ble_eq_true rfl), (Nat.le_of_ble_eq_true rfl)⟩ dX12_push_45) ?_
    obtain ⟨r_11, hr_12, hf⟩ := bd_some hf
    have hc_13 := cX12_kept_ok (l := l) (B := B) (D := D) (cT := cT) (n := n) (adK := adK) (adV := adV) h0 hr_12
    refine tt_cI (pc := 48) (tt_vi E lmX12_440 mtX12_kept hc_13 h0 rfl rfl (Nat.le_of_ble_eq_true rfl) ⟨(Nat.le_of_ble_eq_true rfl), (Nat.le_of_ble_eq_true rfl)⟩ ⟨(Nat.le_of_ble_eq_true rfl), (Nat.le_of_ble_eq_true rfl)⟩ dX12_push_48) ?_
    exact tt_iret (pc := 51) E hr hlk dX12_push_51 (Nat.le_of_ble_eq_true rfl) (Nat.le_of_ble_eq_true rfl) hf
  · have hf := ip c_14 hf
    refine tt_iconst (pc := 35) (v := 0) E dX12_push_35 ic_0 ?_
    exact tt_iret (pc := 36) E hr hlk dX12_push_36 (Nat.le_of_ble_eq_true rfl) (Nat.le_of_ble_eq_true rfl) hf
set_option maxHeartbeats 4000000 in
theorem tX12_push_28 {p : Program} {l : Launch} {e : Env} {s : State} {m : MethodId} {args : Array Value} {below : List Frame} {meth : Method} {c : Code} {B : Nat} {D : va_G} {cT : Nat → ClassId} {n : Nat} {adK adV : Nat → Nat} {res : Int32 × Mem} (E : EE p s m args c cX12_push 4 RX12 B D cT (XW B adK adV)) (hr : meth.sig.returnType = some .int) (hlk : meth.locks = false) {o0 : Nat} {v1 : Int32} {v2 : Int32} {ot0 : Nat} {vt1 : Int32} {vt2 : Int32} (h0 : isK n o0 9) (ht0 : isK n ot0 9) (ht1 : zb vt1) (ht2 : zb vt2) {μ : Mem} (hf : fX12_push_28 o0 v1 v2 ot0 vt1 vt2 μ = some res) : TT p l e rmX12_push s m args below meth c (QI B D cT n below args s res) 4 B D cT n 0 0 μ 28 [(0, .ref (B + o0)), (1, .int v1), (2, .int v2)] [.int vt2, .int vt1, .ref (B + ot0)] := by
  unfold fX12_push_28 at hf
  refine tt_iconst (pc := 28) (v := 0) E dX12_push_28 ic_0 ?_
  exact tX12_push_29 E hr hlk h0 ht0 ht1 ht2 ((Or.inl rfl)) hf
set_option maxHeartbeats 4000000 in
theorem cX12_push_ok {l : Launch} {B : Nat} {D : va_G} {cT : Nat → ClassId} {n : Nat} {adK adV : Nat → Nat} {o0 : Nat} {v1 : Int32} {v2 : Int32} {μ : Mem} {res : Int32 × Mem} (h0 : isK n o0 9) (hf : fX12_push o0 v1 v2 μ = some res) : MI l yX12_push cX12_push 4 (some .int) rmX12_push B D cT (XW B adK adV) n [.ref (B + o0), .int v1, .int v2] μ res := by
  refine tt_ofW mtX12_push.1 (Nat.le_of_ble_eq_true rfl) rfl ?_
  intro p e s m below meth c E0 hr hlk
  have E : EE p s m _ c cX12_push 4 RX12 B D cT (XW B adK adV) := E0
  unfold fX12_push at hf
  refine tt_aload_n (pc := 0) (i := 0) (j := 0) E dX12_push_0 rfl rfl ?_
  refine tt_iload_n (pc := 1) (i := 1) (j := 1) E dX12_push_1 rfl rfl ?_
  obtain ⟨r_1, hr_2, hf⟩ := bd_some hf
  have hc_3 := cX12_isFighter_ok (l := l) (B := B) (D := D) (cT := cT) (n := n) (adK := adK) (adV := adV) h0 hr_2
  refine tt_cZ (pc := 2) (tt_vi E lmX12_345 mtX12_isFighter hc_3 h0 rfl rfl (Nat.le_of_ble_eq_true rfl) ⟨(Nat.le_of_ble_eq_true rfl), (Nat.le_of_ble_eq_true rfl)⟩ ⟨(Nat.le_of_ble_eq_true rfl), (Nat.le_of_ble_eq_true rfl)⟩ dX12_push_2) (fun z_4 => ?_)
  refine tt_istore_n (pc := 5) (i := 3) (lv' := [(3, .int r_1), (0, .ref (B + o0)), (1, .int v1), (2, .int v2)]) E dX12_push_5 rfl (Nat.le_of_ble_eq_true rfl) rfl ?_
  refine tt_aload_n (pc := 6) (i := 0) (j := 1) E dX12_push_6 rfl rfl ?_
  refine tt_iload_n (pc := 7) (i := 3) (j := 0) E dX12_push_7 rfl rfl ?_
  refine tt_iload_n (pc := 8) (i := 2) (j := 3) E dX12_push_8 rfl rfl ?_
  obtain ⟨r_5, hr_6, hf⟩ := bd_some hf
  have hc_7 := cX12_isBy_ok (l := l) (B := B) (D := D) (cT := cT) (n := n) (adK := adK) (adV := adV) hr_6
  refine tt_cZ (pc := 9) (tt_si E lmX12_443 mtX12_isBy hc_7 rfl rfl (Nat.le_of_ble_eq_true rfl) ⟨(Nat.le_of_ble_eq_true rfl), (Nat.le_of_ble_eq_true rfl)⟩ ⟨(Nat.le_of_ble_eq_true rfl), (Nat.le_of_ble_eq_true rfl)⟩ dX12_push_9) (fun z_8 => ?_)
  refine tt_iload_n (pc := 12) (i := 3) (j := 0) E dX12_push_12 rfl rfl ?_
  refine tt_if_eq (pc := 13) (tgt := 28) E dX12_push_13 rfl (fun c_14 => ?_) (fun c_14 => ?_)
  · have hf := ip c_14 hf
    refine tt_sub [1, 2, 3] (lv' := [(0, .ref (B + o0)), (1, .int v1), (2, .int v2)]) rfl ?_
    exact tX12_push_28 E hr hlk h0 h0 z_4 z_8 hf
  · have hf := ine c_14 hf
    refine tt_aload_n (pc := 16) (i := 0) (j := 1) E dX12_push_16 rfl rfl ?_
    refine tt_iload_n (pc := 17) (i := 1) (j := 2) E dX12_push_17 rfl rfl ?_
    obtain ⟨r_9, hr_10, hf⟩ := bd_some hf
    have hc_11 := cX12_lives_ok (l := l) (B := B) (D := D) (cT := cT) (n := n) (adK := adK) (adV := adV) h0 hr_10
    refine tt_cZ (pc := 18) (tt_vi E lmX12_263 mtX12_lives hc_11 h0 rfl rfl (Nat.le_of_ble_eq_true rfl) ⟨(Nat.le_of_ble_eq_true rfl), (Nat.le_of_ble_eq_true rfl)⟩ ⟨(Nat.le_of_ble_eq_true rfl), (Nat.le_of_ble_eq_true rfl)⟩ dX12_push_18) (fun z_12 => ?_)
    refine tt_if_eq (pc := 21) (tgt := 28) E dX12_push_21 rfl (fun c_13 => ?_) (fun c_13 => ?_)
    · have hf := ip c_13 hf
      refine tt_sub [1, 2, 3] (lv' := [(0, .ref (B + o0)), (1, .int v1), (2, .int v2)]) rfl ?_
      exact tX12_push_28 E hr hlk h0 h0 z_4 z_8 hf
    · have hf := ine c_13 hf
      refine tt_iconst (pc := 24) (v := 1) E dX12_push_24 ic_1 ?_
      refine tt_goto (pc := 25) (tgt := 29) E dX12_push_25 rfl ?_
      refine tt_sub [1, 2, 3] (lv' := [(0, .ref (B + o0)), (1, .int v1), (2, .int v2)]) rfl ?_
      exact tX12_push_29 E hr hlk h0 h0 z_4 z_8 ((Or.inr rfl)) hf
