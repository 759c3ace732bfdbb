/-! contracts -/
set_option maxHeartbeats 4000000 in
theorem tX8_readInto_40 {p : Program} {l : Launch} {e : Env} {s : State} {m : MethodId} {args : Array Value} {below : List Frame} {meth : Method} {c : Code} {B : Nat} {D : va_G} {cT : Nat → ClassId} {n : Nat} {adK adV : Nat → Nat} {res : (Unit ⊕ Nat) × Mem} (E : EE p s m args c cX8_readInto 4 RX8 B D cT (XW B adK adV)) (hr : meth.sig.returnType = none) (hlk : meth.locks = false) (hl0 : l.stackTraces = false) (hno : ∀ x ∈ c.exceptionTable.toList, False) {kb8 : Int32 → Int32 → Mem → Option ((Unit ⊕ Nat) × Mem)} {o0 : Nat} {o1 : Nat} {v3 : Int32} (h0 : isK n o0 1) (h1 : isK n o1 7) {μ : Mem} (hk8 : ∀ (v2b : Int32) (v3b : Int32) (μb : Mem), zb v2b → kb8 v2b v3b μb = some res → TT p l e rmX8_readInto s m args below meth c (XQV B D cT n below args s res) 4 B D cT n 0 0 μb 8 [(0, .ref (B + o0)), (1, .ref (B + o1)), (2, .int v2b), (3, .int v3b)] []) (hf : fX8_readInto_40 kb8 o0 o1 v3 μ = some res) : TT p l e rmX8_readInto s m args below meth c (XQV B D cT n below args s res) 4 B D cT n 0 0 μ 40 [(0, .ref (B + o0)), (1, .ref (B + o1)), (3, .int v3)] [] := by
  unfold fX8_readInto_40 at hf
  refine tt_iconst (pc := 40) (v := 1) E dX8_readInto_40 ic_1 ?_
  refine tt_istore_n (pc := 41) (i := 2) (lv' := [(2, .int 1), (0, .ref (B + o0)), (1, .ref (B + o1)), (3, .int v3)]) E dX8_readInto_41 rfl (Nat.le_of_ble_eq_true rfl) rfl ?_
  refine tt_aload_n (pc := 42) (i := 1) (j := 2) E dX8_readInto_42 rfl rfl ?_
  obtain ⟨r_1, hr_2, hf⟩ := bd_some hf
  have hc_3 := cX9_step_ok (l := l) (B := B) (D := D) (cT := cT) (n := n) (adK := adK) (adV := adV) h1 hr_2
  refine tt_cV (pc := 43) (tt_vi E lmX8_30 mtX9_step hc_3 h1 rfl rfl (Nat.le_of_ble_eq_true rfl) ⟨(Nat.le_of_ble_eq_true rfl), (Nat.le_of_ble_eq_true rfl)⟩ ⟨(Nat.le_of_ble_eq_true rfl), (Nat.le_of_ble_eq_true rfl)⟩ dX8_readInto_43) ?_
  refine tt_aload_n (pc := 46) (i := 0) (j := 1) E dX8_readInto_46 rfl rfl ?_
  refine tt_aload_n (pc := 47) (i := 1) (j := 2) E dX8_readInto_47 rfl rfl ?_
  refine tt_bipush (pc := 48) (v := 100) E dX8_readInto_48 bc_100 ?_
  refine tt_sipush (pc := 50) (v := 999) E dX8_readInto_50 sc_999 ?_
  obtain ⟨r_4, hr_5, hf⟩ := bd_some hf
  have hc_6 := cX9_takeNumber_ok (l := l) (B := B) (D := D) (cT := cT) (n := n) (adK := adK) (adV := adV) hl0 h1 hr_5
  refine tx_cI (pc := 53) (tx_vi E lmX8_33 mtX9_takeNumber hc_6 h1 rfl rfl (Nat.le_of_ble_eq_true rfl) ⟨(Nat.le_of_ble_eq_true rfl), (Nat.le_of_ble_eq_true rfl)⟩ ⟨(Nat.le_of_ble_eq_true rfl), (Nat.le_of_ble_eq_true rfl)⟩ dX8_readInto_53) (fun k_7 m_8 hx_9 => ?_) (fun v_10 m_8 hx_9 => ?_)
  · subst hx_9; exact tx_out hno hlk (Nat.le_of_ble_eq_true rfl) (Nat.le_of_ble_eq_true rfl) hf
  subst hx_9
  have hf := xb_l hf
  refine tt_putI (pc := 56) E lfX8_37 rfl h0 dX8_readInto_56 (tt_nmM hf (fun m_11 hf => ?_))
  refine tt_goto (pc := 59) (tgt := 84) E dX8_readInto_59 rfl ?_
  refine tt_aload_n (pc := 84) (i := 1) (j := 2) E dX8_readInto_84 rfl rfl ?_
  refine tt_bipush (pc := 85) (v := 59) E dX8_readInto_85 bc_59 ?_
  obtain ⟨r_12, hr_13, hf⟩ := bd_some hf
  have hc_14 := cX9_takeSign_ok (l := l) (B := B) (D := D) (cT := cT) (n := n) (adK := adK) (adV := adV) hl0 h1 hr_13
  refine tx_cV (pc := 87) (tx_vi E lmX8_47 mtX9_takeSign hc_14 h1 rfl rfl (Nat.le_of_ble_eq_true rfl) ⟨(Nat.le_of_ble_eq_true rfl), (Nat.le_of_ble_eq_true rfl)⟩ ⟨(Nat.le_of_ble_eq_true rfl), (Nat.le_of_ble_eq_true rfl)⟩ dX8_readInto_87) (fun k_15 m_16 hx_17 => ?_) (fun m_16 hx_17 => ?_)
  · subst hx_17; exact tx_out hno hlk (Nat.le_of_ble_eq_true rfl) (Nat.le_of_ble_eq_true rfl) hf
  subst hx_17
  have hf := xb_l hf
  obtain ⟨v_19, ev_19, hf⟩ := nm_ex hf
  refine tt_iinc (pc := 90) (i := 3) (j := 3) (lv' := [(3, .int v_19), (2, .int 1), (0, .ref (B + o0)), (1, .ref (B + o1))]) E dX8_readInto_90 rfl (ev_19).symm (Nat.le_of_ble_eq_true rfl) rfl ?_
  refine tt_goto (pc := 93) (tgt := 8) E dX8_readInto_93 rfl ?_
  refine tt_sub [2, 3, 1, 0] (lv' := [(0, .ref (B + o0)), (1, .ref (B + o1)), (2, .int 1), (3, .int v_19)]) rfl ?_
  exact hk8 1 v_19 m_16 ((Or.inr rfl)) hf
set_option maxHeartbeats 4000000 in
theorem tX8_readInto_8 {p : Program} {l : Launch} {e : Env} {s : State} {m : MethodId} {args : Array Value} {below : List Frame} {meth : Method} {c : Code} {B : Nat} {D : va_G} {cT : Nat → ClassId} {n : Nat} {adK adV : Nat → Nat} {res : (Unit ⊕ Nat) × Mem} (E : EE p s m args c cX8_readInto 4 RX8 B D cT (XW B adK adV)) (hr : meth.sig.returnType = none) (hlk : meth.locks = false) (hl0 : l.stackTraces = false) (hno : ∀ x ∈ c.exceptionTable.toList, False) {o0 : Nat} {o1 : Nat} (h0 : isK n o0 1) (h1 : isK n o1 7) : ∀ (fu : Nat) (v2 : Int32) (v3 : Int32) (μ : Mem) (h2 : zb v2), zl3 (gX8_readInto_8 o0 o1) fu v2 v3 μ = some res → TT p l e rmX8_readInto s m args below meth c (XQV B D cT n below args s res) 4 B D cT n 0 0 μ 8 [(0, .ref (B + o0)), (1, .ref (B + o1)), (2, .int v2), (3, .int v3)] [] := by
  intro fu
  induction fu with
  | zero => intro v2 v3 μ h2 hf; exact absurd hf (fun h => by cases h)
  | succ fu ih =>
    intro v2 v3 μ h2 hf
    have hf : gX8_readInto_8 o0 o1 (zl3 (gX8_readInto_8 o0 o1) fu) v2 v3 μ = some res := hf
    unfold gX8_readInto_8 at hf
    refine tt_iload_n (pc := 8) (i := 3) (j := 3) E dX8_readInto_8 rfl rfl ?_
    refine tt_sipush (pc := 9) (v := 600) E dX8_readInto_9 sc_600 ?_
    refine tt_icmp_ge (pc := 12) (tgt := 96) E dX8_readInto_12 rfl (fun c_50 => ?_) (fun c_50 => ?_)
    · have hf := ip c_50 hf
      exact tx_vret (pc := 96) E hr hlk dX8_readInto_96 hf
    · have hf := ine c_50 hf
      refine tt_aload_n (pc := 15) (i := 1) (j := 1) E dX8_readInto_15 rfl rfl ?_
      refine tt_getI (pc := 16) E lfX8_14 rfl h1 dX8_readInto_16 ?_
      refine tt_if_eq (pc := 19) (tgt := 96) E dX8_readInto_19 rfl (fun c_49 => ?_) (fun c_49 => ?_)
      · have hf := ip c_49 hf
        exact tx_vret (pc := 96) E hr hlk dX8_readInto_96 hf
      · have hf := ine c_49 hf
        refine tt_aload_n (pc := 22) (i := 1) (j := 1) E dX8_readInto_22 rfl rfl ?_
        refine tt_ldcS (pc := 23) (i := 2) E rfl dX8_readInto_23 ?_
        obtain ⟨r_1, hr_2, hf⟩ := bd_some hf
        have hc_3 := cX9_isWord_ok (l := l) (B := B) (D := D) (cT := cT) (n := n) (adK := adK) (adV := adV) h1 hr_2
        refine tt_cZ (pc := 25) (tt_vi E lmX8_22 mtX9_isWord hc_3 h1 rfl rfl (Nat.le_of_ble_eq_true rfl) ⟨(Nat.le_of_ble_eq_true rfl), (Nat.le_of_ble_eq_true rfl)⟩ ⟨(Nat.le_of_ble_eq_true rfl), (Nat.le_of_ble_eq_true rfl)⟩ dX8_readInto_25) (fun z_4 => ?_)
        refine tt_if_eq (pc := 28) (tgt := 62) E dX8_readInto_28 rfl (fun c_48 => ?_) (fun c_48 => ?_)
        · have hf := ip c_48 hf
          refine tt_aload_n (pc := 62) (i := 1) (j := 1) E dX8_readInto_62 rfl rfl ?_
          refine tt_ldcS (pc := 63) (i := 4) E rfl dX8_readInto_63 ?_
          obtain ⟨r_5, hr_6, hf⟩ := bd_some hf
          have hc_7 := cX9_isWord_ok (l := l) (B := B) (D := D) (cT := cT) (n := n) (adK := adK) (adV := adV) h1 hr_6
          refine tt_cZ (pc := 65) (tt_vi E lmX8_22 mtX9_isWord hc_7 h1 rfl rfl (Nat.le_of_ble_eq_true rfl) ⟨(Nat.le_of_ble_eq_true rfl), (Nat.le_of_ble_eq_true rfl)⟩ ⟨(Nat.le_of_ble_eq_true rfl), (Nat.le_of_ble_eq_true rfl)⟩ dX8_readInto_65) (fun z_8 => ?_)
          refine tt_if_eq (pc := 68) (tgt := 79) E dX8_readInto_68 rfl (fun c_39 => ?_) (fun c_39 => ?_)
          · have hf := ip c_39 hf
            refine tt_aload_n (pc := 79) (i := 1) (j := 1) E dX8_readInto_79 rfl rfl ?_
            refine tt_iconst (pc := 80) (v := 1) E dX8_readInto_80 ic_1 ?_
            obtain ⟨r_9, hr_10, hf⟩ := bd_some hf
            have hc_11 := cX9_fail_ok (l := l) (B := B) (D := D) (cT := cT) (n := n) (adK := adK) (adV := adV) hl0 h1 hr_10
            refine tx_cV (pc := 81) (tx_vi E lmX8_26 mtX9_fail hc_11 h1 rfl rfl (Nat.le_of_ble_eq_true rfl) ⟨(Nat.le_of_ble_eq_true rfl), (Nat.le_of_ble_eq_true rfl)⟩ ⟨(Nat.le_of_ble_eq_true rfl), (Nat.le_of_ble_eq_true rfl)⟩ dX8_readInto_81) (fun k_12 m_13 hx_14 => ?_) (fun m_13 hx_14 => ?_)
            · subst hx_14; exact tx_out hno hlk (Nat.le_of_ble_eq_true rfl) (Nat.le_of_ble_eq_true rfl) hf
            subst hx_14
            have hf := xb_l hf
            refine tt_aload_n (pc := 84) (i := 1) (j := 1) E dX8_readInto_84 rfl rfl ?_
            refine tt_bipush (pc := 85) (v := 59) E dX8_readInto_85 bc_59 ?_
            obtain ⟨r_16, hr_17, hf⟩ := bd_some hf
            have hc_18 := cX9_takeSign_ok (l := l) (B := B) (D := D) (cT := cT) (n := n) (adK := adK) (adV := adV) hl0 h1 hr_17
            refine tx_cV (pc := 87) (tx_vi E lmX8_47 mtX9_takeSign hc_18 h1 rfl rfl (Nat.le_of_ble_eq_true rfl) ⟨(Nat.le_of_ble_eq_true rfl), (Nat.le_of_ble_eq_true rfl)⟩ ⟨(Nat.le_of_ble_eq_true rfl), (Nat.le_of_ble_eq_true rfl)⟩ dX8_readInto_87) (fun k_19 m_20 hx_21 => ?_) (fun m_20 hx_21 => ?_)
            · subst hx_21; exact tx_out hno hlk (Nat.le_of_ble_eq_true rfl) (Nat.le_of_ble_eq_true rfl) hf
            subst hx_21
            have hf := xb_l hf
            obtain ⟨v_23, ev_23, hf⟩ := nm_ex hf
            refine tt_iinc (pc := 90) (i := 3) (j := 3) (lv' := [(3, .int v_23), (0, .ref (B + o0)), (1, .ref (B + o1)), (2, .int v2)]) E dX8_readInto_90 rfl (ev_23).symm (Nat.le_of_ble_eq_true rfl) rfl ?_
            refine tt_goto (pc := 93) (tgt := 8) E dX8_readInto_93 rfl ?_
            refine tt_sub [1, 2, 3, 0] (lv' := [(0, .ref (B + o0)), (1, .ref (B + o1)), (2, .int v2), (3, .int v_23)]) rfl ?_
            exact ih v2 v_23 m_20 h2 hf
          · have hf := ine c_39 hf
            refine tt_aload_n (pc := 71) (i := 0) (j := 0) E dX8_readInto_71 rfl rfl ?_
            refine tt_aload_n (pc := 72) (i := 1) (j := 1) E dX8_readInto_72 rfl rfl ?_
            obtain ⟨r_24, hr_25, hf⟩ := bd_some hf
            have hc_26 := cX8_readFighter_ok (l := l) (B := B) (D := D) (cT := cT) (n := n) (adK := adK) (adV := adV) hl0 h0 h1 hr_25
            refine tx_cV (pc := 73) (tx_si E lmX8_41 mtX8_readFighter hc_26 rfl rfl (Nat.le_of_ble_eq_true rfl) ⟨(Nat.le_of_ble_eq_true rfl), (Nat.le_of_ble_eq_true rfl)⟩ ⟨(Nat.le_of_ble_eq_true rfl), (Nat.le_of_ble_eq_true rfl)⟩ dX8_readInto_73) (fun k_27 m_28 hx_29 => ?_) (fun m_28 hx_29 => ?_)
            · subst hx_29; exact tx_out hno hlk (Nat.le_of_ble_eq_true rfl) (Nat.le_of_ble_eq_true rfl) hf
            subst hx_29
            have hf := xb_l hf
            refine tt_goto (pc := 76) (tgt := 84) E dX8_readInto_76 rfl ?_
            refine tt_aload_n (pc := 84) (i := 1) (j := 1) E dX8_readInto_84 rfl rfl ?_
            refine tt_bipush (pc := 85) (v := 59) E dX8_readInto_85 bc_59 ?_
            obtain ⟨r_31, hr_32, hf⟩ := bd_some hf
            have hc_33 := cX9_takeSign_ok (l := l) (B := B) (D := D) (cT := cT) (n := n) (adK := adK) (adV := adV) hl0 h1 hr_32
            refine tx_cV (pc := 87) (tx_vi E lmX8_47 mtX9_takeSign hc_33 h1 rfl rfl (Nat.le_of_ble_eq_true rfl) ⟨(Nat.le_of_ble_eq_true rfl), (Nat.le_of_ble_eq_true rfl)⟩ ⟨(Nat.le_of_ble_eq_true rfl), (Nat.le_of_ble_eq_true rfl)⟩ dX8_readInto_87) (fun k_34 m_35 hx_36 => ?_) (fun m_35 hx_36 => ?_)
            · subst hx_36; exact tx_out hno hlk (Nat.le_of_ble_eq_true rfl) (Nat.le_of_ble_eq_true rfl) hf
            subst hx_36
            have hf := xb_l hf
            obtain ⟨v_38, ev_38, hf⟩ := nm_ex hf
            refine tt_iinc (pc := 90) (i := 3) (j := 3) (lv' := [(3, .int v_38), (0, .ref (B + o0)), (1, .ref (B + o1)), (2, .int v2)]) E dX8_readInto_90 rfl (ev_38).symm (Nat.le_of_ble_eq_true rfl) rfl ?_
            refine tt_goto (pc := 93) (tgt := 8) E dX8_readInto_93 rfl ?_
            refine tt_sub [1, 2, 3, 0] (lv' := [(0, .ref (B + o0)), (1, .ref (B + o1)), (2, .int v2), (3, .int v_38)]) rfl ?_
            exact ih v2 v_38 m_35 h2 hf
        · have hf := ine c_48 hf
          refine tt_iload_n (pc := 31) (i := 2) (j := 2) E dX8_readInto_31 rfl rfl ?_
          refine tt_if_eq (pc := 32) (tgt := 40) E dX8_readInto_32 rfl (fun c_47 => ?_) (fun c_47 => ?_)
          · have hf := ip c_47 hf
            refine tt_sub [0, 1, 3] (lv' := [(0, .ref (B + o0)), (1, .ref (B + o1)), (3, .int v3)]) rfl ?_
            exact tX8_readInto_40 E hr hlk hl0 hno h0 h1 ih hf
          · have hf := ine c_47 hf
            refine tt_aload_n (pc := 35) (i := 1) (j := 1) E dX8_readInto_35 rfl rfl ?_
            refine tt_iconst (pc := 36) (v := 3) E dX8_readInto_36 ic_3 ?_
            obtain ⟨r_40, hr_41, hf⟩ := bd_some hf
            have hc_42 := cX9_fail_ok (l := l) (B := B) (D := D) (cT := cT) (n := n) (adK := adK) (adV := adV) hl0 h1 hr_41
            refine tx_cV (pc := 37) (tx_vi E lmX8_26 mtX9_fail hc_42 h1 rfl rfl (Nat.le_of_ble_eq_true rfl) ⟨(Nat.le_of_ble_eq_true rfl), (Nat.le_of_ble_eq_true rfl)⟩ ⟨(Nat.le_of_ble_eq_true rfl), (Nat.le_of_ble_eq_true rfl)⟩ dX8_readInto_37) (fun k_43 m_44 hx_45 => ?_) (fun m_44 hx_45 => ?_)
            · subst hx_45; exact tx_out hno hlk (Nat.le_of_ble_eq_true rfl) (Nat.le_of_ble_eq_true rfl) hf
            subst hx_45
            have hf := xb_l hf
            refine tt_sub [0, 1, 3] (lv' := [(0, .ref (B + o0)), (1, .ref (B + o1)), (3, .int v3)]) rfl ?_
            exact tX8_readInto_40 E hr hlk hl0 hno h0 h1 ih hf
set_option maxHeartbeats 4000000 in
theorem cX8_readInto_ok {l : Launch} {B : Nat} {D : va_G} {cT : Nat → ClassId} {n : Nat} {adK adV : Nat → Nat} {o0 : Nat} {o1 : Nat} (hl0 : l.stackTraces = false) {μ : Mem} {res : (Unit ⊕ Nat) × Mem} (h0 : isK n o0 1) (h1 : isK n o1 7) (hf : fX8_readInto o0 o1 μ = some res) : XV l yX8_readInto cX8_readInto 4 (none) rmX8_readInto B D cT (XW B adK adV) n [.ref (B + o0), .ref (B + o1)] μ res := by
  refine tx_ofW mtX8_readInto.1 (Nat.le_of_ble_eq_true rfl) rfl ?_
  intro p e s m below meth c E0 hr hlk hno
  have E : EE p s m _ c cX8_readInto 4 RX8 B D cT (XW B adK adV) := E0
  unfold fX8_readInto at hf
  refine tt_aload_n (pc := 0) (i := 0) (j := 0) E dX8_readInto_0 rfl rfl ?_
  obtain ⟨r_1, hr_2, hf⟩ := bd_some hf
  have hc_3 := cX2_clear_ok (l := l) (B := B) (D := D) (cT := cT) (n := n) (adK := adK) (adV := adV) h0 hr_2
  refine tt_cV (pc := 1) (tt_vi E lmX8_9 mtX2_clear hc_3 h0 rfl rfl (Nat.le_of_ble_eq_true rfl) ⟨(Nat.le_of_ble_eq_true rfl), (Nat.le_of_ble_eq_true rfl)⟩ ⟨(Nat.le_of_ble_eq_true rfl), (Nat.le_of_ble_eq_true rfl)⟩ dX8_readInto_1) ?_
  refine tt_iconst (pc := 4) (v := 0) E dX8_readInto_4 ic_0 ?_
  refine tt_istore_n (pc := 5) (i := 2) (lv' := [(2, .int 0), (0, .ref (B + o0)), (1, .ref (B + o1))]) E dX8_readInto_5 rfl (Nat.le_of_ble_eq_true rfl) rfl ?_
  refine tt_iconst (pc := 6) (v := 0) E dX8_readInto_6 ic_0 ?_
  refine tt_istore_n (pc := 7) (i := 3) (lv' := [(3, .int 0), (2, .int 0), (0, .ref (B + o0)), (1, .ref (B + o1))]) E dX8_readInto_7 rfl (Nat.le_of_ble_eq_true rfl) rfl ?_
  refine tt_sub [2, 3, 1, 0] (lv' := [(0, .ref (B + o0)), (1, .ref (B + o1)), (2, .int 0), (3, .int 0)]) rfl ?_
  exact tX8_readInto_8 E hr hlk hl0 hno h0 h1 FU 0 0 r_1 ((Or.inl rfl)) hf
set_option maxHeartbeats 4000000 in
theorem cX9_hasRoomFor_ok {l : Launch} {B : Nat} {D : va_G} {cT : Nat → ClassId} {n : Nat} {adK adV : Nat → Nat} {o0 : Nat} {v1 : Int32} {μ : Mem} {res : Int32} (h0 : isK n o0 7) (hf : fX9_hasRoomFor o0 v1 μ = some res) : MZ l yX9_hasRoomFor cX9_hasRoomFor 2 (some .boolean) rmX9_hasRoomFor B D cT (XW B adK adV) n [.ref (B + o0), .int v1] μ (res, μ) := by
  refine tt_ofW mtX9_hasRoomFor.1 (Nat.le_of_ble_eq_true rfl) rfl ?_
  intro p e s m below meth c E0 hr hlk
  have E : EE p s m _ c cX9_hasRoomFor 2 RX9 B D cT (XW B adK adV) := E0
  unfold fX9_hasRoomFor at hf
  refine tt_aload_n (pc := 0) (i := 0) (j := 0) E dX9_hasRoomFor_0 rfl rfl ?_
  refine tt_getI (pc := 1) E lfX9_15 rfl h0 dX9_hasRoomFor_1 ?_
  refine tt_iload_n (pc := 4) (i := 1) (j := 1) E dX9_hasRoomFor_4 rfl rfl ?_
  refine tt_iadd (pc := 5) E dX9_hasRoomFor_5 ?_
  refine tt_aload_n (pc := 6) (i := 0) (j := 0) E dX9_hasRoomFor_6 rfl rfl ?_
  obtain ⟨q_1, hq_2, hf⟩ := bd_some hf
  refine tt_getP (pc := 7) (t := 10) E lfX9_9 rfl rfl h0 dX9_hasRoomFor_7 hq_2 (fun kq_3 => ?_)
  refine tt_alen (pc := 10) (v := Int32.ofNat (Ln q_1)) E (k := 10) ⟨(Nat.le_of_ble_eq_true rfl), (Nat.le_of_ble_eq_true rfl)⟩ kq_3 rfl dX9_hasRoomFor_10 ?_
  refine tt_icmp_gt (pc := 11) (tgt := 18) E dX9_hasRoomFor_11 rfl (fun c_4 => ?_) (fun c_4 => ?_)
  · have hf := ip c_4 hf
    refine tt_iconst (pc := 18) (v := 0) E dX9_hasRoomFor_18 ic_0 ?_
    exact tt_zret (pc := 19) E ((Or.inl rfl)) hr hlk dX9_hasRoomFor_19 (Nat.le_of_ble_eq_true rfl) (Nat.le_of_ble_eq_true rfl) (pv hf)
  · have hf := ine c_4 hf
    refine tt_iconst (pc := 14) (v := 1) E dX9_hasRoomFor_14 ic_1 ?_
    refine tt_goto (pc := 15) (tgt := 19) E dX9_hasRoomFor_15 rfl ?_
    exact tt_zret (pc := 19) E ((Or.inr rfl)) hr hlk dX9_hasRoomFor_19 (Nat.le_of_ble_eq_true rfl) (Nat.le_of_ble_eq_true rfl) (pv hf)
set_option maxHeartbeats 4000000 in
theorem tX9_append_3 {p : Program} {l : Launch} {e : Env} {s : State} {m : MethodId} {args : Array Value} {below : List Frame} {meth : Method} {c : Code} {B : Nat} {D : va_G} {cT : Nat → ClassId} {n : Nat} {adK adV : Nat → Nat} {res : Mem} (E : EE p s m args c cX9_append 3 RX9 B D cT (XW B adK adV)) (hr : meth.sig.returnType = none) (hlk : meth.locks = false) {o0 : Nat} {v1 : Int32} (h0 : isK n o0 7) : ∀ (fu : Nat) (v2 : Int32) (μ : Mem), zl2 (gX9_append_3 o0 v1) fu v2 μ = some res → TT p l e rmX9_append s m args below meth c (QV B D cT n below args s res) 3 B D cT n 0 0 μ 3 [(0, .ref (B + o0)), (1, .int v1), (2, .int v2)] [] := by
  intro fu
  induction fu with
  | zero => intro v2 μ hf; exact absurd hf (fun h => by cases h)
  | succ fu ih =>
    intro v2 μ hf
    have hf : gX9_append_3 o0 v1 (zl2 (gX9_append_3 o0 v1) fu) v2 μ = some res := hf
    unfold gX9_append_3 at hf
    refine tt_iload_n (pc := 3) (i := 2) (j := 2) E dX9_append_3 rfl rfl ?_
    refine tt_if_lt (pc := 4) (tgt := 55) E dX9_append_4 rfl (fun c_15 => ?_) (fun c_15 => ?_)
    · have hf := ip c_15 hf
      exact tt_vret (pc := 55) E hr hlk dX9_append_55 (Nat.le_of_ble_eq_true rfl) (Nat.le_of_ble_eq_true rfl) hf
    · have hf := ine c_15 hf
      refine tt_aload_n (pc := 7) (i := 0) (j := 0) E dX9_append_7 rfl rfl ?_
      refine tt_getI (pc := 8) E lfX9_15 rfl h0 dX9_append_8 ?_
      refine tt_if_lt (pc := 11) (tgt := 49) E dX9_append_11 rfl (fun c_14 => ?_) (fun c_14 => ?_)
      · have hf := ip c_14 hf
        obtain ⟨v_1, ev_1, hf⟩ := nm_ex hf
        refine tt_iinc (pc := 49) (i := 2) (j := 2) (lv' := [(2, .int v_1), (0, .ref (B + o0)), (1, .int v1)]) E dX9_append_49 rfl (ev_1).symm (Nat.le_of_ble_eq_true rfl) rfl ?_
        refine tt_goto (pc := 52) (tgt := 3) E dX9_append_52 rfl ?_
        refine tt_sub [1, 2, 0] (lv' := [(0, .ref (B + o0)), (1, .int v1), (2, .int v_1)]) rfl ?_
        exact ih v_1 μ hf
      · have hf := ine c_14 hf
        refine tt_aload_n (pc := 14) (i := 0) (j := 0) E dX9_append_14 rfl rfl ?_
        refine tt_getI (pc := 15) E lfX9_15 rfl h0 dX9_append_15 ?_
        refine tt_aload_n (pc := 18) (i := 0) (j := 0) E dX9_append_18 rfl rfl ?_
        obtain ⟨q_2, hq_3, hf⟩ := bd_some hf
        refine tt_getP (pc := 19) (t := 10) E lfX9_9 rfl rfl h0 dX9_append_19 hq_3 (fun kq_4 => ?_)
        refine tt_alen (pc := 22) (v := Int32.ofNat (Ln q_2)) E (k := 10) ⟨(Nat.le_of_ble_eq_true rfl), (Nat.le_of_ble_eq_true rfl)⟩ kq_4 rfl dX9_append_22 ?_
        refine tt_icmp_ge (pc := 23) (tgt := 49) E dX9_append_23 rfl (fun c_13 => ?_) (fun c_13 => ?_)
        · have hf := ip c_13 hf
          obtain ⟨v_5, ev_5, hf⟩ := nm_ex hf
          refine tt_iinc (pc := 49) (i := 2) (j := 2) (lv' := [(2, .int v_5), (0, .ref (B + o0)), (1, .int v1)]) E dX9_append_49 rfl (ev_5).symm (Nat.le_of_ble_eq_true rfl) rfl ?_
          refine tt_goto (pc := 52) (tgt := 3) E dX9_append_52 rfl ?_
          refine tt_sub [1, 2, 0] (lv' := [(0, .ref (B + o0)), (1, .int v1), (2, .int v_5)]) rfl ?_
          exact ih v_5 μ hf
        · have hf := ine c_13 hf
          refine tt_aload_n (pc := 26) (i := 0) (j := 0) E dX9_append_26 rfl rfl ?_
          obtain ⟨q_6, hq_7, hf⟩ := bd_some hf
          refine tt_getP (pc := 27) (t := 10) E lfX9_9 rfl rfl h0 dX9_append_27 hq_7 (fun kq_8 => ?_)
          refine tt_aload_n (pc := 30) (i := 0) (j := 0) E dX9_append_30 rfl rfl ?_
          refine tt_getI (pc := 31) E lfX9_15 rfl h0 dX9_append_31 ?_
          refine tt_iload_n (pc := 34) (i := 1) (j := 1) E dX9_append_34 rfl rfl ?_
          refine tt_iload_n (pc := 35) (i := 2) (j := 2) E dX9_append_35 rfl rfl ?_
          refine tt_iushr (pc := 36) E dX9_append_36 ?_
          refine tt_i2b (pc := 37) E dX9_append_37 ?_
          obtain ⟨g_10, hf⟩ := gd_some hf
          refine tt_bast (pc := 38) E kq_8 g_10 dX9_append_38 (tt_nmM hf (fun m_9 hf => ?_))
          refine tt_aload_n (pc := 39) (i := 0) (j := 0) E dX9_append_39 rfl rfl ?_
          refine tt_dup (pc := 40) E dX9_append_40 rfl ?_
          refine tt_getI (pc := 41) E lfX9_15 rfl h0 dX9_append_41 ?_
          refine tt_iconst (pc := 44) (v := 1) E dX9_append_44 ic_1 ?_
          refine tt_iadd (pc := 45) E dX9_append_45 ?_
          refine tt_putI (pc := 46) E lfX9_15 rfl h0 dX9_append_46 (tt_nmM hf (fun m_11 hf => ?_))
          obtain ⟨v_12, ev_12, hf⟩ := nm_ex hf
          refine tt_iinc (pc := 49) (i := 2) (j := 2) (lv' := [(2, .int v_12), (0, .ref (B + o0)), (1, .int v1)]) E dX9_append_49 rfl (ev_12).symm (Nat.le_of_ble_eq_true rfl) rfl ?_
          refine tt_goto (pc := 52) (tgt := 3) E dX9_append_52 rfl ?_
          refine tt_sub [1, 2, 0] (lv' := [(0, .ref (B + o0)), (1, .int v1), (2, .int v_12)]) rfl ?_
          exact ih v_12 m_11 hf
set_option maxHeartbeats 4000000 in
theorem cX9_append_ok {l : Launch} {B : Nat} {D : va_G} {cT : Nat → ClassId} {n : Nat} {adK adV : Nat → Nat} {o0 : Nat} {v1 : Int32} {μ : Mem} {res : Mem} (h0 : isK n o0 7) (hf : fX9_append o0 v1 μ = some res) : MV l yX9_append cX9_append 3 (none) rmX9_append B D cT (XW B adK adV) n [.ref (B + o0), .int v1] μ res := by
  refine tt_ofW mtX9_append.1 (Nat.le_of_ble_eq_true rfl) rfl ?_
  intro p e s m below meth c E0 hr hlk
  have E : EE p s m _ c cX9_append 3 RX9 B D cT (XW B adK adV) := E0
  unfold fX9_append at hf
  refine tt_bipush (pc := 0) (v := 24) E dX9_append_0 bc_24 ?_
  refine tt_istore_n (pc := 2) (i := 2) (lv' := [(2, .int 24), (0, .ref (B + o0)), (1, .int v1)]) E dX9_append_2 rfl (Nat.le_of_ble_eq_true rfl) rfl ?_
  refine tt_sub [1, 2, 0] (lv' := [(0, .ref (B + o0)), (1, .int v1), (2, .int 24)]) rfl ?_
  exact tX9_append_3 E hr hlk h0 FU 24 μ hf
set_option maxHeartbeats 4000000 in
theorem cX9_begin_ok {l : Launch} {B : Nat} {D : va_G} {cT : Nat → ClassId} {n : Nat} {adK adV : Nat → Nat} {o0 : Nat} {μ : Mem} {res : Mem} (h0 : isK n o0 7) (hf : fX9_begin o0 μ = some res) : MV l yX9_begin cX9_begin 1 (none) rmX9_begin B D cT (XW B adK adV) n [.ref (B + o0)] μ res := by
  refine tt_ofW mtX9_begin.1 (Nat.le_of_ble_eq_true rfl) rfl ?_
  intro p e s m below meth c E0 hr hlk
  have E : EE p s m _ c cX9_begin 1 RX9 B D cT (XW B adK adV) := E0
  unfold fX9_begin at hf
  refine tt_aload_n (pc := 0) (i := 0) (j := 0) E dX9_begin_0 rfl rfl ?_
  refine tt_aload_n (pc := 1) (i := 0) (j := 0) E dX9_begin_1 rfl rfl ?_
  refine tt_getI (pc := 2) E lfX9_15 rfl h0 dX9_begin_2 ?_
  refine tt_putI (pc := 5) E lfX9_25 rfl h0 dX9_begin_5 (tt_nmM hf (fun m_1 hf => ?_))
  refine tt_aload_n (pc := 8) (i := 0) (j := 0) E dX9_begin_8 rfl rfl ?_
  refine tt_iconst (pc := 9) (v := 0) E dX9_begin_9 ic_0 ?_
  refine tt_putI (pc := 10) E lfX9_15 rfl h0 dX9_begin_10 (tt_nmM hf (fun m_2 hf => ?_))
  refine tt_aload_n (pc := 13) (i := 0) (j := 0) E dX9_begin_13 rfl rfl ?_
  refine tt_iconst (pc := 14) (v := 0) E dX9_begin_14 ic_0 ?_
  refine tt_putI (pc := 15) E lfX9_19 rfl h0 dX9_begin_15 (tt_nmM hf (fun m_3 hf => ?_))
  refine tt_aload_n (pc := 18) (i := 0) (j := 0) E dX9_begin_18 rfl rfl ?_
  refine tt_iconst (pc := 19) (v := (-1)) E dX9_begin_19 ic_m1 ?_
  refine tt_putI (pc := 20) E lfX9_22 rfl h0 dX9_begin_20 (tt_nmM hf (fun m_4 hf => ?_))
  refine tt_aload_n (pc := 23) (i := 0) (j := 0) E dX9_begin_23 rfl rfl ?_
  refine tt_iconst (pc := 24) (v := 0) E dX9_begin_24 ic_0 ?_
  refine tt_putI (pc := 25) E lfX9_31 rfl h0 dX9_begin_25 (tt_nmM hf (fun m_5 hf => ?_))
  refine tt_aload_n (pc := 28) (i := 0) (j := 0) E dX9_begin_28 rfl rfl ?_
  obtain ⟨r_6, hr_7, hf⟩ := bd_some hf
  have hc_8 := cX9_step_ok (l := l) (B := B) (D := D) (cT := cT) (n := n) (adK := adK) (adV := adV) h0 hr_7
  refine tt_cV (pc := 29) (tt_vi E lmX9_47 mtX9_step hc_8 h0 rfl rfl (Nat.le_of_ble_eq_true rfl) ⟨(Nat.le_of_ble_eq_true rfl), (Nat.le_of_ble_eq_true rfl)⟩ ⟨(Nat.le_of_ble_eq_true rfl), (Nat.le_of_ble_eq_true rfl)⟩ dX9_begin_29) ?_
  exact tt_vret (pc := 32) E hr hlk dX9_begin_32 (Nat.le_of_ble_eq_true rfl) (Nat.le_of_ble_eq_true rfl) hf
set_option maxHeartbeats 4000000 in
theorem cX11_feed_ok {l : Launch} {B : Nat} {D : va_G} {cT : Nat → ClassId} {n : Nat} {adK adV : Nat → Nat} {o0 : Nat} {v1 : Int32} {v2 : Int32} {v3 : Int32} {v4 : Int32} {v5 : Int32} (hl0 : l.stackTraces = false) {μ : Mem} {res : (Int32 ⊕ Nat) × Mem} (h0 : isK n o0 8) (hf : fX11_feed o0 v1 v2 v3 v4 v5 μ = some res) : XI l yX11_feed cX11_feed 6 (some .int) rmX11_feed B D cT (XW B adK adV) n [.ref (B + o0), .int v1, .int v2, .int v3, .int v4, .int v5] μ res := by
  refine tx_ofW mtX11_feed.1 (Nat.le_of_ble_eq_true rfl) rfl ?_
  intro p e s m below meth c E0 hr hlk hno
  have E : EE p s m _ c cX11_feed 6 RX11 B D cT (XW B adK adV) := E0
  unfold fX11_feed at hf
  refine tt_aload_n (pc := 0) (i := 0) (j := 0) E dX11_feed_0 rfl rfl ?_
  obtain ⟨q_1, hq_2, hf⟩ := bd_some hf
  refine tt_getP (pc := 1) (t := 7) E lfX11_10 rfl rfl h0 dX11_feed_1 hq_2 (fun kq_3 => ?_)
  refine tt_bipush (pc := 4) (v := 20) E dX11_feed_4 bc_20 ?_
  obtain ⟨r_4, hr_5, hf⟩ := bd_some hf
  have hc_6 := cX9_hasRoomFor_ok (l := l) (B := B) (D := D) (cT := cT) (n := n) (adK := adK) (adV := adV) kq_3 hr_5
  refine tt_cZ (pc := 6) (tt_vi E lmX11_61 mtX9_hasRoomFor hc_6 kq_3 rfl rfl (Nat.le_of_ble_eq_true rfl) ⟨(Nat.le_of_ble_eq_true rfl), (Nat.le_of_ble_eq_true rfl)⟩ ⟨(Nat.le_of_ble_eq_true rfl), (Nat.le_of_ble_eq_true rfl)⟩ dX11_feed_6) (fun z_7 => ?_)
  refine tt_if_ne (pc := 9) (tgt := 22) E dX11_feed_9 rfl (fun c_41 => ?_) (fun c_41 => ?_)
  · have hf := ine c_41 hf
    refine tt_aload_n (pc := 22) (i := 0) (j := 0) E dX11_feed_22 rfl rfl ?_
    obtain ⟨q_8, hq_9, hf⟩ := bd_some hf
    refine tt_getP (pc := 23) (t := 7) E lfX11_10 rfl rfl h0 dX11_feed_23 hq_9 (fun kq_10 => ?_)
    refine tt_iload_n (pc := 26) (i := 1) (j := 1) E dX11_feed_26 rfl rfl ?_
    obtain ⟨r_11, hr_12, hf⟩ := bd_some hf
    have hc_13 := cX9_append_ok (l := l) (B := B) (D := D) (cT := cT) (n := n) (adK := adK) (adV := adV) kq_10 hr_12
    refine tt_cV (pc := 27) (tt_vi E lmX11_72 mtX9_append hc_13 kq_10 rfl rfl (Nat.le_of_ble_eq_true rfl) ⟨(Nat.le_of_ble_eq_true rfl), (Nat.le_of_ble_eq_true rfl)⟩ ⟨(Nat.le_of_ble_eq_true rfl), (Nat.le_of_ble_eq_true rfl)⟩ dX11_feed_27) ?_
    refine tt_aload_n (pc := 30) (i := 0) (j := 0) E dX11_feed_30 rfl rfl ?_
    obtain ⟨q_14, hq_15, hf⟩ := bd_some hf
    refine tt_getP (pc := 31) (t := 7) E lfX11_10 rfl rfl h0 dX11_feed_31 hq_15 (fun kq_16 => ?_)
    refine tt_iload_n (pc := 34) (i := 2) (j := 2) E dX11_feed_34 rfl rfl ?_
    obtain ⟨r_17, hr_18, hf⟩ := bd_some hf
    have hc_19 := cX9_append_ok (l := l) (B := B) (D := D) (cT := cT) (n := n) (adK := adK) (adV := adV) kq_16 hr_18
    refine tt_cV (pc := 35) (tt_vi E lmX11_72 mtX9_append hc_19 kq_16 rfl rfl (Nat.le_of_ble_eq_true rfl) ⟨(Nat.le_of_ble_eq_true rfl), (Nat.le_of_ble_eq_true rfl)⟩ ⟨(Nat.le_of_ble_eq_true rfl), (Nat.le_of_ble_eq_true rfl)⟩ dX11_feed_35) ?_
    refine tt_aload_n (pc := 38) (i := 0) (j := 0) E dX11_feed_38 rfl rfl ?_
    obtain ⟨q_20, hq_21, hf⟩ := bd_some hf
    refine tt_getP (pc := 39) (t := 7) E lfX11_10 rfl rfl h0 dX11_feed_39 hq_21 (fun kq_22 => ?_)
    refine tt_iload_n (pc := 42) (i := 3) (j := 3) E dX11_feed_42 rfl rfl ?_
    obtain ⟨r_23, hr_24, hf⟩ := bd_some hf
    have hc_25 := cX9_append_ok (l := l) (B := B) (D := D) (cT := cT) (n := n) (adK := adK) (adV := adV) kq_22 hr_24
    refine tt_cV (pc := 43) (tt_vi E lmX11_72 mtX9_append hc_25 kq_22 rfl rfl (Nat.le_of_ble_eq_true rfl) ⟨(Nat.le_of_ble_eq_true rfl), (Nat.le_of_ble_eq_true rfl)⟩ ⟨(Nat.le_of_ble_eq_true rfl), (Nat.le_of_ble_eq_true rfl)⟩ dX11_feed_43) ?_
    refine tt_aload_n (pc := 46) (i := 0) (j := 0) E dX11_feed_46 rfl rfl ?_
    obtain ⟨q_26, hq_27, hf⟩ := bd_some hf
    refine tt_getP (pc := 47) (t := 7) E lfX11_10 rfl rfl h0 dX11_feed_47 hq_27 (fun kq_28 => ?_)
    refine tt_iload (pc := 50) (i := 4) (j := 4) E dX11_feed_50 rfl ?_
    obtain ⟨r_29, hr_30, hf⟩ := bd_some hf
    have hc_31 := cX9_append_ok (l := l) (B := B) (D := D) (cT := cT) (n := n) (adK := adK) (adV := adV) kq_28 hr_30
    refine tt_cV (pc := 52) (tt_vi E lmX11_72 mtX9_append hc_31 kq_28 rfl rfl (Nat.le_of_ble_eq_true rfl) ⟨(Nat.le_of_ble_eq_true rfl), (Nat.le_of_ble_eq_true rfl)⟩ ⟨(Nat.le_of_ble_eq_true rfl), (Nat.le_of_ble_eq_true rfl)⟩ dX11_feed_52) ?_
    refine tt_aload_n (pc := 55) (i := 0) (j := 0) E dX11_feed_55 rfl rfl ?_
    obtain ⟨q_32, hq_33, hf⟩ := bd_some hf
    refine tt_getP (pc := 56) (t := 7) E lfX11_10 rfl rfl h0 dX11_feed_56 hq_33 (fun kq_34 => ?_)
    refine tt_iload (pc := 59) (i := 5) (j := 5) E dX11_feed_59 rfl ?_
    obtain ⟨r_35, hr_36, hf⟩ := bd_some hf
    have hc_37 := cX9_append_ok (l := l) (B := B) (D := D) (cT := cT) (n := n) (adK := adK) (adV := adV) kq_34 hr_36
    refine tt_cV (pc := 61) (tt_vi E lmX11_72 mtX9_append hc_37 kq_34 rfl rfl (Nat.le_of_ble_eq_true rfl) ⟨(Nat.le_of_ble_eq_true rfl), (Nat.le_of_ble_eq_true rfl)⟩ ⟨(Nat.le_of_ble_eq_true rfl), (Nat.le_of_ble_eq_true rfl)⟩ dX11_feed_61) ?_
    refine tt_aload_n (pc := 64) (i := 0) (j := 0) E dX11_feed_64 rfl rfl ?_
    obtain ⟨q_38, hq_39, hf⟩ := bd_some hf
    refine tt_getP (pc := 65) (t := 7) E lfX11_10 rfl rfl h0 dX11_feed_65 hq_39 (fun kq_40 => ?_)
    refine tt_getI (pc := 68) E lfX11_76 rfl kq_40 dX11_feed_68 ?_
    exact tx_iret (pc := 71) E hr hlk dX11_feed_71 hf
  · have hf := ip c_41 hf
    exact tx_throw (pc := 12) E hl0 twX11_65067 (i := 0) rfl hno hlk dX11_feed_12 dX11_feed_15 dX11_feed_16 dX11_feed_18 dX11_feed_21 (Nat.le_of_ble_eq_true rfl) (Nat.le_of_ble_eq_true rfl) (Nat.le_of_ble_eq_true rfl) (Nat.le_of_ble_eq_true rfl) (Nat.le_of_ble_eq_true rfl) (Nat.le_of_ble_eq_true rfl) hf
set_option maxHeartbeats 4000000 in
theorem cX11_demand_ok {l : Launch} {B : Nat} {D : va_G} {cT : Nat → ClassId} {n : Nat} {adK adV : Nat → Nat} {v0 : Int32} (hl0 : l.stackTraces = false) {μ : Mem} {res : (Unit ⊕ Nat) × Mem} (h0 : zb v0) (hf : fX11_demand v0 μ = some res) : XV l yX11_demand cX11_demand 1 (none) rmX11_demand B D cT (XW B adK adV) n [.int v0] μ res := by
  refine tx_ofW mtX11_demand.1 (Nat.le_of_ble_eq_true rfl) rfl ?_
  intro p e s m below meth c E0 hr hlk hno
  have E : EE p s m _ c cX11_demand 1 RX11 B D cT (XW B adK adV) := E0
  unfold fX11_demand at hf
  refine tt_iload_n (pc := 0) (i := 0) (j := 0) E dX11_demand_0 rfl rfl ?_
  refine tt_if_ne (pc := 1) (tgt := 15) E dX11_demand_1 rfl (fun c_1 => ?_) (fun c_1 => ?_)
  · have hf := ine c_1 hf
    exact tx_vret (pc := 15) E hr hlk dX11_demand_15 hf
  · have hf := ip c_1 hf
    exact tx_throwW (pc := 4) E hl0 twX11_147336 (i := 1) rfl hno hlk dX11_demand_4 dX11_demand_7 dX11_demand_8 dX11_demand_11 dX11_demand_14 (Nat.le_of_ble_eq_true rfl) (Nat.le_of_ble_eq_true rfl) (Nat.le_of_ble_eq_true rfl) (Nat.le_of_ble_eq_true rfl) (Nat.le_of_ble_eq_true rfl) (Nat.le_of_ble_eq_true rfl) hf
set_option maxHeartbeats 4000000 in
theorem cX11_truncate_ok {l : Launch} {B : Nat} {D : va_G} {cT : Nat → ClassId} {n : Nat} {adK adV : Nat → Nat} {o0 : Nat} {v1 : Int32} (hl0 : l.stackTraces = false) {μ : Mem} {res : (Int32 ⊕ Nat) × Mem} (h0 : isK n o0 8) (hf : fX11_truncate o0 v1 μ = some res) : XI l yX11_truncate cX11_truncate 2 (some .int) rmX11_truncate B D cT (XW B adK adV) n [.ref (B + o0), .int v1] μ res := by
  refine tx_ofW mtX11_truncate.1 (Nat.le_of_ble_eq_true rfl) rfl ?_
  intro p e s m below meth c E0 hr hlk hno
  have E : EE p s m _ c cX11_truncate 2 RX11 B D cT (XW B adK adV) := E0
  unfold fX11_truncate at hf
  refine tt_iload_n (pc := 0) (i := 1) (j := 1) E dX11_truncate_0 rfl rfl ?_
  refine tt_if_lt (pc := 1) (tgt := 19) E dX11_truncate_1 rfl (fun c_38 => ?_) (fun c_38 => ?_)
  · have hf := ip c_38 hf
    refine tt_iconst (pc := 19) (v := 0) E dX11_truncate_19 ic_0 ?_
    obtain ⟨r_1, hr_2, hf⟩ := bd_some hf
    have hc_3 := cX11_demand_ok (l := l) (B := B) (D := D) (cT := cT) (n := n) (adK := adK) (adV := adV) hl0 ((Or.inl rfl)) hr_2
    refine tx_cV (pc := 20) (tx_si E lmX11_80 mtX11_demand hc_3 rfl rfl (Nat.le_of_ble_eq_true rfl) ⟨(Nat.le_of_ble_eq_true rfl), (Nat.le_of_ble_eq_true rfl)⟩ ⟨(Nat.le_of_ble_eq_true rfl), (Nat.le_of_ble_eq_true rfl)⟩ dX11_truncate_20) (fun k_4 m_5 hx_6 => ?_) (fun m_5 hx_6 => ?_)
    · subst hx_6; exact tx_out hno hlk (Nat.le_of_ble_eq_true rfl) (Nat.le_of_ble_eq_true rfl) hf
    subst hx_6
    have hf := xb_l hf
    refine tt_aload_n (pc := 23) (i := 0) (j := 0) E dX11_truncate_23 rfl rfl ?_
    obtain ⟨q_8, hq_9, hf⟩ := bd_some hf
    refine tt_getP (pc := 24) (t := 7) E lfX11_10 rfl rfl h0 dX11_truncate_24 hq_9 (fun kq_10 => ?_)
    refine tt_iload_n (pc := 27) (i := 1) (j := 1) E dX11_truncate_27 rfl rfl ?_
    refine tt_putI (pc := 28) E lfX11_76 rfl kq_10 dX11_truncate_28 (tt_nmM hf (fun m_11 hf => ?_))
    refine tt_iload_n (pc := 31) (i := 1) (j := 1) E dX11_truncate_31 rfl rfl ?_
    exact tx_iret (pc := 32) E hr hlk dX11_truncate_32 hf
  · have hf := ine c_38 hf
    refine tt_iload_n (pc := 4) (i := 1) (j := 1) E dX11_truncate_4 rfl rfl ?_
    refine tt_aload_n (pc := 5) (i := 0) (j := 0) E dX11_truncate_5 rfl rfl ?_
    obtain ⟨q_12, hq_13, hf⟩ := bd_some hf
    refine tt_getP (pc := 6) (t := 7) E lfX11_10 rfl rfl h0 dX11_truncate_6 hq_13 (fun kq_14 => ?_)
    refine tt_getI (pc := 9) E lfX11_76 rfl kq_14 dX11_truncate_9 ?_
    refine tt_icmp_gt (pc := 12) (tgt := 19) E dX11_truncate_12 rfl (fun c_37 => ?_) (fun c_37 => ?_)
    · have hf := ip c_37 hf
      refine tt_iconst (pc := 19) (v := 0) E dX11_truncate_19 ic_0 ?_
      obtain ⟨r_15, hr_16, hf⟩ := bd_some hf
      have hc_17 := cX11_demand_ok (l := l) (B := B) (D := D) (cT := cT) (n := n) (adK := adK) (adV := adV) hl0 ((Or.inl rfl)) hr_16
      refine tx_cV (pc := 20) (tx_si E lmX11_80 mtX11_demand hc_17 rfl rfl (Nat.le_of_ble_eq_true rfl) ⟨(Nat.le_of_ble_eq_true rfl), (Nat.le_of_ble_eq_true rfl)⟩ ⟨(Nat.le_of_ble_eq_true rfl), (Nat.le_of_ble_eq_true rfl)⟩ dX11_truncate_20) (fun k_18 m_19 hx_20 => ?_) (fun m_19 hx_20 => ?_)
      · subst hx_20; exact tx_out hno hlk (Nat.le_of_ble_eq_true rfl) (Nat.le_of_ble_eq_true rfl) hf
      subst hx_20
      have hf := xb_l hf
      refine tt_aload_n (pc := 23) (i := 0) (j := 0) E dX11_truncate_23 rfl rfl ?_
      obtain ⟨q_22, hq_23, hf⟩ := bd_some hf
      refine tt_getP (pc := 24) (t := 7) E lfX11_10 rfl rfl h0 dX11_truncate_24 hq_23 (fun kq_24 => ?_)
      refine tt_iload_n (pc := 27) (i := 1) (j := 1) E dX11_truncate_27 rfl rfl ?_
      refine tt_putI (pc := 28) E lfX11_76 rfl kq_24 dX11_truncate_28 (tt_nmM hf (fun m_25 hf => ?_))
      refine tt_iload_n (pc := 31) (i := 1) (j := 1) E dX11_truncate_31 rfl rfl ?_
      exact tx_iret (pc := 32) E hr hlk dX11_truncate_32 hf
    · have hf := ine c_37 hf
      refine tt_iconst (pc := 15) (v := 1) E dX11_truncate_15 ic_1 ?_
      refine tt_goto (pc := 16) (tgt := 20) E dX11_truncate_16 rfl ?_
      obtain ⟨r_26, hr_27, hf⟩ := bd_some hf
      have hc_28 := cX11_demand_ok (l := l) (B := B) (D := D) (cT := cT) (n := n) (adK := adK) (adV := adV) hl0 ((Or.inr rfl)) hr_27
      refine tx_cV (pc := 20) (tx_si E lmX11_80 mtX11_demand hc_28 rfl rfl (Nat.le_of_ble_eq_true rfl) ⟨(Nat.le_of_ble_eq_true rfl), (Nat.le_of_ble_eq_true rfl)⟩ ⟨(Nat.le_of_ble_eq_true rfl), (Nat.le_of_ble_eq_true rfl)⟩ dX11_truncate_20) (fun k_29 m_30 hx_31 => ?_) (fun m_30 hx_31 => ?_)
      · subst hx_31; exact tx_out hno hlk (Nat.le_of_ble_eq_true rfl) (Nat.le_of_ble_eq_true rfl) hf
      subst hx_31
      have hf := xb_l hf
      refine tt_aload_n (pc := 23) (i := 0) (j := 0) E dX11_truncate_23 rfl rfl ?_
      obtain ⟨q_33, hq_34, hf⟩ := bd_some hf
      refine tt_getP (pc := 24) (t := 7) E lfX11_10 rfl rfl h0 dX11_truncate_24 hq_34 (fun kq_35 => ?_)
      refine tt_iload_n (pc := 27) (i := 1) (j := 1) E dX11_truncate_27 rfl rfl ?_
      refine tt_putI (pc := 28) E lfX11_76 rfl kq_35 dX11_truncate_28 (tt_nmM hf (fun m_36 hf => ?_))
      refine tt_iload_n (pc := 31) (i := 1) (j := 1) E dX11_truncate_31 rfl rfl ?_
      exact tx_iret (pc := 32) E hr hlk dX11_truncate_32 hf
set_option maxHeartbeats 4000000 in
theorem cX11_readText_ok {l : Launch} {B : Nat} {D : va_G} {cT : Nat → ClassId} {n : Nat} {adK adV : Nat → Nat} {o0 : Nat} (hl0 : l.stackTraces = false) {μ : Mem} {res : (Int32 ⊕ Nat) × Mem} (h0 : isK n o0 8) (hf : fX11_readText o0 μ = some res) : XI l yX11_readText cX11_readText 1 (some .int) rmX11_readText B D cT (XW B adK adV) n [.ref (B + o0)] μ res := by
  refine tx_ofW mtX11_readText.1 (Nat.le_of_ble_eq_true rfl) rfl ?_
  intro p e s m below meth c E0 hr hlk hno
  have E : EE p s m _ c cX11_readText 1 RX11 B D cT (XW B adK adV) := E0
  unfold fX11_readText at hf
  refine tt_aload_n (pc := 0) (i := 0) (j := 0) E dX11_readText_0 rfl rfl ?_
  obtain ⟨q_1, hq_2, hf⟩ := bd_some hf
  refine tt_getP (pc := 1) (t := 7) E lfX11_10 rfl rfl h0 dX11_readText_1 hq_2 (fun kq_3 => ?_)
  obtain ⟨r_4, hr_5, hf⟩ := bd_some hf
  have hc_6 := cX9_begin_ok (l := l) (B := B) (D := D) (cT := cT) (n := n) (adK := adK) (adV := adV) kq_3 hr_5
  refine tt_cV (pc := 4) (tt_vi E lmX11_84 mtX9_begin hc_6 kq_3 rfl rfl (Nat.le_of_ble_eq_true rfl) ⟨(Nat.le_of_ble_eq_true rfl), (Nat.le_of_ble_eq_true rfl)⟩ ⟨(Nat.le_of_ble_eq_true rfl), (Nat.le_of_ble_eq_true rfl)⟩ dX11_readText_4) ?_
  refine tt_aload_n (pc := 7) (i := 0) (j := 0) E dX11_readText_7 rfl rfl ?_
  obtain ⟨q_7, hq_8, hf⟩ := bd_some hf
  refine tt_getP (pc := 8) (t := 1) E lfX11_30 rfl rfl h0 dX11_readText_8 hq_8 (fun kq_9 => ?_)
  refine tt_aload_n (pc := 11) (i := 0) (j := 0) E dX11_readText_11 rfl rfl ?_
  obtain ⟨q_10, hq_11, hf⟩ := bd_some hf
  refine tt_getP (pc := 12) (t := 7) E lfX11_10 rfl rfl h0 dX11_readText_12 hq_11 (fun kq_12 => ?_)
  obtain ⟨r_13, hr_14, hf⟩ := bd_some hf
  have hc_15 := cX8_readInto_ok (l := l) (B := B) (D := D) (cT := cT) (n := n) (adK := adK) (adV := adV) hl0 kq_9 kq_12 hr_14
  refine tx_cV (pc := 15) (tx_si E lmX11_87 mtX8_readInto hc_15 rfl rfl (Nat.le_of_ble_eq_true rfl) ⟨(Nat.le_of_ble_eq_true rfl), (Nat.le_of_ble_eq_true rfl)⟩ ⟨(Nat.le_of_ble_eq_true rfl), (Nat.le_of_ble_eq_true rfl)⟩ dX11_readText_15) (fun k_16 m_17 hx_18 => ?_) (fun m_17 hx_18 => ?_)
  · subst hx_18; exact tx_out hno hlk (Nat.le_of_ble_eq_true rfl) (Nat.le_of_ble_eq_true rfl) hf
  subst hx_18
  have hf := xb_l hf
  refine tt_aload_n (pc := 18) (i := 0) (j := 0) E dX11_readText_18 rfl rfl ?_
  obtain ⟨q_20, hq_21, hf⟩ := bd_some hf
  refine tt_getP (pc := 19) (t := 1) E lfX11_26 rfl rfl h0 dX11_readText_19 hq_21 (fun kq_22 => ?_)
  refine tt_aload_n (pc := 22) (i := 0) (j := 0) E dX11_readText_22 rfl rfl ?_
  obtain ⟨q_23, hq_24, hf⟩ := bd_some hf
  refine tt_getP (pc := 23) (t := 1) E lfX11_30 rfl rfl h0 dX11_readText_23 hq_24 (fun kq_25 => ?_)
  obtain ⟨r_26, hr_27, hf⟩ := bd_some hf
  have hc_28 := cX2_copyFrom_ok (l := l) (B := B) (D := D) (cT := cT) (n := n) (adK := adK) (adV := adV) kq_22 kq_25 hr_27
  refine tt_cV (pc := 26) (tt_vi E lmX11_93 mtX2_copyFrom hc_28 kq_22 rfl rfl (Nat.le_of_ble_eq_true rfl) ⟨(Nat.le_of_ble_eq_true rfl), (Nat.le_of_ble_eq_true rfl)⟩ ⟨(Nat.le_of_ble_eq_true rfl), (Nat.le_of_ble_eq_true rfl)⟩ dX11_readText_26) ?_
  refine tt_aload_n (pc := 29) (i := 0) (j := 0) E dX11_readText_29 rfl rfl ?_
  obtain ⟨q_29, hq_30, hf⟩ := bd_some hf
  refine tt_getP (pc := 30) (t := 4) E lfX11_46 rfl rfl h0 dX11_readText_30 hq_30 (fun kq_31 => ?_)
  obtain ⟨r_32, hr_33, hf⟩ := bd_some hf
  have hc_34 := cX5_forget_ok (l := l) (B := B) (D := D) (cT := cT) (n := n) (adK := adK) (adV := adV) kq_31 hr_33
  refine tt_cV (pc := 33) (tt_vi E lmX11_97 mtX5_forget hc_34 kq_31 rfl rfl (Nat.le_of_ble_eq_true rfl) ⟨(Nat.le_of_ble_eq_true rfl), (Nat.le_of_ble_eq_true rfl)⟩ ⟨(Nat.le_of_ble_eq_true rfl), (Nat.le_of_ble_eq_true rfl)⟩ dX11_readText_33) ?_
  refine tt_aload_n (pc := 36) (i := 0) (j := 0) E dX11_readText_36 rfl rfl ?_
  obtain ⟨q_35, hq_36, hf⟩ := bd_some hf
  refine tt_getP (pc := 37) (t := 1) E lfX11_26 rfl rfl h0 dX11_readText_37 hq_36 (fun kq_37 => ?_)
  refine tt_getI (pc := 40) E lfX11_100 rfl kq_37 dX11_readText_40 ?_
  exact tx_iret (pc := 43) E hr hlk dX11_readText_43 hf
set_option maxHeartbeats 4000000 in
theorem cX11_runScript_ok {l : Launch} {B : Nat} {D : va_G} {cT : Nat → ClassId} {n : Nat} {adK adV : Nat → Nat} {o0 : Nat} (hl0 : l.stackTraces = false) {μ : Mem} {res : (Int32 ⊕ Nat) × Mem} (h0 : isK n o0 8) (hf : fX11_runScript o0 μ = some res) : XI l yX11_runScript cX11_runScript 1 (some .int) rmX11_runScript B D cT (XW B adK adV) n [.ref (B + o0)] μ res := by
  refine tx_ofW mtX11_runScript.1 (Nat.le_of_ble_eq_true rfl) rfl ?_
  intro p e s m below meth c E0 hr hlk hno
  have E : EE p s m _ c cX11_runScript 1 RX11 B D cT (XW B adK adV) := E0
  unfold fX11_runScript at hf
  refine tt_aload_n (pc := 0) (i := 0) (j := 0) E dX11_runScript_0 rfl rfl ?_
  obtain ⟨q_1, hq_2, hf⟩ := bd_some hf
  refine tt_getP (pc := 1) (t := 7) E lfX11_10 rfl rfl h0 dX11_runScript_1 hq_2 (fun kq_3 => ?_)
  obtain ⟨r_4, hr_5, hf⟩ := bd_some hf
  have hc_6 := cX9_begin_ok (l := l) (B := B) (D := D) (cT := cT) (n := n) (adK := adK) (adV := adV) kq_3 hr_5
  refine tt_cV (pc := 4) (tt_vi E lmX11_84 mtX9_begin hc_6 kq_3 rfl rfl (Nat.le_of_ble_eq_true rfl) ⟨(Nat.le_of_ble_eq_true rfl), (Nat.le_of_ble_eq_true rfl)⟩ ⟨(Nat.le_of_ble_eq_true rfl), (Nat.le_of_ble_eq_true rfl)⟩ dX11_runScript_4) ?_
  refine tt_aload_n (pc := 7) (i := 0) (j := 0) E dX11_runScript_7 rfl rfl ?_
  obtain ⟨q_7, hq_8, hf⟩ := bd_some hf
  refine tt_getP (pc := 8) (t := 5) E lfX11_19 rfl rfl h0 dX11_runScript_8 hq_8 (fun kq_9 => ?_)
  refine tt_aload_n (pc := 11) (i := 0) (j := 0) E dX11_runScript_11 rfl rfl ?_
  obtain ⟨q_10, hq_11, hf⟩ := bd_some hf
  refine tt_getP (pc := 12) (t := 7) E lfX11_10 rfl rfl h0 dX11_runScript_12 hq_11 (fun kq_12 => ?_)
  refine tt_aload_n (pc := 15) (i := 0) (j := 0) E dX11_runScript_15 rfl rfl ?_
  obtain ⟨q_13, hq_14, hf⟩ := bd_some hf
  refine tt_getP (pc := 16) (t := 1) E lfX11_26 rfl rfl h0 dX11_runScript_16 hq_14 (fun kq_15 => ?_)
  obtain ⟨r_16, hr_17, hf⟩ := bd_some hf
  have hc_18 := cX6_readFrom_ok (l := l) (B := B) (D := D) (cT := cT) (n := n) (adK := adK) (adV := adV) hl0 kq_9 kq_12 kq_15 hr_17
  refine tx_cV (pc := 19) (tx_vi E lmX11_103 mtX6_readFrom hc_18 kq_9 rfl rfl (Nat.le_of_ble_eq_true rfl) ⟨(Nat.le_of_ble_eq_true rfl), (Nat.le_of_ble_eq_true rfl)⟩ ⟨(Nat.le_of_ble_eq_true rfl), (Nat.le_of_ble_eq_true rfl)⟩ dX11_runScript_19) (fun k_19 m_20 hx_21 => ?_) (fun m_20 hx_21 => ?_)
  · subst hx_21; exact tx_out hno hlk (Nat.le_of_ble_eq_true rfl) (Nat.le_of_ble_eq_true rfl) hf
  subst hx_21
  have hf := xb_l hf
  refine tt_aload_n (pc := 22) (i := 0) (j := 0) E dX11_runScript_22 rfl rfl ?_
  obtain ⟨q_23, hq_24, hf⟩ := bd_some hf
  refine tt_getP (pc := 23) (t := 4) E lfX11_46 rfl rfl h0 dX11_runScript_23 hq_24 (fun kq_25 => ?_)
  refine tt_aload_n (pc := 26) (i := 0) (j := 0) E dX11_runScript_26 rfl rfl ?_
  obtain ⟨q_26, hq_27, hf⟩ := bd_some hf
  refine tt_getP (pc := 27) (t := 1) E lfX11_26 rfl rfl h0 dX11_runScript_27 hq_27 (fun kq_28 => ?_)
  obtain ⟨r_29, hr_30, hf⟩ := bd_some hf
  have hc_31 := cX5_keep_ok (l := l) (B := B) (D := D) (cT := cT) (n := n) (adK := adK) (adV := adV) kq_25 kq_28 hr_30
  refine tt_cV (pc := 30) (tt_vi E lmX11_107 mtX5_keep hc_31 kq_25 rfl rfl (Nat.le_of_ble_eq_true rfl) ⟨(Nat.le_of_ble_eq_true rfl), (Nat.le_of_ble_eq_true rfl)⟩ ⟨(Nat.le_of_ble_eq_true rfl), (Nat.le_of_ble_eq_true rfl)⟩ dX11_runScript_30) ?_
  refine tt_aload_n (pc := 33) (i := 0) (j := 0) E dX11_runScript_33 rfl rfl ?_
  obtain ⟨q_32, hq_33, hf⟩ := bd_some hf
  refine tt_getP (pc := 34) (t := 5) E lfX11_19 rfl rfl h0 dX11_runScript_34 hq_33 (fun kq_34 => ?_)
  refine tt_aload_n (pc := 37) (i := 0) (j := 0) E dX11_runScript_37 rfl rfl ?_
  obtain ⟨q_35, hq_36, hf⟩ := bd_some hf
  refine tt_getP (pc := 38) (t := 1) E lfX11_26 rfl rfl h0 dX11_runScript_38 hq_36 (fun kq_37 => ?_)
  obtain ⟨r_38, hr_39, hf⟩ := bd_some hf
  have hc_40 := cX6_runOn_ok (l := l) (B := B) (D := D) (cT := cT) (n := n) (adK := adK) (adV := adV) kq_34 kq_37 hr_39
  refine tt_cI (pc := 41) (tt_vi E lmX11_110 mtX6_runOn hc_40 kq_34 rfl rfl (Nat.le_of_ble_eq_true rfl) ⟨(Nat.le_of_ble_eq_true rfl), (Nat.le_of_ble_eq_true rfl)⟩ ⟨(Nat.le_of_ble_eq_true rfl), (Nat.le_of_ble_eq_true rfl)⟩ dX11_runScript_41) ?_
  exact tx_iret (pc := 44) E hr hlk dX11_runScript_44 hf
set_option maxHeartbeats 4000000 in
theorem cX11_errorCode_ok {l : Launch} {B : Nat} {D : va_G} {cT : Nat → ClassId} {n : Nat} {adK adV : Nat → Nat} {o0 : Nat} {μ : Mem} {res : Int32} (h0 : isK n o0 8) (hf : fX11_errorCode o0 μ = some res) : MI l yX11_errorCode cX11_errorCode 1 (some .int) rmX11_errorCode B D cT (XW B adK adV) n [.ref (B + o0)] μ (res, μ) := by
  refine tt_ofW mtX11_errorCode.1 (Nat.le_of_ble_eq_true rfl) rfl ?_
  intro p e s m below meth c E0 hr hlk
  have E : EE p s m _ c cX11_errorCode 1 RX11 B D cT (XW B adK adV) := E0
  unfold fX11_errorCode at hf
  refine tt_aload_n (pc := 0) (i := 0) (j := 0) E dX11_errorCode_0 rfl rfl ?_
  obtain ⟨q_1, hq_2, hf⟩ := bd_some hf
  refine tt_getP (pc := 1) (t := 7) E lfX11_10 rfl rfl h0 dX11_errorCode_1 hq_2 (fun kq_3 => ?_)
  refine tt_getI (pc := 4) E lfX11_114 rfl kq_3 dX11_errorCode_4 ?_
  exact tt_iret (pc := 7) E hr hlk dX11_errorCode_7 (Nat.le_of_ble_eq_true rfl) (Nat.le_of_ble_eq_true rfl) (pv hf)
set_option maxHeartbeats 4000000 in
theorem cX11_errorPosition_ok {l : Launch} {B : Nat} {D : va_G} {cT : Nat → ClassId} {n : Nat} {adK adV : Nat → Nat} {o0 : Nat} {μ : Mem} {res : Int32} (h0 : isK n o0 8) (hf : fX11_errorPosition o0 μ = some res) : MI l yX11_errorPosition cX11_errorPosition 1 (some .int) rmX11_errorPosition B D cT (XW B adK adV) n [.ref (B + o0)] μ (res, μ) := by
  refine tt_ofW mtX11_errorPosition.1 (Nat.le_of_ble_eq_true rfl) rfl ?_
  intro p e s m below meth c E0 hr hlk
  have E : EE p s m _ c cX11_errorPosition 1 RX11 B D cT (XW B adK adV) := E0
  unfold fX11_errorPosition at hf
  refine tt_aload_n (pc := 0) (i := 0) (j := 0) E dX11_errorPosition_0 rfl rfl ?_
  obtain ⟨q_1, hq_2, hf⟩ := bd_some hf
  refine tt_getP (pc := 1) (t := 7) E lfX11_10 rfl rfl h0 dX11_errorPosition_1 hq_2 (fun kq_3 => ?_)
  refine tt_getI (pc := 4) E lfX11_117 rfl kq_3 dX11_errorPosition_4 ?_
  exact tt_iret (pc := 7) E hr hlk dX11_errorPosition_7 (Nat.le_of_ble_eq_true rfl) (Nat.le_of_ble_eq_true rfl) (pv hf)
set_option maxHeartbeats 4000000 in
theorem cX11_setting_ok {l : Launch} {B : Nat} {D : va_G} {cT : Nat → ClassId} {n : Nat} {adK adV : Nat → Nat} {o0 : Nat} {v1 : Int32} (hl0 : l.stackTraces = false) {μ : Mem} {res : (Int32 ⊕ Nat) × Mem} (h0 : isK n o0 8) (hf : fX11_setting o0 v1 μ = some res) : XI l yX11_setting cX11_setting 2 (some .int) rmX11_setting B D cT (XW B adK adV) n [.ref (B + o0), .int v1] μ res := by
  refine tx_ofW mtX11_setting.1 (Nat.le_of_ble_eq_true rfl) rfl ?_
  intro p e s m below meth c E0 hr hlk hno
  have E : EE p s m _ c cX11_setting 2 RX11 B D cT (XW B adK adV) := E0
  unfold fX11_setting at hf
  refine tt_iload_n (pc := 0) (i := 1) (j := 1) E dX11_setting_0 rfl rfl ?_
  by_cases s1_0 : v1 = 0
  · have hf := ip s1_0 hf
    refine tt_swIn (pc := 1) (tgt := 56) E dX11_setting_1 (sw1 s1_0 (by decide)) (sw2 s1_0 (by decide)) (sw3 s1_0 rfl) rfl ?_
    refine tt_aload_n (pc := 56) (i := 0) (j := 0) E dX11_setting_56 rfl rfl ?_
    obtain ⟨q_45, hq_46, hf⟩ := bd_some hf
    refine tt_getP (pc := 57) (t := 1) E lfX11_26 rfl rfl h0 dX11_setting_57 hq_46 (fun kq_47 => ?_)
    refine tt_getI (pc := 60) E lfX11_100 rfl kq_47 dX11_setting_60 ?_
    exact tx_iret (pc := 63) E hr hlk dX11_setting_63 hf
  have hf := ine s1_0 hf
  by_cases s1_1 : v1 = 1
  · have hf := ip s1_1 hf
    refine tt_swIn (pc := 1) (tgt := 64) E dX11_setting_1 (sw1 s1_1 (by decide)) (sw2 s1_1 (by decide)) (sw3 s1_1 rfl) rfl ?_
    refine tt_aload_n (pc := 64) (i := 0) (j := 0) E dX11_setting_64 rfl rfl ?_
    obtain ⟨q_42, hq_43, hf⟩ := bd_some hf
    refine tt_getP (pc := 65) (t := 1) E lfX11_26 rfl rfl h0 dX11_setting_65 hq_43 (fun kq_44 => ?_)
    refine tt_getI (pc := 68) E lfX11_120 rfl kq_44 dX11_setting_68 ?_
    exact tx_iret (pc := 71) E hr hlk dX11_setting_71 hf
  have hf := ine s1_1 hf
  by_cases s1_2 : v1 = 2
  · have hf := ip s1_2 hf
    refine tt_swIn (pc := 1) (tgt := 72) E dX11_setting_1 (sw1 s1_2 (by decide)) (sw2 s1_2 (by decide)) (sw3 s1_2 rfl) rfl ?_
    refine tt_aload_n (pc := 72) (i := 0) (j := 0) E dX11_setting_72 rfl rfl ?_
    obtain ⟨q_39, hq_40, hf⟩ := bd_some hf
    refine tt_getP (pc := 73) (t := 1) E lfX11_26 rfl rfl h0 dX11_setting_73 hq_40 (fun kq_41 => ?_)
    refine tt_getI (pc := 76) E lfX11_123 rfl kq_41 dX11_setting_76 ?_
    exact tx_iret (pc := 79) E hr hlk dX11_setting_79 hf
  have hf := ine s1_2 hf
  by_cases s1_3 : v1 = 3
  · have hf := ip s1_3 hf
    refine tt_swIn (pc := 1) (tgt := 80) E dX11_setting_1 (sw1 s1_3 (by decide)) (sw2 s1_3 (by decide)) (sw3 s1_3 rfl) rfl ?_
    refine tt_aload_n (pc := 80) (i := 0) (j := 0) E dX11_setting_80 rfl rfl ?_
    obtain ⟨q_36, hq_37, hf⟩ := bd_some hf
    refine tt_getP (pc := 81) (t := 1) E lfX11_26 rfl rfl h0 dX11_setting_81 hq_37 (fun kq_38 => ?_)
    refine tt_getI (pc := 84) E lfX11_126 rfl kq_38 dX11_setting_84 ?_
    exact tx_iret (pc := 87) E hr hlk dX11_setting_87 hf
  have hf := ine s1_3 hf
  by_cases s1_4 : v1 = 4
  · have hf := ip s1_4 hf
    refine tt_swIn (pc := 1) (tgt := 88) E dX11_setting_1 (sw1 s1_4 (by decide)) (sw2 s1_4 (by decide)) (sw3 s1_4 rfl) rfl ?_
    refine tt_aload_n (pc := 88) (i := 0) (j := 0) E dX11_setting_88 rfl rfl ?_
    obtain ⟨q_30, hq_31, hf⟩ := bd_some hf
    refine tt_getP (pc := 89) (t := 1) E lfX11_26 rfl rfl h0 dX11_setting_89 hq_31 (fun kq_32 => ?_)
    obtain ⟨r_33, hr_34, hf⟩ := bd_some hf
    have hc_35 := cX2_living_ok (l := l) (B := B) (D := D) (cT := cT) (n := n) (adK := adK) (adV := adV) kq_32 hr_34
    refine tt_cI (pc := 92) (tt_vi E lmX11_129 mtX2_living hc_35 kq_32 rfl rfl (Nat.le_of_ble_eq_true rfl) ⟨(Nat.le_of_ble_eq_true rfl), (Nat.le_of_ble_eq_true rfl)⟩ ⟨(Nat.le_of_ble_eq_true rfl), (Nat.le_of_ble_eq_true rfl)⟩ dX11_setting_92) ?_
    exact tx_iret (pc := 95) E hr hlk dX11_setting_95 hf
  have hf := ine s1_4 hf
  by_cases s1_5 : v1 = 5
  · have hf := ip s1_5 hf
    refine tt_swIn (pc := 1) (tgt := 96) E dX11_setting_1 (sw1 s1_5 (by decide)) (sw2 s1_5 (by decide)) (sw3 s1_5 rfl) rfl ?_
    refine tt_aload_n (pc := 96) (i := 0) (j := 0) E dX11_setting_96 rfl rfl ?_
    obtain ⟨q_24, hq_25, hf⟩ := bd_some hf
    refine tt_getP (pc := 97) (t := 1) E lfX11_26 rfl rfl h0 dX11_setting_97 hq_25 (fun kq_26 => ?_)
    refine tt_iconst (pc := 100) (v := 0) E dX11_setting_100 ic_0 ?_
    obtain ⟨r_27, hr_28, hf⟩ := bd_some hf
    have hc_29 := cX2_sideLife_ok (l := l) (B := B) (D := D) (cT := cT) (n := n) (adK := adK) (adV := adV) kq_26 hr_28
    refine tt_cI (pc := 101) (tt_vi E lmX11_133 mtX2_sideLife hc_29 kq_26 rfl rfl (Nat.le_of_ble_eq_true rfl) ⟨(Nat.le_of_ble_eq_true rfl), (Nat.le_of_ble_eq_true rfl)⟩ ⟨(Nat.le_of_ble_eq_true rfl), (Nat.le_of_ble_eq_true rfl)⟩ dX11_setting_101) ?_
    exact tx_iret (pc := 104) E hr hlk dX11_setting_104 hf
  have hf := ine s1_5 hf
  by_cases s1_6 : v1 = 6
  · have hf := ip s1_6 hf
    refine tt_swIn (pc := 1) (tgt := 105) E dX11_setting_1 (sw1 s1_6 (by decide)) (sw2 s1_6 (by decide)) (sw3 s1_6 rfl) rfl ?_
    refine tt_aload_n (pc := 105) (i := 0) (j := 0) E dX11_setting_105 rfl rfl ?_
    obtain ⟨q_18, hq_19, hf⟩ := bd_some hf
    refine tt_getP (pc := 106) (t := 1) E lfX11_26 rfl rfl h0 dX11_setting_106 hq_19 (fun kq_20 => ?_)
    refine tt_iconst (pc := 109) (v := 1) E dX11_setting_109 ic_1 ?_
    obtain ⟨r_21, hr_22, hf⟩ := bd_some hf
    have hc_23 := cX2_sideLife_ok (l := l) (B := B) (D := D) (cT := cT) (n := n) (adK := adK) (adV := adV) kq_20 hr_22
    refine tt_cI (pc := 110) (tt_vi E lmX11_133 mtX2_sideLife hc_23 kq_20 rfl rfl (Nat.le_of_ble_eq_true rfl) ⟨(Nat.le_of_ble_eq_true rfl), (Nat.le_of_ble_eq_true rfl)⟩ ⟨(Nat.le_of_ble_eq_true rfl), (Nat.le_of_ble_eq_true rfl)⟩ dX11_setting_110) ?_
    exact tx_iret (pc := 113) E hr hlk dX11_setting_113 hf
  have hf := ine s1_6 hf
  by_cases s1_7 : v1 = 7
  · have hf := ip s1_7 hf
    refine tt_swIn (pc := 1) (tgt := 114) E dX11_setting_1 (sw1 s1_7 (by decide)) (sw2 s1_7 (by decide)) (sw3 s1_7 rfl) rfl ?_
    refine tt_aload_n (pc := 114) (i := 0) (j := 0) E dX11_setting_114 rfl rfl ?_
    obtain ⟨q_12, hq_13, hf⟩ := bd_some hf
    refine tt_getP (pc := 115) (t := 1) E lfX11_26 rfl rfl h0 dX11_setting_115 hq_13 (fun kq_14 => ?_)
    obtain ⟨r_15, hr_16, hf⟩ := bd_some hf
    have hc_17 := cX2_wonBy_ok (l := l) (B := B) (D := D) (cT := cT) (n := n) (adK := adK) (adV := adV) kq_14 hr_16
    refine tt_cI (pc := 118) (tt_vi E lmX11_137 mtX2_wonBy hc_17 kq_14 rfl rfl (Nat.le_of_ble_eq_true rfl) ⟨(Nat.le_of_ble_eq_true rfl), (Nat.le_of_ble_eq_true rfl)⟩ ⟨(Nat.le_of_ble_eq_true rfl), (Nat.le_of_ble_eq_true rfl)⟩ dX11_setting_118) ?_
    exact tx_iret (pc := 121) E hr hlk dX11_setting_121 hf
  have hf := ine s1_7 hf
  by_cases s1_8 : v1 = 8
  · have hf := ip s1_8 hf
    refine tt_swIn (pc := 1) (tgt := 122) E dX11_setting_1 (sw1 s1_8 (by decide)) (sw2 s1_8 (by decide)) (sw3 s1_8 rfl) rfl ?_
    refine tt_aload_n (pc := 122) (i := 0) (j := 0) E dX11_setting_122 rfl rfl ?_
    obtain ⟨q_4, hq_5, hf⟩ := bd_some hf
    refine tt_getP (pc := 123) (t := 1) E lfX11_26 rfl rfl h0 dX11_setting_123 hq_5 (fun kq_6 => ?_)
    obtain ⟨r_7, hr_8, hf⟩ := bd_some hf
    have hc_9 := cX2_over_ok (l := l) (B := B) (D := D) (cT := cT) (n := n) (adK := adK) (adV := adV) kq_6 hr_8
    refine tt_cZ (pc := 126) (tt_vi E lmX11_140 mtX2_over hc_9 kq_6 rfl rfl (Nat.le_of_ble_eq_true rfl) ⟨(Nat.le_of_ble_eq_true rfl), (Nat.le_of_ble_eq_true rfl)⟩ ⟨(Nat.le_of_ble_eq_true rfl), (Nat.le_of_ble_eq_true rfl)⟩ dX11_setting_126) (fun z_10 => ?_)
    refine tt_if_eq (pc := 129) (tgt := 136) E dX11_setting_129 rfl (fun c_11 => ?_) (fun c_11 => ?_)
    · have hf := ip c_11 hf
      refine tt_iconst (pc := 136) (v := 0) E dX11_setting_136 ic_0 ?_
      exact tx_iret (pc := 137) E hr hlk dX11_setting_137 hf
    · have hf := ine c_11 hf
      refine tt_iconst (pc := 132) (v := 1) E dX11_setting_132 ic_1 ?_
      refine tt_goto (pc := 133) (tgt := 137) E dX11_setting_133 rfl ?_
      exact tx_iret (pc := 137) E hr hlk dX11_setting_137 hf
  have hf := ine s1_8 hf
  by_cases s1_9 : v1 = 9
  · have hf := ip s1_9 hf
    refine tt_swIn (pc := 1) (tgt := 138) E dX11_setting_1 (sw1 s1_9 (by decide)) (sw2 s1_9 (by decide)) (sw3 s1_9 rfl) rfl ?_
    refine tt_aload_n (pc := 138) (i := 0) (j := 0) E dX11_setting_138 rfl rfl ?_
    obtain ⟨q_1, hq_2, hf⟩ := bd_some hf
    refine tt_getP (pc := 139) (t := 4) E lfX11_46 rfl rfl h0 dX11_setting_139 hq_2 (fun kq_3 => ?_)
    refine tt_getI (pc := 142) E lfX11_144 rfl kq_3 dX11_setting_142 ?_
    exact tx_iret (pc := 145) E hr hlk dX11_setting_145 hf
  have hf := ine s1_9 hf
  refine tt_swOut (pc := 1) (tgt := 146) E dX11_setting_1 (sw_out (N := 10) (fun j hj => by
    match j, hj with
    | 0, _ => exact s1_0
    | 1, _ => exact s1_1
    | 2, _ => exact s1_2
    | 3, _ => exact s1_3
    | 4, _ => exact s1_4
    | 5, _ => exact s1_5
    | 6, _ => exact s1_6
    | 7, _ => exact s1_7
    | 8, _ => exact s1_8
    | 9, _ => exact s1_9
    | j + 10, hj => exact absurd hj (by omega))) rfl ?_
  exact tx_throw (pc := 146) E hl0 twX11_147149 (i := 29) rfl hno hlk dX11_setting_146 dX11_setting_149 dX11_setting_150 dX11_setting_152 dX11_setting_155 (Nat.le_of_ble_eq_true rfl) (Nat.le_of_ble_eq_true rfl) (Nat.le_of_ble_eq_true rfl) (Nat.le_of_ble_eq_true rfl) (Nat.le_of_ble_eq_true rfl) (Nat.le_of_ble_eq_true rfl) hf
set_option maxHeartbeats 4000000 in
theorem cX11_known_ok {l : Launch} {B : Nat} {D : va_G} {cT : Nat → ClassId} {n : Nat} {adK adV : Nat → Nat} {o0 : Nat} {v1 : Int32} (hl0 : l.stackTraces = false) {μ : Mem} {res : (Nat ⊕ Nat) × Mem} (h0 : isK n o0 8) (hf : fX11_known o0 v1 μ = some res) : XP 2 l yX11_known cX11_known 2 (some (.object "TurnWheel$Fighter")) rmX11_known B D cT (XW B adK adV) n [.ref (B + o0), .int v1] μ res := by
  refine tx_ofW mtX11_known.1 (Nat.le_of_ble_eq_true rfl) rfl ?_
  intro p e s m below meth c E0 hr hlk hno
  have E : EE p s m _ c cX11_known 2 RX11 B D cT (XW B adK adV) := E0
  unfold fX11_known at hf
  refine tt_iload_n (pc := 0) (i := 1) (j := 1) E dX11_known_0 rfl rfl ?_
  refine tt_if_lt (pc := 1) (tgt := 15) E dX11_known_1 rfl (fun c_12 => ?_) (fun c_12 => ?_)
  · have hf := ip c_12 hf
    exact tx_throwW (pc := 15) E hl0 twX11_322340 (i := 30) rfl hno hlk dX11_known_15 dX11_known_18 dX11_known_19 dX11_known_22 dX11_known_25 (Nat.le_of_ble_eq_true rfl) (Nat.le_of_ble_eq_true rfl) (Nat.le_of_ble_eq_true rfl) (Nat.le_of_ble_eq_true rfl) (Nat.le_of_ble_eq_true rfl) (Nat.le_of_ble_eq_true rfl) hf
  · have hf := ine c_12 hf
    refine tt_iload_n (pc := 4) (i := 1) (j := 1) E dX11_known_4 rfl rfl ?_
    refine tt_aload_n (pc := 5) (i := 0) (j := 0) E dX11_known_5 rfl rfl ?_
    obtain ⟨q_1, hq_2, hf⟩ := bd_some hf
    refine tt_getP (pc := 6) (t := 1) E lfX11_26 rfl rfl h0 dX11_known_6 hq_2 (fun kq_3 => ?_)
    refine tt_getI (pc := 9) E lfX11_100 rfl kq_3 dX11_known_9 ?_
    refine tt_icmp_lt (pc := 12) (tgt := 26) E dX11_known_12 rfl (fun c_11 => ?_) (fun c_11 => ?_)
    · have hf := ip c_11 hf
      refine tt_aload_n (pc := 26) (i := 0) (j := 0) E dX11_known_26 rfl rfl ?_
      obtain ⟨q_4, hq_5, hf⟩ := bd_some hf
      refine tt_getP (pc := 27) (t := 1) E lfX11_26 rfl rfl h0 dX11_known_27 hq_5 (fun kq_6 => ?_)
      refine tt_iload_n (pc := 30) (i := 1) (j := 1) E dX11_known_30 rfl rfl ?_
      obtain ⟨r_7, hr_8, hf⟩ := bd_some hf
      have hc_9 := cX2_at_ok (l := l) (B := B) (D := D) (cT := cT) (n := n) (adK := adK) (adV := adV) kq_6 hr_8
      refine tt_cP (pc := 31) (tt_vi E lmX11_342 mtX2_at hc_9 kq_6 rfl rfl (Nat.le_of_ble_eq_true rfl) ⟨(Nat.le_of_ble_eq_true rfl), (Nat.le_of_ble_eq_true rfl)⟩ ⟨(Nat.le_of_ble_eq_true rfl), (Nat.le_of_ble_eq_true rfl)⟩ dX11_known_31) (fun kq_10 => ?_)
      exact tx_aret (pc := 34) E kq_10 hr hlk dX11_known_34 hf
    · have hf := ine c_11 hf
      exact tx_throwW (pc := 15) E hl0 twX11_322340 (i := 30) rfl hno hlk dX11_known_15 dX11_known_18 dX11_known_19 dX11_known_22 dX11_known_25 (Nat.le_of_ble_eq_true rfl) (Nat.le_of_ble_eq_true rfl) (Nat.le_of_ble_eq_true rfl) (Nat.le_of_ble_eq_true rfl) (Nat.le_of_ble_eq_true rfl) (Nat.le_of_ble_eq_true rfl) hf
set_option maxHeartbeats 4000000 in
theorem cX11_fighter_ok {l : Launch} {B : Nat} {D : va_G} {cT : Nat → ClassId} {n : Nat} {adK adV : Nat → Nat} {o0 : Nat} {v1 : Int32} {v2 : Int32} (hl0 : l.stackTraces = false) {μ : Mem} {res : (Int32 ⊕ Nat) × Mem} (h0 : isK n o0 8) (hf : fX11_fighter o0 v1 v2 μ = some res) : XI l yX11_fighter cX11_fighter 4 (some .int) rmX11_fighter B D cT (XW B adK adV) n [.ref (B + o0), .int v1, .int v2] μ res := by
  refine tx_ofW mtX11_fighter.1 (Nat.le_of_ble_eq_true rfl) rfl ?_
  intro p e s m below meth c E0 hr hlk hno
  have E : EE p s m _ c cX11_fighter 4 RX11 B D cT (XW B adK adV) := E0
  unfold fX11_fighter at hf
  refine tt_aload_n (pc := 0) (i := 0) (j := 0) E dX11_fighter_0 rfl rfl ?_
  refine tt_iload_n (pc := 1) (i := 1) (j := 1) E dX11_fighter_1 rfl rfl ?_
  obtain ⟨r_1, hr_2, hf⟩ := bd_some hf
  have hc_3 := cX11_known_ok (l := l) (B := B) (D := D) (cT := cT) (n := n) (adK := adK) (adV := adV) hl0 h0 hr_2
  refine tx_cP (pc := 2) (tx_vi E lmX11_152 mtX11_known hc_3 h0 rfl rfl (Nat.le_of_ble_eq_true rfl) ⟨(Nat.le_of_ble_eq_true rfl), (Nat.le_of_ble_eq_true rfl)⟩ ⟨(Nat.le_of_ble_eq_true rfl), (Nat.le_of_ble_eq_true rfl)⟩ dX11_fighter_2) (fun k_4 m_5 hx_6 => ?_) (fun v_7 m_5 hx_6 => ?_)
  · subst hx_6; exact tx_out hno hlk (Nat.le_of_ble_eq_true rfl) (Nat.le_of_ble_eq_true rfl) hf
  obtain ⟨hx_6, hx_6k⟩ := hx_6
  subst hx_6
  have hf := xb_l hf
  refine tt_astore_n (pc := 5) (i := 3) (lv' := [(3, .ref (B + v_7)), (0, .ref (B + o0)), (1, .int v1), (2, .int v2)]) E dX11_fighter_5 rfl (Nat.le_of_ble_eq_true rfl) rfl ?_
  refine tt_iload_n (pc := 6) (i := 2) (j := 3) E dX11_fighter_6 rfl rfl ?_
  by_cases s7_0 : v2 = 0
  · have hf := ip s7_0 hf
    refine tt_swIn (pc := 7) (tgt := 68) E dX11_fighter_7 (sw1 s7_0 (by decide)) (sw2 s7_0 (by decide)) (sw3 s7_0 rfl) rfl ?_
    refine tt_aload_n (pc := 68) (i := 3) (j := 0) E dX11_fighter_68 rfl rfl ?_
    refine tt_getI (pc := 69) E lfX11_156 rfl hx_6k dX11_fighter_69 ?_
    exact tx_iret (pc := 72) E hr hlk dX11_fighter_72 hf
  have hf := ine s7_0 hf
  by_cases s7_1 : v2 = 1
  · have hf := ip s7_1 hf
    refine tt_swIn (pc := 7) (tgt := 73) E dX11_fighter_7 (sw1 s7_1 (by decide)) (sw2 s7_1 (by decide)) (sw3 s7_1 rfl) rfl ?_
    refine tt_aload_n (pc := 73) (i := 3) (j := 0) E dX11_fighter_73 rfl rfl ?_
    refine tt_getI (pc := 74) E lfX11_161 rfl hx_6k dX11_fighter_74 ?_
    exact tx_iret (pc := 77) E hr hlk dX11_fighter_77 hf
  have hf := ine s7_1 hf
  by_cases s7_2 : v2 = 2
  · have hf := ip s7_2 hf
    refine tt_swIn (pc := 7) (tgt := 78) E dX11_fighter_7 (sw1 s7_2 (by decide)) (sw2 s7_2 (by decide)) (sw3 s7_2 rfl) rfl ?_
    refine tt_aload_n (pc := 78) (i := 3) (j := 0) E dX11_fighter_78 rfl rfl ?_
    refine tt_getI (pc := 79) E lfX11_164 rfl hx_6k dX11_fighter_79 ?_
    exact tx_iret (pc := 82) E hr hlk dX11_fighter_82 hf
  have hf := ine s7_2 hf
  by_cases s7_3 : v2 = 3
  · have hf := ip s7_3 hf
    refine tt_swIn (pc := 7) (tgt := 83) E dX11_fighter_7 (sw1 s7_3 (by decide)) (sw2 s7_3 (by decide)) (sw3 s7_3 rfl) rfl ?_
    refine tt_aload_n (pc := 83) (i := 3) (j := 0) E dX11_fighter_83 rfl rfl ?_
    refine tt_getI (pc := 84) E lfX11_167 rfl hx_6k dX11_fighter_84 ?_
    exact tx_iret (pc := 87) E hr hlk dX11_fighter_87 hf
  have hf := ine s7_3 hf
  by_cases s7_4 : v2 = 4
  · have hf := ip s7_4 hf
    refine tt_swIn (pc := 7) (tgt := 88) E dX11_fighter_7 (sw1 s7_4 (by decide)) (sw2 s7_4 (by decide)) (sw3 s7_4 rfl) rfl ?_
    refine tt_aload_n (pc := 88) (i := 3) (j := 0) E dX11_fighter_88 rfl rfl ?_
    refine tt_getI (pc := 89) E lfX11_170 rfl hx_6k dX11_fighter_89 ?_
    exact tx_iret (pc := 92) E hr hlk dX11_fighter_92 hf
  have hf := ine s7_4 hf
  by_cases s7_5 : v2 = 5
  · have hf := ip s7_5 hf
    refine tt_swIn (pc := 7) (tgt := 93) E dX11_fighter_7 (sw1 s7_5 (by decide)) (sw2 s7_5 (by decide)) (sw3 s7_5 rfl) rfl ?_
    refine tt_aload_n (pc := 93) (i := 3) (j := 0) E dX11_fighter_93 rfl rfl ?_
    refine tt_getI (pc := 94) E lfX11_173 rfl hx_6k dX11_fighter_94 ?_
    exact tx_iret (pc := 97) E hr hlk dX11_fighter_97 hf
  have hf := ine s7_5 hf
  by_cases s7_6 : v2 = 6
  · have hf := ip s7_6 hf
    refine tt_swIn (pc := 7) (tgt := 98) E dX11_fighter_7 (sw1 s7_6 (by decide)) (sw2 s7_6 (by decide)) (sw3 s7_6 rfl) rfl ?_
    refine tt_aload_n (pc := 98) (i := 3) (j := 0) E dX11_fighter_98 rfl rfl ?_
    refine tt_getI (pc := 99) E lfX11_176 rfl hx_6k dX11_fighter_99 ?_
    exact tx_iret (pc := 102) E hr hlk dX11_fighter_102 hf
  have hf := ine s7_6 hf
  by_cases s7_7 : v2 = 7
  · have hf := ip s7_7 hf
    refine tt_swIn (pc := 7) (tgt := 103) E dX11_fighter_7 (sw1 s7_7 (by decide)) (sw2 s7_7 (by decide)) (sw3 s7_7 rfl) rfl ?_
    refine tt_aload_n (pc := 103) (i := 3) (j := 0) E dX11_fighter_103 rfl rfl ?_
    refine tt_getI (pc := 104) E lfX11_179 rfl hx_6k dX11_fighter_104 ?_
    exact tx_iret (pc := 107) E hr hlk dX11_fighter_107 hf
  have hf := ine s7_7 hf
  by_cases s7_8 : v2 = 8
  · have hf := ip s7_8 hf
    refine tt_swIn (pc := 7) (tgt := 108) E dX11_fighter_7 (sw1 s7_8 (by decide)) (sw2 s7_8 (by decide)) (sw3 s7_8 rfl) rfl ?_
    refine tt_aload_n (pc := 108) (i := 3) (j := 0) E dX11_fighter_108 rfl rfl ?_
    refine tt_getI (pc := 109) E lfX11_182 rfl hx_6k dX11_fighter_109 ?_
    exact tx_iret (pc := 112) E hr hlk dX11_fighter_112 hf
  have hf := ine s7_8 hf
  by_cases s7_9 : v2 = 9
  · have hf := ip s7_9 hf
    refine tt_swIn (pc := 7) (tgt := 113) E dX11_fighter_7 (sw1 s7_9 (by decide)) (sw2 s7_9 (by decide)) (sw3 s7_9 rfl) rfl ?_
    refine tt_aload_n (pc := 113) (i := 3) (j := 0) E dX11_fighter_113 rfl rfl ?_
    refine tt_getI (pc := 114) E lfX11_185 rfl hx_6k dX11_fighter_114 ?_
    exact tx_iret (pc := 117) E hr hlk dX11_fighter_117 hf
  have hf := ine s7_9 hf
  by_cases s7_10 : v2 = 10
  · have hf := ip s7_10 hf
    refine tt_swIn (pc := 7) (tgt := 118) E dX11_fighter_7 (sw1 s7_10 (by decide)) (sw2 s7_10 (by decide)) (sw3 s7_10 rfl) rfl ?_
    refine tt_aload_n (pc := 118) (i := 3) (j := 0) E dX11_fighter_118 rfl rfl ?_
    refine tt_getI (pc := 119) E lfX11_186 rfl hx_6k dX11_fighter_119 ?_
    exact tx_iret (pc := 122) E hr hlk dX11_fighter_122 hf
  have hf := ine s7_10 hf
  by_cases s7_11 : v2 = 11
  · have hf := ip s7_11 hf
    refine tt_swIn (pc := 7) (tgt := 123) E dX11_fighter_7 (sw1 s7_11 (by decide)) (sw2 s7_11 (by decide)) (sw3 s7_11 rfl) rfl ?_
    refine tt_aload_n (pc := 123) (i := 3) (j := 0) E dX11_fighter_123 rfl rfl ?_
    refine tt_getI (pc := 124) E lfX11_189 rfl hx_6k dX11_fighter_124 ?_
    exact tx_iret (pc := 127) E hr hlk dX11_fighter_127 hf
  have hf := ine s7_11 hf
  refine tt_swOut (pc := 7) (tgt := 128) E dX11_fighter_7 (sw_out (N := 12) (fun j hj => by
    match j, hj with
    | 0, _ => exact s7_0
    | 1, _ => exact s7_1
    | 2, _ => exact s7_2
    | 3, _ => exact s7_3
    | 4, _ => exact s7_4
    | 5, _ => exact s7_5
    | 6, _ => exact s7_6
    | 7, _ => exact s7_7
    | 8, _ => exact s7_8
    | 9, _ => exact s7_9
    | 10, _ => exact s7_10
    | 11, _ => exact s7_11
    | j + 12, hj => exact absurd hj (by omega))) rfl ?_
  exact tx_throw (pc := 128) E hl0 twX11_147192 (i := 31) rfl hno hlk dX11_fighter_128 dX11_fighter_131 dX11_fighter_132 dX11_fighter_134 dX11_fighter_137 (Nat.le_of_ble_eq_true rfl) (Nat.le_of_ble_eq_true rfl) (Nat.le_of_ble_eq_true rfl) (Nat.le_of_ble_eq_true rfl) (Nat.le_of_ble_eq_true rfl) (Nat.le_of_ble_eq_true rfl) hf
set_option maxHeartbeats 4000000 in
theorem cX11_actKind_ok {l : Launch} {B : Nat} {D : va_G} {cT : Nat → ClassId} {n : Nat} {adK adV : Nat → Nat} {o0 : Nat} {v1 : Int32} {v2 : Int32} (hl0 : l.stackTraces = false) {μ : Mem} {res : (Int32 ⊕ Nat) × Mem} (h0 : isK n o0 8) (hf : fX11_actKind o0 v1 v2 μ = some res) : XI l yX11_actKind cX11_actKind 3 (some .int) rmX11_actKind B D cT (XW B adK adV) n [.ref (B + o0), .int v1, .int v2] μ res := by
  refine tx_ofW mtX11_actKind.1 (Nat.le_of_ble_eq_true rfl) rfl ?_
  intro p e s m below meth c E0 hr hlk hno
  have E : EE p s m _ c cX11_actKind 3 RX11 B D cT (XW B adK adV) := E0
  unfold fX11_actKind at hf
  refine tt_aload_n (pc := 0) (i := 0) (j := 0) E dX11_actKind_0 rfl rfl ?_
  refine tt_iload_n (pc := 1) (i := 1) (j := 1) E dX11_actKind_1 rfl rfl ?_
  obtain ⟨r_1, hr_2, hf⟩ := bd_some hf
  have hc_3 := cX11_known_ok (l := l) (B := B) (D := D) (cT := cT) (n := n) (adK := adK) (adV := adV) hl0 h0 hr_2
  refine tx_cP (pc := 2) (tx_vi E lmX11_152 mtX11_known hc_3 h0 rfl rfl (Nat.le_of_ble_eq_true rfl) ⟨(Nat.le_of_ble_eq_true rfl), (Nat.le_of_ble_eq_true rfl)⟩ ⟨(Nat.le_of_ble_eq_true rfl), (Nat.le_of_ble_eq_true rfl)⟩ dX11_actKind_2) (fun k_4 m_5 hx_6 => ?_) (fun v_7 m_5 hx_6 => ?_)
  · subst hx_6; exact tx_out hno hlk (Nat.le_of_ble_eq_true rfl) (Nat.le_of_ble_eq_true rfl) hf
  obtain ⟨hx_6, hx_6k⟩ := hx_6
  subst hx_6
  have hf := xb_l hf
  refine tt_iload_n (pc := 5) (i := 2) (j := 2) E dX11_actKind_5 rfl rfl ?_
  obtain ⟨r_8, hr_9, hf⟩ := bd_some hf
  have hc_10 := cX3_kindAt_ok (l := l) (B := B) (D := D) (cT := cT) (n := n) (adK := adK) (adV := adV) hx_6k hr_9
  refine tt_cI (pc := 6) (tt_vi E lmX11_194 mtX3_kindAt hc_10 hx_6k rfl rfl (Nat.le_of_ble_eq_true rfl) ⟨(Nat.le_of_ble_eq_true rfl), (Nat.le_of_ble_eq_true rfl)⟩ ⟨(Nat.le_of_ble_eq_true rfl), (Nat.le_of_ble_eq_true rfl)⟩ dX11_actKind_6) ?_
  exact tx_iret (pc := 9) E hr hlk dX11_actKind_9 hf
set_option maxHeartbeats 4000000 in
theorem cX11_actNumber_ok {l : Launch} {B : Nat} {D : va_G} {cT : Nat → ClassId} {n : Nat} {adK adV : Nat → Nat} {o0 : Nat} {v1 : Int32} {v2 : Int32} (hl0 : l.stackTraces = false) {μ : Mem} {res : (Int32 ⊕ Nat) × Mem} (h0 : isK n o0 8) (hf : fX11_actNumber o0 v1 v2 μ = some res) : XI l yX11_actNumber cX11_actNumber 3 (some .int) rmX11_actNumber B D cT (XW B adK adV) n [.ref (B + o0), .int v1, .int v2] μ res := by
  refine tx_ofW mtX11_actNumber.1 (Nat.le_of_ble_eq_true rfl) rfl ?_
  intro p e s m below meth c E0 hr hlk hno
  have E : EE p s m _ c cX11_actNumber 3 RX11 B D cT (XW B adK adV) := E0
  unfold fX11_actNumber at hf
  refine tt_aload_n (pc := 0) (i := 0) (j := 0) E dX11_actNumber_0 rfl rfl ?_
  refine tt_iload_n (pc := 1) (i := 1) (j := 1) E dX11_actNumber_1 rfl rfl ?_
  obtain ⟨r_1, hr_2, hf⟩ := bd_some hf
  have hc_3 := cX11_known_ok (l := l) (B := B) (D := D) (cT := cT) (n := n) (adK := adK) (adV := adV) hl0 h0 hr_2
  refine tx_cP (pc := 2) (tx_vi E lmX11_152 mtX11_known hc_3 h0 rfl rfl (Nat.le_of_ble_eq_true rfl) ⟨(Nat.le_of_ble_eq_true rfl), (Nat.le_of_ble_eq_true rfl)⟩ ⟨(Nat.le_of_ble_eq_true rfl), (Nat.le_of_ble_eq_true rfl)⟩ dX11_actNumber_2) (fun k_4 m_5 hx_6 => ?_) (fun v_7 m_5 hx_6 => ?_)
  · subst hx_6; exact tx_out hno hlk (Nat.le_of_ble_eq_true rfl) (Nat.le_of_ble_eq_true rfl) hf
  obtain ⟨hx_6, hx_6k⟩ := hx_6
  subst hx_6
  have hf := xb_l hf
  refine tt_iload_n (pc := 5) (i := 2) (j := 2) E dX11_actNumber_5 rfl rfl ?_
  obtain ⟨r_8, hr_9, hf⟩ := bd_some hf
  have hc_10 := cX3_amountAt_ok (l := l) (B := B) (D := D) (cT := cT) (n := n) (adK := adK) (adV := adV) hx_6k hr_9
  refine tt_cI (pc := 6) (tt_vi E lmX11_197 mtX3_amountAt hc_10 hx_6k rfl rfl (Nat.le_of_ble_eq_true rfl) ⟨(Nat.le_of_ble_eq_true rfl), (Nat.le_of_ble_eq_true rfl)⟩ ⟨(Nat.le_of_ble_eq_true rfl), (Nat.le_of_ble_eq_true rfl)⟩ dX11_actNumber_6) ?_
  exact tx_iret (pc := 9) E hr hlk dX11_actNumber_9 hf
set_option maxHeartbeats 4000000 in
theorem cX11_letter_ok {l : Launch} {B : Nat} {D : va_G} {cT : Nat → ClassId} {n : Nat} {adK adV : Nat → Nat} {o0 : Nat} {v1 : Int32} {v2 : Int32} (hl0 : l.stackTraces = false) {μ : Mem} {res : (Int32 ⊕ Nat) × Mem} (h0 : isK n o0 8) (hf : fX11_letter o0 v1 v2 μ = some res) : XI l yX11_letter cX11_letter 3 (some .int) rmX11_letter B D cT (XW B adK adV) n [.ref (B + o0), .int v1, .int v2] μ res := by
  refine tx_ofW mtX11_letter.1 (Nat.le_of_ble_eq_true rfl) rfl ?_
  intro p e s m below meth c E0 hr hlk hno
  have E : EE p s m _ c cX11_letter 3 RX11 B D cT (XW B adK adV) := E0
  unfold fX11_letter at hf
  refine tt_aload_n (pc := 0) (i := 0) (j := 0) E dX11_letter_0 rfl rfl ?_
  refine tt_iload_n (pc := 1) (i := 1) (j := 1) E dX11_letter_1 rfl rfl ?_
  obtain ⟨r_1, hr_2, hf⟩ := bd_some hf
  have hc_3 := cX11_known_ok (l := l) (B := B) (D := D) (cT := cT) (n := n) (adK := adK) (adV := adV) hl0 h0 hr_2
  refine tx_cP (pc := 2) (tx_vi E lmX11_152 mtX11_known hc_3 h0 rfl rfl (Nat.le_of_ble_eq_true rfl) ⟨(Nat.le_of_ble_eq_true rfl), (Nat.le_of_ble_eq_true rfl)⟩ ⟨(Nat.le_of_ble_eq_true rfl), (Nat.le_of_ble_eq_true rfl)⟩ dX11_letter_2) (fun k_4 m_5 hx_6 => ?_) (fun v_7 m_5 hx_6 => ?_)
  · subst hx_6; exact tx_out hno hlk (Nat.le_of_ble_eq_true rfl) (Nat.le_of_ble_eq_true rfl) hf
  obtain ⟨hx_6, hx_6k⟩ := hx_6
  subst hx_6
  have hf := xb_l hf
  refine tt_getJ (pc := 5) E lfX11_200 rfl hx_6k dX11_letter_5 ?_
  refine tt_iload_n (pc := 8) (i := 2) (j := 2) E dX11_letter_8 rfl rfl ?_
  obtain ⟨r_8, hr_9, hf⟩ := bd_some hf
  have hc_10 := cX10_letterAt_ok (l := l) (B := B) (D := D) (cT := cT) (n := n) (adK := adK) (adV := adV) hr_9
  refine tt_cI (pc := 9) (tt_si E lmX11_204 mtX10_letterAt hc_10 rfl rfl (Nat.le_of_ble_eq_true rfl) ⟨(Nat.le_of_ble_eq_true rfl), (Nat.le_of_ble_eq_true rfl)⟩ ⟨(Nat.le_of_ble_eq_true rfl), (Nat.le_of_ble_eq_true rfl)⟩ dX11_letter_9) ?_
  exact tx_iret (pc := 12) E hr hlk dX11_letter_12 hf
set_option maxHeartbeats 4000000 in
theorem cX11_ticksTo_ok {l : Launch} {B : Nat} {D : va_G} {cT : Nat → ClassId} {n : Nat} {adK adV : Nat → Nat} {o0 : Nat} {v1 : Int32} (hl0 : l.stackTraces = false) {μ : Mem} {res : (Int32 ⊕ Nat) × Mem} (h0 : isK n o0 8) (hf : fX11_ticksTo o0 v1 μ = some res) : XI l yX11_ticksTo cX11_ticksTo 3 (some .int) rmX11_ticksTo B D cT (XW B adK adV) n [.ref (B + o0), .int v1] μ res := by
  refine tx_ofW mtX11_ticksTo.1 (Nat.le_of_ble_eq_true rfl) rfl ?_
  intro p e s m below meth c E0 hr hlk hno
  have E : EE p s m _ c cX11_ticksTo 3 RX11 B D cT (XW B adK adV) := E0
  unfold fX11_ticksTo at hf
  refine tt_aload_n (pc := 0) (i := 0) (j := 0) E dX11_ticksTo_0 rfl rfl ?_
  refine tt_iload_n (pc := 1) (i := 1) (j := 1) E dX11_ticksTo_1 rfl rfl ?_
  obtain ⟨r_1, hr_2, hf⟩ := bd_some hf
  have hc_3 := cX11_known_ok (l := l) (B := B) (D := D) (cT := cT) (n := n) (adK := adK) (adV := adV) hl0 h0 hr_2
  refine tx_cP (pc := 2) (tx_vi E lmX11_152 mtX11_known hc_3 h0 rfl rfl (Nat.le_of_ble_eq_true rfl) ⟨(Nat.le_of_ble_eq_true rfl), (Nat.le_of_ble_eq_true rfl)⟩ ⟨(Nat.le_of_ble_eq_true rfl), (Nat.le_of_ble_eq_true rfl)⟩ dX11_ticksTo_2) (fun k_4 m_5 hx_6 => ?_) (fun v_7 m_5 hx_6 => ?_)
  · subst hx_6; exact tx_out hno hlk (Nat.le_of_ble_eq_true rfl) (Nat.le_of_ble_eq_true rfl) hf
  obtain ⟨hx_6, hx_6k⟩ := hx_6
  subst hx_6
  have hf := xb_l hf
  refine tt_astore_n (pc := 5) (i := 2) (lv' := [(2, .ref (B + v_7)), (0, .ref (B + o0)), (1, .int v1)]) E dX11_ticksTo_5 rfl (Nat.le_of_ble_eq_true rfl) rfl ?_
  refine tt_aload_n (pc := 6) (i := 2) (j := 0) E dX11_ticksTo_6 rfl rfl ?_
  refine tt_getI (pc := 7) E lfX11_164 rfl hx_6k dX11_ticksTo_7 ?_
  refine tt_if_le (pc := 10) (tgt := 27) E dX11_ticksTo_10 rfl (fun c_14 => ?_) (fun c_14 => ?_)
  · have hf := ip c_14 hf
    refine tt_iconst (pc := 27) (v := (-1)) E dX11_ticksTo_27 ic_m1 ?_
    exact tx_iret (pc := 28) E hr hlk dX11_ticksTo_28 hf
  · have hf := ine c_14 hf
    refine tt_aload_n (pc := 13) (i := 2) (j := 0) E dX11_ticksTo_13 rfl rfl ?_
    refine tt_aload_n (pc := 14) (i := 0) (j := 1) E dX11_ticksTo_14 rfl rfl ?_
    obtain ⟨q_8, hq_9, hf⟩ := bd_some hf
    refine tt_getP (pc := 15) (t := 1) E lfX11_26 rfl rfl h0 dX11_ticksTo_15 hq_9 (fun kq_10 => ?_)
    refine tt_getI (pc := 18) E lfX11_120 rfl kq_10 dX11_ticksTo_18 ?_
    obtain ⟨r_11, hr_12, hf⟩ := bd_some hf
    have hc_13 := cX3_ticksLeft_ok (l := l) (B := B) (D := D) (cT := cT) (n := n) (adK := adK) (adV := adV) hx_6k hr_12
    refine tt_cI (pc := 21) (tt_vi E lmX11_210 mtX3_ticksLeft hc_13 hx_6k rfl rfl (Nat.le_of_ble_eq_true rfl) ⟨(Nat.le_of_ble_eq_true rfl), (Nat.le_of_ble_eq_true rfl)⟩ ⟨(Nat.le_of_ble_eq_true rfl), (Nat.le_of_ble_eq_true rfl)⟩ dX11_ticksTo_21) ?_
    refine tt_goto (pc := 24) (tgt := 28) E dX11_ticksTo_24 rfl ?_
    exact tx_iret (pc := 28) E hr hlk dX11_ticksTo_28 hf
set_option maxHeartbeats 4000000 in
theorem cX11_row_ok {l : Launch} {B : Nat} {D : va_G} {cT : Nat → ClassId} {n : Nat} {adK adV : Nat → Nat} {o0 : Nat} {v1 : Int32} {μ : Mem} {res : Int32} (h0 : isK n o0 8) (hf : fX11_row o0 v1 μ = some res) : MI l yX11_row cX11_row 2 (some .int) rmX11_row B D cT (XW B adK adV) n [.ref (B + o0), .int v1] μ (res, μ) := by
  refine tt_ofW mtX11_row.1 (Nat.le_of_ble_eq_true rfl) rfl ?_
  intro p e s m below meth c E0 hr hlk
  have E : EE p s m _ c cX11_row 2 RX11 B D cT (XW B adK adV) := E0
  unfold fX11_row at hf
  refine tt_aload_n (pc := 0) (i := 0) (j := 0) E dX11_row_0 rfl rfl ?_
  obtain ⟨q_1, hq_2, hf⟩ := bd_some hf
  refine tt_getP (pc := 1) (t := 1) E lfX11_26 rfl rfl h0 dX11_row_1 hq_2 (fun kq_3 => ?_)
  refine tt_iload_n (pc := 4) (i := 1) (j := 1) E dX11_row_4 rfl rfl ?_
  obtain ⟨r_4, hr_5, hf⟩ := bd_some hf
  have hc_6 := cX2_inRow_ok (l := l) (B := B) (D := D) (cT := cT) (n := n) (adK := adK) (adV := adV) kq_3 hr_5
  refine tt_cP (pc := 5) (tt_vi E lmX11_213 mtX2_inRow hc_6 kq_3 rfl rfl (Nat.le_of_ble_eq_true rfl) ⟨(Nat.le_of_ble_eq_true rfl), (Nat.le_of_ble_eq_true rfl)⟩ ⟨(Nat.le_of_ble_eq_true rfl), (Nat.le_of_ble_eq_true rfl)⟩ dX11_row_5) (fun kq_7 => ?_)
  refine tt_getI (pc := 8) E lfX11_216 rfl kq_7 dX11_row_8 ?_
  exact tt_iret (pc := 11) E hr hlk dX11_row_11 (Nat.le_of_ble_eq_true rfl) (Nat.le_of_ble_eq_true rfl) (pv hf)
set_option maxHeartbeats 4000000 in
theorem cX11_meanSpeed_ok {l : Launch} {B : Nat} {D : va_G} {cT : Nat → ClassId} {n : Nat} {adK adV : Nat → Nat} {o0 : Nat} {μ : Mem} {res : UInt64} (h0 : isK n o0 8) (hf : fX11_meanSpeed o0 μ = some res) : MD l yX11_meanSpeed cX11_meanSpeed 2 (some .double) rmX11_meanSpeed B D cT (XW B adK adV) n [.ref (B + o0)] μ (res, μ) := by
  refine tt_ofW mtX11_meanSpeed.1 (Nat.le_of_ble_eq_true rfl) rfl ?_
  intro p e s m below meth c E0 hr hlk
  have E : EE p s m _ c cX11_meanSpeed 2 RX11 B D cT (XW B adK adV) := E0
  unfold fX11_meanSpeed at hf
  refine tt_aload_n (pc := 0) (i := 0) (j := 0) E dX11_meanSpeed_0 rfl rfl ?_
  obtain ⟨q_1, hq_2, hf⟩ := bd_some hf
  refine tt_getP (pc := 1) (t := 1) E lfX11_26 rfl rfl h0 dX11_meanSpeed_1 hq_2 (fun kq_3 => ?_)
  obtain ⟨r_4, hr_5, hf⟩ := bd_some hf
  have hc_6 := cX2_living_ok (l := l) (B := B) (D := D) (cT := cT) (n := n) (adK := adK) (adV := adV) kq_3 hr_5
  refine tt_cI (pc := 4) (tt_vi E lmX11_129 mtX2_living hc_6 kq_3 rfl rfl (Nat.le_of_ble_eq_true rfl) ⟨(Nat.le_of_ble_eq_true rfl), (Nat.le_of_ble_eq_true rfl)⟩ ⟨(Nat.le_of_ble_eq_true rfl), (Nat.le_of_ble_eq_true rfl)⟩ dX11_meanSpeed_4) ?_
  refine tt_istore_n (pc := 7) (i := 1) (lv' := [(1, .int r_4), (0, .ref (B + o0))]) E dX11_meanSpeed_7 rfl (Nat.le_of_ble_eq_true rfl) rfl ?_
  refine tt_iload_n (pc := 8) (i := 1) (j := 0) E dX11_meanSpeed_8 rfl rfl ?_
  refine tt_if_le (pc := 9) (tgt := 26) E dX11_meanSpeed_9 rfl (fun c_14 => ?_) (fun c_14 => ?_)
  · have hf := ip c_14 hf
    refine tt_dconst0 (pc := 26) E dX11_meanSpeed_26 ?_
    exact tt_dret (pc := 27) E hr hlk dX11_meanSpeed_27 (Nat.le_of_ble_eq_true rfl) (Nat.le_of_ble_eq_true rfl) (pv hf)
  · have hf := ine c_14 hf
    refine tt_aload_n (pc := 12) (i := 0) (j := 1) E dX11_meanSpeed_12 rfl rfl ?_
    obtain ⟨q_7, hq_8, hf⟩ := bd_some hf
    refine tt_getP (pc := 13) (t := 1) E lfX11_26 rfl rfl h0 dX11_meanSpeed_13 hq_8 (fun kq_9 => ?_)
    obtain ⟨r_10, hr_11, hf⟩ := bd_some hf
    have hc_12 := cX2_speedOfLiving_ok (l := l) (B := B) (D := D) (cT := cT) (n := n) (adK := adK) (adV := adV) kq_9 hr_11
    refine tt_cI (pc := 16) (tt_vi E lmX11_219 mtX2_speedOfLiving hc_12 kq_9 rfl rfl (Nat.le_of_ble_eq_true rfl) ⟨(Nat.le_of_ble_eq_true rfl), (Nat.le_of_ble_eq_true rfl)⟩ ⟨(Nat.le_of_ble_eq_true rfl), (Nat.le_of_ble_eq_true rfl)⟩ dX11_meanSpeed_16) ?_
    refine tt_i2d (pc := 19) E dX11_meanSpeed_19 ?_
    refine tt_iload_n (pc := 20) (i := 1) (j := 0) E dX11_meanSpeed_20 rfl rfl ?_
    refine tt_i2d (pc := 21) E dX11_meanSpeed_21 ?_
    obtain ⟨g_13, hf⟩ := gd_some hf
    refine tt_ddiv (pc := 22) E dX11_meanSpeed_22 (nn64_ok g_13) ?_
    refine tt_goto (pc := 23) (tgt := 27) E dX11_meanSpeed_23 rfl ?_
    exact tt_dret (pc := 27) E hr hlk dX11_meanSpeed_27 (Nat.le_of_ble_eq_true rfl) (Nat.le_of_ble_eq_true rfl) (pv hf)
set_option maxHeartbeats 4000000 in
theorem cX11_share_ok {l : Launch} {B : Nat} {D : va_G} {cT : Nat → ClassId} {n : Nat} {adK adV : Nat → Nat} {o0 : Nat} {μ : Mem} {res : UInt32} (h0 : isK n o0 8) (hf : fX11_share o0 μ = some res) : MF l yX11_share cX11_share 3 (some .float) rmX11_share B D cT (XW B adK adV) n [.ref (B + o0)] μ (res, μ) := by
  refine tt_ofW mtX11_share.1 (Nat.le_of_ble_eq_true rfl) rfl ?_
  intro p e s m below meth c E0 hr hlk
  have E : EE p s m _ c cX11_share 3 RX11 B D cT (XW B adK adV) := E0
  unfold fX11_share at hf
  refine tt_aload_n (pc := 0) (i := 0) (j := 0) E dX11_share_0 rfl rfl ?_
  obtain ⟨q_1, hq_2, hf⟩ := bd_some hf
  refine tt_getP (pc := 1) (t := 1) E lfX11_26 rfl rfl h0 dX11_share_1 hq_2 (fun kq_3 => ?_)
  refine tt_iconst (pc := 4) (v := 0) E dX11_share_4 ic_0 ?_
  obtain ⟨r_4, hr_5, hf⟩ := bd_some hf
  have hc_6 := cX2_sideLife_ok (l := l) (B := B) (D := D) (cT := cT) (n := n) (adK := adK) (adV := adV) kq_3 hr_5
  refine tt_cI (pc := 5) (tt_vi E lmX11_133 mtX2_sideLife hc_6 kq_3 rfl rfl (Nat.le_of_ble_eq_true rfl) ⟨(Nat.le_of_ble_eq_true rfl), (Nat.le_of_ble_eq_true rfl)⟩ ⟨(Nat.le_of_ble_eq_true rfl), (Nat.le_of_ble_eq_true rfl)⟩ dX11_share_5) ?_
  refine tt_istore_n (pc := 8) (i := 1) (lv' := [(1, .int r_4), (0, .ref (B + o0))]) E dX11_share_8 rfl (Nat.le_of_ble_eq_true rfl) rfl ?_
  refine tt_iload_n (pc := 9) (i := 1) (j := 0) E dX11_share_9 rfl rfl ?_
  refine tt_aload_n (pc := 10) (i := 0) (j := 1) E dX11_share_10 rfl rfl ?_
  obtain ⟨q_7, hq_8, hf⟩ := bd_some hf
  refine tt_getP (pc := 11) (t := 1) E lfX11_26 rfl rfl h0 dX11_share_11 hq_8 (fun kq_9 => ?_)
  refine tt_iconst (pc := 14) (v := 1) E dX11_share_14 ic_1 ?_
  obtain ⟨r_10, hr_11, hf⟩ := bd_some hf
  have hc_12 := cX2_sideLife_ok (l := l) (B := B) (D := D) (cT := cT) (n := n) (adK := adK) (adV := adV) kq_9 hr_11
  refine tt_cI (pc := 15) (tt_vi E lmX11_133 mtX2_sideLife hc_12 kq_9 rfl rfl (Nat.le_of_ble_eq_true rfl) ⟨(Nat.le_of_ble_eq_true rfl), (Nat.le_of_ble_eq_true rfl)⟩ ⟨(Nat.le_of_ble_eq_true rfl), (Nat.le_of_ble_eq_true rfl)⟩ dX11_share_15) ?_
  refine tt_iadd (pc := 18) E dX11_share_18 ?_
  refine tt_nmI hf (fun v_13 hf => ?_)
  refine tt_istore_n (pc := 19) (i := 2) (lv' := [(2, .int v_13), (1, .int r_4), (0, .ref (B + o0))]) E dX11_share_19 rfl (Nat.le_of_ble_eq_true rfl) rfl ?_
  refine tt_iload_n (pc := 20) (i := 2) (j := 0) E dX11_share_20 rfl rfl ?_
  refine tt_if_le (pc := 21) (tgt := 32) E dX11_share_21 rfl (fun c_15 => ?_) (fun c_15 => ?_)
  · have hf := ip c_15 hf
    refine tt_fconst0 (pc := 32) E dX11_share_32 ?_
    exact tt_fret (pc := 33) E hr hlk dX11_share_33 (Nat.le_of_ble_eq_true rfl) (Nat.le_of_ble_eq_true rfl) (pv hf)
  · have hf := ine c_15 hf
    refine tt_iload_n (pc := 24) (i := 1) (j := 1) E dX11_share_24 rfl rfl ?_
    refine tt_i2f (pc := 25) E dX11_share_25 ?_
    refine tt_iload_n (pc := 26) (i := 2) (j := 0) E dX11_share_26 rfl rfl ?_
    refine tt_i2f (pc := 27) E dX11_share_27 ?_
    obtain ⟨g_14, hf⟩ := gd_some hf
    refine tt_fdiv (pc := 28) E dX11_share_28 (nn32_ok g_14) ?_
    refine tt_goto (pc := 29) (tgt := 33) E dX11_share_29 rfl ?_
    exact tt_fret (pc := 33) E hr hlk dX11_share_33 (Nat.le_of_ble_eq_true rfl) (Nat.le_of_ble_eq_true rfl) (pv hf)
set_option maxHeartbeats 4000000 in
theorem tX11_turn_14 {p : Program} {l : Launch} {e : Env} {s : State} {m : MethodId} {args : Array Value} {below : List Frame} {meth : Method} {c : Code} {B : Nat} {D : va_G} {cT : Nat → ClassId} {n : Nat} {adK adV : Nat → Nat} {res : (Int32 ⊕ Nat) × Mem} (E : EE p s m args c cX11_turn 2 RX11 B D cT (XW B adK adV)) (hr : meth.sig.returnType = some .int) (hlk : meth.locks = false) (hl0 : l.stackTraces = false) (hno : ∀ x ∈ c.exceptionTable.toList, False) {o0 : Nat} {v1 : Int32} (h0 : isK n o0 8) {μ : Mem} (hf : fX11_turn_14 o0 v1 μ = some res) : TT p l e rmX11_turn s m args below meth c (XQI B D cT n below args s res) 2 B D cT n 0 0 μ 14 [(0, .ref (B + o0)), (1, .int v1)] [] := by
  unfold fX11_turn_14 at hf
  refine tt_iconst (pc := 14) (v := 0) E dX11_turn_14 ic_0 ?_
  obtain ⟨r_1, hr_2, hf⟩ := bd_some hf
  have hc_3 := cX11_demand_ok (l := l) (B := B) (D := D) (cT := cT) (n := n) (adK := adK) (adV := adV) hl0 ((Or.inl rfl)) hr_2
  refine tx_cV (pc := 15) (tx_si E lmX11_80 mtX11_demand hc_3 rfl rfl (Nat.le_of_ble_eq_true rfl) ⟨(Nat.le_of_ble_eq_true rfl), (Nat.le_of_ble_eq_true rfl)⟩ ⟨(Nat.le_of_ble_eq_true rfl), (Nat.le_of_ble_eq_true rfl)⟩ dX11_turn_15) (fun k_4 m_5 hx_6 => ?_) (fun m_5 hx_6 => ?_)
  · subst hx_6; exact tx_out hno hlk (Nat.le_of_ble_eq_true rfl) (Nat.le_of_ble_eq_true rfl) hf
  subst hx_6
  have hf := xb_l hf
  refine tt_aload_n (pc := 18) (i := 0) (j := 0) E dX11_turn_18 rfl rfl ?_
  obtain ⟨q_8, hq_9, hf⟩ := bd_some hf
  refine tt_getP (pc := 19) (t := 3) E lfX11_39 rfl rfl h0 dX11_turn_19 hq_9 (fun kq_10 => ?_)
  refine tt_aload_n (pc := 22) (i := 0) (j := 0) E dX11_turn_22 rfl rfl ?_
  obtain ⟨q_11, hq_12, hf⟩ := bd_some hf
  refine tt_getP (pc := 23) (t := 1) E lfX11_26 rfl rfl h0 dX11_turn_23 hq_12 (fun kq_13 => ?_)
  refine tt_iload_n (pc := 26) (i := 1) (j := 1) E dX11_turn_26 rfl rfl ?_
  obtain ⟨r_14, hr_15, hf⟩ := bd_some hf
  have hc_16 := cX4_actorOf_ok (l := l) (B := B) (D := D) (cT := cT) (n := n) (adK := adK) (adV := adV) kq_10 kq_13 hr_15
  refine tt_cP (pc := 27) (tt_vi E lmX11_222 mtX4_actorOf hc_16 kq_10 rfl rfl (Nat.le_of_ble_eq_true rfl) ⟨(Nat.le_of_ble_eq_true rfl), (Nat.le_of_ble_eq_true rfl)⟩ ⟨(Nat.le_of_ble_eq_true rfl), (Nat.le_of_ble_eq_true rfl)⟩ dX11_turn_27) (fun kq_17 => ?_)
  refine tt_getI (pc := 30) E lfX11_216 rfl kq_17 dX11_turn_30 ?_
  exact tx_iret (pc := 33) E hr hlk dX11_turn_33 hf
set_option maxHeartbeats 4000000 in
theorem cX11_turn_ok {l : Launch} {B : Nat} {D : va_G} {cT : Nat → ClassId} {n : Nat} {adK adV : Nat → Nat} {o0 : Nat} {v1 : Int32} (hl0 : l.stackTraces = false) {μ : Mem} {res : (Int32 ⊕ Nat) × Mem} (h0 : isK n o0 8) (hf : fX11_turn o0 v1 μ = some res) : XI l yX11_turn cX11_turn 2 (some .int) rmX11_turn B D cT (XW B adK adV) n [.ref (B + o0), .int v1] μ res := by
  refine tx_ofW mtX11_turn.1 (Nat.le_of_ble_eq_true rfl) rfl ?_
  intro p e s m below meth c E0 hr hlk hno
  have E : EE p s m _ c cX11_turn 2 RX11 B D cT (XW B adK adV) := E0
  unfold fX11_turn at hf
  refine tt_iload_n (pc := 0) (i := 1) (j := 1) E dX11_turn_0 rfl rfl ?_
  refine tt_if_lt (pc := 1) (tgt := 14) E dX11_turn_1 rfl (fun c_19 => ?_) (fun c_19 => ?_)
  · have hf := ip c_19 hf
    exact tX11_turn_14 E hr hlk hl0 hno h0 hf
  · have hf := ine c_19 hf
    refine tt_iload_n (pc := 4) (i := 1) (j := 1) E dX11_turn_4 rfl rfl ?_
    refine tt_bipush (pc := 5) (v := 99) E dX11_turn_5 bc_99 ?_
    refine tt_icmp_gt (pc := 7) (tgt := 14) E dX11_turn_7 rfl (fun c_18 => ?_) (fun c_18 => ?_)
    · have hf := ip c_18 hf
      exact tX11_turn_14 E hr hlk hl0 hno h0 hf
    · have hf := ine c_18 hf
      refine tt_iconst (pc := 10) (v := 1) E dX11_turn_10 ic_1 ?_
      refine tt_goto (pc := 11) (tgt := 15) E dX11_turn_11 rfl ?_
      obtain ⟨r_1, hr_2, hf⟩ := bd_some hf
      have hc_3 := cX11_demand_ok (l := l) (B := B) (D := D) (cT := cT) (n := n) (adK := adK) (adV := adV) hl0 ((Or.inr rfl)) hr_2
      refine tx_cV (pc := 15) (tx_si E lmX11_80 mtX11_demand hc_3 rfl rfl (Nat.le_of_ble_eq_true rfl) ⟨(Nat.le_of_ble_eq_true rfl), (Nat.le_of_ble_eq_true rfl)⟩ ⟨(Nat.le_of_ble_eq_true rfl), (Nat.le_of_ble_eq_true rfl)⟩ dX11_turn_15) (fun k_4 m_5 hx_6 => ?_) (fun m_5 hx_6 => ?_)
      · subst hx_6; exact tx_out hno hlk (Nat.le_of_ble_eq_true rfl) (Nat.le_of_ble_eq_true rfl) hf
      subst hx_6
      have hf := xb_l hf
      refine tt_aload_n (pc := 18) (i := 0) (j := 0) E dX11_turn_18 rfl rfl ?_
      obtain ⟨q_8, hq_9, hf⟩ := bd_some hf
      refine tt_getP (pc := 19) (t := 3) E lfX11_39 rfl rfl h0 dX11_turn_19 hq_9 (fun kq_10 => ?_)
      refine tt_aload_n (pc := 22) (i := 0) (j := 0) E dX11_turn_22 rfl rfl ?_
      obtain ⟨q_11, hq_12, hf⟩ := bd_some hf
      refine tt_getP (pc := 23) (t := 1) E lfX11_26 rfl rfl h0 dX11_turn_23 hq_12 (fun kq_13 => ?_)
      refine tt_iload_n (pc := 26) (i := 1) (j := 1) E dX11_turn_26 rfl rfl ?_
      obtain ⟨r_14, hr_15, hf⟩ := bd_some hf
      have hc_16 := cX4_actorOf_ok (l := l) (B := B) (D := D) (cT := cT) (n := n) (adK := adK) (adV := adV) kq_10 kq_13 hr_15
      refine tt_cP (pc := 27) (tt_vi E lmX11_222 mtX4_actorOf hc_16 kq_10 rfl rfl (Nat.le_of_ble_eq_true rfl) ⟨(Nat.le_of_ble_eq_true rfl), (Nat.le_of_ble_eq_true rfl)⟩ ⟨(Nat.le_of_ble_eq_true rfl), (Nat.le_of_ble_eq_true rfl)⟩ dX11_turn_27) (fun kq_17 => ?_)
      refine tt_getI (pc := 30) E lfX11_216 rfl kq_17 dX11_turn_30 ?_
      exact tx_iret (pc := 33) E hr hlk dX11_turn_33 hf
set_option maxHeartbeats 4000000 in
theorem cX11_turnTime_ok {l : Launch} {B : Nat} {D : va_G} {cT : Nat → ClassId} {n : Nat} {adK adV : Nat → Nat} {o0 : Nat} {v1 : Int32} (hl0 : l.stackTraces = false) {μ : Mem} {res : (Int32 ⊕ Nat) × Mem} (h0 : isK n o0 8) (hf : fX11_turnTime o0 v1 μ = some res) : XI l yX11_turnTime cX11_turnTime 2 (some .int) rmX11_turnTime B D cT (XW B adK adV) n [.ref (B + o0), .int v1] μ res := by
  refine tx_ofW mtX11_turnTime.1 (Nat.le_of_ble_eq_true rfl) rfl ?_
  intro p e s m below meth c E0 hr hlk hno
  have E : EE p s m _ c cX11_turnTime 2 RX11 B D cT (XW B adK adV) := E0
  unfold fX11_turnTime at hf
  refine tt_iload_n (pc := 0) (i := 1) (j := 1) E dX11_turnTime_0 rfl rfl ?_
  refine tt_if_lt (pc := 1) (tgt := 14) E dX11_turnTime_1 rfl (fun c_50 => ?_) (fun c_50 => ?_)
  · have hf := ip c_50 hf
    refine tt_iconst (pc := 14) (v := 0) E dX11_turnTime_14 ic_0 ?_
    obtain ⟨r_1, hr_2, hf⟩ := bd_some hf
    have hc_3 := cX11_demand_ok (l := l) (B := B) (D := D) (cT := cT) (n := n) (adK := adK) (adV := adV) hl0 ((Or.inl rfl)) hr_2
    refine tx_cV (pc := 15) (tx_si E lmX11_80 mtX11_demand hc_3 rfl rfl (Nat.le_of_ble_eq_true rfl) ⟨(Nat.le_of_ble_eq_true rfl), (Nat.le_of_ble_eq_true rfl)⟩ ⟨(Nat.le_of_ble_eq_true rfl), (Nat.le_of_ble_eq_true rfl)⟩ dX11_turnTime_15) (fun k_4 m_5 hx_6 => ?_) (fun m_5 hx_6 => ?_)
    · subst hx_6; exact tx_out hno hlk (Nat.le_of_ble_eq_true rfl) (Nat.le_of_ble_eq_true rfl) hf
    subst hx_6
    have hf := xb_l hf
    refine tt_aload_n (pc := 18) (i := 0) (j := 0) E dX11_turnTime_18 rfl rfl ?_
    obtain ⟨q_8, hq_9, hf⟩ := bd_some hf
    refine tt_getP (pc := 19) (t := 3) E lfX11_39 rfl rfl h0 dX11_turnTime_19 hq_9 (fun kq_10 => ?_)
    refine tt_aload_n (pc := 22) (i := 0) (j := 0) E dX11_turnTime_22 rfl rfl ?_
    obtain ⟨q_11, hq_12, hf⟩ := bd_some hf
    refine tt_getP (pc := 23) (t := 1) E lfX11_26 rfl rfl h0 dX11_turnTime_23 hq_12 (fun kq_13 => ?_)
    refine tt_iload_n (pc := 26) (i := 1) (j := 1) E dX11_turnTime_26 rfl rfl ?_
    obtain ⟨r_14, hr_15, hf⟩ := bd_some hf
    have hc_16 := cX4_timeOf_ok (l := l) (B := B) (D := D) (cT := cT) (n := n) (adK := adK) (adV := adV) kq_10 kq_13 hr_15
    refine tt_cI (pc := 27) (tt_vi E lmX11_226 mtX4_timeOf hc_16 kq_10 rfl rfl (Nat.le_of_ble_eq_true rfl) ⟨(Nat.le_of_ble_eq_true rfl), (Nat.le_of_ble_eq_true rfl)⟩ ⟨(Nat.le_of_ble_eq_true rfl), (Nat.le_of_ble_eq_true rfl)⟩ dX11_turnTime_27) ?_
    exact tx_iret (pc := 30) E hr hlk dX11_turnTime_30 hf
  · have hf := ine c_50 hf
    refine tt_iload_n (pc := 4) (i := 1) (j := 1) E dX11_turnTime_4 rfl rfl ?_
    refine tt_bipush (pc := 5) (v := 99) E dX11_turnTime_5 bc_99 ?_
    refine tt_icmp_gt (pc := 7) (tgt := 14) E dX11_turnTime_7 rfl (fun c_49 => ?_) (fun c_49 => ?_)
    · have hf := ip c_49 hf
      refine tt_iconst (pc := 14) (v := 0) E dX11_turnTime_14 ic_0 ?_
      obtain ⟨r_17, hr_18, hf⟩ := bd_some hf
      have hc_19 := cX11_demand_ok (l := l) (B := B) (D := D) (cT := cT) (n := n) (adK := adK) (adV := adV) hl0 ((Or.inl rfl)) hr_18
      refine tx_cV (pc := 15) (tx_si E lmX11_80 mtX11_demand hc_19 rfl rfl (Nat.le_of_ble_eq_true rfl) ⟨(Nat.le_of_ble_eq_true rfl), (Nat.le_of_ble_eq_true rfl)⟩ ⟨(Nat.le_of_ble_eq_true rfl), (Nat.le_of_ble_eq_true rfl)⟩ dX11_turnTime_15) (fun k_20 m_21 hx_22 => ?_) (fun m_21 hx_22 => ?_)
      · subst hx_22; exact tx_out hno hlk (Nat.le_of_ble_eq_true rfl) (Nat.le_of_ble_eq_true rfl) hf
      subst hx_22
      have hf := xb_l hf
      refine tt_aload_n (pc := 18) (i := 0) (j := 0) E dX11_turnTime_18 rfl rfl ?_
      obtain ⟨q_24, hq_25, hf⟩ := bd_some hf
      refine tt_getP (pc := 19) (t := 3) E lfX11_39 rfl rfl h0 dX11_turnTime_19 hq_25 (fun kq_26 => ?_)
      refine tt_aload_n (pc := 22) (i := 0) (j := 0) E dX11_turnTime_22 rfl rfl ?_
      obtain ⟨q_27, hq_28, hf⟩ := bd_some hf
      refine tt_getP (pc := 23) (t := 1) E lfX11_26 rfl rfl h0 dX11_turnTime_23 hq_28 (fun kq_29 => ?_)
      refine tt_iload_n (pc := 26) (i := 1) (j := 1) E dX11_turnTime_26 rfl rfl ?_
      obtain ⟨r_30, hr_31, hf⟩ := bd_some hf
      have hc_32 := cX4_timeOf_ok (l := l) (B := B) (D := D) (cT := cT) (n := n) (adK := adK) (adV := adV) kq_26 kq_29 hr_31
      refine tt_cI (pc := 27) (tt_vi E lmX11_226 mtX4_timeOf hc_32 kq_26 rfl rfl (Nat.le_of_ble_eq_true rfl) ⟨(Nat.le_of_ble_eq_true rfl), (Nat.le_of_ble_eq_true rfl)⟩ ⟨(Nat.le_of_ble_eq_true rfl), (Nat.le_of_ble_eq_true rfl)⟩ dX11_turnTime_27) ?_
      exact tx_iret (pc := 30) E hr hlk dX11_turnTime_30 hf
    · have hf := ine c_49 hf
      refine tt_iconst (pc := 10) (v := 1) E dX11_turnTime_10 ic_1 ?_
      refine tt_goto (pc := 11) (tgt := 15) E dX11_turnTime_11 rfl ?_
      obtain ⟨r_33, hr_34, hf⟩ := bd_some hf
      have hc_35 := cX11_demand_ok (l := l) (B := B) (D := D) (cT := cT) (n := n) (adK := adK) (adV := adV) hl0 ((Or.inr rfl)) hr_34
      refine tx_cV (pc := 15) (tx_si E lmX11_80 mtX11_demand hc_35 rfl rfl (Nat.le_of_ble_eq_true rfl) ⟨(Nat.le_of_ble_eq_true rfl), (Nat.le_of_ble_eq_true rfl)⟩ ⟨(Nat.le_of_ble_eq_true rfl), (Nat.le_of_ble_eq_true rfl)⟩ dX11_turnTime_15) (fun k_36 m_37 hx_38 => ?_) (fun m_37 hx_38 => ?_)
      · subst hx_38; exact tx_out hno hlk (Nat.le_of_ble_eq_true rfl) (Nat.le_of_ble_eq_true rfl) hf
      subst hx_38
      have hf := xb_l hf
      refine tt_aload_n (pc := 18) (i := 0) (j := 0) E dX11_turnTime_18 rfl rfl ?_
      obtain ⟨q_40, hq_41, hf⟩ := bd_some hf
      refine tt_getP (pc := 19) (t := 3) E lfX11_39 rfl rfl h0 dX11_turnTime_19 hq_41 (fun kq_42 => ?_)
      refine tt_aload_n (pc := 22) (i := 0) (j := 0) E dX11_turnTime_22 rfl rfl ?_
      obtain ⟨q_43, hq_44, hf⟩ := bd_some hf
      refine tt_getP (pc := 23) (t := 1) E lfX11_26 rfl rfl h0 dX11_turnTime_23 hq_44 (fun kq_45 => ?_)
      refine tt_iload_n (pc := 26) (i := 1) (j := 1) E dX11_turnTime_26 rfl rfl ?_
      obtain ⟨r_46, hr_47, hf⟩ := bd_some hf
      have hc_48 := cX4_timeOf_ok (l := l) (B := B) (D := D) (cT := cT) (n := n) (adK := adK) (adV := adV) kq_42 kq_45 hr_47
      refine tt_cI (pc := 27) (tt_vi E lmX11_226 mtX4_timeOf hc_48 kq_42 rfl rfl (Nat.le_of_ble_eq_true rfl) ⟨(Nat.le_of_ble_eq_true rfl), (Nat.le_of_ble_eq_true rfl)⟩ ⟨(Nat.le_of_ble_eq_true rfl), (Nat.le_of_ble_eq_true rfl)⟩ dX11_turnTime_27) ?_
      exact tx_iret (pc := 30) E hr hlk dX11_turnTime_30 hf
set_option maxHeartbeats 4000000 in
theorem cX11_turnKind_ok {l : Launch} {B : Nat} {D : va_G} {cT : Nat → ClassId} {n : Nat} {adK adV : Nat → Nat} {o0 : Nat} {v1 : Int32} (hl0 : l.stackTraces = false) {μ : Mem} {res : (Int32 ⊕ Nat) × Mem} (h0 : isK n o0 8) (hf : fX11_turnKind o0 v1 μ = some res) : XI l yX11_turnKind cX11_turnKind 2 (some .int) rmX11_turnKind B D cT (XW B adK adV) n [.ref (B + o0), .int v1] μ res := by
  refine tx_ofW mtX11_turnKind.1 (Nat.le_of_ble_eq_true rfl) rfl ?_
  intro p e s m below meth c E0 hr hlk hno
  have E : EE p s m _ c cX11_turnKind 2 RX11 B D cT (XW B adK adV) := E0
  unfold fX11_turnKind at hf
  refine tt_iload_n (pc := 0) (i := 1) (j := 1) E dX11_turnKind_0 rfl rfl ?_
  refine tt_if_lt (pc := 1) (tgt := 14) E dX11_turnKind_1 rfl (fun c_50 => ?_) (fun c_50 => ?_)
  · have hf := ip c_50 hf
    refine tt_iconst (pc := 14) (v := 0) E dX11_turnKind_14 ic_0 ?_
    obtain ⟨r_1, hr_2, hf⟩ := bd_some hf
    have hc_3 := cX11_demand_ok (l := l) (B := B) (D := D) (cT := cT) (n := n) (adK := adK) (adV := adV) hl0 ((Or.inl rfl)) hr_2
    refine tx_cV (pc := 15) (tx_si E lmX11_80 mtX11_demand hc_3 rfl rfl (Nat.le_of_ble_eq_true rfl) ⟨(Nat.le_of_ble_eq_true rfl), (Nat.le_of_ble_eq_true rfl)⟩ ⟨(Nat.le_of_ble_eq_true rfl), (Nat.le_of_ble_eq_true rfl)⟩ dX11_turnKind_15) (fun k_4 m_5 hx_6 => ?_) (fun m_5 hx_6 => ?_)
    · subst hx_6; exact tx_out hno hlk (Nat.le_of_ble_eq_true rfl) (Nat.le_of_ble_eq_true rfl) hf
    subst hx_6
    have hf := xb_l hf
    refine tt_aload_n (pc := 18) (i := 0) (j := 0) E dX11_turnKind_18 rfl rfl ?_
    obtain ⟨q_8, hq_9, hf⟩ := bd_some hf
    refine tt_getP (pc := 19) (t := 3) E lfX11_39 rfl rfl h0 dX11_turnKind_19 hq_9 (fun kq_10 => ?_)
    refine tt_aload_n (pc := 22) (i := 0) (j := 0) E dX11_turnKind_22 rfl rfl ?_
    obtain ⟨q_11, hq_12, hf⟩ := bd_some hf
    refine tt_getP (pc := 23) (t := 1) E lfX11_26 rfl rfl h0 dX11_turnKind_23 hq_12 (fun kq_13 => ?_)
    refine tt_iload_n (pc := 26) (i := 1) (j := 1) E dX11_turnKind_26 rfl rfl ?_
    obtain ⟨r_14, hr_15, hf⟩ := bd_some hf
    have hc_16 := cX4_kindOf_ok (l := l) (B := B) (D := D) (cT := cT) (n := n) (adK := adK) (adV := adV) kq_10 kq_13 hr_15
    refine tt_cI (pc := 27) (tt_vi E lmX11_230 mtX4_kindOf hc_16 kq_10 rfl rfl (Nat.le_of_ble_eq_true rfl) ⟨(Nat.le_of_ble_eq_true rfl), (Nat.le_of_ble_eq_true rfl)⟩ ⟨(Nat.le_of_ble_eq_true rfl), (Nat.le_of_ble_eq_true rfl)⟩ dX11_turnKind_27) ?_
    exact tx_iret (pc := 30) E hr hlk dX11_turnKind_30 hf
  · have hf := ine c_50 hf
    refine tt_iload_n (pc := 4) (i := 1) (j := 1) E dX11_turnKind_4 rfl rfl ?_
    refine tt_bipush (pc := 5) (v := 99) E dX11_turnKind_5 bc_99 ?_
    refine tt_icmp_gt (pc := 7) (tgt := 14) E dX11_turnKind_7 rfl (fun c_49 => ?_) (fun c_49 => ?_)
    · have hf := ip c_49 hf
      refine tt_iconst (pc := 14) (v := 0) E dX11_turnKind_14 ic_0 ?_
      obtain ⟨r_17, hr_18, hf⟩ := bd_some hf
      have hc_19 := cX11_demand_ok (l := l) (B := B) (D := D) (cT := cT) (n := n) (adK := adK) (adV := adV) hl0 ((Or.inl rfl)) hr_18
      refine tx_cV (pc := 15) (tx_si E lmX11_80 mtX11_demand hc_19 rfl rfl (Nat.le_of_ble_eq_true rfl) ⟨(Nat.le_of_ble_eq_true rfl), (Nat.le_of_ble_eq_true rfl)⟩ ⟨(Nat.le_of_ble_eq_true rfl), (Nat.le_of_ble_eq_true rfl)⟩ dX11_turnKind_15) (fun k_20 m_21 hx_22 => ?_) (fun m_21 hx_22 => ?_)
      · subst hx_22; exact tx_out hno hlk (Nat.le_of_ble_eq_true rfl) (Nat.le_of_ble_eq_true rfl) hf
      subst hx_22
      have hf := xb_l hf
      refine tt_aload_n (pc := 18) (i := 0) (j := 0) E dX11_turnKind_18 rfl rfl ?_
      obtain ⟨q_24, hq_25, hf⟩ := bd_some hf
      refine tt_getP (pc := 19) (t := 3) E lfX11_39 rfl rfl h0 dX11_turnKind_19 hq_25 (fun kq_26 => ?_)
      refine tt_aload_n (pc := 22) (i := 0) (j := 0) E dX11_turnKind_22 rfl rfl ?_
      obtain ⟨q_27, hq_28, hf⟩ := bd_some hf
      refine tt_getP (pc := 23) (t := 1) E lfX11_26 rfl rfl h0 dX11_turnKind_23 hq_28 (fun kq_29 => ?_)
      refine tt_iload_n (pc := 26) (i := 1) (j := 1) E dX11_turnKind_26 rfl rfl ?_
      obtain ⟨r_30, hr_31, hf⟩ := bd_some hf
      have hc_32 := cX4_kindOf_ok (l := l) (B := B) (D := D) (cT := cT) (n := n) (adK := adK) (adV := adV) kq_26 kq_29 hr_31
      refine tt_cI (pc := 27) (tt_vi E lmX11_230 mtX4_kindOf hc_32 kq_26 rfl rfl (Nat.le_of_ble_eq_true rfl) ⟨(Nat.le_of_ble_eq_true rfl), (Nat.le_of_ble_eq_true rfl)⟩ ⟨(Nat.le_of_ble_eq_true rfl), (Nat.le_of_ble_eq_true rfl)⟩ dX11_turnKind_27) ?_
      exact tx_iret (pc := 30) E hr hlk dX11_turnKind_30 hf
    · have hf := ine c_49 hf
      refine tt_iconst (pc := 10) (v := 1) E dX11_turnKind_10 ic_1 ?_
      refine tt_goto (pc := 11) (tgt := 15) E dX11_turnKind_11 rfl ?_
      obtain ⟨r_33, hr_34, hf⟩ := bd_some hf
      have hc_35 := cX11_demand_ok (l := l) (B := B) (D := D) (cT := cT) (n := n) (adK := adK) (adV := adV) hl0 ((Or.inr rfl)) hr_34
      refine tx_cV (pc := 15) (tx_si E lmX11_80 mtX11_demand hc_35 rfl rfl (Nat.le_of_ble_eq_true rfl) ⟨(Nat.le_of_ble_eq_true rfl), (Nat.le_of_ble_eq_true rfl)⟩ ⟨(Nat.le_of_ble_eq_true rfl), (Nat.le_of_ble_eq_true rfl)⟩ dX11_turnKind_15) (fun k_36 m_37 hx_38 => ?_) (fun m_37 hx_38 => ?_)
      · subst hx_38; exact tx_out hno hlk (Nat.le_of_ble_eq_true rfl) (Nat.le_of_ble_eq_true rfl) hf
      subst hx_38
      have hf := xb_l hf
      refine tt_aload_n (pc := 18) (i := 0) (j := 0) E dX11_turnKind_18 rfl rfl ?_
      obtain ⟨q_40, hq_41, hf⟩ := bd_some hf
      refine tt_getP (pc := 19) (t := 3) E lfX11_39 rfl rfl h0 dX11_turnKind_19 hq_41 (fun kq_42 => ?_)
      refine tt_aload_n (pc := 22) (i := 0) (j := 0) E dX11_turnKind_22 rfl rfl ?_
      obtain ⟨q_43, hq_44, hf⟩ := bd_some hf
      refine tt_getP (pc := 23) (t := 1) E lfX11_26 rfl rfl h0 dX11_turnKind_23 hq_44 (fun kq_45 => ?_)
      refine tt_iload_n (pc := 26) (i := 1) (j := 1) E dX11_turnKind_26 rfl rfl ?_
      obtain ⟨r_46, hr_47, hf⟩ := bd_some hf
      have hc_48 := cX4_kindOf_ok (l := l) (B := B) (D := D) (cT := cT) (n := n) (adK := adK) (adV := adV) kq_42 kq_45 hr_47
      refine tt_cI (pc := 27) (tt_vi E lmX11_230 mtX4_kindOf hc_48 kq_42 rfl rfl (Nat.le_of_ble_eq_true rfl) ⟨(Nat.le_of_ble_eq_true rfl), (Nat.le_of_ble_eq_true rfl)⟩ ⟨(Nat.le_of_ble_eq_true rfl), (Nat.le_of_ble_eq_true rfl)⟩ dX11_turnKind_27) ?_
      exact tx_iret (pc := 30) E hr hlk dX11_turnKind_30 hf
set_option maxHeartbeats 4000000 in
theorem tX11_laterSelf_25 {p : Program} {l : Launch} {e : Env} {s : State} {m : MethodId} {args : Array Value} {below : List Frame} {meth : Method} {c : Code} {B : Nat} {D : va_G} {cT : Nat → ClassId} {n : Nat} {adK adV : Nat → Nat} {res : (Nat ⊕ Nat) × Mem} (E : EE p s m args c cX11_laterSelf 4 RX11 B D cT (XW B adK adV)) (hr : meth.sig.returnType = some (.object "TurnWheel$Fighter")) (hlk : meth.locks = false) (hl0 : l.stackTraces = false) (hno : ∀ x ∈ c.exceptionTable.toList, False) {o0 : Nat} {v2 : Int32} {v3 : Int32} {vt0 : Int32} (h0 : isK n o0 8) (ht0 : zb vt0) {μ : Mem} (hf : fX11_laterSelf_25 o0 v2 v3 vt0 μ = some res) : TT p l e rmX11_laterSelf s m args below meth c (XQP 2 B D cT n below args s res) 4 B D cT n 0 0 μ 25 [(0, .ref (B + o0)), (2, .int v2), (3, .int v3)] [.int vt0] := by
  unfold fX11_laterSelf_25 at hf
  obtain ⟨r_1, hr_2, hf⟩ := bd_some hf
  have hc_3 := cX11_demand_ok (l := l) (B := B) (D := D) (cT := cT) (n := n) (adK := adK) (adV := adV) hl0 ht0 hr_2
  refine tx_cV (pc := 25) (tx_si E lmX11_80 mtX11_demand hc_3 rfl rfl (Nat.le_of_ble_eq_true rfl) ⟨(Nat.le_of_ble_eq_true rfl), (Nat.le_of_ble_eq_true rfl)⟩ ⟨(Nat.le_of_ble_eq_true rfl), (Nat.le_of_ble_eq_true rfl)⟩ dX11_laterSelf_25) (fun k_4 m_5 hx_6 => ?_) (fun m_5 hx_6 => ?_)
  · subst hx_6; exact tx_out hno hlk (Nat.le_of_ble_eq_true rfl) (Nat.le_of_ble_eq_true rfl) hf
  subst hx_6
  have hf := xb_l hf
  refine tt_aload_n (pc := 28) (i := 0) (j := 0) E dX11_laterSelf_28 rfl rfl ?_
  obtain ⟨q_8, hq_9, hf⟩ := bd_some hf
  refine tt_getP (pc := 29) (t := 3) E lfX11_39 rfl rfl h0 dX11_laterSelf_29 hq_9 (fun kq_10 => ?_)
  refine tt_aload_n (pc := 32) (i := 0) (j := 0) E dX11_laterSelf_32 rfl rfl ?_
  obtain ⟨q_11, hq_12, hf⟩ := bd_some hf
  refine tt_getP (pc := 33) (t := 1) E lfX11_26 rfl rfl h0 dX11_laterSelf_33 hq_12 (fun kq_13 => ?_)
  refine tt_iload_n (pc := 36) (i := 2) (j := 1) E dX11_laterSelf_36 rfl rfl ?_
  obtain ⟨r_14, hr_15, hf⟩ := bd_some hf
  have hc_16 := cX4_afterTurns_ok (l := l) (B := B) (D := D) (cT := cT) (n := n) (adK := adK) (adV := adV) kq_10 kq_13 hr_15
  refine tt_cP (pc := 37) (tt_vi E lmX11_243 mtX4_afterTurns hc_16 kq_10 rfl rfl (Nat.le_of_ble_eq_true rfl) ⟨(Nat.le_of_ble_eq_true rfl), (Nat.le_of_ble_eq_true rfl)⟩ ⟨(Nat.le_of_ble_eq_true rfl), (Nat.le_of_ble_eq_true rfl)⟩ dX11_laterSelf_37) (fun kq_17 => ?_)
  refine tt_iload_n (pc := 40) (i := 3) (j := 2) E dX11_laterSelf_40 rfl rfl ?_
  obtain ⟨r_18, hr_19, hf⟩ := bd_some hf
  have hc_20 := cX2_at_ok (l := l) (B := B) (D := D) (cT := cT) (n := n) (adK := adK) (adV := adV) kq_17 hr_19
  refine tt_cP (pc := 41) (tt_vi E lmX11_342 mtX2_at hc_20 kq_17 rfl rfl (Nat.le_of_ble_eq_true rfl) ⟨(Nat.le_of_ble_eq_true rfl), (Nat.le_of_ble_eq_true rfl)⟩ ⟨(Nat.le_of_ble_eq_true rfl), (Nat.le_of_ble_eq_true rfl)⟩ dX11_laterSelf_41) (fun kq_21 => ?_)
  exact tx_aret (pc := 44) E kq_21 hr hlk dX11_laterSelf_44 hf
set_option maxHeartbeats 4000000 in
theorem tX11_laterSelf_24 {p : Program} {l : Launch} {e : Env} {s : State} {m : MethodId} {args : Array Value} {below : List Frame} {meth : Method} {c : Code} {B : Nat} {D : va_G} {cT : Nat → ClassId} {n : Nat} {adK adV : Nat → Nat} {res : (Nat ⊕ Nat) × Mem} (E : EE p s m args c cX11_laterSelf 4 RX11 B D cT (XW B adK adV)) (hr : meth.sig.returnType = some (.object "TurnWheel$Fighter")) (hlk : meth.locks = false) (hl0 : l.stackTraces = false) (hno : ∀ x ∈ c.exceptionTable.toList, False) {o0 : Nat} {v2 : Int32} {v3 : Int32} (h0 : isK n o0 8) {μ : Mem} (hf : fX11_laterSelf_24 o0 v2 v3 μ = some res) : TT p l e rmX11_laterSelf s m args below meth c (XQP 2 B D cT n below args s res) 4 B D cT n 0 0 μ 24 [(0, .ref (B + o0)), (2, .int v2), (3, .int v3)] [] := by
  unfold fX11_laterSelf_24 at hf
  refine tt_iconst (pc := 24) (v := 0) E dX11_laterSelf_24 ic_0 ?_
  exact tX11_laterSelf_25 E hr hlk hl0 hno h0 ((Or.inl rfl)) hf
set_option maxHeartbeats 4000000 in
theorem cX11_laterSelf_ok {l : Launch} {B : Nat} {D : va_G} {cT : Nat → ClassId} {n : Nat} {adK adV : Nat → Nat} {o0 : Nat} {v1 : Int32} {v2 : Int32} (hl0 : l.stackTraces = false) {μ : Mem} {res : (Nat ⊕ Nat) × Mem} (h0 : isK n o0 8) (hf : fX11_laterSelf o0 v1 v2 μ = some res) : XP 2 l yX11_laterSelf cX11_laterSelf 4 (some (.object "TurnWheel$Fighter")) rmX11_laterSelf B D cT (XW B adK adV) n [.ref (B + o0), .int v1, .int v2] μ res := by
  refine tx_ofW mtX11_laterSelf.1 (Nat.le_of_ble_eq_true rfl) rfl ?_
  intro p e s m below meth c E0 hr hlk hno
  have E : EE p s m _ c cX11_laterSelf 4 RX11 B D cT (XW B adK adV) := E0
  unfold fX11_laterSelf at hf
  refine tt_aload_n (pc := 0) (i := 0) (j := 0) E dX11_laterSelf_0 rfl rfl ?_
  refine tt_iload_n (pc := 1) (i := 1) (j := 1) E dX11_laterSelf_1 rfl rfl ?_
  obtain ⟨r_1, hr_2, hf⟩ := bd_some hf
  have hc_3 := cX11_known_ok (l := l) (B := B) (D := D) (cT := cT) (n := n) (adK := adK) (adV := adV) hl0 h0 hr_2
  refine tx_cP (pc := 2) (tx_vi E lmX11_152 mtX11_known hc_3 h0 rfl rfl (Nat.le_of_ble_eq_true rfl) ⟨(Nat.le_of_ble_eq_true rfl), (Nat.le_of_ble_eq_true rfl)⟩ ⟨(Nat.le_of_ble_eq_true rfl), (Nat.le_of_ble_eq_true rfl)⟩ dX11_laterSelf_2) (fun k_4 m_5 hx_6 => ?_) (fun v_7 m_5 hx_6 => ?_)
  · subst hx_6; exact tx_out hno hlk (Nat.le_of_ble_eq_true rfl) (Nat.le_of_ble_eq_true rfl) hf
  obtain ⟨hx_6, hx_6k⟩ := hx_6
  subst hx_6
  have hf := xb_l hf
  refine tt_getI (pc := 5) E lfX11_216 rfl hx_6k dX11_laterSelf_5 ?_
  refine tt_nmI hf (fun v_8 hf => ?_)
  refine tt_istore_n (pc := 8) (i := 3) (lv' := [(3, .int v_8), (0, .ref (B + o0)), (1, .int v1), (2, .int v2)]) E dX11_laterSelf_8 rfl (Nat.le_of_ble_eq_true rfl) rfl ?_
  refine tt_iload_n (pc := 9) (i := 2) (j := 3) E dX11_laterSelf_9 rfl rfl ?_
  refine tt_if_lt (pc := 10) (tgt := 24) E dX11_laterSelf_10 rfl (fun c_10 => ?_) (fun c_10 => ?_)
  · have hf := ip c_10 hf
    refine tt_sub [1, 3, 0] (lv' := [(0, .ref (B + o0)), (2, .int v2), (3, .int v_8)]) rfl ?_
    exact tX11_laterSelf_24 E hr hlk hl0 hno h0 hf
  · have hf := ine c_10 hf
    refine tt_iload_n (pc := 13) (i := 2) (j := 3) E dX11_laterSelf_13 rfl rfl ?_
    refine tt_sipush (pc := 14) (v := 200) E dX11_laterSelf_14 sc_200 ?_
    refine tt_icmp_gt (pc := 17) (tgt := 24) E dX11_laterSelf_17 rfl (fun c_9 => ?_) (fun c_9 => ?_)
    · have hf := ip c_9 hf
      refine tt_sub [1, 3, 0] (lv' := [(0, .ref (B + o0)), (2, .int v2), (3, .int v_8)]) rfl ?_
      exact tX11_laterSelf_24 E hr hlk hl0 hno h0 hf
    · have hf := ine c_9 hf
      refine tt_iconst (pc := 20) (v := 1) E dX11_laterSelf_20 ic_1 ?_
      refine tt_goto (pc := 21) (tgt := 25) E dX11_laterSelf_21 rfl ?_
      refine tt_sub [1, 3, 0] (lv' := [(0, .ref (B + o0)), (2, .int v2), (3, .int v_8)]) rfl ?_
      exact tX11_laterSelf_25 E hr hlk hl0 hno h0 ((Or.inr rfl)) hf
set_option maxHeartbeats 4000000 in
theorem cX11_lifeIn_ok {l : Launch} {B : Nat} {D : va_G} {cT : Nat → ClassId} {n : Nat} {adK adV : Nat → Nat} {o0 : Nat} {v1 : Int32} {v2 : Int32} (hl0 : l.stackTraces = false) {μ : Mem} {res : (Int32 ⊕ Nat) × Mem} (h0 : isK n o0 8) (hf : fX11_lifeIn o0 v1 v2 μ = some res) : XI l yX11_lifeIn cX11_lifeIn 3 (some .int) rmX11_lifeIn B D cT (XW B adK adV) n [.ref (B + o0), .int v1, .int v2] μ res := by
  refine tx_ofW mtX11_lifeIn.1 (Nat.le_of_ble_eq_true rfl) rfl ?_
  intro p e s m below meth c E0 hr hlk hno
  have E : EE p s m _ c cX11_lifeIn 3 RX11 B D cT (XW B adK adV) := E0
  unfold fX11_lifeIn at hf
  refine tt_aload_n (pc := 0) (i := 0) (j := 0) E dX11_lifeIn_0 rfl rfl ?_
  refine tt_iload_n (pc := 1) (i := 1) (j := 1) E dX11_lifeIn_1 rfl rfl ?_
  refine tt_iload_n (pc := 2) (i := 2) (j := 2) E dX11_lifeIn_2 rfl rfl ?_
  obtain ⟨r_1, hr_2, hf⟩ := bd_some hf
  have hc_3 := cX11_laterSelf_ok (l := l) (B := B) (D := D) (cT := cT) (n := n) (adK := adK) (adV := adV) hl0 h0 hr_2
  refine tx_cP (pc := 3) (tx_vi E lmX11_233 mtX11_laterSelf hc_3 h0 rfl rfl (Nat.le_of_ble_eq_true rfl) ⟨(Nat.le_of_ble_eq_true rfl), (Nat.le_of_ble_eq_true rfl)⟩ ⟨(Nat.le_of_ble_eq_true rfl), (Nat.le_of_ble_eq_true rfl)⟩ dX11_lifeIn_3) (fun k_4 m_5 hx_6 => ?_) (fun v_7 m_5 hx_6 => ?_)
  · subst hx_6; exact tx_out hno hlk (Nat.le_of_ble_eq_true rfl) (Nat.le_of_ble_eq_true rfl) hf
  obtain ⟨hx_6, hx_6k⟩ := hx_6
  subst hx_6
  have hf := xb_l hf
  refine tt_getI (pc := 6) E lfX11_164 rfl hx_6k dX11_lifeIn_6 ?_
  exact tx_iret (pc := 9) E hr hlk dX11_lifeIn_9 hf
set_option maxHeartbeats 4000000 in
theorem cX11_gaugeIn_ok {l : Launch} {B : Nat} {D : va_G} {cT : Nat → ClassId} {n : Nat} {adK adV : Nat → Nat} {o0 : Nat} {v1 : Int32} {v2 : Int32} (hl0 : l.stackTraces = false) {μ : Mem} {res : (Int32 ⊕ Nat) × Mem} (h0 : isK n o0 8) (hf : fX11_gaugeIn o0 v1 v2 μ = some res) : XI l yX11_gaugeIn cX11_gaugeIn 3 (some .int) rmX11_gaugeIn B D cT (XW B adK adV) n [.ref (B + o0), .int v1, .int v2] μ res := by
  refine tx_ofW mtX11_gaugeIn.1 (Nat.le_of_ble_eq_true rfl) rfl ?_
  intro p e s m below meth c E0 hr hlk hno
  have E : EE p s m _ c cX11_gaugeIn 3 RX11 B D cT (XW B adK adV) := E0
  unfold fX11_gaugeIn at hf
  refine tt_aload_n (pc := 0) (i := 0) (j := 0) E dX11_gaugeIn_0 rfl rfl ?_
  refine tt_iload_n (pc := 1) (i := 1) (j := 1) E dX11_gaugeIn_1 rfl rfl ?_
  refine tt_iload_n (pc := 2) (i := 2) (j := 2) E dX11_gaugeIn_2 rfl rfl ?_
  obtain ⟨r_1, hr_2, hf⟩ := bd_some hf
  have hc_3 := cX11_laterSelf_ok (l := l) (B := B) (D := D) (cT := cT) (n := n) (adK := adK) (adV := adV) hl0 h0 hr_2
  refine tx_cP (pc := 3) (tx_vi E lmX11_233 mtX11_laterSelf hc_3 h0 rfl rfl (Nat.le_of_ble_eq_true rfl) ⟨(Nat.le_of_ble_eq_true rfl), (Nat.le_of_ble_eq_true rfl)⟩ ⟨(Nat.le_of_ble_eq_true rfl), (Nat.le_of_ble_eq_true rfl)⟩ dX11_gaugeIn_3) (fun k_4 m_5 hx_6 => ?_) (fun v_7 m_5 hx_6 => ?_)
  · subst hx_6; exact tx_out hno hlk (Nat.le_of_ble_eq_true rfl) (Nat.le_of_ble_eq_true rfl) hf
  obtain ⟨hx_6, hx_6k⟩ := hx_6
  subst hx_6
  have hf := xb_l hf
  refine tt_getI (pc := 6) E lfX11_170 rfl hx_6k dX11_gaugeIn_6 ?_
  exact tx_iret (pc := 9) E hr hlk dX11_gaugeIn_9 hf
set_option maxHeartbeats 4000000 in
theorem cX11_turnsOf_ok {l : Launch} {B : Nat} {D : va_G} {cT : Nat → ClassId} {n : Nat} {adK adV : Nat → Nat} {o0 : Nat} {v1 : Int32} {v2 : Int32} (hl0 : l.stackTraces = false) {μ : Mem} {res : (Int32 ⊕ Nat) × Mem} (h0 : isK n o0 8) (hf : fX11_turnsOf o0 v1 v2 μ = some res) : XI l yX11_turnsOf cX11_turnsOf 4 (some .int) rmX11_turnsOf B D cT (XW B adK adV) n [.ref (B + o0), .int v1, .int v2] μ res := by
  refine tx_ofW mtX11_turnsOf.1 (Nat.le_of_ble_eq_true rfl) rfl ?_
  intro p e s m below meth c E0 hr hlk hno
  have E : EE p s m _ c cX11_turnsOf 4 RX11 B D cT (XW B adK adV) := E0
  unfold fX11_turnsOf at hf
  refine tt_aload_n (pc := 0) (i := 0) (j := 0) E dX11_turnsOf_0 rfl rfl ?_
  refine tt_iload_n (pc := 1) (i := 1) (j := 1) E dX11_turnsOf_1 rfl rfl ?_
  obtain ⟨r_1, hr_2, hf⟩ := bd_some hf
  have hc_3 := cX11_known_ok (l := l) (B := B) (D := D) (cT := cT) (n := n) (adK := adK) (adV := adV) hl0 h0 hr_2
  refine tx_cP (pc := 2) (tx_vi E lmX11_152 mtX11_known hc_3 h0 rfl rfl (Nat.le_of_ble_eq_true rfl) ⟨(Nat.le_of_ble_eq_true rfl), (Nat.le_of_ble_eq_true rfl)⟩ ⟨(Nat.le_of_ble_eq_true rfl), (Nat.le_of_ble_eq_true rfl)⟩ dX11_turnsOf_2) (fun k_4 m_5 hx_6 => ?_) (fun v_7 m_5 hx_6 => ?_)
  · subst hx_6; exact tx_out hno hlk (Nat.le_of_ble_eq_true rfl) (Nat.le_of_ble_eq_true rfl) hf
  obtain ⟨hx_6, hx_6k⟩ := hx_6
  subst hx_6
  have hf := xb_l hf
  refine tt_astore_n (pc := 5) (i := 3) (lv' := [(3, .ref (B + v_7)), (0, .ref (B + o0)), (1, .int v1), (2, .int v2)]) E dX11_turnsOf_5 rfl (Nat.le_of_ble_eq_true rfl) rfl ?_
  refine tt_aload_n (pc := 6) (i := 0) (j := 1) E dX11_turnsOf_6 rfl rfl ?_
  refine tt_iload_n (pc := 7) (i := 1) (j := 2) E dX11_turnsOf_7 rfl rfl ?_
  refine tt_iload_n (pc := 8) (i := 2) (j := 3) E dX11_turnsOf_8 rfl rfl ?_
  obtain ⟨r_8, hr_9, hf⟩ := bd_some hf
  have hc_10 := cX11_laterSelf_ok (l := l) (B := B) (D := D) (cT := cT) (n := n) (adK := adK) (adV := adV) hl0 h0 hr_9
  refine tx_cP (pc := 9) (tx_vi E lmX11_233 mtX11_laterSelf hc_10 h0 rfl rfl (Nat.le_of_ble_eq_true rfl) ⟨(Nat.le_of_ble_eq_true rfl), (Nat.le_of_ble_eq_true rfl)⟩ ⟨(Nat.le_of_ble_eq_true rfl), (Nat.le_of_ble_eq_true rfl)⟩ dX11_turnsOf_9) (fun k_11 m_12 hx_13 => ?_) (fun v_14 m_12 hx_13 => ?_)
  · subst hx_13; exact tx_out hno hlk (Nat.le_of_ble_eq_true rfl) (Nat.le_of_ble_eq_true rfl) hf
  obtain ⟨hx_13, hx_13k⟩ := hx_13
  subst hx_13
  have hf := xb_l hf
  refine tt_getI (pc := 12) E lfX11_185 rfl hx_13k dX11_turnsOf_12 ?_
  refine tt_aload_n (pc := 15) (i := 3) (j := 0) E dX11_turnsOf_15 rfl rfl ?_
  refine tt_getI (pc := 16) E lfX11_185 rfl hx_6k dX11_turnsOf_16 ?_
  refine tt_isub (pc := 19) E dX11_turnsOf_19 ?_
  exact tx_iret (pc := 20) E hr hlk dX11_turnsOf_20 hf
set_option maxHeartbeats 4000000 in
theorem cX11_longestRun_ok {l : Launch} {B : Nat} {D : va_G} {cT : Nat → ClassId} {n : Nat} {adK adV : Nat → Nat} {o0 : Nat} {v1 : Int32} (hl0 : l.stackTraces = false) {μ : Mem} {res : (Int32 ⊕ Nat) × Mem} (h0 : isK n o0 8) (hf : fX11_longestRun o0 v1 μ = some res) : XI l yX11_longestRun cX11_longestRun 2 (some .int) rmX11_longestRun B D cT (XW B adK adV) n [.ref (B + o0), .int v1] μ res := by
  refine tx_ofW mtX11_longestRun.1 (Nat.le_of_ble_eq_true rfl) rfl ?_
  intro p e s m below meth c E0 hr hlk hno
  have E : EE p s m _ c cX11_longestRun 2 RX11 B D cT (XW B adK adV) := E0
  unfold fX11_longestRun at hf
  refine tt_iload_n (pc := 0) (i := 1) (j := 1) E dX11_longestRun_0 rfl rfl ?_
  refine tt_if_lt (pc := 1) (tgt := 15) E dX11_longestRun_1 rfl (fun c_50 => ?_) (fun c_50 => ?_)
  · have hf := ip c_50 hf
    refine tt_iconst (pc := 15) (v := 0) E dX11_longestRun_15 ic_0 ?_
    obtain ⟨r_1, hr_2, hf⟩ := bd_some hf
    have hc_3 := cX11_demand_ok (l := l) (B := B) (D := D) (cT := cT) (n := n) (adK := adK) (adV := adV) hl0 ((Or.inl rfl)) hr_2
    refine tx_cV (pc := 16) (tx_si E lmX11_80 mtX11_demand hc_3 rfl rfl (Nat.le_of_ble_eq_true rfl) ⟨(Nat.le_of_ble_eq_true rfl), (Nat.le_of_ble_eq_true rfl)⟩ ⟨(Nat.le_of_ble_eq_true rfl), (Nat.le_of_ble_eq_true rfl)⟩ dX11_longestRun_16) (fun k_4 m_5 hx_6 => ?_) (fun m_5 hx_6 => ?_)
    · subst hx_6; exact tx_out hno hlk (Nat.le_of_ble_eq_true rfl) (Nat.le_of_ble_eq_true rfl) hf
    subst hx_6
    have hf := xb_l hf
    refine tt_aload_n (pc := 19) (i := 0) (j := 0) E dX11_longestRun_19 rfl rfl ?_
    obtain ⟨q_8, hq_9, hf⟩ := bd_some hf
    refine tt_getP (pc := 20) (t := 3) E lfX11_39 rfl rfl h0 dX11_longestRun_20 hq_9 (fun kq_10 => ?_)
    refine tt_aload_n (pc := 23) (i := 0) (j := 0) E dX11_longestRun_23 rfl rfl ?_
    obtain ⟨q_11, hq_12, hf⟩ := bd_some hf
    refine tt_getP (pc := 24) (t := 1) E lfX11_26 rfl rfl h0 dX11_longestRun_24 hq_12 (fun kq_13 => ?_)
    refine tt_iload_n (pc := 27) (i := 1) (j := 1) E dX11_longestRun_27 rfl rfl ?_
    obtain ⟨r_14, hr_15, hf⟩ := bd_some hf
    have hc_16 := cX4_mostInARow_ok (l := l) (B := B) (D := D) (cT := cT) (n := n) (adK := adK) (adV := adV) kq_10 kq_13 hr_15
    refine tt_cI (pc := 28) (tt_vi E lmX11_237 mtX4_mostInARow hc_16 kq_10 rfl rfl (Nat.le_of_ble_eq_true rfl) ⟨(Nat.le_of_ble_eq_true rfl), (Nat.le_of_ble_eq_true rfl)⟩ ⟨(Nat.le_of_ble_eq_true rfl), (Nat.le_of_ble_eq_true rfl)⟩ dX11_longestRun_28) ?_
    exact tx_iret (pc := 31) E hr hlk dX11_longestRun_31 hf
  · have hf := ine c_50 hf
    refine tt_iload_n (pc := 4) (i := 1) (j := 1) E dX11_longestRun_4 rfl rfl ?_
    refine tt_sipush (pc := 5) (v := 200) E dX11_longestRun_5 sc_200 ?_
    refine tt_icmp_gt (pc := 8) (tgt := 15) E dX11_longestRun_8 rfl (fun c_49 => ?_) (fun c_49 => ?_)
    · have hf := ip c_49 hf
      refine tt_iconst (pc := 15) (v := 0) E dX11_longestRun_15 ic_0 ?_
      obtain ⟨r_17, hr_18, hf⟩ := bd_some hf
      have hc_19 := cX11_demand_ok (l := l) (B := B) (D := D) (cT := cT) (n := n) (adK := adK) (adV := adV) hl0 ((Or.inl rfl)) hr_18
      refine tx_cV (pc := 16) (tx_si E lmX11_80 mtX11_demand hc_19 rfl rfl (Nat.le_of_ble_eq_true rfl) ⟨(Nat.le_of_ble_eq_true rfl), (Nat.le_of_ble_eq_true rfl)⟩ ⟨(Nat.le_of_ble_eq_true rfl), (Nat.le_of_ble_eq_true rfl)⟩ dX11_longestRun_16) (fun k_20 m_21 hx_22 => ?_) (fun m_21 hx_22 => ?_)
      · subst hx_22; exact tx_out hno hlk (Nat.le_of_ble_eq_true rfl) (Nat.le_of_ble_eq_true rfl) hf
      subst hx_22
      have hf := xb_l hf
      refine tt_aload_n (pc := 19) (i := 0) (j := 0) E dX11_longestRun_19 rfl rfl ?_
      obtain ⟨q_24, hq_25, hf⟩ := bd_some hf
      refine tt_getP (pc := 20) (t := 3) E lfX11_39 rfl rfl h0 dX11_longestRun_20 hq_25 (fun kq_26 => ?_)
      refine tt_aload_n (pc := 23) (i := 0) (j := 0) E dX11_longestRun_23 rfl rfl ?_
      obtain ⟨q_27, hq_28, hf⟩ := bd_some hf
      refine tt_getP (pc := 24) (t := 1) E lfX11_26 rfl rfl h0 dX11_longestRun_24 hq_28 (fun kq_29 => ?_)
      refine tt_iload_n (pc := 27) (i := 1) (j := 1) E dX11_longestRun_27 rfl rfl ?_
      obtain ⟨r_30, hr_31, hf⟩ := bd_some hf
      have hc_32 := cX4_mostInARow_ok (l := l) (B := B) (D := D) (cT := cT) (n := n) (adK := adK) (adV := adV) kq_26 kq_29 hr_31
      refine tt_cI (pc := 28) (tt_vi E lmX11_237 mtX4_mostInARow hc_32 kq_26 rfl rfl (Nat.le_of_ble_eq_true rfl) ⟨(Nat.le_of_ble_eq_true rfl), (Nat.le_of_ble_eq_true rfl)⟩ ⟨(Nat.le_of_ble_eq_true rfl), (Nat.le_of_ble_eq_true rfl)⟩ dX11_longestRun_28) ?_
      exact tx_iret (pc := 31) E hr hlk dX11_longestRun_31 hf
    · have hf := ine c_49 hf
      refine tt_iconst (pc := 11) (v := 1) E dX11_longestRun_11 ic_1 ?_
      refine tt_goto (pc := 12) (tgt := 16) E dX11_longestRun_12 rfl ?_
      obtain ⟨r_33, hr_34, hf⟩ := bd_some hf
      have hc_35 := cX11_demand_ok (l := l) (B := B) (D := D) (cT := cT) (n := n) (adK := adK) (adV := adV) hl0 ((Or.inr rfl)) hr_34
      refine tx_cV (pc := 16) (tx_si E lmX11_80 mtX11_demand hc_35 rfl rfl (Nat.le_of_ble_eq_true rfl) ⟨(Nat.le_of_ble_eq_true rfl), (Nat.le_of_ble_eq_true rfl)⟩ ⟨(Nat.le_of_ble_eq_true rfl), (Nat.le_of_ble_eq_true rfl)⟩ dX11_longestRun_16) (fun k_36 m_37 hx_38 => ?_) (fun m_37 hx_38 => ?_)
      · subst hx_38; exact tx_out hno hlk (Nat.le_of_ble_eq_true rfl) (Nat.le_of_ble_eq_true rfl) hf
      subst hx_38
      have hf := xb_l hf
      refine tt_aload_n (pc := 19) (i := 0) (j := 0) E dX11_longestRun_19 rfl rfl ?_
      obtain ⟨q_40, hq_41, hf⟩ := bd_some hf
      refine tt_getP (pc := 20) (t := 3) E lfX11_39 rfl rfl h0 dX11_longestRun_20 hq_41 (fun kq_42 => ?_)
      refine tt_aload_n (pc := 23) (i := 0) (j := 0) E dX11_longestRun_23 rfl rfl ?_
      obtain ⟨q_43, hq_44, hf⟩ := bd_some hf
      refine tt_getP (pc := 24) (t := 1) E lfX11_26 rfl rfl h0 dX11_longestRun_24 hq_44 (fun kq_45 => ?_)
      refine tt_iload_n (pc := 27) (i := 1) (j := 1) E dX11_longestRun_27 rfl rfl ?_
      obtain ⟨r_46, hr_47, hf⟩ := bd_some hf
      have hc_48 := cX4_mostInARow_ok (l := l) (B := B) (D := D) (cT := cT) (n := n) (adK := adK) (adV := adV) kq_42 kq_45 hr_47
      refine tt_cI (pc := 28) (tt_vi E lmX11_237 mtX4_mostInARow hc_48 kq_42 rfl rfl (Nat.le_of_ble_eq_true rfl) ⟨(Nat.le_of_ble_eq_true rfl), (Nat.le_of_ble_eq_true rfl)⟩ ⟨(Nat.le_of_ble_eq_true rfl), (Nat.le_of_ble_eq_true rfl)⟩ dX11_longestRun_28) ?_
      exact tx_iret (pc := 31) E hr hlk dX11_longestRun_31 hf
set_option maxHeartbeats 4000000 in
theorem cX11_endsIn_ok {l : Launch} {B : Nat} {D : va_G} {cT : Nat → ClassId} {n : Nat} {adK adV : Nat → Nat} {o0 : Nat} {μ : Mem} {res : Int32 × Mem} (h0 : isK n o0 8) (hf : fX11_endsIn o0 μ = some res) : MI l yX11_endsIn cX11_endsIn 1 (some .int) rmX11_endsIn B D cT (XW B adK adV) n [.ref (B + o0)] μ res := by
  refine tt_ofW mtX11_endsIn.1 (Nat.le_of_ble_eq_true rfl) rfl ?_
  intro p e s m below meth c E0 hr hlk
  have E : EE p s m _ c cX11_endsIn 1 RX11 B D cT (XW B adK adV) := E0
  unfold fX11_endsIn at hf
  refine tt_aload_n (pc := 0) (i := 0) (j := 0) E dX11_endsIn_0 rfl rfl ?_
  obtain ⟨q_1, hq_2, hf⟩ := bd_some hf
  refine tt_getP (pc := 1) (t := 3) E lfX11_39 rfl rfl h0 dX11_endsIn_1 hq_2 (fun kq_3 => ?_)
  refine tt_aload_n (pc := 4) (i := 0) (j := 0) E dX11_endsIn_4 rfl rfl ?_
  obtain ⟨q_4, hq_5, hf⟩ := bd_some hf
  refine tt_getP (pc := 5) (t := 1) E lfX11_26 rfl rfl h0 dX11_endsIn_5 hq_5 (fun kq_6 => ?_)
  obtain ⟨r_7, hr_8, hf⟩ := bd_some hf
  have hc_9 := cX4_turnsToEnd_ok (l := l) (B := B) (D := D) (cT := cT) (n := n) (adK := adK) (adV := adV) kq_3 kq_6 hr_8
  refine tt_cI (pc := 8) (tt_vi E lmX11_240 mtX4_turnsToEnd hc_9 kq_3 rfl rfl (Nat.le_of_ble_eq_true rfl) ⟨(Nat.le_of_ble_eq_true rfl), (Nat.le_of_ble_eq_true rfl)⟩ ⟨(Nat.le_of_ble_eq_true rfl), (Nat.le_of_ble_eq_true rfl)⟩ dX11_endsIn_8) ?_
  exact tt_iret (pc := 11) E hr hlk dX11_endsIn_11 (Nat.le_of_ble_eq_true rfl) (Nat.le_of_ble_eq_true rfl) hf
set_option maxHeartbeats 4000000 in
theorem cX11_winner_ok {l : Launch} {B : Nat} {D : va_G} {cT : Nat → ClassId} {n : Nat} {adK adV : Nat → Nat} {o0 : Nat} {μ : Mem} {res : Int32 × Mem} (h0 : isK n o0 8) (hf : fX11_winner o0 μ = some res) : MI l yX11_winner cX11_winner 1 (some .int) rmX11_winner B D cT (XW B adK adV) n [.ref (B + o0)] μ res := by
  refine tt_ofW mtX11_winner.1 (Nat.le_of_ble_eq_true rfl) rfl ?_
  intro p e s m below meth c E0 hr hlk
  have E : EE p s m _ c cX11_winner 1 RX11 B D cT (XW B adK adV) := E0
  unfold fX11_winner at hf
  refine tt_aload_n (pc := 0) (i := 0) (j := 0) E dX11_winner_0 rfl rfl ?_
  obtain ⟨q_1, hq_2, hf⟩ := bd_some hf
  refine tt_getP (pc := 1) (t := 3) E lfX11_39 rfl rfl h0 dX11_winner_1 hq_2 (fun kq_3 => ?_)
  refine tt_aload_n (pc := 4) (i := 0) (j := 0) E dX11_winner_4 rfl rfl ?_
  obtain ⟨q_4, hq_5, hf⟩ := bd_some hf
  refine tt_getP (pc := 5) (t := 1) E lfX11_26 rfl rfl h0 dX11_winner_5 hq_5 (fun kq_6 => ?_)
  refine tt_sipush (pc := 8) (v := 200) E dX11_winner_8 sc_200 ?_
  obtain ⟨r_7, hr_8, hf⟩ := bd_some hf
  have hc_9 := cX4_afterTurns_ok (l := l) (B := B) (D := D) (cT := cT) (n := n) (adK := adK) (adV := adV) kq_3 kq_6 hr_8
  refine tt_cP (pc := 11) (tt_vi E lmX11_243 mtX4_afterTurns hc_9 kq_3 rfl rfl (Nat.le_of_ble_eq_true rfl) ⟨(Nat.le_of_ble_eq_true rfl), (Nat.le_of_ble_eq_true rfl)⟩ ⟨(Nat.le_of_ble_eq_true rfl), (Nat.le_of_ble_eq_true rfl)⟩ dX11_winner_11) (fun kq_10 => ?_)
  obtain ⟨r_11, hr_12, hf⟩ := bd_some hf
  have hc_13 := cX2_wonBy_ok (l := l) (B := B) (D := D) (cT := cT) (n := n) (adK := adK) (adV := adV) kq_10 hr_12
  refine tt_cI (pc := 14) (tt_vi E lmX11_137 mtX2_wonBy hc_13 kq_10 rfl rfl (Nat.le_of_ble_eq_true rfl) ⟨(Nat.le_of_ble_eq_true rfl), (Nat.le_of_ble_eq_true rfl)⟩ ⟨(Nat.le_of_ble_eq_true rfl), (Nat.le_of_ble_eq_true rfl)⟩ dX11_winner_14) ?_
  exact tt_iret (pc := 17) E hr hlk dX11_winner_17 (Nat.le_of_ble_eq_true rfl) (Nat.le_of_ble_eq_true rfl) hf
set_option maxHeartbeats 4000000 in
theorem cX11_firstLoss_ok {l : Launch} {B : Nat} {D : va_G} {cT : Nat → ClassId} {n : Nat} {adK adV : Nat → Nat} {o0 : Nat} {v1 : Int32} (hl0 : l.stackTraces = false) {μ : Mem} {res : (Int32 ⊕ Nat) × Mem} (h0 : isK n o0 8) (hf : fX11_firstLoss o0 v1 μ = some res) : XI l yX11_firstLoss cX11_firstLoss 2 (some .int) rmX11_firstLoss B D cT (XW B adK adV) n [.ref (B + o0), .int v1] μ res := by
  refine tx_ofW mtX11_firstLoss.1 (Nat.le_of_ble_eq_true rfl) rfl ?_
  intro p e s m below meth c E0 hr hlk hno
  have E : EE p s m _ c cX11_firstLoss 2 RX11 B D cT (XW B adK adV) := E0
  unfold fX11_firstLoss at hf
  refine tt_aload_n (pc := 0) (i := 0) (j := 0) E dX11_firstLoss_0 rfl rfl ?_
  obtain ⟨q_1, hq_2, hf⟩ := bd_some hf
  refine tt_getP (pc := 1) (t := 3) E lfX11_39 rfl rfl h0 dX11_firstLoss_1 hq_2 (fun kq_3 => ?_)
  refine tt_aload_n (pc := 4) (i := 0) (j := 0) E dX11_firstLoss_4 rfl rfl ?_
  obtain ⟨q_4, hq_5, hf⟩ := bd_some hf
  refine tt_getP (pc := 5) (t := 1) E lfX11_26 rfl rfl h0 dX11_firstLoss_5 hq_5 (fun kq_6 => ?_)
  refine tt_aload_n (pc := 8) (i := 0) (j := 0) E dX11_firstLoss_8 rfl rfl ?_
  refine tt_iload_n (pc := 9) (i := 1) (j := 1) E dX11_firstLoss_9 rfl rfl ?_
  obtain ⟨r_7, hr_8, hf⟩ := bd_some hf
  have hc_9 := cX11_known_ok (l := l) (B := B) (D := D) (cT := cT) (n := n) (adK := adK) (adV := adV) hl0 h0 hr_8
  refine tx_cP (pc := 10) (tx_vi E lmX11_152 mtX11_known hc_9 h0 rfl rfl (Nat.le_of_ble_eq_true rfl) ⟨(Nat.le_of_ble_eq_true rfl), (Nat.le_of_ble_eq_true rfl)⟩ ⟨(Nat.le_of_ble_eq_true rfl), (Nat.le_of_ble_eq_true rfl)⟩ dX11_firstLoss_10) (fun k_10 m_11 hx_12 => ?_) (fun v_13 m_11 hx_12 => ?_)
  · subst hx_12; exact tx_out hno hlk (Nat.le_of_ble_eq_true rfl) (Nat.le_of_ble_eq_true rfl) hf
  obtain ⟨hx_12, hx_12k⟩ := hx_12
  subst hx_12
  have hf := xb_l hf
  refine tt_getI (pc := 13) E lfX11_216 rfl hx_12k dX11_firstLoss_13 ?_
  obtain ⟨r_14, hr_15, hf⟩ := bd_some hf
  have hc_16 := cX4_turnOfLoss_ok (l := l) (B := B) (D := D) (cT := cT) (n := n) (adK := adK) (adV := adV) kq_3 kq_6 hr_15
  refine tt_cI (pc := 16) (tt_vi E lmX11_247 mtX4_turnOfLoss hc_16 kq_3 rfl rfl (Nat.le_of_ble_eq_true rfl) ⟨(Nat.le_of_ble_eq_true rfl), (Nat.le_of_ble_eq_true rfl)⟩ ⟨(Nat.le_of_ble_eq_true rfl), (Nat.le_of_ble_eq_true rfl)⟩ dX11_firstLoss_16) ?_
  exact tx_iret (pc := 19) E hr hlk dX11_firstLoss_19 hf
set_option maxHeartbeats 4000000 in
theorem cX11_repeatIn_ok {l : Launch} {B : Nat} {D : va_G} {cT : Nat → ClassId} {n : Nat} {adK adV : Nat → Nat} {o0 : Nat} {μ : Mem} {res : Int32 × Mem} (h0 : isK n o0 8) (hf : fX11_repeatIn o0 μ = some res) : MI l yX11_repeatIn cX11_repeatIn 1 (some .int) rmX11_repeatIn B D cT (XW B adK adV) n [.ref (B + o0)] μ res := by
  refine tt_ofW mtX11_repeatIn.1 (Nat.le_of_ble_eq_true rfl) rfl ?_
  intro p e s m below meth c E0 hr hlk
  have E : EE p s m _ c cX11_repeatIn 1 RX11 B D cT (XW B adK adV) := E0
  unfold fX11_repeatIn at hf
  refine tt_aload_n (pc := 0) (i := 0) (j := 0) E dX11_repeatIn_0 rfl rfl ?_
  obtain ⟨q_1, hq_2, hf⟩ := bd_some hf
  refine tt_getP (pc := 1) (t := 3) E lfX11_39 rfl rfl h0 dX11_repeatIn_1 hq_2 (fun kq_3 => ?_)
  refine tt_aload_n (pc := 4) (i := 0) (j := 0) E dX11_repeatIn_4 rfl rfl ?_
  obtain ⟨q_4, hq_5, hf⟩ := bd_some hf
  refine tt_getP (pc := 5) (t := 1) E lfX11_26 rfl rfl h0 dX11_repeatIn_5 hq_5 (fun kq_6 => ?_)
  obtain ⟨r_7, hr_8, hf⟩ := bd_some hf
  have hc_9 := cX4_findRepeat_ok (l := l) (B := B) (D := D) (cT := cT) (n := n) (adK := adK) (adV := adV) kq_3 kq_6 hr_8
  refine tt_cV (pc := 8) (tt_vi E lmX11_250 mtX4_findRepeat hc_9 kq_3 rfl rfl (Nat.le_of_ble_eq_true rfl) ⟨(Nat.le_of_ble_eq_true rfl), (Nat.le_of_ble_eq_true rfl)⟩ ⟨(Nat.le_of_ble_eq_true rfl), (Nat.le_of_ble_eq_true rfl)⟩ dX11_repeatIn_8) ?_
  refine tt_aload_n (pc := 11) (i := 0) (j := 0) E dX11_repeatIn_11 rfl rfl ?_
  obtain ⟨q_10, hq_11, hf⟩ := bd_some hf
  refine tt_getP (pc := 12) (t := 3) E lfX11_39 rfl rfl h0 dX11_repeatIn_12 hq_11 (fun kq_12 => ?_)
  refine tt_getI (pc := 15) E lfX11_253 rfl kq_12 dX11_repeatIn_15 ?_
  exact tt_iret (pc := 18) E hr hlk dX11_repeatIn_18 (Nat.le_of_ble_eq_true rfl) (Nat.le_of_ble_eq_true rfl) hf
set_option maxHeartbeats 4000000 in
theorem cX11_cycle_ok {l : Launch} {B : Nat} {D : va_G} {cT : Nat → ClassId} {n : Nat} {adK adV : Nat → Nat} {o0 : Nat} {μ : Mem} {res : Int32 × Mem} (h0 : isK n o0 8) (hf : fX11_cycle o0 μ = some res) : MI l yX11_cycle cX11_cycle 1 (some .int) rmX11_cycle B D cT (XW B adK adV) n [.ref (B + o0)] μ res := by
  refine tt_ofW mtX11_cycle.1 (Nat.le_of_ble_eq_true rfl) rfl ?_
  intro p e s m below meth c E0 hr hlk
  have E : EE p s m _ c cX11_cycle 1 RX11 B D cT (XW B adK adV) := E0
  unfold fX11_cycle at hf
  refine tt_aload_n (pc := 0) (i := 0) (j := 0) E dX11_cycle_0 rfl rfl ?_
  obtain ⟨q_1, hq_2, hf⟩ := bd_some hf
  refine tt_getP (pc := 1) (t := 3) E lfX11_39 rfl rfl h0 dX11_cycle_1 hq_2 (fun kq_3 => ?_)
  refine tt_aload_n (pc := 4) (i := 0) (j := 0) E dX11_cycle_4 rfl rfl ?_
  obtain ⟨q_4, hq_5, hf⟩ := bd_some hf
  refine tt_getP (pc := 5) (t := 1) E lfX11_26 rfl rfl h0 dX11_cycle_5 hq_5 (fun kq_6 => ?_)
  obtain ⟨r_7, hr_8, hf⟩ := bd_some hf
  have hc_9 := cX4_findRepeat_ok (l := l) (B := B) (D := D) (cT := cT) (n := n) (adK := adK) (adV := adV) kq_3 kq_6 hr_8
  refine tt_cV (pc := 8) (tt_vi E lmX11_250 mtX4_findRepeat hc_9 kq_3 rfl rfl (Nat.le_of_ble_eq_true rfl) ⟨(Nat.le_of_ble_eq_true rfl), (Nat.le_of_ble_eq_true rfl)⟩ ⟨(Nat.le_of_ble_eq_true rfl), (Nat.le_of_ble_eq_true rfl)⟩ dX11_cycle_8) ?_
  refine tt_aload_n (pc := 11) (i := 0) (j := 0) E dX11_cycle_11 rfl rfl ?_
  obtain ⟨q_10, hq_11, hf⟩ := bd_some hf
  refine tt_getP (pc := 12) (t := 3) E lfX11_39 rfl rfl h0 dX11_cycle_12 hq_11 (fun kq_12 => ?_)
  refine tt_getI (pc := 15) E lfX11_256 rfl kq_12 dX11_cycle_15 ?_
  exact tt_iret (pc := 18) E hr hlk dX11_cycle_18 (Nat.le_of_ble_eq_true rfl) (Nat.le_of_ble_eq_true rfl) hf
set_option maxHeartbeats 4000000 in
theorem cX11_leastSpeed_ok {l : Launch} {B : Nat} {D : va_G} {cT : Nat → ClassId} {n : Nat} {adK adV : Nat → Nat} {o0 : Nat} {v1 : Int32} (hl0 : l.stackTraces = false) {μ : Mem} {res : (Int32 ⊕ Nat) × Mem} (h0 : isK n o0 8) (hf : fX11_leastSpeed o0 v1 μ = some res) : XI l yX11_leastSpeed cX11_leastSpeed 2 (some .int) rmX11_leastSpeed B D cT (XW B adK adV) n [.ref (B + o0), .int v1] μ res := by
  refine tx_ofW mtX11_leastSpeed.1 (Nat.le_of_ble_eq_true rfl) rfl ?_
  intro p e s m below meth c E0 hr hlk hno
  have E : EE p s m _ c cX11_leastSpeed 2 RX11 B D cT (XW B adK adV) := E0
  unfold fX11_leastSpeed at hf
  refine tt_aload_n (pc := 0) (i := 0) (j := 0) E dX11_leastSpeed_0 rfl rfl ?_
  obtain ⟨q_1, hq_2, hf⟩ := bd_some hf
  refine tt_getP (pc := 1) (t := 3) E lfX11_39 rfl rfl h0 dX11_leastSpeed_1 hq_2 (fun kq_3 => ?_)
  refine tt_aload_n (pc := 4) (i := 0) (j := 0) E dX11_leastSpeed_4 rfl rfl ?_
  obtain ⟨q_4, hq_5, hf⟩ := bd_some hf
  refine tt_getP (pc := 5) (t := 1) E lfX11_26 rfl rfl h0 dX11_leastSpeed_5 hq_5 (fun kq_6 => ?_)
  refine tt_aload_n (pc := 8) (i := 0) (j := 0) E dX11_leastSpeed_8 rfl rfl ?_
  refine tt_iload_n (pc := 9) (i := 1) (j := 1) E dX11_leastSpeed_9 rfl rfl ?_
  obtain ⟨r_7, hr_8, hf⟩ := bd_some hf
  have hc_9 := cX11_known_ok (l := l) (B := B) (D := D) (cT := cT) (n := n) (adK := adK) (adV := adV) hl0 h0 hr_8
  refine tx_cP (pc := 10) (tx_vi E lmX11_152 mtX11_known hc_9 h0 rfl rfl (Nat.le_of_ble_eq_true rfl) ⟨(Nat.le_of_ble_eq_true rfl), (Nat.le_of_ble_eq_true rfl)⟩ ⟨(Nat.le_of_ble_eq_true rfl), (Nat.le_of_ble_eq_true rfl)⟩ dX11_leastSpeed_10) (fun k_10 m_11 hx_12 => ?_) (fun v_13 m_11 hx_12 => ?_)
  · subst hx_12; exact tx_out hno hlk (Nat.le_of_ble_eq_true rfl) (Nat.le_of_ble_eq_true rfl) hf
  obtain ⟨hx_12, hx_12k⟩ := hx_12
  subst hx_12
  have hf := xb_l hf
  obtain ⟨r_14, hr_15, hf⟩ := bd_some hf
  have hc_16 := cX4_speedToWin_ok (l := l) (B := B) (D := D) (cT := cT) (n := n) (adK := adK) (adV := adV) kq_3 kq_6 hx_12k hr_15
  refine tt_cI (pc := 13) (tt_vi E lmX11_259 mtX4_speedToWin hc_16 kq_3 rfl rfl (Nat.le_of_ble_eq_true rfl) ⟨(Nat.le_of_ble_eq_true rfl), (Nat.le_of_ble_eq_true rfl)⟩ ⟨(Nat.le_of_ble_eq_true rfl), (Nat.le_of_ble_eq_true rfl)⟩ dX11_leastSpeed_13) ?_
  exact tx_iret (pc := 16) E hr hlk dX11_leastSpeed_16 hf
set_option maxHeartbeats 4000000 in
theorem tX11_bestPush_25 {p : Program} {l : Launch} {e : Env} {s : State} {m : MethodId} {args : Array Value} {below : List Frame} {meth : Method} {c : Code} {B : Nat} {D : va_G} {cT : Nat → ClassId} {n : Nat} {adK adV : Nat → Nat} {res : (Int32 ⊕ Nat) × Mem} (E : EE p s m args c cX11_bestPush 3 RX11 B D cT (XW B adK adV)) (hr : meth.sig.returnType = some .int) (hlk : meth.locks = false) (hl0 : l.stackTraces = false) (hno : ∀ x ∈ c.exceptionTable.toList, False) {o0 : Nat} {v1 : Int32} {v2 : Int32} (h0 : isK n o0 8) {μ : Mem} (hf : fX11_bestPush_25 o0 v1 v2 μ = some res) : TT p l e rmX11_bestPush s m args below meth c (XQI B D cT n below args s res) 3 B D cT n 0 0 μ 25 [(0, .ref (B + o0)), (1, .int v1), (2, .int v2)] [] := by
  unfold fX11_bestPush_25 at hf
  refine tt_iconst (pc := 25) (v := 0) E dX11_bestPush_25 ic_0 ?_
  obtain ⟨r_1, hr_2, hf⟩ := bd_some hf
  have hc_3 := cX11_demand_ok (l := l) (B := B) (D := D) (cT := cT) (n := n) (adK := adK) (adV := adV) hl0 ((Or.inl rfl)) hr_2
  refine tx_cV (pc := 26) (tx_si E lmX11_80 mtX11_demand hc_3 rfl rfl (Nat.le_of_ble_eq_true rfl) ⟨(Nat.le_of_ble_eq_true rfl), (Nat.le_of_ble_eq_true rfl)⟩ ⟨(Nat.le_of_ble_eq_true rfl), (Nat.le_of_ble_eq_true rfl)⟩ dX11_bestPush_26) (fun k_4 m_5 hx_6 => ?_) (fun m_5 hx_6 => ?_)
  · subst hx_6; exact tx_out hno hlk (Nat.le_of_ble_eq_true rfl) (Nat.le_of_ble_eq_true rfl) hf
  subst hx_6
  have hf := xb_l hf
  refine tt_aload_n (pc := 29) (i := 0) (j := 0) E dX11_bestPush_29 rfl rfl ?_
  obtain ⟨q_8, hq_9, hf⟩ := bd_some hf
  refine tt_getP (pc := 30) (t := 3) E lfX11_39 rfl rfl h0 dX11_bestPush_30 hq_9 (fun kq_10 => ?_)
  refine tt_aload_n (pc := 33) (i := 0) (j := 0) E dX11_bestPush_33 rfl rfl ?_
  obtain ⟨q_11, hq_12, hf⟩ := bd_some hf
  refine tt_getP (pc := 34) (t := 1) E lfX11_26 rfl rfl h0 dX11_bestPush_34 hq_12 (fun kq_13 => ?_)
  refine tt_iload_n (pc := 37) (i := 1) (j := 1) E dX11_bestPush_37 rfl rfl ?_
  refine tt_iload_n (pc := 38) (i := 2) (j := 2) E dX11_bestPush_38 rfl rfl ?_
  obtain ⟨r_14, hr_15, hf⟩ := bd_some hf
  have hc_16 := cX4_whomToPush_ok (l := l) (B := B) (D := D) (cT := cT) (n := n) (adK := adK) (adV := adV) kq_10 kq_13 hr_15
  refine tt_cI (pc := 39) (tt_vi E lmX11_263 mtX4_whomToPush hc_16 kq_10 rfl rfl (Nat.le_of_ble_eq_true rfl) ⟨(Nat.le_of_ble_eq_true rfl), (Nat.le_of_ble_eq_true rfl)⟩ ⟨(Nat.le_of_ble_eq_true rfl), (Nat.le_of_ble_eq_true rfl)⟩ dX11_bestPush_39) ?_
  exact tx_iret (pc := 42) E hr hlk dX11_bestPush_42 hf
set_option maxHeartbeats 4000000 in
theorem tX11_bestPush_9 {p : Program} {l : Launch} {e : Env} {s : State} {m : MethodId} {args : Array Value} {below : List Frame} {meth : Method} {c : Code} {B : Nat} {D : va_G} {cT : Nat → ClassId} {n : Nat} {adK adV : Nat → Nat} {res : (Int32 ⊕ Nat) × Mem} (E : EE p s m args c cX11_bestPush 3 RX11 B D cT (XW B adK adV)) (hr : meth.sig.returnType = some .int) (hlk : meth.locks = false) (hl0 : l.stackTraces = false) (hno : ∀ x ∈ c.exceptionTable.toList, False) {o0 : Nat} {v1 : Int32} {v2 : Int32} (h0 : isK n o0 8) {μ : Mem} (hf : fX11_bestPush_9 o0 v1 v2 μ = some res) : TT p l e rmX11_bestPush s m args below meth c (XQI B D cT n below args s res) 3 B D cT n 0 0 μ 9 [(0, .ref (B + o0)), (1, .int v1), (2, .int v2)] [] := by
  unfold fX11_bestPush_9 at hf
  refine tt_iload_n (pc := 9) (i := 2) (j := 2) E dX11_bestPush_9 rfl rfl ?_
  refine tt_iconst (pc := 10) (v := 1) E dX11_bestPush_10 ic_1 ?_
  refine tt_icmp_lt (pc := 11) (tgt := 25) E dX11_bestPush_11 rfl (fun c_18 => ?_) (fun c_18 => ?_)
  · have hf := ip c_18 hf
    exact tX11_bestPush_25 E hr hlk hl0 hno h0 hf
  · have hf := ine c_18 hf
    refine tt_iload_n (pc := 14) (i := 2) (j := 2) E dX11_bestPush_14 rfl rfl ?_
    refine tt_sipush (pc := 15) (v := 999) E dX11_bestPush_15 sc_999 ?_
    refine tt_icmp_gt (pc := 18) (tgt := 25) E dX11_bestPush_18 rfl (fun c_17 => ?_) (fun c_17 => ?_)
    · have hf := ip c_17 hf
      exact tX11_bestPush_25 E hr hlk hl0 hno h0 hf
    · have hf := ine c_17 hf
      refine tt_iconst (pc := 21) (v := 1) E dX11_bestPush_21 ic_1 ?_
      refine tt_goto (pc := 22) (tgt := 26) E dX11_bestPush_22 rfl ?_
      obtain ⟨r_1, hr_2, hf⟩ := bd_some hf
      have hc_3 := cX11_demand_ok (l := l) (B := B) (D := D) (cT := cT) (n := n) (adK := adK) (adV := adV) hl0 ((Or.inr rfl)) hr_2
      refine tx_cV (pc := 26) (tx_si E lmX11_80 mtX11_demand hc_3 rfl rfl (Nat.le_of_ble_eq_true rfl) ⟨(Nat.le_of_ble_eq_true rfl), (Nat.le_of_ble_eq_true rfl)⟩ ⟨(Nat.le_of_ble_eq_true rfl), (Nat.le_of_ble_eq_true rfl)⟩ dX11_bestPush_26) (fun k_4 m_5 hx_6 => ?_) (fun m_5 hx_6 => ?_)
      · subst hx_6; exact tx_out hno hlk (Nat.le_of_ble_eq_true rfl) (Nat.le_of_ble_eq_true rfl) hf
      subst hx_6
      have hf := xb_l hf
      refine tt_aload_n (pc := 29) (i := 0) (j := 0) E dX11_bestPush_29 rfl rfl ?_
      obtain ⟨q_8, hq_9, hf⟩ := bd_some hf
      refine tt_getP (pc := 30) (t := 3) E lfX11_39 rfl rfl h0 dX11_bestPush_30 hq_9 (fun kq_10 => ?_)
      refine tt_aload_n (pc := 33) (i := 0) (j := 0) E dX11_bestPush_33 rfl rfl ?_
      obtain ⟨q_11, hq_12, hf⟩ := bd_some hf
      refine tt_getP (pc := 34) (t := 1) E lfX11_26 rfl rfl h0 dX11_bestPush_34 hq_12 (fun kq_13 => ?_)
      refine tt_iload_n (pc := 37) (i := 1) (j := 1) E dX11_bestPush_37 rfl rfl ?_
      refine tt_iload_n (pc := 38) (i := 2) (j := 2) E dX11_bestPush_38 rfl rfl ?_
      obtain ⟨r_14, hr_15, hf⟩ := bd_some hf
      have hc_16 := cX4_whomToPush_ok (l := l) (B := B) (D := D) (cT := cT) (n := n) (adK := adK) (adV := adV) kq_10 kq_13 hr_15
      refine tt_cI (pc := 39) (tt_vi E lmX11_263 mtX4_whomToPush hc_16 kq_10 rfl rfl (Nat.le_of_ble_eq_true rfl) ⟨(Nat.le_of_ble_eq_true rfl), (Nat.le_of_ble_eq_true rfl)⟩ ⟨(Nat.le_of_ble_eq_true rfl), (Nat.le_of_ble_eq_true rfl)⟩ dX11_bestPush_39) ?_
      exact tx_iret (pc := 42) E hr hlk dX11_bestPush_42 hf
set_option maxHeartbeats 4000000 in
theorem cX11_bestPush_ok {l : Launch} {B : Nat} {D : va_G} {cT : Nat → ClassId} {n : Nat} {adK adV : Nat → Nat} {o0 : Nat} {v1 : Int32} {v2 : Int32} (hl0 : l.stackTraces = false) {μ : Mem} {res : (Int32 ⊕ Nat) × Mem} (h0 : isK n o0 8) (hf : fX11_bestPush o0 v1 v2 μ = some res) : XI l yX11_bestPush cX11_bestPush 3 (some .int) rmX11_bestPush B D cT (XW B adK adV) n [.ref (B + o0), .int v1, .int v2] μ res := by
  refine tx_ofW mtX11_bestPush.1 (Nat.le_of_ble_eq_true rfl) rfl ?_
  intro p e s m below meth c E0 hr hlk hno
  have E : EE p s m _ c cX11_bestPush 3 RX11 B D cT (XW B adK adV) := E0
  unfold fX11_bestPush at hf
  refine tt_iload_n (pc := 0) (i := 1) (j := 1) E dX11_bestPush_0 rfl rfl ?_
  refine tt_if_eq (pc := 1) (tgt := 9) E dX11_bestPush_1 rfl (fun c_2 => ?_) (fun c_2 => ?_)
  · have hf := ip c_2 hf
    exact tX11_bestPush_9 E hr hlk hl0 hno h0 hf
  · have hf := ine c_2 hf
    refine tt_iload_n (pc := 4) (i := 1) (j := 1) E dX11_bestPush_4 rfl rfl ?_
    refine tt_iconst (pc := 5) (v := 1) E dX11_bestPush_5 ic_1 ?_
    refine tt_icmp_ne (pc := 6) (tgt := 25) E dX11_bestPush_6 rfl (fun c_1 => ?_) (fun c_1 => ?_)
    · have hf := ine c_1 hf
      exact tX11_bestPush_25 E hr hlk hl0 hno h0 hf
    · have hf := ip c_1 hf
      exact tX11_bestPush_9 E hr hlk hl0 hno h0 hf
set_option maxHeartbeats 4000000 in
theorem cX11_bestSwap_ok {l : Launch} {B : Nat} {D : va_G} {cT : Nat → ClassId} {n : Nat} {adK adV : Nat → Nat} {o0 : Nat} {v1 : Int32} (hl0 : l.stackTraces = false) {μ : Mem} {res : (Int32 ⊕ Nat) × Mem} (h0 : isK n o0 8) (hf : fX11_bestSwap o0 v1 μ = some res) : XI l yX11_bestSwap cX11_bestSwap 2 (some .int) rmX11_bestSwap B D cT (XW B adK adV) n [.ref (B + o0), .int v1] μ res := by
  refine tx_ofW mtX11_bestSwap.1 (Nat.le_of_ble_eq_true rfl) rfl ?_
  intro p e s m below meth c E0 hr hlk hno
  have E : EE p s m _ c cX11_bestSwap 2 RX11 B D cT (XW B adK adV) := E0
  unfold fX11_bestSwap at hf
  refine tt_aload_n (pc := 0) (i := 0) (j := 0) E dX11_bestSwap_0 rfl rfl ?_
  obtain ⟨q_1, hq_2, hf⟩ := bd_some hf
  refine tt_getP (pc := 1) (t := 3) E lfX11_39 rfl rfl h0 dX11_bestSwap_1 hq_2 (fun kq_3 => ?_)
  refine tt_aload_n (pc := 4) (i := 0) (j := 0) E dX11_bestSwap_4 rfl rfl ?_
  obtain ⟨q_4, hq_5, hf⟩ := bd_some hf
  refine tt_getP (pc := 5) (t := 1) E lfX11_26 rfl rfl h0 dX11_bestSwap_5 hq_5 (fun kq_6 => ?_)
  refine tt_aload_n (pc := 8) (i := 0) (j := 0) E dX11_bestSwap_8 rfl rfl ?_
  refine tt_iload_n (pc := 9) (i := 1) (j := 1) E dX11_bestSwap_9 rfl rfl ?_
  obtain ⟨r_7, hr_8, hf⟩ := bd_some hf
  have hc_9 := cX11_known_ok (l := l) (B := B) (D := D) (cT := cT) (n := n) (adK := adK) (adV := adV) hl0 h0 hr_8
  refine tx_cP (pc := 10) (tx_vi E lmX11_152 mtX11_known hc_9 h0 rfl rfl (Nat.le_of_ble_eq_true rfl) ⟨(Nat.le_of_ble_eq_true rfl), (Nat.le_of_ble_eq_true rfl)⟩ ⟨(Nat.le_of_ble_eq_true rfl), (Nat.le_of_ble_eq_true rfl)⟩ dX11_bestSwap_10) (fun k_10 m_11 hx_12 => ?_) (fun v_13 m_11 hx_12 => ?_)
  · subst hx_12; exact tx_out hno hlk (Nat.le_of_ble_eq_true rfl) (Nat.le_of_ble_eq_true rfl) hf
  obtain ⟨hx_12, hx_12k⟩ := hx_12
  subst hx_12
  have hf := xb_l hf
  obtain ⟨r_14, hr_15, hf⟩ := bd_some hf
  have hc_16 := cX4_withWhomToSwap_ok (l := l) (B := B) (D := D) (cT := cT) (n := n) (adK := adK) (adV := adV) kq_3 kq_6 hx_12k hr_15
  refine tt_cI (pc := 13) (tt_vi E lmX11_267 mtX4_withWhomToSwap hc_16 kq_3 rfl rfl (Nat.le_of_ble_eq_true rfl) ⟨(Nat.le_of_ble_eq_true rfl), (Nat.le_of_ble_eq_true rfl)⟩ ⟨(Nat.le_of_ble_eq_true rfl), (Nat.le_of_ble_eq_true rfl)⟩ dX11_bestSwap_13) ?_
  exact tx_iret (pc := 16) E hr hlk dX11_bestSwap_16 hf
set_option maxHeartbeats 4000000 in
theorem cX11_bestPlace_ok {l : Launch} {B : Nat} {D : va_G} {cT : Nat → ClassId} {n : Nat} {adK adV : Nat → Nat} {o0 : Nat} {v1 : Int32} (hl0 : l.stackTraces = false) {μ : Mem} {res : (Int32 ⊕ Nat) × Mem} (h0 : isK n o0 8) (hf : fX11_bestPlace o0 v1 μ = some res) : XI l yX11_bestPlace cX11_bestPlace 2 (some .int) rmX11_bestPlace B D cT (XW B adK adV) n [.ref (B + o0), .int v1] μ res := by
  refine tx_ofW mtX11_bestPlace.1 (Nat.le_of_ble_eq_true rfl) rfl ?_
  intro p e s m below meth c E0 hr hlk hno
  have E : EE p s m _ c cX11_bestPlace 2 RX11 B D cT (XW B adK adV) := E0
  unfold fX11_bestPlace at hf
  refine tt_aload_n (pc := 0) (i := 0) (j := 0) E dX11_bestPlace_0 rfl rfl ?_
  obtain ⟨q_1, hq_2, hf⟩ := bd_some hf
  refine tt_getP (pc := 1) (t := 3) E lfX11_39 rfl rfl h0 dX11_bestPlace_1 hq_2 (fun kq_3 => ?_)
  refine tt_aload_n (pc := 4) (i := 0) (j := 0) E dX11_bestPlace_4 rfl rfl ?_
  obtain ⟨q_4, hq_5, hf⟩ := bd_some hf
  refine tt_getP (pc := 5) (t := 1) E lfX11_26 rfl rfl h0 dX11_bestPlace_5 hq_5 (fun kq_6 => ?_)
  refine tt_aload_n (pc := 8) (i := 0) (j := 0) E dX11_bestPlace_8 rfl rfl ?_
  refine tt_iload_n (pc := 9) (i := 1) (j := 1) E dX11_bestPlace_9 rfl rfl ?_
  obtain ⟨r_7, hr_8, hf⟩ := bd_some hf
  have hc_9 := cX11_known_ok (l := l) (B := B) (D := D) (cT := cT) (n := n) (adK := adK) (adV := adV) hl0 h0 hr_8
  refine tx_cP (pc := 10) (tx_vi E lmX11_152 mtX11_known hc_9 h0 rfl rfl (Nat.le_of_ble_eq_true rfl) ⟨(Nat.le_of_ble_eq_true rfl), (Nat.le_of_ble_eq_true rfl)⟩ ⟨(Nat.le_of_ble_eq_true rfl), (Nat.le_of_ble_eq_true rfl)⟩ dX11_bestPlace_10) (fun k_10 m_11 hx_12 => ?_) (fun v_13 m_11 hx_12 => ?_)
  · subst hx_12; exact tx_out hno hlk (Nat.le_of_ble_eq_true rfl) (Nat.le_of_ble_eq_true rfl) hf
  obtain ⟨hx_12, hx_12k⟩ := hx_12
  subst hx_12
  have hf := xb_l hf
  obtain ⟨r_14, hr_15, hf⟩ := bd_some hf
  have hc_16 := cX4_whereToStart_ok (l := l) (B := B) (D := D) (cT := cT) (n := n) (adK := adK) (adV := adV) kq_3 kq_6 hx_12k hr_15
  refine tt_cI (pc := 13) (tt_vi E lmX11_270 mtX4_whereToStart hc_16 kq_3 rfl rfl (Nat.le_of_ble_eq_true rfl) ⟨(Nat.le_of_ble_eq_true rfl), (Nat.le_of_ble_eq_true rfl)⟩ ⟨(Nat.le_of_ble_eq_true rfl), (Nat.le_of_ble_eq_true rfl)⟩ dX11_bestPlace_13) ?_
  exact tx_iret (pc := 16) E hr hlk dX11_bestPlace_16 hf
set_option maxHeartbeats 4000000 in
theorem cX11_refuse_ok {l : Launch} {B : Nat} {D : va_G} {cT : Nat → ClassId} {n : Nat} {adK adV : Nat → Nat} {v0 : Int32} (hl0 : l.stackTraces = false) {μ : Mem} {res : (Unit ⊕ Nat) × Mem} (hf : fX11_refuse v0 μ = some res) : XV l yX11_refuse cX11_refuse 1 (none) rmX11_refuse B D cT (XW B adK adV) n [.int v0] μ res := by
  refine tx_ofW mtX11_refuse.1 (Nat.le_of_ble_eq_true rfl) rfl ?_
  intro p e s m below meth c E0 hr hlk hno
  have E : EE p s m _ c cX11_refuse 1 RX11 B D cT (XW B adK adV) := E0
  unfold fX11_refuse at hf
  refine tt_iload_n (pc := 0) (i := 0) (j := 0) E dX11_refuse_0 rfl rfl ?_
  refine tt_iconst (pc := 1) (v := 1) E dX11_refuse_1 ic_1 ?_
  refine tt_icmp_ne (pc := 2) (tgt := 16) E dX11_refuse_2 rfl (fun c_2 => ?_) (fun c_2 => ?_)
  · have hf := ine c_2 hf
    refine tt_iload_n (pc := 16) (i := 0) (j := 0) E dX11_refuse_16 rfl rfl ?_
    refine tt_iconst (pc := 17) (v := 2) E dX11_refuse_17 ic_2 ?_
    refine tt_icmp_ne (pc := 18) (tgt := 32) E dX11_refuse_18 rfl (fun c_1 => ?_) (fun c_1 => ?_)
    · have hf := ine c_1 hf
      exact tx_vret (pc := 32) E hr hlk dX11_refuse_32 hf
    · have hf := ip c_1 hf
      exact tx_throwW (pc := 21) E hl0 twX11_65338 (i := 32) rfl hno hlk dX11_refuse_21 dX11_refuse_24 dX11_refuse_25 dX11_refuse_28 dX11_refuse_31 (Nat.le_of_ble_eq_true rfl) (Nat.le_of_ble_eq_true rfl) (Nat.le_of_ble_eq_true rfl) (Nat.le_of_ble_eq_true rfl) (Nat.le_of_ble_eq_true rfl) (Nat.le_of_ble_eq_true rfl) hf
  · have hf := ip c_2 hf
    exact tx_throwW (pc := 5) E hl0 twX11_147336 (i := 1) rfl hno hlk dX11_refuse_5 dX11_refuse_8 dX11_refuse_9 dX11_refuse_12 dX11_refuse_15 (Nat.le_of_ble_eq_true rfl) (Nat.le_of_ble_eq_true rfl) (Nat.le_of_ble_eq_true rfl) (Nat.le_of_ble_eq_true rfl) (Nat.le_of_ble_eq_true rfl) (Nat.le_of_ble_eq_true rfl) hf
set_option maxHeartbeats 4000000 in
theorem cX11_play_ok {l : Launch} {B : Nat} {D : va_G} {cT : Nat → ClassId} {n : Nat} {adK adV : Nat → Nat} {o0 : Nat} {v1 : Int32} (hl0 : l.stackTraces = false) {μ : Mem} {res : (Int32 ⊕ Nat) × Mem} (h0 : isK n o0 8) (hf : fX11_play o0 v1 μ = some res) : XI l yX11_play cX11_play 2 (some .int) rmX11_play B D cT (XW B adK adV) n [.ref (B + o0), .int v1] μ res := by
  refine tx_ofW mtX11_play.1 (Nat.le_of_ble_eq_true rfl) rfl ?_
  intro p e s m below meth c E0 hr hlk hno
  have E : EE p s m _ c cX11_play 2 RX11 B D cT (XW B adK adV) := E0
  unfold fX11_play at hf
  refine tt_aload_n (pc := 0) (i := 0) (j := 0) E dX11_play_0 rfl rfl ?_
  obtain ⟨q_1, hq_2, hf⟩ := bd_some hf
  refine tt_getP (pc := 1) (t := 1) E lfX11_26 rfl rfl h0 dX11_play_1 hq_2 (fun kq_3 => ?_)
  refine tt_iload_n (pc := 4) (i := 1) (j := 1) E dX11_play_4 rfl rfl ?_
  obtain ⟨r_4, hr_5, hf⟩ := bd_some hf
  have hc_6 := cX2_faultOfPlay_ok (l := l) (B := B) (D := D) (cT := cT) (n := n) (adK := adK) (adV := adV) kq_3 hr_5
  refine tt_cI (pc := 5) (tt_vi E lmX11_273 mtX2_faultOfPlay hc_6 kq_3 rfl rfl (Nat.le_of_ble_eq_true rfl) ⟨(Nat.le_of_ble_eq_true rfl), (Nat.le_of_ble_eq_true rfl)⟩ ⟨(Nat.le_of_ble_eq_true rfl), (Nat.le_of_ble_eq_true rfl)⟩ dX11_play_5) ?_
  obtain ⟨r_7, hr_8, hf⟩ := bd_some hf
  have hc_9 := cX11_refuse_ok (l := l) (B := B) (D := D) (cT := cT) (n := n) (adK := adK) (adV := adV) hl0 hr_8
  refine tx_cV (pc := 8) (tx_si E lmX11_276 mtX11_refuse hc_9 rfl rfl (Nat.le_of_ble_eq_true rfl) ⟨(Nat.le_of_ble_eq_true rfl), (Nat.le_of_ble_eq_true rfl)⟩ ⟨(Nat.le_of_ble_eq_true rfl), (Nat.le_of_ble_eq_true rfl)⟩ dX11_play_8) (fun k_10 m_11 hx_12 => ?_) (fun m_11 hx_12 => ?_)
  · subst hx_12; exact tx_out hno hlk (Nat.le_of_ble_eq_true rfl) (Nat.le_of_ble_eq_true rfl) hf
  subst hx_12
  have hf := xb_l hf
  refine tt_aload_n (pc := 11) (i := 0) (j := 0) E dX11_play_11 rfl rfl ?_
  obtain ⟨q_14, hq_15, hf⟩ := bd_some hf
  refine tt_getP (pc := 12) (t := 4) E lfX11_46 rfl rfl h0 dX11_play_12 hq_15 (fun kq_16 => ?_)
  refine tt_aload_n (pc := 15) (i := 0) (j := 0) E dX11_play_15 rfl rfl ?_
  obtain ⟨q_17, hq_18, hf⟩ := bd_some hf
  refine tt_getP (pc := 16) (t := 1) E lfX11_26 rfl rfl h0 dX11_play_16 hq_18 (fun kq_19 => ?_)
  obtain ⟨r_20, hr_21, hf⟩ := bd_some hf
  have hc_22 := cX5_keep_ok (l := l) (B := B) (D := D) (cT := cT) (n := n) (adK := adK) (adV := adV) kq_16 kq_19 hr_21
  refine tt_cV (pc := 19) (tt_vi E lmX11_107 mtX5_keep hc_22 kq_16 rfl rfl (Nat.le_of_ble_eq_true rfl) ⟨(Nat.le_of_ble_eq_true rfl), (Nat.le_of_ble_eq_true rfl)⟩ ⟨(Nat.le_of_ble_eq_true rfl), (Nat.le_of_ble_eq_true rfl)⟩ dX11_play_19) ?_
  refine tt_aload_n (pc := 22) (i := 0) (j := 0) E dX11_play_22 rfl rfl ?_
  obtain ⟨q_23, hq_24, hf⟩ := bd_some hf
  refine tt_getP (pc := 23) (t := 1) E lfX11_26 rfl rfl h0 dX11_play_23 hq_24 (fun kq_25 => ?_)
  refine tt_iload_n (pc := 26) (i := 1) (j := 1) E dX11_play_26 rfl rfl ?_
  obtain ⟨r_26, hr_27, hf⟩ := bd_some hf
  have hc_28 := cX2_playOn_ok (l := l) (B := B) (D := D) (cT := cT) (n := n) (adK := adK) (adV := adV) kq_25 hr_27
  refine tt_cI (pc := 27) (tt_vi E lmX11_279 mtX2_playOn hc_28 kq_25 rfl rfl (Nat.le_of_ble_eq_true rfl) ⟨(Nat.le_of_ble_eq_true rfl), (Nat.le_of_ble_eq_true rfl)⟩ ⟨(Nat.le_of_ble_eq_true rfl), (Nat.le_of_ble_eq_true rfl)⟩ dX11_play_27) ?_
  exact tx_iret (pc := 30) E hr hlk dX11_play_30 hf
set_option maxHeartbeats 4000000 in
theorem cX11_push_ok {l : Launch} {B : Nat} {D : va_G} {cT : Nat → ClassId} {n : Nat} {adK adV : Nat → Nat} {o0 : Nat} {v1 : Int32} {v2 : Int32} (hl0 : l.stackTraces = false) {μ : Mem} {res : (Int32 ⊕ Nat) × Mem} (h0 : isK n o0 8) (hf : fX11_push o0 v1 v2 μ = some res) : XI l yX11_push cX11_push 4 (some .int) rmX11_push B D cT (XW B adK adV) n [.ref (B + o0), .int v1, .int v2] μ res := by
  refine tx_ofW mtX11_push.1 (Nat.le_of_ble_eq_true rfl) rfl ?_
  intro p e s m below meth c E0 hr hlk hno
  have E : EE p s m _ c cX11_push 4 RX11 B D cT (XW B adK adV) := E0
  unfold fX11_push at hf
  refine tt_aload_n (pc := 0) (i := 0) (j := 0) E dX11_push_0 rfl rfl ?_
  refine tt_iload_n (pc := 1) (i := 1) (j := 1) E dX11_push_1 rfl rfl ?_
  obtain ⟨r_1, hr_2, hf⟩ := bd_some hf
  have hc_3 := cX11_known_ok (l := l) (B := B) (D := D) (cT := cT) (n := n) (adK := adK) (adV := adV) hl0 h0 hr_2
  refine tx_cP (pc := 2) (tx_vi E lmX11_152 mtX11_known hc_3 h0 rfl rfl (Nat.le_of_ble_eq_true rfl) ⟨(Nat.le_of_ble_eq_true rfl), (Nat.le_of_ble_eq_true rfl)⟩ ⟨(Nat.le_of_ble_eq_true rfl), (Nat.le_of_ble_eq_true rfl)⟩ dX11_push_2) (fun k_4 m_5 hx_6 => ?_) (fun v_7 m_5 hx_6 => ?_)
  · subst hx_6; exact tx_out hno hlk (Nat.le_of_ble_eq_true rfl) (Nat.le_of_ble_eq_true rfl) hf
  obtain ⟨hx_6, hx_6k⟩ := hx_6
  subst hx_6
  have hf := xb_l hf
  refine tt_astore_n (pc := 5) (i := 3) (lv' := [(3, .ref (B + v_7)), (0, .ref (B + o0)), (1, .int v1), (2, .int v2)]) E dX11_push_5 rfl (Nat.le_of_ble_eq_true rfl) rfl ?_
  refine tt_aload_n (pc := 6) (i := 3) (j := 0) E dX11_push_6 rfl rfl ?_
  refine tt_iload_n (pc := 7) (i := 2) (j := 3) E dX11_push_7 rfl rfl ?_
  obtain ⟨r_8, hr_9, hf⟩ := bd_some hf
  have hc_10 := cX3_faultOfShift_ok (l := l) (B := B) (D := D) (cT := cT) (n := n) (adK := adK) (adV := adV) hx_6k hr_9
  refine tt_cI (pc := 8) (tt_vi E lmX11_282 mtX3_faultOfShift hc_10 hx_6k rfl rfl (Nat.le_of_ble_eq_true rfl) ⟨(Nat.le_of_ble_eq_true rfl), (Nat.le_of_ble_eq_true rfl)⟩ ⟨(Nat.le_of_ble_eq_true rfl), (Nat.le_of_ble_eq_true rfl)⟩ dX11_push_8) ?_
  obtain ⟨r_11, hr_12, hf⟩ := bd_some hf
  have hc_13 := cX11_refuse_ok (l := l) (B := B) (D := D) (cT := cT) (n := n) (adK := adK) (adV := adV) hl0 hr_12
  refine tx_cV (pc := 11) (tx_si E lmX11_276 mtX11_refuse hc_13 rfl rfl (Nat.le_of_ble_eq_true rfl) ⟨(Nat.le_of_ble_eq_true rfl), (Nat.le_of_ble_eq_true rfl)⟩ ⟨(Nat.le_of_ble_eq_true rfl), (Nat.le_of_ble_eq_true rfl)⟩ dX11_push_11) (fun k_14 m_15 hx_16 => ?_) (fun m_15 hx_16 => ?_)
  · subst hx_16; exact tx_out hno hlk (Nat.le_of_ble_eq_true rfl) (Nat.le_of_ble_eq_true rfl) hf
  subst hx_16
  have hf := xb_l hf
  refine tt_aload_n (pc := 14) (i := 0) (j := 1) E dX11_push_14 rfl rfl ?_
  obtain ⟨q_18, hq_19, hf⟩ := bd_some hf
  refine tt_getP (pc := 15) (t := 4) E lfX11_46 rfl rfl h0 dX11_push_15 hq_19 (fun kq_20 => ?_)
  refine tt_aload_n (pc := 18) (i := 0) (j := 1) E dX11_push_18 rfl rfl ?_
  obtain ⟨q_21, hq_22, hf⟩ := bd_some hf
  refine tt_getP (pc := 19) (t := 1) E lfX11_26 rfl rfl h0 dX11_push_19 hq_22 (fun kq_23 => ?_)
  obtain ⟨r_24, hr_25, hf⟩ := bd_some hf
  have hc_26 := cX5_keep_ok (l := l) (B := B) (D := D) (cT := cT) (n := n) (adK := adK) (adV := adV) kq_20 kq_23 hr_25
  refine tt_cV (pc := 22) (tt_vi E lmX11_107 mtX5_keep hc_26 kq_20 rfl rfl (Nat.le_of_ble_eq_true rfl) ⟨(Nat.le_of_ble_eq_true rfl), (Nat.le_of_ble_eq_true rfl)⟩ ⟨(Nat.le_of_ble_eq_true rfl), (Nat.le_of_ble_eq_true rfl)⟩ dX11_push_22) ?_
  refine tt_aload_n (pc := 25) (i := 3) (j := 0) E dX11_push_25 rfl rfl ?_
  refine tt_iload_n (pc := 26) (i := 2) (j := 3) E dX11_push_26 rfl rfl ?_
  obtain ⟨r_27, hr_28, hf⟩ := bd_some hf
  have hc_29 := cX3_loseGauge_ok (l := l) (B := B) (D := D) (cT := cT) (n := n) (adK := adK) (adV := adV) hx_6k hr_28
  refine tt_cV (pc := 27) (tt_vi E lmX11_285 mtX3_loseGauge hc_29 hx_6k rfl rfl (Nat.le_of_ble_eq_true rfl) ⟨(Nat.le_of_ble_eq_true rfl), (Nat.le_of_ble_eq_true rfl)⟩ ⟨(Nat.le_of_ble_eq_true rfl), (Nat.le_of_ble_eq_true rfl)⟩ dX11_push_27) ?_
  refine tt_aload_n (pc := 30) (i := 3) (j := 0) E dX11_push_30 rfl rfl ?_
  refine tt_getI (pc := 31) E lfX11_170 rfl hx_6k dX11_push_31 ?_
  exact tx_iret (pc := 34) E hr hlk dX11_push_34 hf
set_option maxHeartbeats 4000000 in
theorem cX11_lift_ok {l : Launch} {B : Nat} {D : va_G} {cT : Nat → ClassId} {n : Nat} {adK adV : Nat → Nat} {o0 : Nat} {v1 : Int32} {v2 : Int32} (hl0 : l.stackTraces = false) {μ : Mem} {res : (Int32 ⊕ Nat) × Mem} (h0 : isK n o0 8) (hf : fX11_lift o0 v1 v2 μ = some res) : XI l yX11_lift cX11_lift 4 (some .int) rmX11_lift B D cT (XW B adK adV) n [.ref (B + o0), .int v1, .int v2] μ res := by
  refine tx_ofW mtX11_lift.1 (Nat.le_of_ble_eq_true rfl) rfl ?_
  intro p e s m below meth c E0 hr hlk hno
  have E : EE p s m _ c cX11_lift 4 RX11 B D cT (XW B adK adV) := E0
  unfold fX11_lift at hf
  refine tt_aload_n (pc := 0) (i := 0) (j := 0) E dX11_lift_0 rfl rfl ?_
  refine tt_iload_n (pc := 1) (i := 1) (j := 1) E dX11_lift_1 rfl rfl ?_
  obtain ⟨r_1, hr_2, hf⟩ := bd_some hf
  have hc_3 := cX11_known_ok (l := l) (B := B) (D := D) (cT := cT) (n := n) (adK := adK) (adV := adV) hl0 h0 hr_2
  refine tx_cP (pc := 2) (tx_vi E lmX11_152 mtX11_known hc_3 h0 rfl rfl (Nat.le_of_ble_eq_true rfl) ⟨(Nat.le_of_ble_eq_true rfl), (Nat.le_of_ble_eq_true rfl)⟩ ⟨(Nat.le_of_ble_eq_true rfl), (Nat.le_of_ble_eq_true rfl)⟩ dX11_lift_2) (fun k_4 m_5 hx_6 => ?_) (fun v_7 m_5 hx_6 => ?_)
  · subst hx_6; exact tx_out hno hlk (Nat.le_of_ble_eq_true rfl) (Nat.le_of_ble_eq_true rfl) hf
  obtain ⟨hx_6, hx_6k⟩ := hx_6
  subst hx_6
  have hf := xb_l hf
  refine tt_astore_n (pc := 5) (i := 3) (lv' := [(3, .ref (B + v_7)), (0, .ref (B + o0)), (1, .int v1), (2, .int v2)]) E dX11_lift_5 rfl (Nat.le_of_ble_eq_true rfl) rfl ?_
  refine tt_aload_n (pc := 6) (i := 3) (j := 0) E dX11_lift_6 rfl rfl ?_
  refine tt_iload_n (pc := 7) (i := 2) (j := 3) E dX11_lift_7 rfl rfl ?_
  obtain ⟨r_8, hr_9, hf⟩ := bd_some hf
  have hc_10 := cX3_faultOfShift_ok (l := l) (B := B) (D := D) (cT := cT) (n := n) (adK := adK) (adV := adV) hx_6k hr_9
  refine tt_cI (pc := 8) (tt_vi E lmX11_282 mtX3_faultOfShift hc_10 hx_6k rfl rfl (Nat.le_of_ble_eq_true rfl) ⟨(Nat.le_of_ble_eq_true rfl), (Nat.le_of_ble_eq_true rfl)⟩ ⟨(Nat.le_of_ble_eq_true rfl), (Nat.le_of_ble_eq_true rfl)⟩ dX11_lift_8) ?_
  obtain ⟨r_11, hr_12, hf⟩ := bd_some hf
  have hc_13 := cX11_refuse_ok (l := l) (B := B) (D := D) (cT := cT) (n := n) (adK := adK) (adV := adV) hl0 hr_12
  refine tx_cV (pc := 11) (tx_si E lmX11_276 mtX11_refuse hc_13 rfl rfl (Nat.le_of_ble_eq_true rfl) ⟨(Nat.le_of_ble_eq_true rfl), (Nat.le_of_ble_eq_true rfl)⟩ ⟨(Nat.le_of_ble_eq_true rfl), (Nat.le_of_ble_eq_true rfl)⟩ dX11_lift_11) (fun k_14 m_15 hx_16 => ?_) (fun m_15 hx_16 => ?_)
  · subst hx_16; exact tx_out hno hlk (Nat.le_of_ble_eq_true rfl) (Nat.le_of_ble_eq_true rfl) hf
  subst hx_16
  have hf := xb_l hf
  refine tt_aload_n (pc := 14) (i := 0) (j := 1) E dX11_lift_14 rfl rfl ?_
  obtain ⟨q_18, hq_19, hf⟩ := bd_some hf
  refine tt_getP (pc := 15) (t := 4) E lfX11_46 rfl rfl h0 dX11_lift_15 hq_19 (fun kq_20 => ?_)
  refine tt_aload_n (pc := 18) (i := 0) (j := 1) E dX11_lift_18 rfl rfl ?_
  obtain ⟨q_21, hq_22, hf⟩ := bd_some hf
  refine tt_getP (pc := 19) (t := 1) E lfX11_26 rfl rfl h0 dX11_lift_19 hq_22 (fun kq_23 => ?_)
  obtain ⟨r_24, hr_25, hf⟩ := bd_some hf
  have hc_26 := cX5_keep_ok (l := l) (B := B) (D := D) (cT := cT) (n := n) (adK := adK) (adV := adV) kq_20 kq_23 hr_25
  refine tt_cV (pc := 22) (tt_vi E lmX11_107 mtX5_keep hc_26 kq_20 rfl rfl (Nat.le_of_ble_eq_true rfl) ⟨(Nat.le_of_ble_eq_true rfl), (Nat.le_of_ble_eq_true rfl)⟩ ⟨(Nat.le_of_ble_eq_true rfl), (Nat.le_of_ble_eq_true rfl)⟩ dX11_lift_22) ?_
  refine tt_aload_n (pc := 25) (i := 3) (j := 0) E dX11_lift_25 rfl rfl ?_
  refine tt_iload_n (pc := 26) (i := 2) (j := 3) E dX11_lift_26 rfl rfl ?_
  obtain ⟨r_27, hr_28, hf⟩ := bd_some hf
  have hc_29 := cX3_gainGauge_ok (l := l) (B := B) (D := D) (cT := cT) (n := n) (adK := adK) (adV := adV) hx_6k hr_28
  refine tt_cV (pc := 27) (tt_vi E lmX11_288 mtX3_gainGauge hc_29 hx_6k rfl rfl (Nat.le_of_ble_eq_true rfl) ⟨(Nat.le_of_ble_eq_true rfl), (Nat.le_of_ble_eq_true rfl)⟩ ⟨(Nat.le_of_ble_eq_true rfl), (Nat.le_of_ble_eq_true rfl)⟩ dX11_lift_27) ?_
  refine tt_aload_n (pc := 30) (i := 3) (j := 0) E dX11_lift_30 rfl rfl ?_
  refine tt_getI (pc := 31) E lfX11_170 rfl hx_6k dX11_lift_31 ?_
  exact tx_iret (pc := 34) E hr hlk dX11_lift_34 hf
set_option maxHeartbeats 4000000 in
theorem cX11_extra_ok {l : Launch} {B : Nat} {D : va_G} {cT : Nat → ClassId} {n : Nat} {adK adV : Nat → Nat} {o0 : Nat} {v1 : Int32} (hl0 : l.stackTraces = false) {μ : Mem} {res : (Int32 ⊕ Nat) × Mem} (h0 : isK n o0 8) (hf : fX11_extra o0 v1 μ = some res) : XZ l yX11_extra cX11_extra 3 (some .boolean) rmX11_extra B D cT (XW B adK adV) n [.ref (B + o0), .int v1] μ res := by
  refine tx_ofW mtX11_extra.1 (Nat.le_of_ble_eq_true rfl) rfl ?_
  intro p e s m below meth c E0 hr hlk hno
  have E : EE p s m _ c cX11_extra 3 RX11 B D cT (XW B adK adV) := E0
  unfold fX11_extra at hf
  refine tt_aload_n (pc := 0) (i := 0) (j := 0) E dX11_extra_0 rfl rfl ?_
  refine tt_iload_n (pc := 1) (i := 1) (j := 1) E dX11_extra_1 rfl rfl ?_
  obtain ⟨r_1, hr_2, hf⟩ := bd_some hf
  have hc_3 := cX11_known_ok (l := l) (B := B) (D := D) (cT := cT) (n := n) (adK := adK) (adV := adV) hl0 h0 hr_2
  refine tx_cP (pc := 2) (tx_vi E lmX11_152 mtX11_known hc_3 h0 rfl rfl (Nat.le_of_ble_eq_true rfl) ⟨(Nat.le_of_ble_eq_true rfl), (Nat.le_of_ble_eq_true rfl)⟩ ⟨(Nat.le_of_ble_eq_true rfl), (Nat.le_of_ble_eq_true rfl)⟩ dX11_extra_2) (fun k_4 m_5 hx_6 => ?_) (fun v_7 m_5 hx_6 => ?_)
  · subst hx_6; exact tx_out hno hlk (Nat.le_of_ble_eq_true rfl) (Nat.le_of_ble_eq_true rfl) hf
  obtain ⟨hx_6, hx_6k⟩ := hx_6
  subst hx_6
  have hf := xb_l hf
  refine tt_astore_n (pc := 5) (i := 2) (lv' := [(2, .ref (B + v_7)), (0, .ref (B + o0)), (1, .int v1)]) E dX11_extra_5 rfl (Nat.le_of_ble_eq_true rfl) rfl ?_
  refine tt_aload_n (pc := 6) (i := 2) (j := 0) E dX11_extra_6 rfl rfl ?_
  obtain ⟨r_8, hr_9, hf⟩ := bd_some hf
  have hc_10 := cX3_faultOfExtra_ok (l := l) (B := B) (D := D) (cT := cT) (n := n) (adK := adK) (adV := adV) hx_6k hr_9
  refine tt_cI (pc := 7) (tt_vi E lmX11_291 mtX3_faultOfExtra hc_10 hx_6k rfl rfl (Nat.le_of_ble_eq_true rfl) ⟨(Nat.le_of_ble_eq_true rfl), (Nat.le_of_ble_eq_true rfl)⟩ ⟨(Nat.le_of_ble_eq_true rfl), (Nat.le_of_ble_eq_true rfl)⟩ dX11_extra_7) ?_
  obtain ⟨r_11, hr_12, hf⟩ := bd_some hf
  have hc_13 := cX11_refuse_ok (l := l) (B := B) (D := D) (cT := cT) (n := n) (adK := adK) (adV := adV) hl0 hr_12
  refine tx_cV (pc := 10) (tx_si E lmX11_276 mtX11_refuse hc_13 rfl rfl (Nat.le_of_ble_eq_true rfl) ⟨(Nat.le_of_ble_eq_true rfl), (Nat.le_of_ble_eq_true rfl)⟩ ⟨(Nat.le_of_ble_eq_true rfl), (Nat.le_of_ble_eq_true rfl)⟩ dX11_extra_10) (fun k_14 m_15 hx_16 => ?_) (fun m_15 hx_16 => ?_)
  · subst hx_16; exact tx_out hno hlk (Nat.le_of_ble_eq_true rfl) (Nat.le_of_ble_eq_true rfl) hf
  subst hx_16
  have hf := xb_l hf
  refine tt_aload_n (pc := 13) (i := 2) (j := 0) E dX11_extra_13 rfl rfl ?_
  refine tt_getI (pc := 14) E lfX11_176 rfl hx_6k dX11_extra_14 ?_
  refine tt_iconst (pc := 17) (v := 3) E dX11_extra_17 ic_3 ?_
  refine tt_icmp_lt (pc := 18) (tgt := 23) E dX11_extra_18 rfl (fun c_30 => ?_) (fun c_30 => ?_)
  · have hf := ip c_30 hf
    refine tt_aload_n (pc := 23) (i := 0) (j := 1) E dX11_extra_23 rfl rfl ?_
    obtain ⟨q_18, hq_19, hf⟩ := bd_some hf
    refine tt_getP (pc := 24) (t := 4) E lfX11_46 rfl rfl h0 dX11_extra_24 hq_19 (fun kq_20 => ?_)
    refine tt_aload_n (pc := 27) (i := 0) (j := 1) E dX11_extra_27 rfl rfl ?_
    obtain ⟨q_21, hq_22, hf⟩ := bd_some hf
    refine tt_getP (pc := 28) (t := 1) E lfX11_26 rfl rfl h0 dX11_extra_28 hq_22 (fun kq_23 => ?_)
    obtain ⟨r_24, hr_25, hf⟩ := bd_some hf
    have hc_26 := cX5_keep_ok (l := l) (B := B) (D := D) (cT := cT) (n := n) (adK := adK) (adV := adV) kq_20 kq_23 hr_25
    refine tt_cV (pc := 31) (tt_vi E lmX11_107 mtX5_keep hc_26 kq_20 rfl rfl (Nat.le_of_ble_eq_true rfl) ⟨(Nat.le_of_ble_eq_true rfl), (Nat.le_of_ble_eq_true rfl)⟩ ⟨(Nat.le_of_ble_eq_true rfl), (Nat.le_of_ble_eq_true rfl)⟩ dX11_extra_31) ?_
    refine tt_aload_n (pc := 34) (i := 2) (j := 0) E dX11_extra_34 rfl rfl ?_
    refine tt_iconst (pc := 35) (v := 1) E dX11_extra_35 ic_1 ?_
    obtain ⟨r_27, hr_28, hf⟩ := bd_some hf
    have hc_29 := cX3_gainExtras_ok (l := l) (B := B) (D := D) (cT := cT) (n := n) (adK := adK) (adV := adV) hx_6k hr_28
    refine tt_cV (pc := 36) (tt_vi E lmX11_294 mtX3_gainExtras hc_29 hx_6k rfl rfl (Nat.le_of_ble_eq_true rfl) ⟨(Nat.le_of_ble_eq_true rfl), (Nat.le_of_ble_eq_true rfl)⟩ ⟨(Nat.le_of_ble_eq_true rfl), (Nat.le_of_ble_eq_true rfl)⟩ dX11_extra_36) ?_
    refine tt_iconst (pc := 39) (v := 1) E dX11_extra_39 ic_1 ?_
    exact tx_zret (pc := 40) E ((Or.inr rfl)) hr hlk dX11_extra_40 hf
  · have hf := ine c_30 hf
    refine tt_iconst (pc := 21) (v := 0) E dX11_extra_21 ic_0 ?_
    exact tx_zret (pc := 22) E ((Or.inl rfl)) hr hlk dX11_extra_22 hf
set_option maxHeartbeats 4000000 in
theorem cX11_setSpeed_ok {l : Launch} {B : Nat} {D : va_G} {cT : Nat → ClassId} {n : Nat} {adK adV : Nat → Nat} {o0 : Nat} {v1 : Int32} {v2 : Int32} (hl0 : l.stackTraces = false) {μ : Mem} {res : (Int32 ⊕ Nat) × Mem} (h0 : isK n o0 8) (hf : fX11_setSpeed o0 v1 v2 μ = some res) : XI l yX11_setSpeed cX11_setSpeed 5 (some .int) rmX11_setSpeed B D cT (XW B adK adV) n [.ref (B + o0), .int v1, .int v2] μ res := by
  refine tx_ofW mtX11_setSpeed.1 (Nat.le_of_ble_eq_true rfl) rfl ?_
  intro p e s m below meth c E0 hr hlk hno
  have E : EE p s m _ c cX11_setSpeed 5 RX11 B D cT (XW B adK adV) := E0
  unfold fX11_setSpeed at hf
  refine tt_aload_n (pc := 0) (i := 0) (j := 0) E dX11_setSpeed_0 rfl rfl ?_
  refine tt_iload_n (pc := 1) (i := 1) (j := 1) E dX11_setSpeed_1 rfl rfl ?_
  obtain ⟨r_1, hr_2, hf⟩ := bd_some hf
  have hc_3 := cX11_known_ok (l := l) (B := B) (D := D) (cT := cT) (n := n) (adK := adK) (adV := adV) hl0 h0 hr_2
  refine tx_cP (pc := 2) (tx_vi E lmX11_152 mtX11_known hc_3 h0 rfl rfl (Nat.le_of_ble_eq_true rfl) ⟨(Nat.le_of_ble_eq_true rfl), (Nat.le_of_ble_eq_true rfl)⟩ ⟨(Nat.le_of_ble_eq_true rfl), (Nat.le_of_ble_eq_true rfl)⟩ dX11_setSpeed_2) (fun k_4 m_5 hx_6 => ?_) (fun v_7 m_5 hx_6 => ?_)
  · subst hx_6; exact tx_out hno hlk (Nat.le_of_ble_eq_true rfl) (Nat.le_of_ble_eq_true rfl) hf
  obtain ⟨hx_6, hx_6k⟩ := hx_6
  subst hx_6
  have hf := xb_l hf
  refine tt_astore_n (pc := 5) (i := 3) (lv' := [(3, .ref (B + v_7)), (0, .ref (B + o0)), (1, .int v1), (2, .int v2)]) E dX11_setSpeed_5 rfl (Nat.le_of_ble_eq_true rfl) rfl ?_
  refine tt_aload_n (pc := 6) (i := 3) (j := 0) E dX11_setSpeed_6 rfl rfl ?_
  refine tt_iload_n (pc := 7) (i := 2) (j := 3) E dX11_setSpeed_7 rfl rfl ?_
  obtain ⟨r_8, hr_9, hf⟩ := bd_some hf
  have hc_10 := cX3_faultOfSpeed_ok (l := l) (B := B) (D := D) (cT := cT) (n := n) (adK := adK) (adV := adV) hx_6k hr_9
  refine tt_cI (pc := 8) (tt_vi E lmX11_297 mtX3_faultOfSpeed hc_10 hx_6k rfl rfl (Nat.le_of_ble_eq_true rfl) ⟨(Nat.le_of_ble_eq_true rfl), (Nat.le_of_ble_eq_true rfl)⟩ ⟨(Nat.le_of_ble_eq_true rfl), (Nat.le_of_ble_eq_true rfl)⟩ dX11_setSpeed_8) ?_
  obtain ⟨r_11, hr_12, hf⟩ := bd_some hf
  have hc_13 := cX11_refuse_ok (l := l) (B := B) (D := D) (cT := cT) (n := n) (adK := adK) (adV := adV) hl0 hr_12
  refine tx_cV (pc := 11) (tx_si E lmX11_276 mtX11_refuse hc_13 rfl rfl (Nat.le_of_ble_eq_true rfl) ⟨(Nat.le_of_ble_eq_true rfl), (Nat.le_of_ble_eq_true rfl)⟩ ⟨(Nat.le_of_ble_eq_true rfl), (Nat.le_of_ble_eq_true rfl)⟩ dX11_setSpeed_11) (fun k_14 m_15 hx_16 => ?_) (fun m_15 hx_16 => ?_)
  · subst hx_16; exact tx_out hno hlk (Nat.le_of_ble_eq_true rfl) (Nat.le_of_ble_eq_true rfl) hf
  subst hx_16
  have hf := xb_l hf
  refine tt_aload_n (pc := 14) (i := 0) (j := 1) E dX11_setSpeed_14 rfl rfl ?_
  obtain ⟨q_18, hq_19, hf⟩ := bd_some hf
  refine tt_getP (pc := 15) (t := 4) E lfX11_46 rfl rfl h0 dX11_setSpeed_15 hq_19 (fun kq_20 => ?_)
  refine tt_aload_n (pc := 18) (i := 0) (j := 1) E dX11_setSpeed_18 rfl rfl ?_
  obtain ⟨q_21, hq_22, hf⟩ := bd_some hf
  refine tt_getP (pc := 19) (t := 1) E lfX11_26 rfl rfl h0 dX11_setSpeed_19 hq_22 (fun kq_23 => ?_)
  obtain ⟨r_24, hr_25, hf⟩ := bd_some hf
  have hc_26 := cX5_keep_ok (l := l) (B := B) (D := D) (cT := cT) (n := n) (adK := adK) (adV := adV) kq_20 kq_23 hr_25
  refine tt_cV (pc := 22) (tt_vi E lmX11_107 mtX5_keep hc_26 kq_20 rfl rfl (Nat.le_of_ble_eq_true rfl) ⟨(Nat.le_of_ble_eq_true rfl), (Nat.le_of_ble_eq_true rfl)⟩ ⟨(Nat.le_of_ble_eq_true rfl), (Nat.le_of_ble_eq_true rfl)⟩ dX11_setSpeed_22) ?_
  refine tt_aload_n (pc := 25) (i := 3) (j := 0) E dX11_setSpeed_25 rfl rfl ?_
  refine tt_getI (pc := 26) E lfX11_161 rfl hx_6k dX11_setSpeed_26 ?_
  refine tt_nmI hf (fun v_27 hf => ?_)
  refine tt_istore (pc := 29) (i := 4) (lv' := [(4, .int v_27), (3, .ref (B + v_7)), (0, .ref (B + o0)), (1, .int v1), (2, .int v2)]) E dX11_setSpeed_29 (Nat.le_of_ble_eq_true rfl) rfl ?_
  refine tt_aload_n (pc := 31) (i := 3) (j := 1) E dX11_setSpeed_31 rfl rfl ?_
  refine tt_iload_n (pc := 32) (i := 2) (j := 4) E dX11_setSpeed_32 rfl rfl ?_
  refine tt_putI (pc := 33) E lfX11_161 rfl hx_6k dX11_setSpeed_33 (tt_nmM hf (fun m_28 hf => ?_))
  refine tt_iload (pc := 36) (i := 4) (j := 0) E dX11_setSpeed_36 rfl ?_
  exact tx_iret (pc := 38) E hr hlk dX11_setSpeed_38 hf
set_option maxHeartbeats 4000000 in
theorem cX11_heal_ok {l : Launch} {B : Nat} {D : va_G} {cT : Nat → ClassId} {n : Nat} {adK adV : Nat → Nat} {o0 : Nat} {v1 : Int32} {v2 : Int32} (hl0 : l.stackTraces = false) {μ : Mem} {res : (Int32 ⊕ Nat) × Mem} (h0 : isK n o0 8) (hf : fX11_heal o0 v1 v2 μ = some res) : XI l yX11_heal cX11_heal 4 (some .int) rmX11_heal B D cT (XW B adK adV) n [.ref (B + o0), .int v1, .int v2] μ res := by
  refine tx_ofW mtX11_heal.1 (Nat.le_of_ble_eq_true rfl) rfl ?_
  intro p e s m below meth c E0 hr hlk hno
  have E : EE p s m _ c cX11_heal 4 RX11 B D cT (XW B adK adV) := E0
  unfold fX11_heal at hf
  refine tt_aload_n (pc := 0) (i := 0) (j := 0) E dX11_heal_0 rfl rfl ?_
  refine tt_iload_n (pc := 1) (i := 1) (j := 1) E dX11_heal_1 rfl rfl ?_
  obtain ⟨r_1, hr_2, hf⟩ := bd_some hf
  have hc_3 := cX11_known_ok (l := l) (B := B) (D := D) (cT := cT) (n := n) (adK := adK) (adV := adV) hl0 h0 hr_2
  refine tx_cP (pc := 2) (tx_vi E lmX11_152 mtX11_known hc_3 h0 rfl rfl (Nat.le_of_ble_eq_true rfl) ⟨(Nat.le_of_ble_eq_true rfl), (Nat.le_of_ble_eq_true rfl)⟩ ⟨(Nat.le_of_ble_eq_true rfl), (Nat.le_of_ble_eq_true rfl)⟩ dX11_heal_2) (fun k_4 m_5 hx_6 => ?_) (fun v_7 m_5 hx_6 => ?_)
  · subst hx_6; exact tx_out hno hlk (Nat.le_of_ble_eq_true rfl) (Nat.le_of_ble_eq_true rfl) hf
  obtain ⟨hx_6, hx_6k⟩ := hx_6
  subst hx_6
  have hf := xb_l hf
  refine tt_astore_n (pc := 5) (i := 3) (lv' := [(3, .ref (B + v_7)), (0, .ref (B + o0)), (1, .int v1), (2, .int v2)]) E dX11_heal_5 rfl (Nat.le_of_ble_eq_true rfl) rfl ?_
  refine tt_aload_n (pc := 6) (i := 3) (j := 0) E dX11_heal_6 rfl rfl ?_
  refine tt_iload_n (pc := 7) (i := 2) (j := 3) E dX11_heal_7 rfl rfl ?_
  obtain ⟨r_8, hr_9, hf⟩ := bd_some hf
  have hc_10 := cX3_faultOfHeal_ok (l := l) (B := B) (D := D) (cT := cT) (n := n) (adK := adK) (adV := adV) hx_6k hr_9
  refine tt_cI (pc := 8) (tt_vi E lmX11_300 mtX3_faultOfHeal hc_10 hx_6k rfl rfl (Nat.le_of_ble_eq_true rfl) ⟨(Nat.le_of_ble_eq_true rfl), (Nat.le_of_ble_eq_true rfl)⟩ ⟨(Nat.le_of_ble_eq_true rfl), (Nat.le_of_ble_eq_true rfl)⟩ dX11_heal_8) ?_
  obtain ⟨r_11, hr_12, hf⟩ := bd_some hf
  have hc_13 := cX11_refuse_ok (l := l) (B := B) (D := D) (cT := cT) (n := n) (adK := adK) (adV := adV) hl0 hr_12
  refine tx_cV (pc := 11) (tx_si E lmX11_276 mtX11_refuse hc_13 rfl rfl (Nat.le_of_ble_eq_true rfl) ⟨(Nat.le_of_ble_eq_true rfl), (Nat.le_of_ble_eq_true rfl)⟩ ⟨(Nat.le_of_ble_eq_true rfl), (Nat.le_of_ble_eq_true rfl)⟩ dX11_heal_11) (fun k_14 m_15 hx_16 => ?_) (fun m_15 hx_16 => ?_)
  · subst hx_16; exact tx_out hno hlk (Nat.le_of_ble_eq_true rfl) (Nat.le_of_ble_eq_true rfl) hf
  subst hx_16
  have hf := xb_l hf
  refine tt_aload_n (pc := 14) (i := 0) (j := 1) E dX11_heal_14 rfl rfl ?_
  obtain ⟨q_18, hq_19, hf⟩ := bd_some hf
  refine tt_getP (pc := 15) (t := 4) E lfX11_46 rfl rfl h0 dX11_heal_15 hq_19 (fun kq_20 => ?_)
  refine tt_aload_n (pc := 18) (i := 0) (j := 1) E dX11_heal_18 rfl rfl ?_
  obtain ⟨q_21, hq_22, hf⟩ := bd_some hf
  refine tt_getP (pc := 19) (t := 1) E lfX11_26 rfl rfl h0 dX11_heal_19 hq_22 (fun kq_23 => ?_)
  obtain ⟨r_24, hr_25, hf⟩ := bd_some hf
  have hc_26 := cX5_keep_ok (l := l) (B := B) (D := D) (cT := cT) (n := n) (adK := adK) (adV := adV) kq_20 kq_23 hr_25
  refine tt_cV (pc := 22) (tt_vi E lmX11_107 mtX5_keep hc_26 kq_20 rfl rfl (Nat.le_of_ble_eq_true rfl) ⟨(Nat.le_of_ble_eq_true rfl), (Nat.le_of_ble_eq_true rfl)⟩ ⟨(Nat.le_of_ble_eq_true rfl), (Nat.le_of_ble_eq_true rfl)⟩ dX11_heal_22) ?_
  refine tt_aload_n (pc := 25) (i := 3) (j := 0) E dX11_heal_25 rfl rfl ?_
  refine tt_iload_n (pc := 26) (i := 2) (j := 3) E dX11_heal_26 rfl rfl ?_
  obtain ⟨r_27, hr_28, hf⟩ := bd_some hf
  have hc_29 := cX3_gainLife_ok (l := l) (B := B) (D := D) (cT := cT) (n := n) (adK := adK) (adV := adV) hx_6k hr_28
  refine tt_cV (pc := 27) (tt_vi E lmX11_303 mtX3_gainLife hc_29 hx_6k rfl rfl (Nat.le_of_ble_eq_true rfl) ⟨(Nat.le_of_ble_eq_true rfl), (Nat.le_of_ble_eq_true rfl)⟩ ⟨(Nat.le_of_ble_eq_true rfl), (Nat.le_of_ble_eq_true rfl)⟩ dX11_heal_27) ?_
  refine tt_aload_n (pc := 30) (i := 3) (j := 0) E dX11_heal_30 rfl rfl ?_
  refine tt_getI (pc := 31) E lfX11_164 rfl hx_6k dX11_heal_31 ?_
  exact tx_iret (pc := 34) E hr hlk dX11_heal_34 hf
set_option maxHeartbeats 4000000 in
theorem cX11_setWheel_ok {l : Launch} {B : Nat} {D : va_G} {cT : Nat → ClassId} {n : Nat} {adK adV : Nat → Nat} {o0 : Nat} {v1 : Int32} (hl0 : l.stackTraces = false) {μ : Mem} {res : (Int32 ⊕ Nat) × Mem} (h0 : isK n o0 8) (hf : fX11_setWheel o0 v1 μ = some res) : XI l yX11_setWheel cX11_setWheel 3 (some .int) rmX11_setWheel B D cT (XW B adK adV) n [.ref (B + o0), .int v1] μ res := by
  refine tx_ofW mtX11_setWheel.1 (Nat.le_of_ble_eq_true rfl) rfl ?_
  intro p e s m below meth c E0 hr hlk hno
  have E : EE p s m _ c cX11_setWheel 3 RX11 B D cT (XW B adK adV) := E0
  unfold fX11_setWheel at hf
  refine tt_aload_n (pc := 0) (i := 0) (j := 0) E dX11_setWheel_0 rfl rfl ?_
  obtain ⟨q_1, hq_2, hf⟩ := bd_some hf
  refine tt_getP (pc := 1) (t := 1) E lfX11_26 rfl rfl h0 dX11_setWheel_1 hq_2 (fun kq_3 => ?_)
  refine tt_iload_n (pc := 4) (i := 1) (j := 1) E dX11_setWheel_4 rfl rfl ?_
  obtain ⟨r_4, hr_5, hf⟩ := bd_some hf
  have hc_6 := cX2_faultOfWheel_ok (l := l) (B := B) (D := D) (cT := cT) (n := n) (adK := adK) (adV := adV) kq_3 hr_5
  refine tt_cI (pc := 5) (tt_vi E lmX11_306 mtX2_faultOfWheel hc_6 kq_3 rfl rfl (Nat.le_of_ble_eq_true rfl) ⟨(Nat.le_of_ble_eq_true rfl), (Nat.le_of_ble_eq_true rfl)⟩ ⟨(Nat.le_of_ble_eq_true rfl), (Nat.le_of_ble_eq_true rfl)⟩ dX11_setWheel_5) ?_
  obtain ⟨r_7, hr_8, hf⟩ := bd_some hf
  have hc_9 := cX11_refuse_ok (l := l) (B := B) (D := D) (cT := cT) (n := n) (adK := adK) (adV := adV) hl0 hr_8
  refine tx_cV (pc := 8) (tx_si E lmX11_276 mtX11_refuse hc_9 rfl rfl (Nat.le_of_ble_eq_true rfl) ⟨(Nat.le_of_ble_eq_true rfl), (Nat.le_of_ble_eq_true rfl)⟩ ⟨(Nat.le_of_ble_eq_true rfl), (Nat.le_of_ble_eq_true rfl)⟩ dX11_setWheel_8) (fun k_10 m_11 hx_12 => ?_) (fun m_11 hx_12 => ?_)
  · subst hx_12; exact tx_out hno hlk (Nat.le_of_ble_eq_true rfl) (Nat.le_of_ble_eq_true rfl) hf
  subst hx_12
  have hf := xb_l hf
  refine tt_aload_n (pc := 11) (i := 0) (j := 0) E dX11_setWheel_11 rfl rfl ?_
  obtain ⟨q_14, hq_15, hf⟩ := bd_some hf
  refine tt_getP (pc := 12) (t := 4) E lfX11_46 rfl rfl h0 dX11_setWheel_12 hq_15 (fun kq_16 => ?_)
  refine tt_aload_n (pc := 15) (i := 0) (j := 0) E dX11_setWheel_15 rfl rfl ?_
  obtain ⟨q_17, hq_18, hf⟩ := bd_some hf
  refine tt_getP (pc := 16) (t := 1) E lfX11_26 rfl rfl h0 dX11_setWheel_16 hq_18 (fun kq_19 => ?_)
  obtain ⟨r_20, hr_21, hf⟩ := bd_some hf
  have hc_22 := cX5_keep_ok (l := l) (B := B) (D := D) (cT := cT) (n := n) (adK := adK) (adV := adV) kq_16 kq_19 hr_21
  refine tt_cV (pc := 19) (tt_vi E lmX11_107 mtX5_keep hc_22 kq_16 rfl rfl (Nat.le_of_ble_eq_true rfl) ⟨(Nat.le_of_ble_eq_true rfl), (Nat.le_of_ble_eq_true rfl)⟩ ⟨(Nat.le_of_ble_eq_true rfl), (Nat.le_of_ble_eq_true rfl)⟩ dX11_setWheel_19) ?_
  refine tt_aload_n (pc := 22) (i := 0) (j := 0) E dX11_setWheel_22 rfl rfl ?_
  obtain ⟨q_23, hq_24, hf⟩ := bd_some hf
  refine tt_getP (pc := 23) (t := 1) E lfX11_26 rfl rfl h0 dX11_setWheel_23 hq_24 (fun kq_25 => ?_)
  refine tt_getI (pc := 26) E lfX11_120 rfl kq_25 dX11_setWheel_26 ?_
  refine tt_nmI hf (fun v_26 hf => ?_)
  refine tt_istore_n (pc := 29) (i := 2) (lv' := [(2, .int v_26), (0, .ref (B + o0)), (1, .int v1)]) E dX11_setWheel_29 rfl (Nat.le_of_ble_eq_true rfl) rfl ?_
  refine tt_aload_n (pc := 30) (i := 0) (j := 1) E dX11_setWheel_30 rfl rfl ?_
  obtain ⟨q_27, hq_28, hf⟩ := bd_some hf
  refine tt_getP (pc := 31) (t := 1) E lfX11_26 rfl rfl h0 dX11_setWheel_31 hq_28 (fun kq_29 => ?_)
  refine tt_iload_n (pc := 34) (i := 1) (j := 2) E dX11_setWheel_34 rfl rfl ?_
  refine tt_putI (pc := 35) E lfX11_120 rfl kq_29 dX11_setWheel_35 (tt_nmM hf (fun m_30 hf => ?_))
  refine tt_iload_n (pc := 38) (i := 2) (j := 0) E dX11_setWheel_38 rfl rfl ?_
  exact tx_iret (pc := 39) E hr hlk dX11_setWheel_39 hf
set_option maxHeartbeats 4000000 in
theorem cX11_setAct_ok {l : Launch} {B : Nat} {D : va_G} {cT : Nat → ClassId} {n : Nat} {adK adV : Nat → Nat} {o0 : Nat} {v1 : Int32} {v2 : Int32} {v3 : Int32} {v4 : Int32} (hl0 : l.stackTraces = false) {μ : Mem} {res : (Int32 ⊕ Nat) × Mem} (h0 : isK n o0 8) (hf : fX11_setAct o0 v1 v2 v3 v4 μ = some res) : XI l yX11_setAct cX11_setAct 7 (some .int) rmX11_setAct B D cT (XW B adK adV) n [.ref (B + o0), .int v1, .int v2, .int v3, .int v4] μ res := by
  refine tx_ofW mtX11_setAct.1 (Nat.le_of_ble_eq_true rfl) rfl ?_
  intro p e s m below meth c E0 hr hlk hno
  have E : EE p s m _ c cX11_setAct 7 RX11 B D cT (XW B adK adV) := E0
  unfold fX11_setAct at hf
  refine tt_aload_n (pc := 0) (i := 0) (j := 0) E dX11_setAct_0 rfl rfl ?_
  refine tt_iload_n (pc := 1) (i := 1) (j := 1) E dX11_setAct_1 rfl rfl ?_
  obtain ⟨r_1, hr_2, hf⟩ := bd_some hf
  have hc_3 := cX11_known_ok (l := l) (B := B) (D := D) (cT := cT) (n := n) (adK := adK) (adV := adV) hl0 h0 hr_2
  refine tx_cP (pc := 2) (tx_vi E lmX11_152 mtX11_known hc_3 h0 rfl rfl (Nat.le_of_ble_eq_true rfl) ⟨(Nat.le_of_ble_eq_true rfl), (Nat.le_of_ble_eq_true rfl)⟩ ⟨(Nat.le_of_ble_eq_true rfl), (Nat.le_of_ble_eq_true rfl)⟩ dX11_setAct_2) (fun k_4 m_5 hx_6 => ?_) (fun v_7 m_5 hx_6 => ?_)
  · subst hx_6; exact tx_out hno hlk (Nat.le_of_ble_eq_true rfl) (Nat.le_of_ble_eq_true rfl) hf
  obtain ⟨hx_6, hx_6k⟩ := hx_6
  subst hx_6
  have hf := xb_l hf
  refine tt_astore (pc := 5) (i := 5) (lv' := [(5, .ref (B + v_7)), (0, .ref (B + o0)), (1, .int v1), (2, .int v2), (3, .int v3), (4, .int v4)]) E dX11_setAct_5 (Nat.le_of_ble_eq_true rfl) rfl ?_
  refine tt_aload (pc := 7) (i := 5) (j := 0) E dX11_setAct_7 rfl ?_
  refine tt_iload_n (pc := 9) (i := 2) (j := 3) E dX11_setAct_9 rfl rfl ?_
  refine tt_iload_n (pc := 10) (i := 3) (j := 4) E dX11_setAct_10 rfl rfl ?_
  refine tt_iload (pc := 11) (i := 4) (j := 5) E dX11_setAct_11 rfl ?_
  obtain ⟨r_8, hr_9, hf⟩ := bd_some hf
  have hc_10 := cX3_faultOfAct_ok (l := l) (B := B) (D := D) (cT := cT) (n := n) (adK := adK) (adV := adV) hx_6k hr_9
  refine tt_cI (pc := 13) (tt_vi E lmX11_309 mtX3_faultOfAct hc_10 hx_6k rfl rfl (Nat.le_of_ble_eq_true rfl) ⟨(Nat.le_of_ble_eq_true rfl), (Nat.le_of_ble_eq_true rfl)⟩ ⟨(Nat.le_of_ble_eq_true rfl), (Nat.le_of_ble_eq_true rfl)⟩ dX11_setAct_13) ?_
  obtain ⟨r_11, hr_12, hf⟩ := bd_some hf
  have hc_13 := cX11_refuse_ok (l := l) (B := B) (D := D) (cT := cT) (n := n) (adK := adK) (adV := adV) hl0 hr_12
  refine tx_cV (pc := 16) (tx_si E lmX11_276 mtX11_refuse hc_13 rfl rfl (Nat.le_of_ble_eq_true rfl) ⟨(Nat.le_of_ble_eq_true rfl), (Nat.le_of_ble_eq_true rfl)⟩ ⟨(Nat.le_of_ble_eq_true rfl), (Nat.le_of_ble_eq_true rfl)⟩ dX11_setAct_16) (fun k_14 m_15 hx_16 => ?_) (fun m_15 hx_16 => ?_)
  · subst hx_16; exact tx_out hno hlk (Nat.le_of_ble_eq_true rfl) (Nat.le_of_ble_eq_true rfl) hf
  subst hx_16
  have hf := xb_l hf
  refine tt_aload_n (pc := 19) (i := 0) (j := 1) E dX11_setAct_19 rfl rfl ?_
  obtain ⟨q_18, hq_19, hf⟩ := bd_some hf
  refine tt_getP (pc := 20) (t := 4) E lfX11_46 rfl rfl h0 dX11_setAct_20 hq_19 (fun kq_20 => ?_)
  refine tt_aload_n (pc := 23) (i := 0) (j := 1) E dX11_setAct_23 rfl rfl ?_
  obtain ⟨q_21, hq_22, hf⟩ := bd_some hf
  refine tt_getP (pc := 24) (t := 1) E lfX11_26 rfl rfl h0 dX11_setAct_24 hq_22 (fun kq_23 => ?_)
  obtain ⟨r_24, hr_25, hf⟩ := bd_some hf
  have hc_26 := cX5_keep_ok (l := l) (B := B) (D := D) (cT := cT) (n := n) (adK := adK) (adV := adV) kq_20 kq_23 hr_25
  refine tt_cV (pc := 27) (tt_vi E lmX11_107 mtX5_keep hc_26 kq_20 rfl rfl (Nat.le_of_ble_eq_true rfl) ⟨(Nat.le_of_ble_eq_true rfl), (Nat.le_of_ble_eq_true rfl)⟩ ⟨(Nat.le_of_ble_eq_true rfl), (Nat.le_of_ble_eq_true rfl)⟩ dX11_setAct_27) ?_
  refine tt_aload (pc := 30) (i := 5) (j := 0) E dX11_setAct_30 rfl ?_
  refine tt_iload_n (pc := 32) (i := 2) (j := 3) E dX11_setAct_32 rfl rfl ?_
  obtain ⟨r_27, hr_28, hf⟩ := bd_some hf
  have hc_29 := cX3_kindAt_ok (l := l) (B := B) (D := D) (cT := cT) (n := n) (adK := adK) (adV := adV) hx_6k hr_28
  refine tt_cI (pc := 33) (tt_vi E lmX11_194 mtX3_kindAt hc_29 hx_6k rfl rfl (Nat.le_of_ble_eq_true rfl) ⟨(Nat.le_of_ble_eq_true rfl), (Nat.le_of_ble_eq_true rfl)⟩ ⟨(Nat.le_of_ble_eq_true rfl), (Nat.le_of_ble_eq_true rfl)⟩ dX11_setAct_33) ?_
  refine tt_istore (pc := 36) (i := 6) (lv' := [(6, .int r_27), (5, .ref (B + v_7)), (0, .ref (B + o0)), (1, .int v1), (2, .int v2), (3, .int v3), (4, .int v4)]) E dX11_setAct_36 (Nat.le_of_ble_eq_true rfl) rfl ?_
  refine tt_aload (pc := 38) (i := 5) (j := 1) E dX11_setAct_38 rfl ?_
  refine tt_iload_n (pc := 40) (i := 2) (j := 4) E dX11_setAct_40 rfl rfl ?_
  refine tt_iload_n (pc := 41) (i := 3) (j := 5) E dX11_setAct_41 rfl rfl ?_
  refine tt_iload (pc := 42) (i := 4) (j := 6) E dX11_setAct_42 rfl ?_
  obtain ⟨r_30, hr_31, hf⟩ := bd_some hf
  have hc_32 := cX3_putAct_ok (l := l) (B := B) (D := D) (cT := cT) (n := n) (adK := adK) (adV := adV) hx_6k hr_31
  refine tt_cV (pc := 44) (tt_vi E lmX11_313 mtX3_putAct hc_32 hx_6k rfl rfl (Nat.le_of_ble_eq_true rfl) ⟨(Nat.le_of_ble_eq_true rfl), (Nat.le_of_ble_eq_true rfl)⟩ ⟨(Nat.le_of_ble_eq_true rfl), (Nat.le_of_ble_eq_true rfl)⟩ dX11_setAct_44) ?_
  refine tt_iload (pc := 47) (i := 6) (j := 0) E dX11_setAct_47 rfl ?_
  exact tx_iret (pc := 49) E hr hlk dX11_setAct_49 hf
set_option maxHeartbeats 4000000 in
theorem cX11_report_ok {l : Launch} {B : Nat} {D : va_G} {cT : Nat → ClassId} {n : Nat} {adK adV : Nat → Nat} {o0 : Nat} {μ : Mem} {res : Int32 × Mem} (h0 : isK n o0 8) (hf : fX11_report o0 μ = some res) : MI l yX11_report cX11_report 1 (some .int) rmX11_report B D cT (XW B adK adV) n [.ref (B + o0)] μ res := by
  refine tt_ofW mtX11_report.1 (Nat.le_of_ble_eq_true rfl) rfl ?_
  intro p e s m below meth c E0 hr hlk
  have E : EE p s m _ c cX11_report 1 RX11 B D cT (XW B adK adV) := E0
  unfold fX11_report at hf
  refine tt_aload_n (pc := 0) (i := 0) (j := 0) E dX11_report_0 rfl rfl ?_
  obtain ⟨q_1, hq_2, hf⟩ := bd_some hf
  refine tt_getP (pc := 1) (t := 6) E lfX11_53 rfl rfl h0 dX11_report_1 hq_2 (fun kq_3 => ?_)
  refine tt_aload_n (pc := 4) (i := 0) (j := 0) E dX11_report_4 rfl rfl ?_
  obtain ⟨q_4, hq_5, hf⟩ := bd_some hf
  refine tt_getP (pc := 5) (t := 1) E lfX11_26 rfl rfl h0 dX11_report_5 hq_5 (fun kq_6 => ?_)
  refine tt_aload_n (pc := 8) (i := 0) (j := 0) E dX11_report_8 rfl rfl ?_
  obtain ⟨q_7, hq_8, hf⟩ := bd_some hf
  refine tt_getP (pc := 9) (t := 3) E lfX11_39 rfl rfl h0 dX11_report_9 hq_8 (fun kq_9 => ?_)
  refine tt_aload_n (pc := 12) (i := 0) (j := 0) E dX11_report_12 rfl rfl ?_
  obtain ⟨q_10, hq_11, hf⟩ := bd_some hf
  refine tt_getP (pc := 13) (t := 1) E lfX11_26 rfl rfl h0 dX11_report_13 hq_11 (fun kq_12 => ?_)
  refine tt_iconst (pc := 16) (v := 0) E dX11_report_16 ic_0 ?_
  obtain ⟨r_13, hr_14, hf⟩ := bd_some hf
  have hc_15 := cX4_actorOf_ok (l := l) (B := B) (D := D) (cT := cT) (n := n) (adK := adK) (adV := adV) kq_9 kq_12 hr_14
  refine tt_cP (pc := 17) (tt_vi E lmX11_222 mtX4_actorOf hc_15 kq_9 rfl rfl (Nat.le_of_ble_eq_true rfl) ⟨(Nat.le_of_ble_eq_true rfl), (Nat.le_of_ble_eq_true rfl)⟩ ⟨(Nat.le_of_ble_eq_true rfl), (Nat.le_of_ble_eq_true rfl)⟩ dX11_report_17) (fun kq_16 => ?_)
  refine tt_getI (pc := 20) E lfX11_216 rfl kq_16 dX11_report_20 ?_
  obtain ⟨r_17, hr_18, hf⟩ := bd_some hf
  have hc_19 := cX7_write_ok (l := l) (B := B) (D := D) (cT := cT) (n := n) (adK := adK) (adV := adV) kq_3 kq_6 hr_18
  refine tt_cV (pc := 23) (tt_vi E lmX11_317 mtX7_write hc_19 kq_3 rfl rfl (Nat.le_of_ble_eq_true rfl) ⟨(Nat.le_of_ble_eq_true rfl), (Nat.le_of_ble_eq_true rfl)⟩ ⟨(Nat.le_of_ble_eq_true rfl), (Nat.le_of_ble_eq_true rfl)⟩ dX11_report_23) ?_
  refine tt_aload_n (pc := 26) (i := 0) (j := 0) E dX11_report_26 rfl rfl ?_
  obtain ⟨q_20, hq_21, hf⟩ := bd_some hf
  refine tt_getP (pc := 27) (t := 6) E lfX11_53 rfl rfl h0 dX11_report_27 hq_21 (fun kq_22 => ?_)
  refine tt_getI (pc := 30) E lfX11_321 rfl kq_22 dX11_report_30 ?_
  exact tt_iret (pc := 33) E hr hlk dX11_report_33 (Nat.le_of_ble_eq_true rfl) (Nat.le_of_ble_eq_true rfl) hf
set_option maxHeartbeats 4000000 in
theorem cX11_reportByte_ok {l : Launch} {B : Nat} {D : va_G} {cT : Nat → ClassId} {n : Nat} {adK adV : Nat → Nat} {o0 : Nat} {v1 : Int32} (hl0 : l.stackTraces = false) {μ : Mem} {res : (Int32 ⊕ Nat) × Mem} (h0 : isK n o0 8) (hf : fX11_reportByte o0 v1 μ = some res) : XI l yX11_reportByte cX11_reportByte 2 (some .int) rmX11_reportByte B D cT (XW B adK adV) n [.ref (B + o0), .int v1] μ res := by
  refine tx_ofW mtX11_reportByte.1 (Nat.le_of_ble_eq_true rfl) rfl ?_
  intro p e s m below meth c E0 hr hlk hno
  have E : EE p s m _ c cX11_reportByte 2 RX11 B D cT (XW B adK adV) := E0
  unfold fX11_reportByte at hf
  refine tt_iload_n (pc := 0) (i := 1) (j := 1) E dX11_reportByte_0 rfl rfl ?_
  refine tt_if_lt (pc := 1) (tgt := 15) E dX11_reportByte_1 rfl (fun c_11 => ?_) (fun c_11 => ?_)
  · have hf := ip c_11 hf
    exact tx_throwW (pc := 15) E hl0 twX11_322324 (i := 33) rfl hno hlk dX11_reportByte_15 dX11_reportByte_18 dX11_reportByte_19 dX11_reportByte_22 dX11_reportByte_25 (Nat.le_of_ble_eq_true rfl) (Nat.le_of_ble_eq_true rfl) (Nat.le_of_ble_eq_true rfl) (Nat.le_of_ble_eq_true rfl) (Nat.le_of_ble_eq_true rfl) (Nat.le_of_ble_eq_true rfl) hf
  · have hf := ine c_11 hf
    refine tt_iload_n (pc := 4) (i := 1) (j := 1) E dX11_reportByte_4 rfl rfl ?_
    refine tt_aload_n (pc := 5) (i := 0) (j := 0) E dX11_reportByte_5 rfl rfl ?_
    obtain ⟨q_1, hq_2, hf⟩ := bd_some hf
    refine tt_getP (pc := 6) (t := 6) E lfX11_53 rfl rfl h0 dX11_reportByte_6 hq_2 (fun kq_3 => ?_)
    refine tt_getI (pc := 9) E lfX11_321 rfl kq_3 dX11_reportByte_9 ?_
    refine tt_icmp_lt (pc := 12) (tgt := 26) E dX11_reportByte_12 rfl (fun c_10 => ?_) (fun c_10 => ?_)
    · have hf := ip c_10 hf
      refine tt_aload_n (pc := 26) (i := 0) (j := 0) E dX11_reportByte_26 rfl rfl ?_
      obtain ⟨q_4, hq_5, hf⟩ := bd_some hf
      refine tt_getP (pc := 27) (t := 6) E lfX11_53 rfl rfl h0 dX11_reportByte_27 hq_5 (fun kq_6 => ?_)
      refine tt_iload_n (pc := 30) (i := 1) (j := 1) E dX11_reportByte_30 rfl rfl ?_
      obtain ⟨r_7, hr_8, hf⟩ := bd_some hf
      have hc_9 := cX7_byteAt_ok (l := l) (B := B) (D := D) (cT := cT) (n := n) (adK := adK) (adV := adV) kq_6 hr_8
      refine tt_cI (pc := 31) (tt_vi E lmX11_327 mtX7_byteAt hc_9 kq_6 rfl rfl (Nat.le_of_ble_eq_true rfl) ⟨(Nat.le_of_ble_eq_true rfl), (Nat.le_of_ble_eq_true rfl)⟩ ⟨(Nat.le_of_ble_eq_true rfl), (Nat.le_of_ble_eq_true rfl)⟩ dX11_reportByte_31) ?_
      exact tx_iret (pc := 34) E hr hlk dX11_reportByte_34 hf
    · have hf := ine c_10 hf
      exact tx_throwW (pc := 15) E hl0 twX11_322324 (i := 33) rfl hno hlk dX11_reportByte_15 dX11_reportByte_18 dX11_reportByte_19 dX11_reportByte_22 dX11_reportByte_25 (Nat.le_of_ble_eq_true rfl) (Nat.le_of_ble_eq_true rfl) (Nat.le_of_ble_eq_true rfl) (Nat.le_of_ble_eq_true rfl) (Nat.le_of_ble_eq_true rfl) (Nat.le_of_ble_eq_true rfl) hf
set_option maxHeartbeats 4000000 in
theorem cX11_undo_ok {l : Launch} {B : Nat} {D : va_G} {cT : Nat → ClassId} {n : Nat} {adK adV : Nat → Nat} {o0 : Nat} {μ : Mem} {res : Int32 × Mem} (h0 : isK n o0 8) (hf : fX11_undo o0 μ = some res) : MI l yX11_undo cX11_undo 1 (some .int) rmX11_undo B D cT (XW B adK adV) n [.ref (B + o0)] μ res := by
  refine tt_ofW mtX11_undo.1 (Nat.le_of_ble_eq_true rfl) rfl ?_
  intro p e s m below meth c E0 hr hlk
  have E : EE p s m _ c cX11_undo 1 RX11 B D cT (XW B adK adV) := E0
  unfold fX11_undo at hf
  refine tt_aload_n (pc := 0) (i := 0) (j := 0) E dX11_undo_0 rfl rfl ?_
  obtain ⟨q_1, hq_2, hf⟩ := bd_some hf
  refine tt_getP (pc := 1) (t := 4) E lfX11_46 rfl rfl h0 dX11_undo_1 hq_2 (fun kq_3 => ?_)
  refine tt_aload_n (pc := 4) (i := 0) (j := 0) E dX11_undo_4 rfl rfl ?_
  obtain ⟨q_4, hq_5, hf⟩ := bd_some hf
  refine tt_getP (pc := 5) (t := 1) E lfX11_26 rfl rfl h0 dX11_undo_5 hq_5 (fun kq_6 => ?_)
  obtain ⟨r_7, hr_8, hf⟩ := bd_some hf
  have hc_9 := cX5_goBack_ok (l := l) (B := B) (D := D) (cT := cT) (n := n) (adK := adK) (adV := adV) kq_3 kq_6 hr_8
  refine tt_cZ (pc := 8) (tt_vi E lmX11_330 mtX5_goBack hc_9 kq_3 rfl rfl (Nat.le_of_ble_eq_true rfl) ⟨(Nat.le_of_ble_eq_true rfl), (Nat.le_of_ble_eq_true rfl)⟩ ⟨(Nat.le_of_ble_eq_true rfl), (Nat.le_of_ble_eq_true rfl)⟩ dX11_undo_8) (fun z_10 => ?_)
  refine tt_if_eq (pc := 11) (tgt := 24) E dX11_undo_11 rfl (fun c_14 => ?_) (fun c_14 => ?_)
  · have hf := ip c_14 hf
    refine tt_iconst (pc := 24) (v := (-1)) E dX11_undo_24 ic_m1 ?_
    exact tt_iret (pc := 25) E hr hlk dX11_undo_25 (Nat.le_of_ble_eq_true rfl) (Nat.le_of_ble_eq_true rfl) hf
  · have hf := ine c_14 hf
    refine tt_aload_n (pc := 14) (i := 0) (j := 0) E dX11_undo_14 rfl rfl ?_
    obtain ⟨q_11, hq_12, hf⟩ := bd_some hf
    refine tt_getP (pc := 15) (t := 4) E lfX11_46 rfl rfl h0 dX11_undo_15 hq_12 (fun kq_13 => ?_)
    refine tt_getI (pc := 18) E lfX11_144 rfl kq_13 dX11_undo_18 ?_
    refine tt_goto (pc := 21) (tgt := 25) E dX11_undo_21 rfl ?_
    exact tt_iret (pc := 25) E hr hlk dX11_undo_25 (Nat.le_of_ble_eq_true rfl) (Nat.le_of_ble_eq_true rfl) hf
set_option maxHeartbeats 4000000 in
theorem cX11_save_ok {l : Launch} {B : Nat} {D : va_G} {cT : Nat → ClassId} {n : Nat} {adK adV : Nat → Nat} {o0 : Nat} {μ : Mem} {res : Int32 × Mem} (h0 : isK n o0 8) (hf : fX11_save o0 μ = some res) : MI l yX11_save cX11_save 1 (some .int) rmX11_save B D cT (XW B adK adV) n [.ref (B + o0)] μ res := by
  refine tt_ofW mtX11_save.1 (Nat.le_of_ble_eq_true rfl) rfl ?_
  intro p e s m below meth c E0 hr hlk
  have E : EE p s m _ c cX11_save 1 RX11 B D cT (XW B adK adV) := E0
  unfold fX11_save at hf
  refine tt_aload_n (pc := 0) (i := 0) (j := 0) E dX11_save_0 rfl rfl ?_
  obtain ⟨q_1, hq_2, hf⟩ := bd_some hf
  refine tt_getP (pc := 1) (t := 1) E lfX11_33 rfl rfl h0 dX11_save_1 hq_2 (fun kq_3 => ?_)
  refine tt_aload_n (pc := 4) (i := 0) (j := 0) E dX11_save_4 rfl rfl ?_
  obtain ⟨q_4, hq_5, hf⟩ := bd_some hf
  refine tt_getP (pc := 5) (t := 1) E lfX11_26 rfl rfl h0 dX11_save_5 hq_5 (fun kq_6 => ?_)
  obtain ⟨r_7, hr_8, hf⟩ := bd_some hf
  have hc_9 := cX2_copyFrom_ok (l := l) (B := B) (D := D) (cT := cT) (n := n) (adK := adK) (adV := adV) kq_3 kq_6 hr_8
  refine tt_cV (pc := 8) (tt_vi E lmX11_93 mtX2_copyFrom hc_9 kq_3 rfl rfl (Nat.le_of_ble_eq_true rfl) ⟨(Nat.le_of_ble_eq_true rfl), (Nat.le_of_ble_eq_true rfl)⟩ ⟨(Nat.le_of_ble_eq_true rfl), (Nat.le_of_ble_eq_true rfl)⟩ dX11_save_8) ?_
  refine tt_aload_n (pc := 11) (i := 0) (j := 0) E dX11_save_11 rfl rfl ?_
  refine tt_iconst (pc := 12) (v := 1) E dX11_save_12 ic_1 ?_
  refine tt_putZ (pc := 13) E ((Or.inr rfl)) lfX11_57 rfl h0 dX11_save_13 (tt_nmM hf (fun m_10 hf => ?_))
  refine tt_aload_n (pc := 16) (i := 0) (j := 0) E dX11_save_16 rfl rfl ?_
  obtain ⟨q_11, hq_12, hf⟩ := bd_some hf
  refine tt_getP (pc := 17) (t := 1) E lfX11_26 rfl rfl h0 dX11_save_17 hq_12 (fun kq_13 => ?_)
  refine tt_getI (pc := 20) E lfX11_123 rfl kq_13 dX11_save_20 ?_
  exact tt_iret (pc := 23) E hr hlk dX11_save_23 (Nat.le_of_ble_eq_true rfl) (Nat.le_of_ble_eq_true rfl) hf
set_option maxHeartbeats 4000000 in
theorem cX11_restore_ok {l : Launch} {B : Nat} {D : va_G} {cT : Nat → ClassId} {n : Nat} {adK adV : Nat → Nat} {o0 : Nat} (hl0 : l.stackTraces = false) {μ : Mem} {res : (Int32 ⊕ Nat) × Mem} (h0 : isK n o0 8) (hf : fX11_restore o0 μ = some res) : XI l yX11_restore cX11_restore 1 (some .int) rmX11_restore B D cT (XW B adK adV) n [.ref (B + o0)] μ res := by
  refine tx_ofW mtX11_restore.1 (Nat.le_of_ble_eq_true rfl) rfl ?_
  intro p e s m below meth c E0 hr hlk hno
  have E : EE p s m _ c cX11_restore 1 RX11 B D cT (XW B adK adV) := E0
  unfold fX11_restore at hf
  refine tt_aload_n (pc := 0) (i := 0) (j := 0) E dX11_restore_0 rfl rfl ?_
  refine tt_getZ (pc := 1) E lfX11_57 rfl h0 dX11_restore_1 (fun z_1 => ?_)
  refine tt_if_ne (pc := 4) (tgt := 18) E dX11_restore_4 rfl (fun c_20 => ?_) (fun c_20 => ?_)
  · have hf := ine c_20 hf
    refine tt_aload_n (pc := 18) (i := 0) (j := 0) E dX11_restore_18 rfl rfl ?_
    obtain ⟨q_2, hq_3, hf⟩ := bd_some hf
    refine tt_getP (pc := 19) (t := 1) E lfX11_26 rfl rfl h0 dX11_restore_19 hq_3 (fun kq_4 => ?_)
    refine tt_aload_n (pc := 22) (i := 0) (j := 0) E dX11_restore_22 rfl rfl ?_
    obtain ⟨q_5, hq_6, hf⟩ := bd_some hf
    refine tt_getP (pc := 23) (t := 1) E lfX11_33 rfl rfl h0 dX11_restore_23 hq_6 (fun kq_7 => ?_)
    obtain ⟨r_8, hr_9, hf⟩ := bd_some hf
    have hc_10 := cX2_copyFrom_ok (l := l) (B := B) (D := D) (cT := cT) (n := n) (adK := adK) (adV := adV) kq_4 kq_7 hr_9
    refine tt_cV (pc := 26) (tt_vi E lmX11_93 mtX2_copyFrom hc_10 kq_4 rfl rfl (Nat.le_of_ble_eq_true rfl) ⟨(Nat.le_of_ble_eq_true rfl), (Nat.le_of_ble_eq_true rfl)⟩ ⟨(Nat.le_of_ble_eq_true rfl), (Nat.le_of_ble_eq_true rfl)⟩ dX11_restore_26) ?_
    refine tt_aload_n (pc := 29) (i := 0) (j := 0) E dX11_restore_29 rfl rfl ?_
    obtain ⟨q_11, hq_12, hf⟩ := bd_some hf
    refine tt_getP (pc := 30) (t := 4) E lfX11_46 rfl rfl h0 dX11_restore_30 hq_12 (fun kq_13 => ?_)
    obtain ⟨r_14, hr_15, hf⟩ := bd_some hf
    have hc_16 := cX5_forget_ok (l := l) (B := B) (D := D) (cT := cT) (n := n) (adK := adK) (adV := adV) kq_13 hr_15
    refine tt_cV (pc := 33) (tt_vi E lmX11_97 mtX5_forget hc_16 kq_13 rfl rfl (Nat.le_of_ble_eq_true rfl) ⟨(Nat.le_of_ble_eq_true rfl), (Nat.le_of_ble_eq_true rfl)⟩ ⟨(Nat.le_of_ble_eq_true rfl), (Nat.le_of_ble_eq_true rfl)⟩ dX11_restore_33) ?_
    refine tt_aload_n (pc := 36) (i := 0) (j := 0) E dX11_restore_36 rfl rfl ?_
    obtain ⟨q_17, hq_18, hf⟩ := bd_some hf
    refine tt_getP (pc := 37) (t := 1) E lfX11_26 rfl rfl h0 dX11_restore_37 hq_18 (fun kq_19 => ?_)
    refine tt_getI (pc := 40) E lfX11_123 rfl kq_19 dX11_restore_40 ?_
    exact tx_iret (pc := 43) E hr hlk dX11_restore_43 hf
  · have hf := ip c_20 hf
    exact tx_throwW (pc := 7) E hl0 twX11_65334 (i := 34) rfl hno hlk dX11_restore_7 dX11_restore_10 dX11_restore_11 dX11_restore_14 dX11_restore_17 (Nat.le_of_ble_eq_true rfl) (Nat.le_of_ble_eq_true rfl) (Nat.le_of_ble_eq_true rfl) (Nat.le_of_ble_eq_true rfl) (Nat.le_of_ble_eq_true rfl) (Nat.le_of_ble_eq_true rfl) hf
set_option maxHeartbeats 4000000 in
theorem cX12_thrown_ok {l : Launch} {B : Nat} {D : va_G} {cT : Nat → ClassId} {n : Nat} {adK adV : Nat → Nat} {o0 : Nat} {μ : Mem} {res : Int32} (h0 : isK n o0 9) (hf : fX12_thrown o0 μ = some res) : MI l yX12_thrown cX12_thrown 1 (some .int) rmX12_thrown B D cT (XW B adK adV) n [.ref (B + o0)] μ (res, μ) := by
  refine tt_ofW mtX12_thrown.1 (Nat.le_of_ble_eq_true rfl) rfl ?_
  intro p e s m below meth c E0 hr hlk
  have E : EE p s m _ c cX12_thrown 1 RX12 B D cT (XW B adK adV) := E0
  unfold fX12_thrown at hf
  refine tt_aload_n (pc := 0) (i := 0) (j := 0) E dX12_thrown_0 rfl rfl ?_
  refine tt_getI (pc := 1) E lfX12_75 rfl h0 dX12_thrown_1 ?_
  exact tt_iret (pc := 4) E hr hlk dX12_thrown_4 (Nat.le_of_ble_eq_true rfl) (Nat.le_of_ble_eq_true rfl) (pv hf)
set_option maxHeartbeats 4000000 in
theorem cX12_isIn_ok {l : Launch} {B : Nat} {D : va_G} {cT : Nat → ClassId} {n : Nat} {adK adV : Nat → Nat} {v0 : Int64} {v2 : Int64} {v4 : Int64} {μ : Mem} {res : Int32} (hf : fX12_isIn v0 v2 v4 μ = some res) : MZ l yX12_isIn cX12_isIn 6 (some .boolean) rmX12_isIn B D cT (XW B adK adV) n [.long v0, .long v2, .long v4] μ (res, μ) := by
  refine tt_ofW mtX12_isIn.1 (Nat.le_of_ble_eq_true rfl) rfl ?_
  intro p e s m below meth c E0 hr hlk
  have E : EE p s m _ c cX12_isIn 6 RX12 B D cT (XW B adK adV) := E0
  unfold fX12_isIn at hf
  refine tt_lload_n (pc := 0) (i := 0) (j := 0) E dX12_isIn_0 rfl rfl ?_
  refine tt_lload_n (pc := 1) (i := 2) (j := 1) E dX12_isIn_1 rfl rfl ?_
  refine tt_lcmp (pc := 2) E dX12_isIn_2 ?_
  refine tt_if_lt (pc := 3) (tgt := 17) E dX12_isIn_3 rfl (fun c_2 => ?_) (fun c_2 => ?_)
  · have hf := ip c_2 hf
    refine tt_iconst (pc := 17) (v := 0) E dX12_isIn_17 ic_0 ?_
    exact tt_zret (pc := 18) E ((Or.inl rfl)) hr hlk dX12_isIn_18 (Nat.le_of_ble_eq_true rfl) (Nat.le_of_ble_eq_true rfl) (pv hf)
  · have hf := ine c_2 hf
    refine tt_lload_n (pc := 6) (i := 0) (j := 0) E dX12_isIn_6 rfl rfl ?_
    refine tt_lload (pc := 7) (i := 4) (j := 2) E dX12_isIn_7 rfl ?_
    refine tt_lcmp (pc := 9) E dX12_isIn_9 ?_
    refine tt_if_gt (pc := 10) (tgt := 17) E dX12_isIn_10 rfl (fun c_1 => ?_) (fun c_1 => ?_)
    · have hf := ip c_1 hf
      refine tt_iconst (pc := 17) (v := 0) E dX12_isIn_17 ic_0 ?_
      exact tt_zret (pc := 18) E ((Or.inl rfl)) hr hlk dX12_isIn_18 (Nat.le_of_ble_eq_true rfl) (Nat.le_of_ble_eq_true rfl) (pv hf)
    · have hf := ine c_1 hf
      refine tt_iconst (pc := 13) (v := 1) E dX12_isIn_13 ic_1 ?_
      refine tt_goto (pc := 14) (tgt := 18) E dX12_isIn_14 rfl ?_
      exact tt_zret (pc := 18) E ((Or.inr rfl)) hr hlk dX12_isIn_18 (Nat.le_of_ble_eq_true rfl) (Nat.le_of_ble_eq_true rfl) (pv hf)
set_option maxHeartbeats 4000000 in
theorem cX12_truth_ok {l : Launch} {B : Nat} {D : va_G} {cT : Nat → ClassId} {n : Nat} {adK adV : Nat → Nat} {v0 : Int32} {μ : Mem} {res : Int32} (h0 : zb v0) (hf : fX12_truth v0 μ = some res) : MI l yX12_truth cX12_truth 1 (some .int) rmX12_truth B D cT (XW B adK adV) n [.int v0] μ (res, μ) := by
  refine tt_ofW mtX12_truth.1 (Nat.le_of_ble_eq_true rfl) rfl ?_
  intro p e s m below meth c E0 hr hlk
  have E : EE p s m _ c cX12_truth 1 RX12 B D cT (XW B adK adV) := E0
  unfold fX12_truth at hf
  refine tt_iload_n (pc := 0) (i := 0) (j := 0) E dX12_truth_0 rfl rfl ?_
  refine tt_if_eq (pc := 1) (tgt := 8) E dX12_truth_1 rfl (fun c_1 => ?_) (fun c_1 => ?_)
  · have hf := ip c_1 hf
    refine tt_iconst (pc := 8) (v := 0) E dX12_truth_8 ic_0 ?_
    exact tt_iret (pc := 9) E hr hlk dX12_truth_9 (Nat.le_of_ble_eq_true rfl) (Nat.le_of_ble_eq_true rfl) (pv hf)
  · have hf := ine c_1 hf
    refine tt_iconst (pc := 4) (v := 1) E dX12_truth_4 ic_1 ?_
    refine tt_goto (pc := 5) (tgt := 9) E dX12_truth_5 rfl ?_
    exact tt_iret (pc := 9) E hr hlk dX12_truth_9 (Nat.le_of_ble_eq_true rfl) (Nat.le_of_ble_eq_true rfl) (pv hf)
set_option maxHeartbeats 4000000 in
theorem cX12_goes_ok {l : Launch} {B : Nat} {D : va_G} {cT : Nat → ClassId} {n : Nat} {adK adV : Nat → Nat} {o0 : Nat} {v1 : Int32} {μ : Mem} {res : Int32 × Mem} (h0 : isK n o0 9) (h1 : zb v1) (hf : fX12_goes o0 v1 μ = some res) : MZ l yX12_goes cX12_goes 2 (some .boolean) rmX12_goes B D cT (XW B adK adV) n [.ref (B + o0), .int v1] μ res := by
  refine tt_ofW mtX12_goes.1 (Nat.le_of_ble_eq_true rfl) rfl ?_
  intro p e s m below meth c E0 hr hlk
  have E : EE p s m _ c cX12_goes 2 RX12 B D cT (XW B adK adV) := E0
  unfold fX12_goes at hf
  refine tt_aload_n (pc := 0) (i := 0) (j := 0) E dX12_goes_0 rfl rfl ?_
  refine tt_iload_n (pc := 1) (i := 1) (j := 1) E dX12_goes_1 rfl rfl ?_
  refine tt_if_ne (pc := 2) (tgt := 9) E dX12_goes_2 rfl (fun c_9 => ?_) (fun c_9 => ?_)
  · have hf := ine c_9 hf
    refine tt_iconst (pc := 9) (v := 0) E dX12_goes_9 ic_0 ?_
    obtain ⟨r_1, hr_2, hf⟩ := bd_some hf
    have hc_3 := cX12_truth_ok (l := l) (B := B) (D := D) (cT := cT) (n := n) (adK := adK) (adV := adV) ((Or.inl rfl)) hr_2
    refine tt_cI (pc := 10) (tt_si E lmX12_78 mtX12_truth hc_3 rfl rfl (Nat.le_of_ble_eq_true rfl) ⟨(Nat.le_of_ble_eq_true rfl), (Nat.le_of_ble_eq_true rfl)⟩ ⟨(Nat.le_of_ble_eq_true rfl), (Nat.le_of_ble_eq_true rfl)⟩ dX12_goes_10) ?_
    refine tt_putI (pc := 13) E lfX12_75 rfl h0 dX12_goes_13 (tt_nmM hf (fun m_4 hf => ?_))
    refine tt_iload_n (pc := 16) (i := 1) (j := 1) E dX12_goes_16 rfl rfl ?_
    exact tt_zret (pc := 17) E h1 hr hlk dX12_goes_17 (Nat.le_of_ble_eq_true rfl) (Nat.le_of_ble_eq_true rfl) hf
  · have hf := ip c_9 hf
    refine tt_iconst (pc := 5) (v := 1) E dX12_goes_5 ic_1 ?_
    refine tt_goto (pc := 6) (tgt := 10) E dX12_goes_6 rfl ?_
    obtain ⟨r_5, hr_6, hf⟩ := bd_some hf
    have hc_7 := cX12_truth_ok (l := l) (B := B) (D := D) (cT := cT) (n := n) (adK := adK) (adV := adV) ((Or.inr rfl)) hr_6
    refine tt_cI (pc := 10) (tt_si E lmX12_78 mtX12_truth hc_7 rfl rfl (Nat.le_of_ble_eq_true rfl) ⟨(Nat.le_of_ble_eq_true rfl), (Nat.le_of_ble_eq_true rfl)⟩ ⟨(Nat.le_of_ble_eq_true rfl), (Nat.le_of_ble_eq_true rfl)⟩ dX12_goes_10) ?_
    refine tt_putI (pc := 13) E lfX12_75 rfl h0 dX12_goes_13 (tt_nmM hf (fun m_8 hf => ?_))
    refine tt_iload_n (pc := 16) (i := 1) (j := 1) E dX12_goes_16 rfl rfl ?_
    exact tt_zret (pc := 17) E h1 hr hlk dX12_goes_17 (Nat.le_of_ble_eq_true rfl) (Nat.le_of_ble_eq_true rfl) hf
