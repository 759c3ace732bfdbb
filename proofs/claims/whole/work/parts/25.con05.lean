/-! contracts -/
set_option maxHeartbeats 4000000 in
theorem tX12_readText_49 {p : Program} {l : Launch} {e : Env} {s : State} {m : MethodId} {args : Array Value} {below : List Frame} {meth : Method} {c : Code} {B : Nat} {D : va_G} {cT : Nat → ClassId} {n : Nat} {adK adV : Nat → Nat} {res : Int32 × Mem} (E : EE p s m args c cX12_readText 1 RX12 B D cT (XW B adK adV)) (hr : meth.sig.returnType = some .int) (hlk : meth.locks = false) {o0 : Nat} (h0 : isK n o0 9) {μ : Mem} (hf : fX12_readText_49 o0 μ = some res) : TT p l e rmX12_readText s m args below meth c (QI B D cT n below args s res) 1 B D cT n 0 0 μ 49 [(0, .ref (B + o0))] [] := by
  unfold fX12_readText_49 at hf
  refine tt_aload_n (pc := 49) (i := 0) (j := 0) E dX12_readText_49 rfl rfl ?_
  obtain ⟨r_1, hr_2, hf⟩ := bd_some hf
  have hc_3 := cX12_endsText_ok (l := l) (B := B) (D := D) (cT := cT) (n := n) (adK := adK) (adV := adV) h0 hr_2
  refine tt_cZ (pc := 50) (tt_vi E lmX12_260 mtX12_endsText hc_3 h0 rfl rfl (Nat.le_of_ble_eq_true rfl) ⟨(Nat.le_of_ble_eq_true rfl), (Nat.le_of_ble_eq_true rfl)⟩ ⟨(Nat.le_of_ble_eq_true rfl), (Nat.le_of_ble_eq_true rfl)⟩ dX12_readText_50) (fun z_4 => ?_)
  refine tt_if_ne (pc := 53) (tgt := 82) E dX12_readText_53 rfl (fun c_28 => ?_) (fun c_28 => ?_)
  · have hf := ine c_28 hf
    refine tt_aload_n (pc := 82) (i := 0) (j := 0) E dX12_readText_82 rfl rfl ?_
    refine tt_iconst (pc := 83) (v := 0) E dX12_readText_83 ic_0 ?_
    refine tt_putI (pc := 84) E lfX12_157 rfl h0 dX12_readText_84 (tt_nmM hf (fun m_5 hf => ?_))
    refine tt_aload_n (pc := 87) (i := 0) (j := 0) E dX12_readText_87 rfl rfl ?_
    obtain ⟨q_6, hq_7, hf⟩ := bd_some hf
    refine tt_getP (pc := 88) (t := 11) E lfX12_20 rfl rfl h0 dX12_readText_88 hq_7 (fun kq_8 => ?_)
    refine tt_iconst (pc := 91) (v := 0) E dX12_readText_91 ic_0 ?_
    obtain ⟨g_9, hf⟩ := gd_some hf
    refine tt_iald (pc := 92) E kq_8 g_9 dX12_readText_92 ?_
    exact tt_iret (pc := 93) E hr hlk dX12_readText_93 (Nat.le_of_ble_eq_true rfl) (Nat.le_of_ble_eq_true rfl) hf
  · have hf := ip c_28 hf
    refine tt_aload_n (pc := 56) (i := 0) (j := 0) E dX12_readText_56 rfl rfl ?_
    obtain ⟨q_10, hq_11, hf⟩ := bd_some hf
    refine tt_getP (pc := 57) (t := 11) E lfX12_26 rfl rfl h0 dX12_readText_57 hq_11 (fun kq_12 => ?_)
    refine tt_iconst (pc := 60) (v := 0) E dX12_readText_60 ic_0 ?_
    refine tt_aload_n (pc := 61) (i := 0) (j := 0) E dX12_readText_61 rfl rfl ?_
    obtain ⟨q_13, hq_14, hf⟩ := bd_some hf
    refine tt_getP (pc := 62) (t := 11) E lfX12_20 rfl rfl h0 dX12_readText_62 hq_14 (fun kq_15 => ?_)
    refine tt_iconst (pc := 65) (v := 0) E dX12_readText_65 ic_0 ?_
    obtain ⟨r_16, hr_17, hf⟩ := bd_some hf
    have hc_18 := cX12_copiesRow_ok (l := l) (B := B) (D := D) (cT := cT) (n := n) (adK := adK) (adV := adV) kq_12 kq_15 hr_17
    refine tt_cV (pc := 66) (tt_si E lmX12_153 mtX12_copiesRow hc_18 rfl rfl (Nat.le_of_ble_eq_true rfl) ⟨(Nat.le_of_ble_eq_true rfl), (Nat.le_of_ble_eq_true rfl)⟩ ⟨(Nat.le_of_ble_eq_true rfl), (Nat.le_of_ble_eq_true rfl)⟩ dX12_readText_66) ?_
    refine tt_aload_n (pc := 69) (i := 0) (j := 0) E dX12_readText_69 rfl rfl ?_
    obtain ⟨q_19, hq_20, hf⟩ := bd_some hf
    refine tt_getP (pc := 70) (t := 12) E lfX12_42 rfl rfl h0 dX12_readText_70 hq_20 (fun kq_21 => ?_)
    refine tt_aload_n (pc := 73) (i := 0) (j := 0) E dX12_readText_73 rfl rfl ?_
    obtain ⟨q_22, hq_23, hf⟩ := bd_some hf
    refine tt_getP (pc := 74) (t := 12) E lfX12_35 rfl rfl h0 dX12_readText_74 hq_23 (fun kq_24 => ?_)
    obtain ⟨r_25, hr_26, hf⟩ := bd_some hf
    have hc_27 := cX12_copiesNames_ok (l := l) (B := B) (D := D) (cT := cT) (n := n) (adK := adK) (adV := adV) kq_21 kq_24 hr_26
    refine tt_cV (pc := 77) (tt_si E lmX12_163 mtX12_copiesNames hc_27 rfl rfl (Nat.le_of_ble_eq_true rfl) ⟨(Nat.le_of_ble_eq_true rfl), (Nat.le_of_ble_eq_true rfl)⟩ ⟨(Nat.le_of_ble_eq_true rfl), (Nat.le_of_ble_eq_true rfl)⟩ dX12_readText_77) ?_
    refine tt_iconst (pc := 80) (v := 0) E dX12_readText_80 ic_0 ?_
    exact tt_iret (pc := 81) E hr hlk dX12_readText_81 (Nat.le_of_ble_eq_true rfl) (Nat.le_of_ble_eq_true rfl) hf
set_option maxHeartbeats 4000000 in
theorem tX12_readText_28 {p : Program} {l : Launch} {e : Env} {s : State} {m : MethodId} {args : Array Value} {below : List Frame} {meth : Method} {c : Code} {B : Nat} {D : va_G} {cT : Nat → ClassId} {n : Nat} {adK adV : Nat → Nat} {res : Int32 × Mem} (E : EE p s m args c cX12_readText 1 RX12 B D cT (XW B adK adV)) (hr : meth.sig.returnType = some .int) (hlk : meth.locks = false) {o0 : Nat} (h0 : isK n o0 9) : ∀ (fu : Nat) (μ : Mem), zl1 (gX12_readText_28 o0) fu μ = some res → TT p l e rmX12_readText s m args below meth c (QI B D cT n below args s res) 1 B D cT n 0 0 μ 28 [(0, .ref (B + o0))] [] := by
  intro fu
  induction fu with
  | zero => intro μ hf; exact absurd hf (fun h => by cases h)
  | succ fu ih =>
    intro μ hf
    have hf : gX12_readText_28 o0 (zl1 (gX12_readText_28 o0) fu) μ = some res := hf
    unfold gX12_readText_28 at hf
    refine tt_aload_n (pc := 28) (i := 0) (j := 0) E dX12_readText_28 rfl rfl ?_
    obtain ⟨r_1, hr_2, hf⟩ := bd_some hf
    have hc_3 := cX12_isGood_ok (l := l) (B := B) (D := D) (cT := cT) (n := n) (adK := adK) (adV := adV) h0 hr_2
    refine tt_cZ (pc := 29) (tt_vi E lmX12_129 mtX12_isGood hc_3 h0 rfl rfl (Nat.le_of_ble_eq_true rfl) ⟨(Nat.le_of_ble_eq_true rfl), (Nat.le_of_ble_eq_true rfl)⟩ ⟨(Nat.le_of_ble_eq_true rfl), (Nat.le_of_ble_eq_true rfl)⟩ dX12_readText_29) (fun z_4 => ?_)
    refine tt_if_eq (pc := 32) (tgt := 49) E dX12_readText_32 rfl (fun c_9 => ?_) (fun c_9 => ?_)
    · have hf := ip c_9 hf
      exact tX12_readText_49 E hr hlk h0 hf
    · have hf := ine c_9 hf
      refine tt_aload_n (pc := 35) (i := 0) (j := 0) E dX12_readText_35 rfl rfl ?_
      refine tt_getI (pc := 36) E lfX12_116 rfl h0 dX12_readText_36 ?_
      refine tt_if_eq (pc := 39) (tgt := 49) E dX12_readText_39 rfl (fun c_8 => ?_) (fun c_8 => ?_)
      · have hf := ip c_8 hf
        exact tX12_readText_49 E hr hlk h0 hf
      · have hf := ine c_8 hf
        refine tt_aload_n (pc := 42) (i := 0) (j := 0) E dX12_readText_42 rfl rfl ?_
        obtain ⟨r_5, hr_6, hf⟩ := bd_some hf
        have hc_7 := cX12_statement_ok (l := l) (B := B) (D := D) (cT := cT) (n := n) (adK := adK) (adV := adV) h0 hr_6
        refine tt_cV (pc := 43) (tt_vi E lmX12_257 mtX12_statement hc_7 h0 rfl rfl (Nat.le_of_ble_eq_true rfl) ⟨(Nat.le_of_ble_eq_true rfl), (Nat.le_of_ble_eq_true rfl)⟩ ⟨(Nat.le_of_ble_eq_true rfl), (Nat.le_of_ble_eq_true rfl)⟩ dX12_readText_43) ?_
        refine tt_goto (pc := 46) (tgt := 28) E dX12_readText_46 rfl ?_
        exact ih r_5 hf
set_option maxHeartbeats 4000000 in
theorem cX12_readText_ok {l : Launch} {B : Nat} {D : va_G} {cT : Nat → ClassId} {n : Nat} {adK adV : Nat → Nat} {o0 : Nat} {μ : Mem} {res : Int32 × Mem} (h0 : isK n o0 9) (hf : fX12_readText o0 μ = some res) : MI l yX12_readText cX12_readText 1 (some .int) rmX12_readText B D cT (XW B adK adV) n [.ref (B + o0)] μ res := by
  refine tt_ofW mtX12_readText.1 (Nat.le_of_ble_eq_true rfl) rfl ?_
  intro p e s m below meth c E0 hr hlk
  have E : EE p s m _ c cX12_readText 1 RX12 B D cT (XW B adK adV) := E0
  unfold fX12_readText at hf
  refine tt_aload_n (pc := 0) (i := 0) (j := 0) E dX12_readText_0 rfl rfl ?_
  obtain ⟨r_1, hr_2, hf⟩ := bd_some hf
  have hc_3 := cX12_beginsText_ok (l := l) (B := B) (D := D) (cT := cT) (n := n) (adK := adK) (adV := adV) h0 hr_2
  refine tt_cV (pc := 1) (tt_vi E lmX12_251 mtX12_beginsText hc_3 h0 rfl rfl (Nat.le_of_ble_eq_true rfl) ⟨(Nat.le_of_ble_eq_true rfl), (Nat.le_of_ble_eq_true rfl)⟩ ⟨(Nat.le_of_ble_eq_true rfl), (Nat.le_of_ble_eq_true rfl)⟩ dX12_readText_1) ?_
  refine tt_aload_n (pc := 4) (i := 0) (j := 0) E dX12_readText_4 rfl rfl ?_
  obtain ⟨r_4, hr_5, hf⟩ := bd_some hf
  have hc_6 := cX12_laysAside_ok (l := l) (B := B) (D := D) (cT := cT) (n := n) (adK := adK) (adV := adV) h0 hr_5
  refine tt_cV (pc := 5) (tt_vi E lmX12_254 mtX12_laysAside hc_6 h0 rfl rfl (Nat.le_of_ble_eq_true rfl) ⟨(Nat.le_of_ble_eq_true rfl), (Nat.le_of_ble_eq_true rfl)⟩ ⟨(Nat.le_of_ble_eq_true rfl), (Nat.le_of_ble_eq_true rfl)⟩ dX12_readText_5) ?_
  refine tt_aload_n (pc := 8) (i := 0) (j := 0) E dX12_readText_8 rfl rfl ?_
  obtain ⟨q_7, hq_8, hf⟩ := bd_some hf
  refine tt_getP (pc := 9) (t := 12) E lfX12_35 rfl rfl h0 dX12_readText_9 hq_8 (fun kq_9 => ?_)
  refine tt_aload_n (pc := 12) (i := 0) (j := 0) E dX12_readText_12 rfl rfl ?_
  obtain ⟨q_10, hq_11, hf⟩ := bd_some hf
  refine tt_getP (pc := 13) (t := 12) E lfX12_42 rfl rfl h0 dX12_readText_13 hq_11 (fun kq_12 => ?_)
  obtain ⟨r_13, hr_14, hf⟩ := bd_some hf
  have hc_15 := cX12_copiesNames_ok (l := l) (B := B) (D := D) (cT := cT) (n := n) (adK := adK) (adV := adV) kq_9 kq_12 hr_14
  refine tt_cV (pc := 16) (tt_si E lmX12_163 mtX12_copiesNames hc_15 rfl rfl (Nat.le_of_ble_eq_true rfl) ⟨(Nat.le_of_ble_eq_true rfl), (Nat.le_of_ble_eq_true rfl)⟩ ⟨(Nat.le_of_ble_eq_true rfl), (Nat.le_of_ble_eq_true rfl)⟩ dX12_readText_16) ?_
  refine tt_aload_n (pc := 19) (i := 0) (j := 0) E dX12_readText_19 rfl rfl ?_
  obtain ⟨r_16, hr_17, hf⟩ := bd_some hf
  have hc_18 := cX12_clears_ok (l := l) (B := B) (D := D) (cT := cT) (n := n) (adK := adK) (adV := adV) h0 hr_17
  refine tt_cV (pc := 20) (tt_vi E lmX12_72 mtX12_clears hc_18 h0 rfl rfl (Nat.le_of_ble_eq_true rfl) ⟨(Nat.le_of_ble_eq_true rfl), (Nat.le_of_ble_eq_true rfl)⟩ ⟨(Nat.le_of_ble_eq_true rfl), (Nat.le_of_ble_eq_true rfl)⟩ dX12_readText_20) ?_
  refine tt_aload_n (pc := 23) (i := 0) (j := 0) E dX12_readText_23 rfl rfl ?_
  refine tt_iconst (pc := 24) (v := 0) E dX12_readText_24 ic_0 ?_
  refine tt_putZ (pc := 25) E ((Or.inl rfl)) lfX12_235 rfl h0 dX12_readText_25 (tt_nmM hf (fun m_19 hf => ?_))
  exact tX12_readText_28 E hr hlk h0 FU m_19 hf
set_option maxHeartbeats 4000000 in
theorem cX12_lesser_ok {l : Launch} {B : Nat} {D : va_G} {cT : Nat → ClassId} {n : Nat} {adK adV : Nat → Nat} {v0 : Int32} {v1 : Int32} {μ : Mem} {res : Int32} (hf : fX12_lesser v0 v1 μ = some res) : MI l yX12_lesser cX12_lesser 2 (some .int) rmX12_lesser B D cT (XW B adK adV) n [.int v0, .int v1] μ (res, μ) := by
  refine tt_ofW mtX12_lesser.1 (Nat.le_of_ble_eq_true rfl) rfl ?_
  intro p e s m below meth c E0 hr hlk
  have E : EE p s m _ c cX12_lesser 2 RX12 B D cT (XW B adK adV) := E0
  unfold fX12_lesser at hf
  refine tt_iload_n (pc := 0) (i := 0) (j := 0) E dX12_lesser_0 rfl rfl ?_
  refine tt_iload_n (pc := 1) (i := 1) (j := 1) E dX12_lesser_1 rfl rfl ?_
  refine tt_icmp_ge (pc := 2) (tgt := 9) E dX12_lesser_2 rfl (fun c_1 => ?_) (fun c_1 => ?_)
  · have hf := ip c_1 hf
    refine tt_iload_n (pc := 9) (i := 1) (j := 1) E dX12_lesser_9 rfl rfl ?_
    exact tt_iret (pc := 10) E hr hlk dX12_lesser_10 (Nat.le_of_ble_eq_true rfl) (Nat.le_of_ble_eq_true rfl) (pv hf)
  · have hf := ine c_1 hf
    refine tt_iload_n (pc := 5) (i := 0) (j := 0) E dX12_lesser_5 rfl rfl ?_
    refine tt_goto (pc := 6) (tgt := 10) E dX12_lesser_6 rfl ?_
    exact tt_iret (pc := 10) E hr hlk dX12_lesser_10 (Nat.le_of_ble_eq_true rfl) (Nat.le_of_ble_eq_true rfl) (pv hf)
set_option maxHeartbeats 4000000 in
theorem cX12_greater_ok {l : Launch} {B : Nat} {D : va_G} {cT : Nat → ClassId} {n : Nat} {adK adV : Nat → Nat} {v0 : Int32} {v1 : Int32} {μ : Mem} {res : Int32} (hf : fX12_greater v0 v1 μ = some res) : MI l yX12_greater cX12_greater 2 (some .int) rmX12_greater B D cT (XW B adK adV) n [.int v0, .int v1] μ (res, μ) := by
  refine tt_ofW mtX12_greater.1 (Nat.le_of_ble_eq_true rfl) rfl ?_
  intro p e s m below meth c E0 hr hlk
  have E : EE p s m _ c cX12_greater 2 RX12 B D cT (XW B adK adV) := E0
  unfold fX12_greater at hf
  refine tt_iload_n (pc := 0) (i := 0) (j := 0) E dX12_greater_0 rfl rfl ?_
  refine tt_iload_n (pc := 1) (i := 1) (j := 1) E dX12_greater_1 rfl rfl ?_
  refine tt_icmp_le (pc := 2) (tgt := 9) E dX12_greater_2 rfl (fun c_1 => ?_) (fun c_1 => ?_)
  · have hf := ip c_1 hf
    refine tt_iload_n (pc := 9) (i := 1) (j := 1) E dX12_greater_9 rfl rfl ?_
    exact tt_iret (pc := 10) E hr hlk dX12_greater_10 (Nat.le_of_ble_eq_true rfl) (Nat.le_of_ble_eq_true rfl) (pv hf)
  · have hf := ine c_1 hf
    refine tt_iload_n (pc := 5) (i := 0) (j := 0) E dX12_greater_5 rfl rfl ?_
    refine tt_goto (pc := 6) (tgt := 10) E dX12_greater_6 rfl ?_
    exact tt_iret (pc := 10) E hr hlk dX12_greater_10 (Nat.le_of_ble_eq_true rfl) (Nat.le_of_ble_eq_true rfl) (pv hf)
set_option maxHeartbeats 4000000 in
theorem cX12_lives_ok {l : Launch} {B : Nat} {D : va_G} {cT : Nat → ClassId} {n : Nat} {adK adV : Nat → Nat} {o0 : Nat} {v1 : Int32} {μ : Mem} {res : Int32} (h0 : isK n o0 9) (hf : fX12_lives o0 v1 μ = some res) : MZ l yX12_lives cX12_lives 2 (some .boolean) rmX12_lives B D cT (XW B adK adV) n [.ref (B + o0), .int v1] μ (res, μ) := by
  refine tt_ofW mtX12_lives.1 (Nat.le_of_ble_eq_true rfl) rfl ?_
  intro p e s m below meth c E0 hr hlk
  have E : EE p s m _ c cX12_lives 2 RX12 B D cT (XW B adK adV) := E0
  unfold fX12_lives at hf
  refine tt_aload_n (pc := 0) (i := 0) (j := 0) E dX12_lives_0 rfl rfl ?_
  refine tt_iload_n (pc := 1) (i := 1) (j := 1) E dX12_lives_1 rfl rfl ?_
  refine tt_iconst (pc := 2) (v := 2) E dX12_lives_2 ic_2 ?_
  obtain ⟨r_1, hr_2, hf⟩ := bd_some hf
  have hc_3 := cX12_of_ok (l := l) (B := B) (D := D) (cT := cT) (n := n) (adK := adK) (adV := adV) h0 hr_2
  refine tt_cI (pc := 3) (tt_vi E lmX12_192 mtX12_of hc_3 h0 rfl rfl (Nat.le_of_ble_eq_true rfl) ⟨(Nat.le_of_ble_eq_true rfl), (Nat.le_of_ble_eq_true rfl)⟩ ⟨(Nat.le_of_ble_eq_true rfl), (Nat.le_of_ble_eq_true rfl)⟩ dX12_lives_3) ?_
  refine tt_if_le (pc := 6) (tgt := 13) E dX12_lives_6 rfl (fun c_4 => ?_) (fun c_4 => ?_)
  · have hf := ip c_4 hf
    refine tt_iconst (pc := 13) (v := 0) E dX12_lives_13 ic_0 ?_
    exact tt_zret (pc := 14) E ((Or.inl rfl)) hr hlk dX12_lives_14 (Nat.le_of_ble_eq_true rfl) (Nat.le_of_ble_eq_true rfl) (pv hf)
  · have hf := ine c_4 hf
    refine tt_iconst (pc := 9) (v := 1) E dX12_lives_9 ic_1 ?_
    refine tt_goto (pc := 10) (tgt := 14) E dX12_lives_10 rfl ?_
    exact tt_zret (pc := 14) E ((Or.inr rfl)) hr hlk dX12_lives_14 (Nat.le_of_ble_eq_true rfl) (Nat.le_of_ble_eq_true rfl) (pv hf)
set_option maxHeartbeats 4000000 in
theorem tX12_livingOn_4 {p : Program} {l : Launch} {e : Env} {s : State} {m : MethodId} {args : Array Value} {below : List Frame} {meth : Method} {c : Code} {B : Nat} {D : va_G} {cT : Nat → ClassId} {n : Nat} {adK adV : Nat → Nat} {res : Int32} (E : EE p s m args c cX12_livingOn 4 RX12 B D cT (XW B adK adV)) (hr : meth.sig.returnType = some .int) (hlk : meth.locks = false) {o0 : Nat} {v1 : Int32} (h0 : isK n o0 9) {μ : Mem} : ∀ (fu : Nat) (v2 : Int32) (v3 : Int32), zl2 (gX12_livingOn_4 o0 v1 μ) fu v2 v3 = some res → TT p l e rmX12_livingOn s m args below meth c (QI B D cT n below args s (res, μ)) 4 B D cT n 0 0 μ 4 [(0, .ref (B + o0)), (1, .int v1), (2, .int v2), (3, .int v3)] [] := by
  intro fu
  induction fu with
  | zero => intro v2 v3 hf; exact absurd hf (fun h => by cases h)
  | succ fu ih =>
    intro v2 v3 hf
    have hf : gX12_livingOn_4 o0 v1 μ (zl2 (gX12_livingOn_4 o0 v1 μ) fu) v2 v3 = some res := hf
    unfold gX12_livingOn_4 at hf
    refine tt_iload_n (pc := 4) (i := 3) (j := 3) E dX12_livingOn_4 rfl rfl ?_
    refine tt_aload_n (pc := 5) (i := 0) (j := 0) E dX12_livingOn_5 rfl rfl ?_
    obtain ⟨q_1, hq_2, hf⟩ := bd_some hf
    refine tt_getP (pc := 6) (t := 11) E lfX12_20 rfl rfl h0 dX12_livingOn_6 hq_2 (fun kq_3 => ?_)
    refine tt_iconst (pc := 9) (v := 0) E dX12_livingOn_9 ic_0 ?_
    obtain ⟨g_4, hf⟩ := gd_some hf
    refine tt_iald (pc := 10) E kq_3 g_4 dX12_livingOn_10 ?_
    refine tt_icmp_ge (pc := 11) (tgt := 49) E dX12_livingOn_11 rfl (fun c_29 => ?_) (fun c_29 => ?_)
    · have hf := ip c_29 hf
      refine tt_iload_n (pc := 49) (i := 2) (j := 2) E dX12_livingOn_49 rfl rfl ?_
      exact tt_iret (pc := 50) E hr hlk dX12_livingOn_50 (Nat.le_of_ble_eq_true rfl) (Nat.le_of_ble_eq_true rfl) (pv hf)
    · have hf := ine c_29 hf
      refine tt_iload_n (pc := 14) (i := 2) (j := 2) E dX12_livingOn_14 rfl rfl ?_
      refine tt_aload_n (pc := 15) (i := 0) (j := 0) E dX12_livingOn_15 rfl rfl ?_
      refine tt_iload_n (pc := 16) (i := 3) (j := 3) E dX12_livingOn_16 rfl rfl ?_
      obtain ⟨r_5, hr_6, hf⟩ := bd_some hf
      have hc_7 := cX12_lives_ok (l := l) (B := B) (D := D) (cT := cT) (n := n) (adK := adK) (adV := adV) h0 hr_6
      refine tt_cZ (pc := 17) (tt_vi E lmX12_263 mtX12_lives hc_7 h0 rfl rfl (Nat.le_of_ble_eq_true rfl) ⟨(Nat.le_of_ble_eq_true rfl), (Nat.le_of_ble_eq_true rfl)⟩ ⟨(Nat.le_of_ble_eq_true rfl), (Nat.le_of_ble_eq_true rfl)⟩ dX12_livingOn_17) (fun z_8 => ?_)
      refine tt_if_eq (pc := 20) (tgt := 37) E dX12_livingOn_20 rfl (fun c_28 => ?_) (fun c_28 => ?_)
      · have hf := ip c_28 hf
        refine tt_iconst (pc := 37) (v := 0) E dX12_livingOn_37 ic_0 ?_
        obtain ⟨r_9, hr_10, hf⟩ := bd_some hf
        have hc_11 := cX12_truth_ok (l := l) (B := B) (D := D) (cT := cT) (n := n) (adK := adK) (adV := adV) ((Or.inl rfl)) hr_10
        refine tt_cI (pc := 38) (tt_si E lmX12_78 mtX12_truth hc_11 rfl rfl (Nat.le_of_ble_eq_true rfl) ⟨(Nat.le_of_ble_eq_true rfl), (Nat.le_of_ble_eq_true rfl)⟩ ⟨(Nat.le_of_ble_eq_true rfl), (Nat.le_of_ble_eq_true rfl)⟩ dX12_livingOn_38) ?_
        refine tt_iadd (pc := 41) E dX12_livingOn_41 ?_
        refine tt_nmI hf (fun v_12 hf => ?_)
        refine tt_istore_n (pc := 42) (i := 2) (lv' := [(2, .int v_12), (0, .ref (B + o0)), (1, .int v1), (3, .int v3)]) E dX12_livingOn_42 rfl (Nat.le_of_ble_eq_true rfl) rfl ?_
        obtain ⟨v_13, ev_13, hf⟩ := nm_ex hf
        refine tt_iinc (pc := 43) (i := 3) (j := 3) (lv' := [(3, .int v_13), (2, .int v_12), (0, .ref (B + o0)), (1, .int v1)]) E dX12_livingOn_43 rfl (ev_13).symm (Nat.le_of_ble_eq_true rfl) rfl ?_
        refine tt_goto (pc := 46) (tgt := 4) E dX12_livingOn_46 rfl ?_
        refine tt_sub [2, 3, 1, 0] (lv' := [(0, .ref (B + o0)), (1, .int v1), (2, .int v_12), (3, .int v_13)]) rfl ?_
        exact ih v_12 v_13 hf
      · have hf := ine c_28 hf
        refine tt_aload_n (pc := 23) (i := 0) (j := 0) E dX12_livingOn_23 rfl rfl ?_
        refine tt_iload_n (pc := 24) (i := 3) (j := 3) E dX12_livingOn_24 rfl rfl ?_
        refine tt_iconst (pc := 25) (v := 0) E dX12_livingOn_25 ic_0 ?_
        obtain ⟨r_14, hr_15, hf⟩ := bd_some hf
        have hc_16 := cX12_of_ok (l := l) (B := B) (D := D) (cT := cT) (n := n) (adK := adK) (adV := adV) h0 hr_15
        refine tt_cI (pc := 26) (tt_vi E lmX12_192 mtX12_of hc_16 h0 rfl rfl (Nat.le_of_ble_eq_true rfl) ⟨(Nat.le_of_ble_eq_true rfl), (Nat.le_of_ble_eq_true rfl)⟩ ⟨(Nat.le_of_ble_eq_true rfl), (Nat.le_of_ble_eq_true rfl)⟩ dX12_livingOn_26) ?_
        refine tt_iload_n (pc := 29) (i := 1) (j := 1) E dX12_livingOn_29 rfl rfl ?_
        refine tt_icmp_ne (pc := 30) (tgt := 37) E dX12_livingOn_30 rfl (fun c_27 => ?_) (fun c_27 => ?_)
        · have hf := ine c_27 hf
          refine tt_iconst (pc := 37) (v := 0) E dX12_livingOn_37 ic_0 ?_
          obtain ⟨r_17, hr_18, hf⟩ := bd_some hf
          have hc_19 := cX12_truth_ok (l := l) (B := B) (D := D) (cT := cT) (n := n) (adK := adK) (adV := adV) ((Or.inl rfl)) hr_18
          refine tt_cI (pc := 38) (tt_si E lmX12_78 mtX12_truth hc_19 rfl rfl (Nat.le_of_ble_eq_true rfl) ⟨(Nat.le_of_ble_eq_true rfl), (Nat.le_of_ble_eq_true rfl)⟩ ⟨(Nat.le_of_ble_eq_true rfl), (Nat.le_of_ble_eq_true rfl)⟩ dX12_livingOn_38) ?_
          refine tt_iadd (pc := 41) E dX12_livingOn_41 ?_
          refine tt_nmI hf (fun v_20 hf => ?_)
          refine tt_istore_n (pc := 42) (i := 2) (lv' := [(2, .int v_20), (0, .ref (B + o0)), (1, .int v1), (3, .int v3)]) E dX12_livingOn_42 rfl (Nat.le_of_ble_eq_true rfl) rfl ?_
          obtain ⟨v_21, ev_21, hf⟩ := nm_ex hf
          refine tt_iinc (pc := 43) (i := 3) (j := 3) (lv' := [(3, .int v_21), (2, .int v_20), (0, .ref (B + o0)), (1, .int v1)]) E dX12_livingOn_43 rfl (ev_21).symm (Nat.le_of_ble_eq_true rfl) rfl ?_
          refine tt_goto (pc := 46) (tgt := 4) E dX12_livingOn_46 rfl ?_
          refine tt_sub [2, 3, 1, 0] (lv' := [(0, .ref (B + o0)), (1, .int v1), (2, .int v_20), (3, .int v_21)]) rfl ?_
          exact ih v_20 v_21 hf
        · have hf := ip c_27 hf
          refine tt_iconst (pc := 33) (v := 1) E dX12_livingOn_33 ic_1 ?_
          refine tt_goto (pc := 34) (tgt := 38) E dX12_livingOn_34 rfl ?_
          obtain ⟨r_22, hr_23, hf⟩ := bd_some hf
          have hc_24 := cX12_truth_ok (l := l) (B := B) (D := D) (cT := cT) (n := n) (adK := adK) (adV := adV) ((Or.inr rfl)) hr_23
          refine tt_cI (pc := 38) (tt_si E lmX12_78 mtX12_truth hc_24 rfl rfl (Nat.le_of_ble_eq_true rfl) ⟨(Nat.le_of_ble_eq_true rfl), (Nat.le_of_ble_eq_true rfl)⟩ ⟨(Nat.le_of_ble_eq_true rfl), (Nat.le_of_ble_eq_true rfl)⟩ dX12_livingOn_38) ?_
          refine tt_iadd (pc := 41) E dX12_livingOn_41 ?_
          refine tt_nmI hf (fun v_25 hf => ?_)
          refine tt_istore_n (pc := 42) (i := 2) (lv' := [(2, .int v_25), (0, .ref (B + o0)), (1, .int v1), (3, .int v3)]) E dX12_livingOn_42 rfl (Nat.le_of_ble_eq_true rfl) rfl ?_
          obtain ⟨v_26, ev_26, hf⟩ := nm_ex hf
          refine tt_iinc (pc := 43) (i := 3) (j := 3) (lv' := [(3, .int v_26), (2, .int v_25), (0, .ref (B + o0)), (1, .int v1)]) E dX12_livingOn_43 rfl (ev_26).symm (Nat.le_of_ble_eq_true rfl) rfl ?_
          refine tt_goto (pc := 46) (tgt := 4) E dX12_livingOn_46 rfl ?_
          refine tt_sub [2, 3, 1, 0] (lv' := [(0, .ref (B + o0)), (1, .int v1), (2, .int v_25), (3, .int v_26)]) rfl ?_
          exact ih v_25 v_26 hf
set_option maxHeartbeats 4000000 in
theorem cX12_livingOn_ok {l : Launch} {B : Nat} {D : va_G} {cT : Nat → ClassId} {n : Nat} {adK adV : Nat → Nat} {o0 : Nat} {v1 : Int32} {μ : Mem} {res : Int32} (h0 : isK n o0 9) (hf : fX12_livingOn o0 v1 μ = some res) : MI l yX12_livingOn cX12_livingOn 4 (some .int) rmX12_livingOn B D cT (XW B adK adV) n [.ref (B + o0), .int v1] μ (res, μ) := by
  refine tt_ofW mtX12_livingOn.1 (Nat.le_of_ble_eq_true rfl) rfl ?_
  intro p e s m below meth c E0 hr hlk
  have E : EE p s m _ c cX12_livingOn 4 RX12 B D cT (XW B adK adV) := E0
  unfold fX12_livingOn at hf
  refine tt_iconst (pc := 0) (v := 0) E dX12_livingOn_0 ic_0 ?_
  refine tt_istore_n (pc := 1) (i := 2) (lv' := [(2, .int 0), (0, .ref (B + o0)), (1, .int v1)]) E dX12_livingOn_1 rfl (Nat.le_of_ble_eq_true rfl) rfl ?_
  refine tt_iconst (pc := 2) (v := 0) E dX12_livingOn_2 ic_0 ?_
  refine tt_istore_n (pc := 3) (i := 3) (lv' := [(3, .int 0), (2, .int 0), (0, .ref (B + o0)), (1, .int v1)]) E dX12_livingOn_3 rfl (Nat.le_of_ble_eq_true rfl) rfl ?_
  refine tt_sub [2, 3, 1, 0] (lv' := [(0, .ref (B + o0)), (1, .int v1), (2, .int 0), (3, .int 0)]) rfl ?_
  exact tX12_livingOn_4 E hr hlk h0 FU 0 0 hf
set_option maxHeartbeats 4000000 in
theorem tX12_lifeOn_4 {p : Program} {l : Launch} {e : Env} {s : State} {m : MethodId} {args : Array Value} {below : List Frame} {meth : Method} {c : Code} {B : Nat} {D : va_G} {cT : Nat → ClassId} {n : Nat} {adK adV : Nat → Nat} {res : Int32} (E : EE p s m args c cX12_lifeOn 4 RX12 B D cT (XW B adK adV)) (hr : meth.sig.returnType = some .int) (hlk : meth.locks = false) {o0 : Nat} {v1 : Int32} (h0 : isK n o0 9) {μ : Mem} : ∀ (fu : Nat) (v2 : Int32) (v3 : Int32), zl2 (gX12_lifeOn_4 o0 v1 μ) fu v2 v3 = some res → TT p l e rmX12_lifeOn s m args below meth c (QI B D cT n below args s (res, μ)) 4 B D cT n 0 0 μ 4 [(0, .ref (B + o0)), (1, .int v1), (2, .int v2), (3, .int v3)] [] := by
  intro fu
  induction fu with
  | zero => intro v2 v3 hf; exact absurd hf (fun h => by cases h)
  | succ fu ih =>
    intro v2 v3 hf
    have hf : gX12_lifeOn_4 o0 v1 μ (zl2 (gX12_lifeOn_4 o0 v1 μ) fu) v2 v3 = some res := hf
    unfold gX12_lifeOn_4 at hf
    refine tt_iload_n (pc := 4) (i := 3) (j := 3) E dX12_lifeOn_4 rfl rfl ?_
    refine tt_aload_n (pc := 5) (i := 0) (j := 0) E dX12_lifeOn_5 rfl rfl ?_
    obtain ⟨q_1, hq_2, hf⟩ := bd_some hf
    refine tt_getP (pc := 6) (t := 11) E lfX12_20 rfl rfl h0 dX12_lifeOn_6 hq_2 (fun kq_3 => ?_)
    refine tt_iconst (pc := 9) (v := 0) E dX12_lifeOn_9 ic_0 ?_
    obtain ⟨g_4, hf⟩ := gd_some hf
    refine tt_iald (pc := 10) E kq_3 g_4 dX12_lifeOn_10 ?_
    refine tt_icmp_ge (pc := 11) (tgt := 43) E dX12_lifeOn_11 rfl (fun c_16 => ?_) (fun c_16 => ?_)
    · have hf := ip c_16 hf
      refine tt_iload_n (pc := 43) (i := 2) (j := 2) E dX12_lifeOn_43 rfl rfl ?_
      exact tt_iret (pc := 44) E hr hlk dX12_lifeOn_44 (Nat.le_of_ble_eq_true rfl) (Nat.le_of_ble_eq_true rfl) (pv hf)
    · have hf := ine c_16 hf
      refine tt_iload_n (pc := 14) (i := 2) (j := 2) E dX12_lifeOn_14 rfl rfl ?_
      refine tt_aload_n (pc := 15) (i := 0) (j := 0) E dX12_lifeOn_15 rfl rfl ?_
      refine tt_iload_n (pc := 16) (i := 3) (j := 3) E dX12_lifeOn_16 rfl rfl ?_
      refine tt_iconst (pc := 17) (v := 0) E dX12_lifeOn_17 ic_0 ?_
      obtain ⟨r_5, hr_6, hf⟩ := bd_some hf
      have hc_7 := cX12_of_ok (l := l) (B := B) (D := D) (cT := cT) (n := n) (adK := adK) (adV := adV) h0 hr_6
      refine tt_cI (pc := 18) (tt_vi E lmX12_192 mtX12_of hc_7 h0 rfl rfl (Nat.le_of_ble_eq_true rfl) ⟨(Nat.le_of_ble_eq_true rfl), (Nat.le_of_ble_eq_true rfl)⟩ ⟨(Nat.le_of_ble_eq_true rfl), (Nat.le_of_ble_eq_true rfl)⟩ dX12_lifeOn_18) ?_
      refine tt_iload_n (pc := 21) (i := 1) (j := 1) E dX12_lifeOn_21 rfl rfl ?_
      refine tt_icmp_ne (pc := 22) (tgt := 34) E dX12_lifeOn_22 rfl (fun c_15 => ?_) (fun c_15 => ?_)
      · have hf := ine c_15 hf
        refine tt_iconst (pc := 34) (v := 0) E dX12_lifeOn_34 ic_0 ?_
        refine tt_iadd (pc := 35) E dX12_lifeOn_35 ?_
        refine tt_nmI hf (fun v_8 hf => ?_)
        refine tt_istore_n (pc := 36) (i := 2) (lv' := [(2, .int v_8), (0, .ref (B + o0)), (1, .int v1), (3, .int v3)]) E dX12_lifeOn_36 rfl (Nat.le_of_ble_eq_true rfl) rfl ?_
        obtain ⟨v_9, ev_9, hf⟩ := nm_ex hf
        refine tt_iinc (pc := 37) (i := 3) (j := 3) (lv' := [(3, .int v_9), (2, .int v_8), (0, .ref (B + o0)), (1, .int v1)]) E dX12_lifeOn_37 rfl (ev_9).symm (Nat.le_of_ble_eq_true rfl) rfl ?_
        refine tt_goto (pc := 40) (tgt := 4) E dX12_lifeOn_40 rfl ?_
        refine tt_sub [2, 3, 1, 0] (lv' := [(0, .ref (B + o0)), (1, .int v1), (2, .int v_8), (3, .int v_9)]) rfl ?_
        exact ih v_8 v_9 hf
      · have hf := ip c_15 hf
        refine tt_aload_n (pc := 25) (i := 0) (j := 0) E dX12_lifeOn_25 rfl rfl ?_
        refine tt_iload_n (pc := 26) (i := 3) (j := 3) E dX12_lifeOn_26 rfl rfl ?_
        refine tt_iconst (pc := 27) (v := 2) E dX12_lifeOn_27 ic_2 ?_
        obtain ⟨r_10, hr_11, hf⟩ := bd_some hf
        have hc_12 := cX12_of_ok (l := l) (B := B) (D := D) (cT := cT) (n := n) (adK := adK) (adV := adV) h0 hr_11
        refine tt_cI (pc := 28) (tt_vi E lmX12_192 mtX12_of hc_12 h0 rfl rfl (Nat.le_of_ble_eq_true rfl) ⟨(Nat.le_of_ble_eq_true rfl), (Nat.le_of_ble_eq_true rfl)⟩ ⟨(Nat.le_of_ble_eq_true rfl), (Nat.le_of_ble_eq_true rfl)⟩ dX12_lifeOn_28) ?_
        refine tt_goto (pc := 31) (tgt := 35) E dX12_lifeOn_31 rfl ?_
        refine tt_iadd (pc := 35) E dX12_lifeOn_35 ?_
        refine tt_nmI hf (fun v_13 hf => ?_)
        refine tt_istore_n (pc := 36) (i := 2) (lv' := [(2, .int v_13), (0, .ref (B + o0)), (1, .int v1), (3, .int v3)]) E dX12_lifeOn_36 rfl (Nat.le_of_ble_eq_true rfl) rfl ?_
        obtain ⟨v_14, ev_14, hf⟩ := nm_ex hf
        refine tt_iinc (pc := 37) (i := 3) (j := 3) (lv' := [(3, .int v_14), (2, .int v_13), (0, .ref (B + o0)), (1, .int v1)]) E dX12_lifeOn_37 rfl (ev_14).symm (Nat.le_of_ble_eq_true rfl) rfl ?_
        refine tt_goto (pc := 40) (tgt := 4) E dX12_lifeOn_40 rfl ?_
        refine tt_sub [2, 3, 1, 0] (lv' := [(0, .ref (B + o0)), (1, .int v1), (2, .int v_13), (3, .int v_14)]) rfl ?_
        exact ih v_13 v_14 hf
set_option maxHeartbeats 4000000 in
theorem cX12_lifeOn_ok {l : Launch} {B : Nat} {D : va_G} {cT : Nat → ClassId} {n : Nat} {adK adV : Nat → Nat} {o0 : Nat} {v1 : Int32} {μ : Mem} {res : Int32} (h0 : isK n o0 9) (hf : fX12_lifeOn o0 v1 μ = some res) : MI l yX12_lifeOn cX12_lifeOn 4 (some .int) rmX12_lifeOn B D cT (XW B adK adV) n [.ref (B + o0), .int v1] μ (res, μ) := by
  refine tt_ofW mtX12_lifeOn.1 (Nat.le_of_ble_eq_true rfl) rfl ?_
  intro p e s m below meth c E0 hr hlk
  have E : EE p s m _ c cX12_lifeOn 4 RX12 B D cT (XW B adK adV) := E0
  unfold fX12_lifeOn at hf
  refine tt_iconst (pc := 0) (v := 0) E dX12_lifeOn_0 ic_0 ?_
  refine tt_istore_n (pc := 1) (i := 2) (lv' := [(2, .int 0), (0, .ref (B + o0)), (1, .int v1)]) E dX12_lifeOn_1 rfl (Nat.le_of_ble_eq_true rfl) rfl ?_
  refine tt_iconst (pc := 2) (v := 0) E dX12_lifeOn_2 ic_0 ?_
  refine tt_istore_n (pc := 3) (i := 3) (lv' := [(3, .int 0), (2, .int 0), (0, .ref (B + o0)), (1, .int v1)]) E dX12_lifeOn_3 rfl (Nat.le_of_ble_eq_true rfl) rfl ?_
  refine tt_sub [2, 3, 1, 0] (lv' := [(0, .ref (B + o0)), (1, .int v1), (2, .int 0), (3, .int 0)]) rfl ?_
  exact tX12_lifeOn_4 E hr hlk h0 FU 0 0 hf
set_option maxHeartbeats 4000000 in
theorem cX12_isOver_ok {l : Launch} {B : Nat} {D : va_G} {cT : Nat → ClassId} {n : Nat} {adK adV : Nat → Nat} {o0 : Nat} {μ : Mem} {res : Int32} (h0 : isK n o0 9) (hf : fX12_isOver o0 μ = some res) : MZ l yX12_isOver cX12_isOver 1 (some .boolean) rmX12_isOver B D cT (XW B adK adV) n [.ref (B + o0)] μ (res, μ) := by
  refine tt_ofW mtX12_isOver.1 (Nat.le_of_ble_eq_true rfl) rfl ?_
  intro p e s m below meth c E0 hr hlk
  have E : EE p s m _ c cX12_isOver 1 RX12 B D cT (XW B adK adV) := E0
  unfold fX12_isOver at hf
  refine tt_aload_n (pc := 0) (i := 0) (j := 0) E dX12_isOver_0 rfl rfl ?_
  refine tt_iconst (pc := 1) (v := 0) E dX12_isOver_1 ic_0 ?_
  obtain ⟨r_1, hr_2, hf⟩ := bd_some hf
  have hc_3 := cX12_livingOn_ok (l := l) (B := B) (D := D) (cT := cT) (n := n) (adK := adK) (adV := adV) h0 hr_2
  refine tt_cI (pc := 2) (tt_vi E lmX12_266 mtX12_livingOn hc_3 h0 rfl rfl (Nat.le_of_ble_eq_true rfl) ⟨(Nat.le_of_ble_eq_true rfl), (Nat.le_of_ble_eq_true rfl)⟩ ⟨(Nat.le_of_ble_eq_true rfl), (Nat.le_of_ble_eq_true rfl)⟩ dX12_isOver_2) ?_
  refine tt_if_eq (pc := 5) (tgt := 16) E dX12_isOver_5 rfl (fun c_8 => ?_) (fun c_8 => ?_)
  · have hf := ip c_8 hf
    refine tt_iconst (pc := 16) (v := 1) E dX12_isOver_16 ic_1 ?_
    refine tt_goto (pc := 17) (tgt := 21) E dX12_isOver_17 rfl ?_
    exact tt_zret (pc := 21) E ((Or.inr rfl)) hr hlk dX12_isOver_21 (Nat.le_of_ble_eq_true rfl) (Nat.le_of_ble_eq_true rfl) (pv hf)
  · have hf := ine c_8 hf
    refine tt_aload_n (pc := 8) (i := 0) (j := 0) E dX12_isOver_8 rfl rfl ?_
    refine tt_iconst (pc := 9) (v := 1) E dX12_isOver_9 ic_1 ?_
    obtain ⟨r_4, hr_5, hf⟩ := bd_some hf
    have hc_6 := cX12_livingOn_ok (l := l) (B := B) (D := D) (cT := cT) (n := n) (adK := adK) (adV := adV) h0 hr_5
    refine tt_cI (pc := 10) (tt_vi E lmX12_266 mtX12_livingOn hc_6 h0 rfl rfl (Nat.le_of_ble_eq_true rfl) ⟨(Nat.le_of_ble_eq_true rfl), (Nat.le_of_ble_eq_true rfl)⟩ ⟨(Nat.le_of_ble_eq_true rfl), (Nat.le_of_ble_eq_true rfl)⟩ dX12_isOver_10) ?_
    refine tt_if_ne (pc := 13) (tgt := 20) E dX12_isOver_13 rfl (fun c_7 => ?_) (fun c_7 => ?_)
    · have hf := ine c_7 hf
      refine tt_iconst (pc := 20) (v := 0) E dX12_isOver_20 ic_0 ?_
      exact tt_zret (pc := 21) E ((Or.inl rfl)) hr hlk dX12_isOver_21 (Nat.le_of_ble_eq_true rfl) (Nat.le_of_ble_eq_true rfl) (pv hf)
    · have hf := ip c_7 hf
      refine tt_iconst (pc := 16) (v := 1) E dX12_isOver_16 ic_1 ?_
      refine tt_goto (pc := 17) (tgt := 21) E dX12_isOver_17 rfl ?_
      exact tt_zret (pc := 21) E ((Or.inr rfl)) hr hlk dX12_isOver_21 (Nat.le_of_ble_eq_true rfl) (Nat.le_of_ble_eq_true rfl) (pv hf)
set_option maxHeartbeats 4000000 in
theorem cX12_sideThatWon_ok {l : Launch} {B : Nat} {D : va_G} {cT : Nat → ClassId} {n : Nat} {adK adV : Nat → Nat} {o0 : Nat} {μ : Mem} {res : Int32} (h0 : isK n o0 9) (hf : fX12_sideThatWon o0 μ = some res) : MI l yX12_sideThatWon cX12_sideThatWon 1 (some .int) rmX12_sideThatWon B D cT (XW B adK adV) n [.ref (B + o0)] μ (res, μ) := by
  refine tt_ofW mtX12_sideThatWon.1 (Nat.le_of_ble_eq_true rfl) rfl ?_
  intro p e s m below meth c E0 hr hlk
  have E : EE p s m _ c cX12_sideThatWon 1 RX12 B D cT (XW B adK adV) := E0
  unfold fX12_sideThatWon at hf
  refine tt_aload_n (pc := 0) (i := 0) (j := 0) E dX12_sideThatWon_0 rfl rfl ?_
  obtain ⟨r_1, hr_2, hf⟩ := bd_some hf
  have hc_3 := cX12_isOver_ok (l := l) (B := B) (D := D) (cT := cT) (n := n) (adK := adK) (adV := adV) h0 hr_2
  refine tt_cZ (pc := 1) (tt_vi E lmX12_269 mtX12_isOver hc_3 h0 rfl rfl (Nat.le_of_ble_eq_true rfl) ⟨(Nat.le_of_ble_eq_true rfl), (Nat.le_of_ble_eq_true rfl)⟩ ⟨(Nat.le_of_ble_eq_true rfl), (Nat.le_of_ble_eq_true rfl)⟩ dX12_sideThatWon_1) (fun z_4 => ?_)
  refine tt_if_ne (pc := 4) (tgt := 9) E dX12_sideThatWon_4 rfl (fun c_13 => ?_) (fun c_13 => ?_)
  · have hf := ine c_13 hf
    refine tt_aload_n (pc := 9) (i := 0) (j := 0) E dX12_sideThatWon_9 rfl rfl ?_
    refine tt_iconst (pc := 10) (v := 0) E dX12_sideThatWon_10 ic_0 ?_
    obtain ⟨r_5, hr_6, hf⟩ := bd_some hf
    have hc_7 := cX12_livingOn_ok (l := l) (B := B) (D := D) (cT := cT) (n := n) (adK := adK) (adV := adV) h0 hr_6
    refine tt_cI (pc := 11) (tt_vi E lmX12_266 mtX12_livingOn hc_7 h0 rfl rfl (Nat.le_of_ble_eq_true rfl) ⟨(Nat.le_of_ble_eq_true rfl), (Nat.le_of_ble_eq_true rfl)⟩ ⟨(Nat.le_of_ble_eq_true rfl), (Nat.le_of_ble_eq_true rfl)⟩ dX12_sideThatWon_11) ?_
    refine tt_if_le (pc := 14) (tgt := 19) E dX12_sideThatWon_14 rfl (fun c_12 => ?_) (fun c_12 => ?_)
    · have hf := ip c_12 hf
      refine tt_aload_n (pc := 19) (i := 0) (j := 0) E dX12_sideThatWon_19 rfl rfl ?_
      refine tt_iconst (pc := 20) (v := 1) E dX12_sideThatWon_20 ic_1 ?_
      obtain ⟨r_8, hr_9, hf⟩ := bd_some hf
      have hc_10 := cX12_livingOn_ok (l := l) (B := B) (D := D) (cT := cT) (n := n) (adK := adK) (adV := adV) h0 hr_9
      refine tt_cI (pc := 21) (tt_vi E lmX12_266 mtX12_livingOn hc_10 h0 rfl rfl (Nat.le_of_ble_eq_true rfl) ⟨(Nat.le_of_ble_eq_true rfl), (Nat.le_of_ble_eq_true rfl)⟩ ⟨(Nat.le_of_ble_eq_true rfl), (Nat.le_of_ble_eq_true rfl)⟩ dX12_sideThatWon_21) ?_
      refine tt_if_le (pc := 24) (tgt := 31) E dX12_sideThatWon_24 rfl (fun c_11 => ?_) (fun c_11 => ?_)
      · have hf := ip c_11 hf
        refine tt_iconst (pc := 31) (v := (-1)) E dX12_sideThatWon_31 ic_m1 ?_
        exact tt_iret (pc := 32) E hr hlk dX12_sideThatWon_32 (Nat.le_of_ble_eq_true rfl) (Nat.le_of_ble_eq_true rfl) (pv hf)
      · have hf := ine c_11 hf
        refine tt_iconst (pc := 27) (v := 1) E dX12_sideThatWon_27 ic_1 ?_
        refine tt_goto (pc := 28) (tgt := 32) E dX12_sideThatWon_28 rfl ?_
        exact tt_iret (pc := 32) E hr hlk dX12_sideThatWon_32 (Nat.le_of_ble_eq_true rfl) (Nat.le_of_ble_eq_true rfl) (pv hf)
    · have hf := ine c_12 hf
      refine tt_iconst (pc := 17) (v := 0) E dX12_sideThatWon_17 ic_0 ?_
      exact tt_iret (pc := 18) E hr hlk dX12_sideThatWon_18 (Nat.le_of_ble_eq_true rfl) (Nat.le_of_ble_eq_true rfl) (pv hf)
  · have hf := ip c_13 hf
    refine tt_iconst (pc := 7) (v := (-1)) E dX12_sideThatWon_7 ic_m1 ?_
    exact tt_iret (pc := 8) E hr hlk dX12_sideThatWon_8 (Nat.le_of_ble_eq_true rfl) (Nat.le_of_ble_eq_true rfl) (pv hf)
set_option maxHeartbeats 4000000 in
theorem cX12_ticksFor_ok {l : Launch} {B : Nat} {D : va_G} {cT : Nat → ClassId} {n : Nat} {adK adV : Nat → Nat} {o0 : Nat} {v1 : Int32} {μ : Mem} {res : Int32} (h0 : isK n o0 9) (hf : fX12_ticksFor o0 v1 μ = some res) : MI l yX12_ticksFor cX12_ticksFor 3 (some .int) rmX12_ticksFor B D cT (XW B adK adV) n [.ref (B + o0), .int v1] μ (res, μ) := by
  refine tt_ofW mtX12_ticksFor.1 (Nat.le_of_ble_eq_true rfl) rfl ?_
  intro p e s m below meth c E0 hr hlk
  have E : EE p s m _ c cX12_ticksFor 3 RX12 B D cT (XW B adK adV) := E0
  unfold fX12_ticksFor at hf
  refine tt_aload_n (pc := 0) (i := 0) (j := 0) E dX12_ticksFor_0 rfl rfl ?_
  obtain ⟨q_1, hq_2, hf⟩ := bd_some hf
  refine tt_getP (pc := 1) (t := 11) E lfX12_20 rfl rfl h0 dX12_ticksFor_1 hq_2 (fun kq_3 => ?_)
  refine tt_iconst (pc := 4) (v := 1) E dX12_ticksFor_4 ic_1 ?_
  obtain ⟨g_4, hf⟩ := gd_some hf
  refine tt_iald (pc := 5) E kq_3 g_4 dX12_ticksFor_5 ?_
  refine tt_aload_n (pc := 6) (i := 0) (j := 0) E dX12_ticksFor_6 rfl rfl ?_
  refine tt_iload_n (pc := 7) (i := 1) (j := 1) E dX12_ticksFor_7 rfl rfl ?_
  refine tt_iconst (pc := 8) (v := 4) E dX12_ticksFor_8 ic_4 ?_
  obtain ⟨r_5, hr_6, hf⟩ := bd_some hf
  have hc_7 := cX12_of_ok (l := l) (B := B) (D := D) (cT := cT) (n := n) (adK := adK) (adV := adV) h0 hr_6
  refine tt_cI (pc := 9) (tt_vi E lmX12_192 mtX12_of hc_7 h0 rfl rfl (Nat.le_of_ble_eq_true rfl) ⟨(Nat.le_of_ble_eq_true rfl), (Nat.le_of_ble_eq_true rfl)⟩ ⟨(Nat.le_of_ble_eq_true rfl), (Nat.le_of_ble_eq_true rfl)⟩ dX12_ticksFor_9) ?_
  refine tt_isub (pc := 12) E dX12_ticksFor_12 ?_
  refine tt_nmI hf (fun v_8 hf => ?_)
  refine tt_istore_n (pc := 13) (i := 2) (lv' := [(2, .int v_8), (0, .ref (B + o0)), (1, .int v1)]) E dX12_ticksFor_13 rfl (Nat.le_of_ble_eq_true rfl) rfl ?_
  refine tt_iload_n (pc := 14) (i := 2) (j := 0) E dX12_ticksFor_14 rfl rfl ?_
  refine tt_if_gt (pc := 15) (tgt := 22) E dX12_ticksFor_15 rfl (fun c_16 => ?_) (fun c_16 => ?_)
  · have hf := ip c_16 hf
    refine tt_iload_n (pc := 22) (i := 2) (j := 0) E dX12_ticksFor_22 rfl rfl ?_
    refine tt_aload_n (pc := 23) (i := 0) (j := 1) E dX12_ticksFor_23 rfl rfl ?_
    refine tt_iload_n (pc := 24) (i := 1) (j := 2) E dX12_ticksFor_24 rfl rfl ?_
    refine tt_iconst (pc := 25) (v := 1) E dX12_ticksFor_25 ic_1 ?_
    obtain ⟨r_9, hr_10, hf⟩ := bd_some hf
    have hc_11 := cX12_of_ok (l := l) (B := B) (D := D) (cT := cT) (n := n) (adK := adK) (adV := adV) h0 hr_10
    refine tt_cI (pc := 26) (tt_vi E lmX12_192 mtX12_of hc_11 h0 rfl rfl (Nat.le_of_ble_eq_true rfl) ⟨(Nat.le_of_ble_eq_true rfl), (Nat.le_of_ble_eq_true rfl)⟩ ⟨(Nat.le_of_ble_eq_true rfl), (Nat.le_of_ble_eq_true rfl)⟩ dX12_ticksFor_26) ?_
    refine tt_iadd (pc := 29) E dX12_ticksFor_29 ?_
    refine tt_iconst (pc := 30) (v := 1) E dX12_ticksFor_30 ic_1 ?_
    refine tt_isub (pc := 31) E dX12_ticksFor_31 ?_
    refine tt_aload_n (pc := 32) (i := 0) (j := 1) E dX12_ticksFor_32 rfl rfl ?_
    refine tt_iload_n (pc := 33) (i := 1) (j := 2) E dX12_ticksFor_33 rfl rfl ?_
    refine tt_iconst (pc := 34) (v := 1) E dX12_ticksFor_34 ic_1 ?_
    obtain ⟨r_12, hr_13, hf⟩ := bd_some hf
    have hc_14 := cX12_of_ok (l := l) (B := B) (D := D) (cT := cT) (n := n) (adK := adK) (adV := adV) h0 hr_13
    refine tt_cI (pc := 35) (tt_vi E lmX12_192 mtX12_of hc_14 h0 rfl rfl (Nat.le_of_ble_eq_true rfl) ⟨(Nat.le_of_ble_eq_true rfl), (Nat.le_of_ble_eq_true rfl)⟩ ⟨(Nat.le_of_ble_eq_true rfl), (Nat.le_of_ble_eq_true rfl)⟩ dX12_ticksFor_35) ?_
    obtain ⟨g_15, hf⟩ := gd_some hf
    refine tt_idiv (pc := 38) E dX12_ticksFor_38 (nz_ne g_15) ?_
    exact tt_iret (pc := 39) E hr hlk dX12_ticksFor_39 (Nat.le_of_ble_eq_true rfl) (Nat.le_of_ble_eq_true rfl) (pv hf)
  · have hf := ine c_16 hf
    refine tt_iconst (pc := 18) (v := 0) E dX12_ticksFor_18 ic_0 ?_
    refine tt_goto (pc := 19) (tgt := 39) E dX12_ticksFor_19 rfl ?_
    exact tt_iret (pc := 39) E hr hlk dX12_ticksFor_39 (Nat.le_of_ble_eq_true rfl) (Nat.le_of_ble_eq_true rfl) (pv hf)
set_option maxHeartbeats 4000000 in
theorem tX12_withExtra_2 {p : Program} {l : Launch} {e : Env} {s : State} {m : MethodId} {args : Array Value} {below : List Frame} {meth : Method} {c : Code} {B : Nat} {D : va_G} {cT : Nat → ClassId} {n : Nat} {adK adV : Nat → Nat} {res : Int32} (E : EE p s m args c cX12_withExtra 2 RX12 B D cT (XW B adK adV)) (hr : meth.sig.returnType = some .int) (hlk : meth.locks = false) {o0 : Nat} (h0 : isK n o0 9) {μ : Mem} : ∀ (fu : Nat) (v1 : Int32), zl1 (gX12_withExtra_2 o0 μ) fu v1 = some res → TT p l e rmX12_withExtra s m args below meth c (QI B D cT n below args s (res, μ)) 2 B D cT n 0 0 μ 2 [(0, .ref (B + o0)), (1, .int v1)] [] := by
  intro fu
  induction fu with
  | zero => intro v1 hf; exact absurd hf (fun h => by cases h)
  | succ fu ih =>
    intro v1 hf
    have hf : gX12_withExtra_2 o0 μ (zl1 (gX12_withExtra_2 o0 μ) fu) v1 = some res := hf
    unfold gX12_withExtra_2 at hf
    refine tt_iload_n (pc := 2) (i := 1) (j := 1) E dX12_withExtra_2 rfl rfl ?_
    refine tt_aload_n (pc := 3) (i := 0) (j := 0) E dX12_withExtra_3 rfl rfl ?_
    obtain ⟨q_1, hq_2, hf⟩ := bd_some hf
    refine tt_getP (pc := 4) (t := 11) E lfX12_20 rfl rfl h0 dX12_withExtra_4 hq_2 (fun kq_3 => ?_)
    refine tt_iconst (pc := 7) (v := 0) E dX12_withExtra_7 ic_0 ?_
    obtain ⟨g_4, hf⟩ := gd_some hf
    refine tt_iald (pc := 8) E kq_3 g_4 dX12_withExtra_8 ?_
    refine tt_icmp_ge (pc := 9) (tgt := 38) E dX12_withExtra_9 rfl (fun c_16 => ?_) (fun c_16 => ?_)
    · have hf := ip c_16 hf
      refine tt_iconst (pc := 38) (v := (-1)) E dX12_withExtra_38 ic_m1 ?_
      exact tt_iret (pc := 39) E hr hlk dX12_withExtra_39 (Nat.le_of_ble_eq_true rfl) (Nat.le_of_ble_eq_true rfl) (pv hf)
    · have hf := ine c_16 hf
      refine tt_aload_n (pc := 12) (i := 0) (j := 0) E dX12_withExtra_12 rfl rfl ?_
      refine tt_iload_n (pc := 13) (i := 1) (j := 1) E dX12_withExtra_13 rfl rfl ?_
      obtain ⟨r_5, hr_6, hf⟩ := bd_some hf
      have hc_7 := cX12_lives_ok (l := l) (B := B) (D := D) (cT := cT) (n := n) (adK := adK) (adV := adV) h0 hr_6
      refine tt_cZ (pc := 14) (tt_vi E lmX12_263 mtX12_lives hc_7 h0 rfl rfl (Nat.le_of_ble_eq_true rfl) ⟨(Nat.le_of_ble_eq_true rfl), (Nat.le_of_ble_eq_true rfl)⟩ ⟨(Nat.le_of_ble_eq_true rfl), (Nat.le_of_ble_eq_true rfl)⟩ dX12_withExtra_14) (fun z_8 => ?_)
      refine tt_if_eq (pc := 17) (tgt := 32) E dX12_withExtra_17 rfl (fun c_15 => ?_) (fun c_15 => ?_)
      · have hf := ip c_15 hf
        obtain ⟨v_9, ev_9, hf⟩ := nm_ex hf
        refine tt_iinc (pc := 32) (i := 1) (j := 1) (lv' := [(1, .int v_9), (0, .ref (B + o0))]) E dX12_withExtra_32 rfl (ev_9).symm (Nat.le_of_ble_eq_true rfl) rfl ?_
        refine tt_goto (pc := 35) (tgt := 2) E dX12_withExtra_35 rfl ?_
        refine tt_sub [1, 0] (lv' := [(0, .ref (B + o0)), (1, .int v_9)]) rfl ?_
        exact ih v_9 hf
      · have hf := ine c_15 hf
        refine tt_aload_n (pc := 20) (i := 0) (j := 0) E dX12_withExtra_20 rfl rfl ?_
        refine tt_iload_n (pc := 21) (i := 1) (j := 1) E dX12_withExtra_21 rfl rfl ?_
        refine tt_bipush (pc := 22) (v := 6) E dX12_withExtra_22 bc_6 ?_
        obtain ⟨r_10, hr_11, hf⟩ := bd_some hf
        have hc_12 := cX12_of_ok (l := l) (B := B) (D := D) (cT := cT) (n := n) (adK := adK) (adV := adV) h0 hr_11
        refine tt_cI (pc := 24) (tt_vi E lmX12_192 mtX12_of hc_12 h0 rfl rfl (Nat.le_of_ble_eq_true rfl) ⟨(Nat.le_of_ble_eq_true rfl), (Nat.le_of_ble_eq_true rfl)⟩ ⟨(Nat.le_of_ble_eq_true rfl), (Nat.le_of_ble_eq_true rfl)⟩ dX12_withExtra_24) ?_
        refine tt_if_le (pc := 27) (tgt := 32) E dX12_withExtra_27 rfl (fun c_14 => ?_) (fun c_14 => ?_)
        · have hf := ip c_14 hf
          obtain ⟨v_13, ev_13, hf⟩ := nm_ex hf
          refine tt_iinc (pc := 32) (i := 1) (j := 1) (lv' := [(1, .int v_13), (0, .ref (B + o0))]) E dX12_withExtra_32 rfl (ev_13).symm (Nat.le_of_ble_eq_true rfl) rfl ?_
          refine tt_goto (pc := 35) (tgt := 2) E dX12_withExtra_35 rfl ?_
          refine tt_sub [1, 0] (lv' := [(0, .ref (B + o0)), (1, .int v_13)]) rfl ?_
          exact ih v_13 hf
        · have hf := ine c_14 hf
          refine tt_iload_n (pc := 30) (i := 1) (j := 1) E dX12_withExtra_30 rfl rfl ?_
          exact tt_iret (pc := 31) E hr hlk dX12_withExtra_31 (Nat.le_of_ble_eq_true rfl) (Nat.le_of_ble_eq_true rfl) (pv hf)
set_option maxHeartbeats 4000000 in
theorem cX12_withExtra_ok {l : Launch} {B : Nat} {D : va_G} {cT : Nat → ClassId} {n : Nat} {adK adV : Nat → Nat} {o0 : Nat} {μ : Mem} {res : Int32} (h0 : isK n o0 9) (hf : fX12_withExtra o0 μ = some res) : MI l yX12_withExtra cX12_withExtra 2 (some .int) rmX12_withExtra B D cT (XW B adK adV) n [.ref (B + o0)] μ (res, μ) := by
  refine tt_ofW mtX12_withExtra.1 (Nat.le_of_ble_eq_true rfl) rfl ?_
  intro p e s m below meth c E0 hr hlk
  have E : EE p s m _ c cX12_withExtra 2 RX12 B D cT (XW B adK adV) := E0
  unfold fX12_withExtra at hf
  refine tt_iconst (pc := 0) (v := 0) E dX12_withExtra_0 ic_0 ?_
  refine tt_istore_n (pc := 1) (i := 1) (lv' := [(1, .int 0), (0, .ref (B + o0))]) E dX12_withExtra_1 rfl (Nat.le_of_ble_eq_true rfl) rfl ?_
  refine tt_sub [1, 0] (lv' := [(0, .ref (B + o0)), (1, .int 0)]) rfl ?_
  exact tX12_withExtra_2 E hr hlk h0 FU 0 hf
set_option maxHeartbeats 4000000 in
theorem cX12_isAhead_ok {l : Launch} {B : Nat} {D : va_G} {cT : Nat → ClassId} {n : Nat} {adK adV : Nat → Nat} {o0 : Nat} {v1 : Int32} {v2 : Int32} {μ : Mem} {res : Int32} (h0 : isK n o0 9) (hf : fX12_isAhead o0 v1 v2 μ = some res) : MZ l yX12_isAhead cX12_isAhead 4 (some .boolean) rmX12_isAhead B D cT (XW B adK adV) n [.ref (B + o0), .int v1, .int v2] μ (res, μ) := by
  refine tt_ofW mtX12_isAhead.1 (Nat.le_of_ble_eq_true rfl) rfl ?_
  intro p e s m below meth c E0 hr hlk
  have E : EE p s m _ c cX12_isAhead 4 RX12 B D cT (XW B adK adV) := E0
  unfold fX12_isAhead at hf
  refine tt_iload_n (pc := 0) (i := 2) (j := 2) E dX12_isAhead_0 rfl rfl ?_
  refine tt_iconst (pc := 1) (v := (-1)) E dX12_isAhead_1 ic_m1 ?_
  refine tt_icmp_ne (pc := 2) (tgt := 7) E dX12_isAhead_2 rfl (fun c_17 => ?_) (fun c_17 => ?_)
  · have hf := ine c_17 hf
    refine tt_aload_n (pc := 7) (i := 0) (j := 0) E dX12_isAhead_7 rfl rfl ?_
    refine tt_iload_n (pc := 8) (i := 1) (j := 1) E dX12_isAhead_8 rfl rfl ?_
    refine tt_iconst (pc := 9) (v := 4) E dX12_isAhead_9 ic_4 ?_
    obtain ⟨r_1, hr_2, hf⟩ := bd_some hf
    have hc_3 := cX12_of_ok (l := l) (B := B) (D := D) (cT := cT) (n := n) (adK := adK) (adV := adV) h0 hr_2
    refine tt_cI (pc := 10) (tt_vi E lmX12_192 mtX12_of hc_3 h0 rfl rfl (Nat.le_of_ble_eq_true rfl) ⟨(Nat.le_of_ble_eq_true rfl), (Nat.le_of_ble_eq_true rfl)⟩ ⟨(Nat.le_of_ble_eq_true rfl), (Nat.le_of_ble_eq_true rfl)⟩ dX12_isAhead_10) ?_
    refine tt_aload_n (pc := 13) (i := 0) (j := 0) E dX12_isAhead_13 rfl rfl ?_
    refine tt_iload_n (pc := 14) (i := 2) (j := 2) E dX12_isAhead_14 rfl rfl ?_
    refine tt_iconst (pc := 15) (v := 4) E dX12_isAhead_15 ic_4 ?_
    obtain ⟨r_4, hr_5, hf⟩ := bd_some hf
    have hc_6 := cX12_of_ok (l := l) (B := B) (D := D) (cT := cT) (n := n) (adK := adK) (adV := adV) h0 hr_5
    refine tt_cI (pc := 16) (tt_vi E lmX12_192 mtX12_of hc_6 h0 rfl rfl (Nat.le_of_ble_eq_true rfl) ⟨(Nat.le_of_ble_eq_true rfl), (Nat.le_of_ble_eq_true rfl)⟩ ⟨(Nat.le_of_ble_eq_true rfl), (Nat.le_of_ble_eq_true rfl)⟩ dX12_isAhead_16) ?_
    refine tt_isub (pc := 19) E dX12_isAhead_19 ?_
    refine tt_nmI hf (fun v_7 hf => ?_)
    refine tt_istore_n (pc := 20) (i := 3) (lv' := [(3, .int v_7), (0, .ref (B + o0)), (1, .int v1), (2, .int v2)]) E dX12_isAhead_20 rfl (Nat.le_of_ble_eq_true rfl) rfl ?_
    refine tt_iload_n (pc := 21) (i := 3) (j := 0) E dX12_isAhead_21 rfl rfl ?_
    refine tt_if_gt (pc := 22) (tgt := 44) E dX12_isAhead_22 rfl (fun c_16 => ?_) (fun c_16 => ?_)
    · have hf := ip c_16 hf
      refine tt_iconst (pc := 44) (v := 1) E dX12_isAhead_44 ic_1 ?_
      refine tt_goto (pc := 45) (tgt := 49) E dX12_isAhead_45 rfl ?_
      exact tt_zret (pc := 49) E ((Or.inr rfl)) hr hlk dX12_isAhead_49 (Nat.le_of_ble_eq_true rfl) (Nat.le_of_ble_eq_true rfl) (pv hf)
    · have hf := ine c_16 hf
      refine tt_iload_n (pc := 25) (i := 3) (j := 0) E dX12_isAhead_25 rfl rfl ?_
      refine tt_if_ne (pc := 26) (tgt := 48) E dX12_isAhead_26 rfl (fun c_15 => ?_) (fun c_15 => ?_)
      · have hf := ine c_15 hf
        refine tt_iconst (pc := 48) (v := 0) E dX12_isAhead_48 ic_0 ?_
        exact tt_zret (pc := 49) E ((Or.inl rfl)) hr hlk dX12_isAhead_49 (Nat.le_of_ble_eq_true rfl) (Nat.le_of_ble_eq_true rfl) (pv hf)
      · have hf := ip c_15 hf
        refine tt_aload_n (pc := 29) (i := 0) (j := 1) E dX12_isAhead_29 rfl rfl ?_
        refine tt_iload_n (pc := 30) (i := 1) (j := 2) E dX12_isAhead_30 rfl rfl ?_
        refine tt_iconst (pc := 31) (v := 3) E dX12_isAhead_31 ic_3 ?_
        obtain ⟨r_8, hr_9, hf⟩ := bd_some hf
        have hc_10 := cX12_of_ok (l := l) (B := B) (D := D) (cT := cT) (n := n) (adK := adK) (adV := adV) h0 hr_9
        refine tt_cI (pc := 32) (tt_vi E lmX12_192 mtX12_of hc_10 h0 rfl rfl (Nat.le_of_ble_eq_true rfl) ⟨(Nat.le_of_ble_eq_true rfl), (Nat.le_of_ble_eq_true rfl)⟩ ⟨(Nat.le_of_ble_eq_true rfl), (Nat.le_of_ble_eq_true rfl)⟩ dX12_isAhead_32) ?_
        refine tt_aload_n (pc := 35) (i := 0) (j := 1) E dX12_isAhead_35 rfl rfl ?_
        refine tt_iload_n (pc := 36) (i := 2) (j := 3) E dX12_isAhead_36 rfl rfl ?_
        refine tt_iconst (pc := 37) (v := 3) E dX12_isAhead_37 ic_3 ?_
        obtain ⟨r_11, hr_12, hf⟩ := bd_some hf
        have hc_13 := cX12_of_ok (l := l) (B := B) (D := D) (cT := cT) (n := n) (adK := adK) (adV := adV) h0 hr_12
        refine tt_cI (pc := 38) (tt_vi E lmX12_192 mtX12_of hc_13 h0 rfl rfl (Nat.le_of_ble_eq_true rfl) ⟨(Nat.le_of_ble_eq_true rfl), (Nat.le_of_ble_eq_true rfl)⟩ ⟨(Nat.le_of_ble_eq_true rfl), (Nat.le_of_ble_eq_true rfl)⟩ dX12_isAhead_38) ?_
        refine tt_icmp_le (pc := 41) (tgt := 48) E dX12_isAhead_41 rfl (fun c_14 => ?_) (fun c_14 => ?_)
        · have hf := ip c_14 hf
          refine tt_iconst (pc := 48) (v := 0) E dX12_isAhead_48 ic_0 ?_
          exact tt_zret (pc := 49) E ((Or.inl rfl)) hr hlk dX12_isAhead_49 (Nat.le_of_ble_eq_true rfl) (Nat.le_of_ble_eq_true rfl) (pv hf)
        · have hf := ine c_14 hf
          refine tt_iconst (pc := 44) (v := 1) E dX12_isAhead_44 ic_1 ?_
          refine tt_goto (pc := 45) (tgt := 49) E dX12_isAhead_45 rfl ?_
          exact tt_zret (pc := 49) E ((Or.inr rfl)) hr hlk dX12_isAhead_49 (Nat.le_of_ble_eq_true rfl) (Nat.le_of_ble_eq_true rfl) (pv hf)
  · have hf := ip c_17 hf
    refine tt_iconst (pc := 5) (v := 1) E dX12_isAhead_5 ic_1 ?_
    exact tt_zret (pc := 6) E ((Or.inr rfl)) hr hlk dX12_isAhead_6 (Nat.le_of_ble_eq_true rfl) (Nat.le_of_ble_eq_true rfl) (pv hf)
set_option maxHeartbeats 4000000 in
theorem tX12_ready_4 {p : Program} {l : Launch} {e : Env} {s : State} {m : MethodId} {args : Array Value} {below : List Frame} {meth : Method} {c : Code} {B : Nat} {D : va_G} {cT : Nat → ClassId} {n : Nat} {adK adV : Nat → Nat} {res : Int32} (E : EE p s m args c cX12_ready 3 RX12 B D cT (XW B adK adV)) (hr : meth.sig.returnType = some .int) (hlk : meth.locks = false) {o0 : Nat} (h0 : isK n o0 9) {μ : Mem} : ∀ (fu : Nat) (v1 : Int32) (v2 : Int32), zl2 (gX12_ready_4 o0 μ) fu v1 v2 = some res → TT p l e rmX12_ready s m args below meth c (QI B D cT n below args s (res, μ)) 3 B D cT n 0 0 μ 4 [(0, .ref (B + o0)), (1, .int v1), (2, .int v2)] [] := by
  intro fu
  induction fu with
  | zero => intro v1 v2 hf; exact absurd hf (fun h => by cases h)
  | succ fu ih =>
    intro v1 v2 hf
    have hf : gX12_ready_4 o0 μ (zl2 (gX12_ready_4 o0 μ) fu) v1 v2 = some res := hf
    unfold gX12_ready_4 at hf
    refine tt_iload_n (pc := 4) (i := 2) (j := 2) E dX12_ready_4 rfl rfl ?_
    refine tt_aload_n (pc := 5) (i := 0) (j := 0) E dX12_ready_5 rfl rfl ?_
    obtain ⟨q_1, hq_2, hf⟩ := bd_some hf
    refine tt_getP (pc := 6) (t := 11) E lfX12_20 rfl rfl h0 dX12_ready_6 hq_2 (fun kq_3 => ?_)
    refine tt_iconst (pc := 9) (v := 0) E dX12_ready_9 ic_0 ?_
    obtain ⟨g_4, hf⟩ := gd_some hf
    refine tt_iald (pc := 10) E kq_3 g_4 dX12_ready_10 ?_
    refine tt_icmp_ge (pc := 11) (tgt := 54) E dX12_ready_11 rfl (fun c_27 => ?_) (fun c_27 => ?_)
    · have hf := ip c_27 hf
      refine tt_iload_n (pc := 54) (i := 1) (j := 1) E dX12_ready_54 rfl rfl ?_
      exact tt_iret (pc := 55) E hr hlk dX12_ready_55 (Nat.le_of_ble_eq_true rfl) (Nat.le_of_ble_eq_true rfl) (pv hf)
    · have hf := ine c_27 hf
      refine tt_aload_n (pc := 14) (i := 0) (j := 0) E dX12_ready_14 rfl rfl ?_
      refine tt_iload_n (pc := 15) (i := 2) (j := 2) E dX12_ready_15 rfl rfl ?_
      obtain ⟨r_5, hr_6, hf⟩ := bd_some hf
      have hc_7 := cX12_lives_ok (l := l) (B := B) (D := D) (cT := cT) (n := n) (adK := adK) (adV := adV) h0 hr_6
      refine tt_cZ (pc := 16) (tt_vi E lmX12_263 mtX12_lives hc_7 h0 rfl rfl (Nat.le_of_ble_eq_true rfl) ⟨(Nat.le_of_ble_eq_true rfl), (Nat.le_of_ble_eq_true rfl)⟩ ⟨(Nat.le_of_ble_eq_true rfl), (Nat.le_of_ble_eq_true rfl)⟩ dX12_ready_16) (fun z_8 => ?_)
      refine tt_if_eq (pc := 19) (tgt := 48) E dX12_ready_19 rfl (fun c_26 => ?_) (fun c_26 => ?_)
      · have hf := ip c_26 hf
        obtain ⟨v_9, ev_9, hf⟩ := nm_ex hf
        refine tt_iinc (pc := 48) (i := 2) (j := 2) (lv' := [(2, .int v_9), (0, .ref (B + o0)), (1, .int v1)]) E dX12_ready_48 rfl (ev_9).symm (Nat.le_of_ble_eq_true rfl) rfl ?_
        refine tt_goto (pc := 51) (tgt := 4) E dX12_ready_51 rfl ?_
        refine tt_sub [1, 2, 0] (lv' := [(0, .ref (B + o0)), (1, .int v1), (2, .int v_9)]) rfl ?_
        exact ih v1 v_9 hf
      · have hf := ine c_26 hf
        refine tt_aload_n (pc := 22) (i := 0) (j := 0) E dX12_ready_22 rfl rfl ?_
        refine tt_iload_n (pc := 23) (i := 2) (j := 2) E dX12_ready_23 rfl rfl ?_
        refine tt_iconst (pc := 24) (v := 4) E dX12_ready_24 ic_4 ?_
        obtain ⟨r_10, hr_11, hf⟩ := bd_some hf
        have hc_12 := cX12_of_ok (l := l) (B := B) (D := D) (cT := cT) (n := n) (adK := adK) (adV := adV) h0 hr_11
        refine tt_cI (pc := 25) (tt_vi E lmX12_192 mtX12_of hc_12 h0 rfl rfl (Nat.le_of_ble_eq_true rfl) ⟨(Nat.le_of_ble_eq_true rfl), (Nat.le_of_ble_eq_true rfl)⟩ ⟨(Nat.le_of_ble_eq_true rfl), (Nat.le_of_ble_eq_true rfl)⟩ dX12_ready_25) ?_
        refine tt_aload_n (pc := 28) (i := 0) (j := 0) E dX12_ready_28 rfl rfl ?_
        obtain ⟨q_13, hq_14, hf⟩ := bd_some hf
        refine tt_getP (pc := 29) (t := 11) E lfX12_20 rfl rfl h0 dX12_ready_29 hq_14 (fun kq_15 => ?_)
        refine tt_iconst (pc := 32) (v := 1) E dX12_ready_32 ic_1 ?_
        obtain ⟨g_16, hf⟩ := gd_some hf
        refine tt_iald (pc := 33) E kq_15 g_16 dX12_ready_33 ?_
        refine tt_icmp_lt (pc := 34) (tgt := 48) E dX12_ready_34 rfl (fun c_25 => ?_) (fun c_25 => ?_)
        · have hf := ip c_25 hf
          obtain ⟨v_17, ev_17, hf⟩ := nm_ex hf
          refine tt_iinc (pc := 48) (i := 2) (j := 2) (lv' := [(2, .int v_17), (0, .ref (B + o0)), (1, .int v1)]) E dX12_ready_48 rfl (ev_17).symm (Nat.le_of_ble_eq_true rfl) rfl ?_
          refine tt_goto (pc := 51) (tgt := 4) E dX12_ready_51 rfl ?_
          refine tt_sub [1, 2, 0] (lv' := [(0, .ref (B + o0)), (1, .int v1), (2, .int v_17)]) rfl ?_
          exact ih v1 v_17 hf
        · have hf := ine c_25 hf
          refine tt_aload_n (pc := 37) (i := 0) (j := 0) E dX12_ready_37 rfl rfl ?_
          refine tt_iload_n (pc := 38) (i := 2) (j := 2) E dX12_ready_38 rfl rfl ?_
          refine tt_iload_n (pc := 39) (i := 1) (j := 1) E dX12_ready_39 rfl rfl ?_
          obtain ⟨r_18, hr_19, hf⟩ := bd_some hf
          have hc_20 := cX12_isAhead_ok (l := l) (B := B) (D := D) (cT := cT) (n := n) (adK := adK) (adV := adV) h0 hr_19
          refine tt_cZ (pc := 40) (tt_vi E lmX12_272 mtX12_isAhead hc_20 h0 rfl rfl (Nat.le_of_ble_eq_true rfl) ⟨(Nat.le_of_ble_eq_true rfl), (Nat.le_of_ble_eq_true rfl)⟩ ⟨(Nat.le_of_ble_eq_true rfl), (Nat.le_of_ble_eq_true rfl)⟩ dX12_ready_40) (fun z_21 => ?_)
          refine tt_if_eq (pc := 43) (tgt := 48) E dX12_ready_43 rfl (fun c_24 => ?_) (fun c_24 => ?_)
          · have hf := ip c_24 hf
            obtain ⟨v_22, ev_22, hf⟩ := nm_ex hf
            refine tt_iinc (pc := 48) (i := 2) (j := 2) (lv' := [(2, .int v_22), (0, .ref (B + o0)), (1, .int v1)]) E dX12_ready_48 rfl (ev_22).symm (Nat.le_of_ble_eq_true rfl) rfl ?_
            refine tt_goto (pc := 51) (tgt := 4) E dX12_ready_51 rfl ?_
            refine tt_sub [1, 2, 0] (lv' := [(0, .ref (B + o0)), (1, .int v1), (2, .int v_22)]) rfl ?_
            exact ih v1 v_22 hf
          · have hf := ine c_24 hf
            refine tt_iload_n (pc := 46) (i := 2) (j := 2) E dX12_ready_46 rfl rfl ?_
            refine tt_istore_n (pc := 47) (i := 1) (lv' := [(1, .int v2), (0, .ref (B + o0)), (2, .int v2)]) E dX12_ready_47 rfl (Nat.le_of_ble_eq_true rfl) rfl ?_
            obtain ⟨v_23, ev_23, hf⟩ := nm_ex hf
            refine tt_iinc (pc := 48) (i := 2) (j := 2) (lv' := [(2, .int v_23), (1, .int v2), (0, .ref (B + o0))]) E dX12_ready_48 rfl (ev_23).symm (Nat.le_of_ble_eq_true rfl) rfl ?_
            refine tt_goto (pc := 51) (tgt := 4) E dX12_ready_51 rfl ?_
            refine tt_sub [2, 1, 0] (lv' := [(0, .ref (B + o0)), (1, .int v2), (2, .int v_23)]) rfl ?_
            exact ih v2 v_23 hf
set_option maxHeartbeats 4000000 in
theorem cX12_ready_ok {l : Launch} {B : Nat} {D : va_G} {cT : Nat → ClassId} {n : Nat} {adK adV : Nat → Nat} {o0 : Nat} {μ : Mem} {res : Int32} (h0 : isK n o0 9) (hf : fX12_ready o0 μ = some res) : MI l yX12_ready cX12_ready 3 (some .int) rmX12_ready B D cT (XW B adK adV) n [.ref (B + o0)] μ (res, μ) := by
  refine tt_ofW mtX12_ready.1 (Nat.le_of_ble_eq_true rfl) rfl ?_
  intro p e s m below meth c E0 hr hlk
  have E : EE p s m _ c cX12_ready 3 RX12 B D cT (XW B adK adV) := E0
  unfold fX12_ready at hf
  refine tt_iconst (pc := 0) (v := (-1)) E dX12_ready_0 ic_m1 ?_
  refine tt_istore_n (pc := 1) (i := 1) (lv' := [(1, .int ((-1))), (0, .ref (B + o0))]) E dX12_ready_1 rfl (Nat.le_of_ble_eq_true rfl) rfl ?_
  refine tt_iconst (pc := 2) (v := 0) E dX12_ready_2 ic_0 ?_
  refine tt_istore_n (pc := 3) (i := 2) (lv' := [(2, .int 0), (1, .int ((-1))), (0, .ref (B + o0))]) E dX12_ready_3 rfl (Nat.le_of_ble_eq_true rfl) rfl ?_
  refine tt_sub [2, 1, 0] (lv' := [(0, .ref (B + o0)), (1, .int ((-1))), (2, .int 0)]) rfl ?_
  exact tX12_ready_4 E hr hlk h0 FU ((-1)) 0 hf
set_option maxHeartbeats 4000000 in
theorem tX12_leastTicks_4 {p : Program} {l : Launch} {e : Env} {s : State} {m : MethodId} {args : Array Value} {below : List Frame} {meth : Method} {c : Code} {B : Nat} {D : va_G} {cT : Nat → ClassId} {n : Nat} {adK adV : Nat → Nat} {res : Int32} (E : EE p s m args c cX12_leastTicks 3 RX12 B D cT (XW B adK adV)) (hr : meth.sig.returnType = some .int) (hlk : meth.locks = false) {o0 : Nat} (h0 : isK n o0 9) {μ : Mem} : ∀ (fu : Nat) (v1 : Int32) (v2 : Int32), zl2 (gX12_leastTicks_4 o0 μ) fu v1 v2 = some res → TT p l e rmX12_leastTicks s m args below meth c (QI B D cT n below args s (res, μ)) 3 B D cT n 0 0 μ 4 [(0, .ref (B + o0)), (1, .int v1), (2, .int v2)] [] := by
  intro fu
  induction fu with
  | zero => intro v1 v2 hf; exact absurd hf (fun h => by cases h)
  | succ fu ih =>
    intro v1 v2 hf
    have hf : gX12_leastTicks_4 o0 μ (zl2 (gX12_leastTicks_4 o0 μ) fu) v1 v2 = some res := hf
    unfold gX12_leastTicks_4 at hf
    refine tt_iload_n (pc := 4) (i := 2) (j := 2) E dX12_leastTicks_4 rfl rfl ?_
    refine tt_aload_n (pc := 5) (i := 0) (j := 0) E dX12_leastTicks_5 rfl rfl ?_
    obtain ⟨q_1, hq_2, hf⟩ := bd_some hf
    refine tt_getP (pc := 6) (t := 11) E lfX12_20 rfl rfl h0 dX12_leastTicks_6 hq_2 (fun kq_3 => ?_)
    refine tt_iconst (pc := 9) (v := 0) E dX12_leastTicks_9 ic_0 ?_
    obtain ⟨g_4, hf⟩ := gd_some hf
    refine tt_iald (pc := 10) E kq_3 g_4 dX12_leastTicks_10 ?_
    refine tt_icmp_ge (pc := 11) (tgt := 48) E dX12_leastTicks_11 rfl (fun c_25 => ?_) (fun c_25 => ?_)
    · have hf := ip c_25 hf
      refine tt_iload_n (pc := 48) (i := 1) (j := 1) E dX12_leastTicks_48 rfl rfl ?_
      exact tt_iret (pc := 49) E hr hlk dX12_leastTicks_49 (Nat.le_of_ble_eq_true rfl) (Nat.le_of_ble_eq_true rfl) (pv hf)
    · have hf := ine c_25 hf
      refine tt_aload_n (pc := 14) (i := 0) (j := 0) E dX12_leastTicks_14 rfl rfl ?_
      refine tt_iload_n (pc := 15) (i := 2) (j := 2) E dX12_leastTicks_15 rfl rfl ?_
      obtain ⟨r_5, hr_6, hf⟩ := bd_some hf
      have hc_7 := cX12_lives_ok (l := l) (B := B) (D := D) (cT := cT) (n := n) (adK := adK) (adV := adV) h0 hr_6
      refine tt_cZ (pc := 16) (tt_vi E lmX12_263 mtX12_lives hc_7 h0 rfl rfl (Nat.le_of_ble_eq_true rfl) ⟨(Nat.le_of_ble_eq_true rfl), (Nat.le_of_ble_eq_true rfl)⟩ ⟨(Nat.le_of_ble_eq_true rfl), (Nat.le_of_ble_eq_true rfl)⟩ dX12_leastTicks_16) (fun z_8 => ?_)
      refine tt_if_eq (pc := 19) (tgt := 42) E dX12_leastTicks_19 rfl (fun c_24 => ?_) (fun c_24 => ?_)
      · have hf := ip c_24 hf
        obtain ⟨v_9, ev_9, hf⟩ := nm_ex hf
        refine tt_iinc (pc := 42) (i := 2) (j := 2) (lv' := [(2, .int v_9), (0, .ref (B + o0)), (1, .int v1)]) E dX12_leastTicks_42 rfl (ev_9).symm (Nat.le_of_ble_eq_true rfl) rfl ?_
        refine tt_goto (pc := 45) (tgt := 4) E dX12_leastTicks_45 rfl ?_
        refine tt_sub [1, 2, 0] (lv' := [(0, .ref (B + o0)), (1, .int v1), (2, .int v_9)]) rfl ?_
        exact ih v1 v_9 hf
      · have hf := ine c_24 hf
        refine tt_iload_n (pc := 22) (i := 1) (j := 1) E dX12_leastTicks_22 rfl rfl ?_
        refine tt_iconst (pc := 23) (v := (-1)) E dX12_leastTicks_23 ic_m1 ?_
        refine tt_icmp_eq (pc := 24) (tgt := 36) E dX12_leastTicks_24 rfl (fun c_23 => ?_) (fun c_23 => ?_)
        · have hf := ip c_23 hf
          refine tt_aload_n (pc := 36) (i := 0) (j := 0) E dX12_leastTicks_36 rfl rfl ?_
          refine tt_iload_n (pc := 37) (i := 2) (j := 2) E dX12_leastTicks_37 rfl rfl ?_
          obtain ⟨r_10, hr_11, hf⟩ := bd_some hf
          have hc_12 := cX12_ticksFor_ok (l := l) (B := B) (D := D) (cT := cT) (n := n) (adK := adK) (adV := adV) h0 hr_11
          refine tt_cI (pc := 38) (tt_vi E lmX12_276 mtX12_ticksFor hc_12 h0 rfl rfl (Nat.le_of_ble_eq_true rfl) ⟨(Nat.le_of_ble_eq_true rfl), (Nat.le_of_ble_eq_true rfl)⟩ ⟨(Nat.le_of_ble_eq_true rfl), (Nat.le_of_ble_eq_true rfl)⟩ dX12_leastTicks_38) ?_
          refine tt_istore_n (pc := 41) (i := 1) (lv' := [(1, .int r_10), (0, .ref (B + o0)), (2, .int v2)]) E dX12_leastTicks_41 rfl (Nat.le_of_ble_eq_true rfl) rfl ?_
          obtain ⟨v_13, ev_13, hf⟩ := nm_ex hf
          refine tt_iinc (pc := 42) (i := 2) (j := 2) (lv' := [(2, .int v_13), (1, .int r_10), (0, .ref (B + o0))]) E dX12_leastTicks_42 rfl (ev_13).symm (Nat.le_of_ble_eq_true rfl) rfl ?_
          refine tt_goto (pc := 45) (tgt := 4) E dX12_leastTicks_45 rfl ?_
          refine tt_sub [2, 1, 0] (lv' := [(0, .ref (B + o0)), (1, .int r_10), (2, .int v_13)]) rfl ?_
          exact ih r_10 v_13 hf
        · have hf := ine c_23 hf
          refine tt_aload_n (pc := 27) (i := 0) (j := 0) E dX12_leastTicks_27 rfl rfl ?_
          refine tt_iload_n (pc := 28) (i := 2) (j := 2) E dX12_leastTicks_28 rfl rfl ?_
          obtain ⟨r_14, hr_15, hf⟩ := bd_some hf
          have hc_16 := cX12_ticksFor_ok (l := l) (B := B) (D := D) (cT := cT) (n := n) (adK := adK) (adV := adV) h0 hr_15
          refine tt_cI (pc := 29) (tt_vi E lmX12_276 mtX12_ticksFor hc_16 h0 rfl rfl (Nat.le_of_ble_eq_true rfl) ⟨(Nat.le_of_ble_eq_true rfl), (Nat.le_of_ble_eq_true rfl)⟩ ⟨(Nat.le_of_ble_eq_true rfl), (Nat.le_of_ble_eq_true rfl)⟩ dX12_leastTicks_29) ?_
          refine tt_iload_n (pc := 32) (i := 1) (j := 1) E dX12_leastTicks_32 rfl rfl ?_
          refine tt_icmp_ge (pc := 33) (tgt := 42) E dX12_leastTicks_33 rfl (fun c_22 => ?_) (fun c_22 => ?_)
          · have hf := ip c_22 hf
            obtain ⟨v_17, ev_17, hf⟩ := nm_ex hf
            refine tt_iinc (pc := 42) (i := 2) (j := 2) (lv' := [(2, .int v_17), (0, .ref (B + o0)), (1, .int v1)]) E dX12_leastTicks_42 rfl (ev_17).symm (Nat.le_of_ble_eq_true rfl) rfl ?_
            refine tt_goto (pc := 45) (tgt := 4) E dX12_leastTicks_45 rfl ?_
            refine tt_sub [1, 2, 0] (lv' := [(0, .ref (B + o0)), (1, .int v1), (2, .int v_17)]) rfl ?_
            exact ih v1 v_17 hf
          · have hf := ine c_22 hf
            refine tt_aload_n (pc := 36) (i := 0) (j := 0) E dX12_leastTicks_36 rfl rfl ?_
            refine tt_iload_n (pc := 37) (i := 2) (j := 2) E dX12_leastTicks_37 rfl rfl ?_
            obtain ⟨r_18, hr_19, hf⟩ := bd_some hf
            have hc_20 := cX12_ticksFor_ok (l := l) (B := B) (D := D) (cT := cT) (n := n) (adK := adK) (adV := adV) h0 hr_19
            refine tt_cI (pc := 38) (tt_vi E lmX12_276 mtX12_ticksFor hc_20 h0 rfl rfl (Nat.le_of_ble_eq_true rfl) ⟨(Nat.le_of_ble_eq_true rfl), (Nat.le_of_ble_eq_true rfl)⟩ ⟨(Nat.le_of_ble_eq_true rfl), (Nat.le_of_ble_eq_true rfl)⟩ dX12_leastTicks_38) ?_
            refine tt_istore_n (pc := 41) (i := 1) (lv' := [(1, .int r_18), (0, .ref (B + o0)), (2, .int v2)]) E dX12_leastTicks_41 rfl (Nat.le_of_ble_eq_true rfl) rfl ?_
            obtain ⟨v_21, ev_21, hf⟩ := nm_ex hf
            refine tt_iinc (pc := 42) (i := 2) (j := 2) (lv' := [(2, .int v_21), (1, .int r_18), (0, .ref (B + o0))]) E dX12_leastTicks_42 rfl (ev_21).symm (Nat.le_of_ble_eq_true rfl) rfl ?_
            refine tt_goto (pc := 45) (tgt := 4) E dX12_leastTicks_45 rfl ?_
            refine tt_sub [2, 1, 0] (lv' := [(0, .ref (B + o0)), (1, .int r_18), (2, .int v_21)]) rfl ?_
            exact ih r_18 v_21 hf
set_option maxHeartbeats 4000000 in
theorem cX12_leastTicks_ok {l : Launch} {B : Nat} {D : va_G} {cT : Nat → ClassId} {n : Nat} {adK adV : Nat → Nat} {o0 : Nat} {μ : Mem} {res : Int32} (h0 : isK n o0 9) (hf : fX12_leastTicks o0 μ = some res) : MI l yX12_leastTicks cX12_leastTicks 3 (some .int) rmX12_leastTicks B D cT (XW B adK adV) n [.ref (B + o0)] μ (res, μ) := by
  refine tt_ofW mtX12_leastTicks.1 (Nat.le_of_ble_eq_true rfl) rfl ?_
  intro p e s m below meth c E0 hr hlk
  have E : EE p s m _ c cX12_leastTicks 3 RX12 B D cT (XW B adK adV) := E0
  unfold fX12_leastTicks at hf
  refine tt_iconst (pc := 0) (v := (-1)) E dX12_leastTicks_0 ic_m1 ?_
  refine tt_istore_n (pc := 1) (i := 1) (lv' := [(1, .int ((-1))), (0, .ref (B + o0))]) E dX12_leastTicks_1 rfl (Nat.le_of_ble_eq_true rfl) rfl ?_
  refine tt_iconst (pc := 2) (v := 0) E dX12_leastTicks_2 ic_0 ?_
  refine tt_istore_n (pc := 3) (i := 2) (lv' := [(2, .int 0), (1, .int ((-1))), (0, .ref (B + o0))]) E dX12_leastTicks_3 rfl (Nat.le_of_ble_eq_true rfl) rfl ?_
  refine tt_sub [2, 1, 0] (lv' := [(0, .ref (B + o0)), (1, .int ((-1))), (2, .int 0)]) rfl ?_
  exact tX12_leastTicks_4 E hr hlk h0 FU ((-1)) 0 hf
set_option maxHeartbeats 4000000 in
theorem tX12_passes_12 {p : Program} {l : Launch} {e : Env} {s : State} {m : MethodId} {args : Array Value} {below : List Frame} {meth : Method} {c : Code} {B : Nat} {D : va_G} {cT : Nat → ClassId} {n : Nat} {adK adV : Nat → Nat} {res : Mem} (E : EE p s m args c cX12_passes 3 RX12 B D cT (XW B adK adV)) (hr : meth.sig.returnType = none) (hlk : meth.locks = false) {o0 : Nat} {v1 : Int32} (h0 : isK n o0 9) : ∀ (fu : Nat) (v2 : Int32) (μ : Mem), zl2 (gX12_passes_12 o0 v1) fu v2 μ = some res → TT p l e rmX12_passes s m args below meth c (QV B D cT n below args s res) 3 B D cT n 0 0 μ 12 [(0, .ref (B + o0)), (1, .int v1), (2, .int v2)] [] := by
  intro fu
  induction fu with
  | zero => intro v2 μ hf; exact absurd hf (fun h => by cases h)
  | succ fu ih =>
    intro v2 μ hf
    have hf : gX12_passes_12 o0 v1 (zl2 (gX12_passes_12 o0 v1) fu) v2 μ = some res := hf
    unfold gX12_passes_12 at hf
    refine tt_iload_n (pc := 12) (i := 2) (j := 2) E dX12_passes_12 rfl rfl ?_
    refine tt_aload_n (pc := 13) (i := 0) (j := 0) E dX12_passes_13 rfl rfl ?_
    obtain ⟨q_1, hq_2, hf⟩ := bd_some hf
    refine tt_getP (pc := 14) (t := 11) E lfX12_20 rfl rfl h0 dX12_passes_14 hq_2 (fun kq_3 => ?_)
    refine tt_iconst (pc := 17) (v := 0) E dX12_passes_17 ic_0 ?_
    obtain ⟨g_4, hf⟩ := gd_some hf
    refine tt_iald (pc := 18) E kq_3 g_4 dX12_passes_18 ?_
    refine tt_icmp_ge (pc := 19) (tgt := 57) E dX12_passes_19 rfl (fun c_21 => ?_) (fun c_21 => ?_)
    · have hf := ip c_21 hf
      exact tt_vret (pc := 57) E hr hlk dX12_passes_57 (Nat.le_of_ble_eq_true rfl) (Nat.le_of_ble_eq_true rfl) hf
    · have hf := ine c_21 hf
      refine tt_aload_n (pc := 22) (i := 0) (j := 0) E dX12_passes_22 rfl rfl ?_
      refine tt_iload_n (pc := 23) (i := 2) (j := 2) E dX12_passes_23 rfl rfl ?_
      obtain ⟨r_5, hr_6, hf⟩ := bd_some hf
      have hc_7 := cX12_lives_ok (l := l) (B := B) (D := D) (cT := cT) (n := n) (adK := adK) (adV := adV) h0 hr_6
      refine tt_cZ (pc := 24) (tt_vi E lmX12_263 mtX12_lives hc_7 h0 rfl rfl (Nat.le_of_ble_eq_true rfl) ⟨(Nat.le_of_ble_eq_true rfl), (Nat.le_of_ble_eq_true rfl)⟩ ⟨(Nat.le_of_ble_eq_true rfl), (Nat.le_of_ble_eq_true rfl)⟩ dX12_passes_24) (fun z_8 => ?_)
      refine tt_if_eq (pc := 27) (tgt := 51) E dX12_passes_27 rfl (fun c_20 => ?_) (fun c_20 => ?_)
      · have hf := ip c_20 hf
        obtain ⟨v_9, ev_9, hf⟩ := nm_ex hf
        refine tt_iinc (pc := 51) (i := 2) (j := 2) (lv' := [(2, .int v_9), (0, .ref (B + o0)), (1, .int v1)]) E dX12_passes_51 rfl (ev_9).symm (Nat.le_of_ble_eq_true rfl) rfl ?_
        refine tt_goto (pc := 54) (tgt := 12) E dX12_passes_54 rfl ?_
        refine tt_sub [1, 2, 0] (lv' := [(0, .ref (B + o0)), (1, .int v1), (2, .int v_9)]) rfl ?_
        exact ih v_9 μ hf
      · have hf := ine c_20 hf
        refine tt_aload_n (pc := 30) (i := 0) (j := 0) E dX12_passes_30 rfl rfl ?_
        refine tt_iload_n (pc := 31) (i := 2) (j := 2) E dX12_passes_31 rfl rfl ?_
        refine tt_iconst (pc := 32) (v := 4) E dX12_passes_32 ic_4 ?_
        refine tt_aload_n (pc := 33) (i := 0) (j := 0) E dX12_passes_33 rfl rfl ?_
        refine tt_iload_n (pc := 34) (i := 2) (j := 2) E dX12_passes_34 rfl rfl ?_
        refine tt_iconst (pc := 35) (v := 4) E dX12_passes_35 ic_4 ?_
        obtain ⟨r_10, hr_11, hf⟩ := bd_some hf
        have hc_12 := cX12_of_ok (l := l) (B := B) (D := D) (cT := cT) (n := n) (adK := adK) (adV := adV) h0 hr_11
        refine tt_cI (pc := 36) (tt_vi E lmX12_192 mtX12_of hc_12 h0 rfl rfl (Nat.le_of_ble_eq_true rfl) ⟨(Nat.le_of_ble_eq_true rfl), (Nat.le_of_ble_eq_true rfl)⟩ ⟨(Nat.le_of_ble_eq_true rfl), (Nat.le_of_ble_eq_true rfl)⟩ dX12_passes_36) ?_
        refine tt_iload_n (pc := 39) (i := 1) (j := 1) E dX12_passes_39 rfl rfl ?_
        refine tt_aload_n (pc := 40) (i := 0) (j := 0) E dX12_passes_40 rfl rfl ?_
        refine tt_iload_n (pc := 41) (i := 2) (j := 2) E dX12_passes_41 rfl rfl ?_
        refine tt_iconst (pc := 42) (v := 1) E dX12_passes_42 ic_1 ?_
        obtain ⟨r_13, hr_14, hf⟩ := bd_some hf
        have hc_15 := cX12_of_ok (l := l) (B := B) (D := D) (cT := cT) (n := n) (adK := adK) (adV := adV) h0 hr_14
        refine tt_cI (pc := 43) (tt_vi E lmX12_192 mtX12_of hc_15 h0 rfl rfl (Nat.le_of_ble_eq_true rfl) ⟨(Nat.le_of_ble_eq_true rfl), (Nat.le_of_ble_eq_true rfl)⟩ ⟨(Nat.le_of_ble_eq_true rfl), (Nat.le_of_ble_eq_true rfl)⟩ dX12_passes_43) ?_
        refine tt_imul (pc := 46) E dX12_passes_46 ?_
        refine tt_iadd (pc := 47) E dX12_passes_47 ?_
        obtain ⟨r_16, hr_17, hf⟩ := bd_some hf
        have hc_18 := cX12_sets_ok (l := l) (B := B) (D := D) (cT := cT) (n := n) (adK := adK) (adV := adV) h0 hr_17
        refine tt_cV (pc := 48) (tt_vi E lmX12_201 mtX12_sets hc_18 h0 rfl rfl (Nat.le_of_ble_eq_true rfl) ⟨(Nat.le_of_ble_eq_true rfl), (Nat.le_of_ble_eq_true rfl)⟩ ⟨(Nat.le_of_ble_eq_true rfl), (Nat.le_of_ble_eq_true rfl)⟩ dX12_passes_48) ?_
        obtain ⟨v_19, ev_19, hf⟩ := nm_ex hf
        refine tt_iinc (pc := 51) (i := 2) (j := 2) (lv' := [(2, .int v_19), (0, .ref (B + o0)), (1, .int v1)]) E dX12_passes_51 rfl (ev_19).symm (Nat.le_of_ble_eq_true rfl) rfl ?_
        refine tt_goto (pc := 54) (tgt := 12) E dX12_passes_54 rfl ?_
        refine tt_sub [1, 2, 0] (lv' := [(0, .ref (B + o0)), (1, .int v1), (2, .int v_19)]) rfl ?_
        exact ih v_19 r_16 hf
set_option maxHeartbeats 4000000 in
theorem cX12_passes_ok {l : Launch} {B : Nat} {D : va_G} {cT : Nat → ClassId} {n : Nat} {adK adV : Nat → Nat} {o0 : Nat} {v1 : Int32} {μ : Mem} {res : Mem} (h0 : isK n o0 9) (hf : fX12_passes o0 v1 μ = some res) : MV l yX12_passes cX12_passes 3 (none) rmX12_passes B D cT (XW B adK adV) n [.ref (B + o0), .int v1] μ res := by
  refine tt_ofW mtX12_passes.1 (Nat.le_of_ble_eq_true rfl) rfl ?_
  intro p e s m below meth c E0 hr hlk
  have E : EE p s m _ c cX12_passes 3 RX12 B D cT (XW B adK adV) := E0
  unfold fX12_passes at hf
  refine tt_aload_n (pc := 0) (i := 0) (j := 0) E dX12_passes_0 rfl rfl ?_
  obtain ⟨q_1, hq_2, hf⟩ := bd_some hf
  refine tt_getP (pc := 1) (t := 11) E lfX12_20 rfl rfl h0 dX12_passes_1 hq_2 (fun kq_3 => ?_)
  refine tt_iconst (pc := 4) (v := 2) E dX12_passes_4 ic_2 ?_
  refine tt_dup2 (pc := 5) E dX12_passes_5 rfl rfl ?_
  obtain ⟨g_4, hf⟩ := gd_some hf
  refine tt_iald (pc := 6) E kq_3 g_4 dX12_passes_6 ?_
  refine tt_iload_n (pc := 7) (i := 1) (j := 1) E dX12_passes_7 rfl rfl ?_
  refine tt_iadd (pc := 8) E dX12_passes_8 ?_
  obtain ⟨g_6, hf⟩ := gd_some hf
  refine tt_iast (pc := 9) E kq_3 g_6 dX12_passes_9 (tt_nmM hf (fun m_5 hf => ?_))
  refine tt_iconst (pc := 10) (v := 0) E dX12_passes_10 ic_0 ?_
  refine tt_istore_n (pc := 11) (i := 2) (lv' := [(2, .int 0), (0, .ref (B + o0)), (1, .int v1)]) E dX12_passes_11 rfl (Nat.le_of_ble_eq_true rfl) rfl ?_
  refine tt_sub [1, 2, 0] (lv' := [(0, .ref (B + o0)), (1, .int v1), (2, .int 0)]) rfl ?_
  exact tX12_passes_12 E hr hlk h0 FU 0 m_5 hf
set_option maxHeartbeats 4000000 in
theorem cX12_next_ok {l : Launch} {B : Nat} {D : va_G} {cT : Nat → ClassId} {n : Nat} {adK adV : Nat → Nat} {o0 : Nat} {μ : Mem} {res : Int32 × Mem} (h0 : isK n o0 9) (hf : fX12_next o0 μ = some res) : MI l yX12_next cX12_next 2 (some .int) rmX12_next B D cT (XW B adK adV) n [.ref (B + o0)] μ res := by
  refine tt_ofW mtX12_next.1 (Nat.le_of_ble_eq_true rfl) rfl ?_
  intro p e s m below meth c E0 hr hlk
  have E : EE p s m _ c cX12_next 2 RX12 B D cT (XW B adK adV) := E0
  unfold fX12_next at hf
  refine tt_aload_n (pc := 0) (i := 0) (j := 0) E dX12_next_0 rfl rfl ?_
  obtain ⟨r_1, hr_2, hf⟩ := bd_some hf
  have hc_3 := cX12_withExtra_ok (l := l) (B := B) (D := D) (cT := cT) (n := n) (adK := adK) (adV := adV) h0 hr_2
  refine tt_cI (pc := 1) (tt_vi E lmX12_279 mtX12_withExtra hc_3 h0 rfl rfl (Nat.le_of_ble_eq_true rfl) ⟨(Nat.le_of_ble_eq_true rfl), (Nat.le_of_ble_eq_true rfl)⟩ ⟨(Nat.le_of_ble_eq_true rfl), (Nat.le_of_ble_eq_true rfl)⟩ dX12_next_1) ?_
  refine tt_istore_n (pc := 4) (i := 1) (lv' := [(1, .int r_1), (0, .ref (B + o0))]) E dX12_next_4 rfl (Nat.le_of_ble_eq_true rfl) rfl ?_
  refine tt_iload_n (pc := 5) (i := 1) (j := 0) E dX12_next_5 rfl rfl ?_
  refine tt_iconst (pc := 6) (v := (-1)) E dX12_next_6 ic_m1 ?_
  refine tt_icmp_eq (pc := 7) (tgt := 12) E dX12_next_7 rfl (fun c_13 => ?_) (fun c_13 => ?_)
  · have hf := ip c_13 hf
    refine tt_aload_n (pc := 12) (i := 0) (j := 1) E dX12_next_12 rfl rfl ?_
    refine tt_aload_n (pc := 13) (i := 0) (j := 1) E dX12_next_13 rfl rfl ?_
    obtain ⟨r_4, hr_5, hf⟩ := bd_some hf
    have hc_6 := cX12_leastTicks_ok (l := l) (B := B) (D := D) (cT := cT) (n := n) (adK := adK) (adV := adV) h0 hr_5
    refine tt_cI (pc := 14) (tt_vi E lmX12_282 mtX12_leastTicks hc_6 h0 rfl rfl (Nat.le_of_ble_eq_true rfl) ⟨(Nat.le_of_ble_eq_true rfl), (Nat.le_of_ble_eq_true rfl)⟩ ⟨(Nat.le_of_ble_eq_true rfl), (Nat.le_of_ble_eq_true rfl)⟩ dX12_next_14) ?_
    obtain ⟨r_7, hr_8, hf⟩ := bd_some hf
    have hc_9 := cX12_passes_ok (l := l) (B := B) (D := D) (cT := cT) (n := n) (adK := adK) (adV := adV) h0 hr_8
    refine tt_cV (pc := 17) (tt_vi E lmX12_285 mtX12_passes hc_9 h0 rfl rfl (Nat.le_of_ble_eq_true rfl) ⟨(Nat.le_of_ble_eq_true rfl), (Nat.le_of_ble_eq_true rfl)⟩ ⟨(Nat.le_of_ble_eq_true rfl), (Nat.le_of_ble_eq_true rfl)⟩ dX12_next_17) ?_
    refine tt_aload_n (pc := 20) (i := 0) (j := 1) E dX12_next_20 rfl rfl ?_
    obtain ⟨r_10, hr_11, hf⟩ := bd_some hf
    have hc_12 := cX12_ready_ok (l := l) (B := B) (D := D) (cT := cT) (n := n) (adK := adK) (adV := adV) h0 hr_11
    refine tt_cI (pc := 21) (tt_vi E lmX12_288 mtX12_ready hc_12 h0 rfl rfl (Nat.le_of_ble_eq_true rfl) ⟨(Nat.le_of_ble_eq_true rfl), (Nat.le_of_ble_eq_true rfl)⟩ ⟨(Nat.le_of_ble_eq_true rfl), (Nat.le_of_ble_eq_true rfl)⟩ dX12_next_21) ?_
    exact tt_iret (pc := 24) E hr hlk dX12_next_24 (Nat.le_of_ble_eq_true rfl) (Nat.le_of_ble_eq_true rfl) hf
  · have hf := ine c_13 hf
    refine tt_iload_n (pc := 10) (i := 1) (j := 0) E dX12_next_10 rfl rfl ?_
    exact tt_iret (pc := 11) E hr hlk dX12_next_11 (Nat.le_of_ble_eq_true rfl) (Nat.le_of_ble_eq_true rfl) hf
set_option maxHeartbeats 4000000 in
theorem tX12_weakest_4 {p : Program} {l : Launch} {e : Env} {s : State} {m : MethodId} {args : Array Value} {below : List Frame} {meth : Method} {c : Code} {B : Nat} {D : va_G} {cT : Nat → ClassId} {n : Nat} {adK adV : Nat → Nat} {res : Int32} (E : EE p s m args c cX12_weakest 4 RX12 B D cT (XW B adK adV)) (hr : meth.sig.returnType = some .int) (hlk : meth.locks = false) {o0 : Nat} {v1 : Int32} (h0 : isK n o0 9) {μ : Mem} : ∀ (fu : Nat) (v2 : Int32) (v3 : Int32), zl2 (gX12_weakest_4 o0 v1 μ) fu v2 v3 = some res → TT p l e rmX12_weakest s m args below meth c (QI B D cT n below args s (res, μ)) 4 B D cT n 0 0 μ 4 [(0, .ref (B + o0)), (1, .int v1), (2, .int v2), (3, .int v3)] [] := by
  intro fu
  induction fu with
  | zero => intro v2 v3 hf; exact absurd hf (fun h => by cases h)
  | succ fu ih =>
    intro v2 v3 hf
    have hf : gX12_weakest_4 o0 v1 μ (zl2 (gX12_weakest_4 o0 v1 μ) fu) v2 v3 = some res := hf
    unfold gX12_weakest_4 at hf
    refine tt_iload_n (pc := 4) (i := 3) (j := 3) E dX12_weakest_4 rfl rfl ?_
    refine tt_aload_n (pc := 5) (i := 0) (j := 0) E dX12_weakest_5 rfl rfl ?_
    obtain ⟨q_1, hq_2, hf⟩ := bd_some hf
    refine tt_getP (pc := 6) (t := 11) E lfX12_20 rfl rfl h0 dX12_weakest_6 hq_2 (fun kq_3 => ?_)
    refine tt_iconst (pc := 9) (v := 0) E dX12_weakest_9 ic_0 ?_
    obtain ⟨g_4, hf⟩ := gd_some hf
    refine tt_iald (pc := 10) E kq_3 g_4 dX12_weakest_10 ?_
    refine tt_icmp_ge (pc := 11) (tgt := 60) E dX12_weakest_11 rfl (fun c_27 => ?_) (fun c_27 => ?_)
    · have hf := ip c_27 hf
      refine tt_iload_n (pc := 60) (i := 2) (j := 2) E dX12_weakest_60 rfl rfl ?_
      exact tt_iret (pc := 61) E hr hlk dX12_weakest_61 (Nat.le_of_ble_eq_true rfl) (Nat.le_of_ble_eq_true rfl) (pv hf)
    · have hf := ine c_27 hf
      refine tt_aload_n (pc := 14) (i := 0) (j := 0) E dX12_weakest_14 rfl rfl ?_
      refine tt_iload_n (pc := 15) (i := 3) (j := 3) E dX12_weakest_15 rfl rfl ?_
      obtain ⟨r_5, hr_6, hf⟩ := bd_some hf
      have hc_7 := cX12_lives_ok (l := l) (B := B) (D := D) (cT := cT) (n := n) (adK := adK) (adV := adV) h0 hr_6
      refine tt_cZ (pc := 16) (tt_vi E lmX12_263 mtX12_lives hc_7 h0 rfl rfl (Nat.le_of_ble_eq_true rfl) ⟨(Nat.le_of_ble_eq_true rfl), (Nat.le_of_ble_eq_true rfl)⟩ ⟨(Nat.le_of_ble_eq_true rfl), (Nat.le_of_ble_eq_true rfl)⟩ dX12_weakest_16) (fun z_8 => ?_)
      refine tt_if_eq (pc := 19) (tgt := 54) E dX12_weakest_19 rfl (fun c_26 => ?_) (fun c_26 => ?_)
      · have hf := ip c_26 hf
        obtain ⟨v_9, ev_9, hf⟩ := nm_ex hf
        refine tt_iinc (pc := 54) (i := 3) (j := 3) (lv' := [(3, .int v_9), (0, .ref (B + o0)), (1, .int v1), (2, .int v2)]) E dX12_weakest_54 rfl (ev_9).symm (Nat.le_of_ble_eq_true rfl) rfl ?_
        refine tt_goto (pc := 57) (tgt := 4) E dX12_weakest_57 rfl ?_
        refine tt_sub [1, 2, 3, 0] (lv' := [(0, .ref (B + o0)), (1, .int v1), (2, .int v2), (3, .int v_9)]) rfl ?_
        exact ih v2 v_9 hf
      · have hf := ine c_26 hf
        refine tt_aload_n (pc := 22) (i := 0) (j := 0) E dX12_weakest_22 rfl rfl ?_
        refine tt_iload_n (pc := 23) (i := 3) (j := 3) E dX12_weakest_23 rfl rfl ?_
        refine tt_iconst (pc := 24) (v := 0) E dX12_weakest_24 ic_0 ?_
        obtain ⟨r_10, hr_11, hf⟩ := bd_some hf
        have hc_12 := cX12_of_ok (l := l) (B := B) (D := D) (cT := cT) (n := n) (adK := adK) (adV := adV) h0 hr_11
        refine tt_cI (pc := 25) (tt_vi E lmX12_192 mtX12_of hc_12 h0 rfl rfl (Nat.le_of_ble_eq_true rfl) ⟨(Nat.le_of_ble_eq_true rfl), (Nat.le_of_ble_eq_true rfl)⟩ ⟨(Nat.le_of_ble_eq_true rfl), (Nat.le_of_ble_eq_true rfl)⟩ dX12_weakest_25) ?_
        refine tt_iload_n (pc := 28) (i := 1) (j := 1) E dX12_weakest_28 rfl rfl ?_
        refine tt_icmp_ne (pc := 29) (tgt := 54) E dX12_weakest_29 rfl (fun c_25 => ?_) (fun c_25 => ?_)
        · have hf := ine c_25 hf
          obtain ⟨v_13, ev_13, hf⟩ := nm_ex hf
          refine tt_iinc (pc := 54) (i := 3) (j := 3) (lv' := [(3, .int v_13), (0, .ref (B + o0)), (1, .int v1), (2, .int v2)]) E dX12_weakest_54 rfl (ev_13).symm (Nat.le_of_ble_eq_true rfl) rfl ?_
          refine tt_goto (pc := 57) (tgt := 4) E dX12_weakest_57 rfl ?_
          refine tt_sub [1, 2, 3, 0] (lv' := [(0, .ref (B + o0)), (1, .int v1), (2, .int v2), (3, .int v_13)]) rfl ?_
          exact ih v2 v_13 hf
        · have hf := ip c_25 hf
          refine tt_iload_n (pc := 32) (i := 2) (j := 2) E dX12_weakest_32 rfl rfl ?_
          refine tt_iconst (pc := 33) (v := (-1)) E dX12_weakest_33 ic_m1 ?_
          refine tt_icmp_eq (pc := 34) (tgt := 52) E dX12_weakest_34 rfl (fun c_24 => ?_) (fun c_24 => ?_)
          · have hf := ip c_24 hf
            refine tt_iload_n (pc := 52) (i := 3) (j := 3) E dX12_weakest_52 rfl rfl ?_
            refine tt_istore_n (pc := 53) (i := 2) (lv' := [(2, .int v3), (0, .ref (B + o0)), (1, .int v1), (3, .int v3)]) E dX12_weakest_53 rfl (Nat.le_of_ble_eq_true rfl) rfl ?_
            obtain ⟨v_14, ev_14, hf⟩ := nm_ex hf
            refine tt_iinc (pc := 54) (i := 3) (j := 3) (lv' := [(3, .int v_14), (2, .int v3), (0, .ref (B + o0)), (1, .int v1)]) E dX12_weakest_54 rfl (ev_14).symm (Nat.le_of_ble_eq_true rfl) rfl ?_
            refine tt_goto (pc := 57) (tgt := 4) E dX12_weakest_57 rfl ?_
            refine tt_sub [2, 3, 1, 0] (lv' := [(0, .ref (B + o0)), (1, .int v1), (2, .int v3), (3, .int v_14)]) rfl ?_
            exact ih v3 v_14 hf
          · have hf := ine c_24 hf
            refine tt_aload_n (pc := 37) (i := 0) (j := 0) E dX12_weakest_37 rfl rfl ?_
            refine tt_iload_n (pc := 38) (i := 3) (j := 3) E dX12_weakest_38 rfl rfl ?_
            refine tt_iconst (pc := 39) (v := 2) E dX12_weakest_39 ic_2 ?_
            obtain ⟨r_15, hr_16, hf⟩ := bd_some hf
            have hc_17 := cX12_of_ok (l := l) (B := B) (D := D) (cT := cT) (n := n) (adK := adK) (adV := adV) h0 hr_16
            refine tt_cI (pc := 40) (tt_vi E lmX12_192 mtX12_of hc_17 h0 rfl rfl (Nat.le_of_ble_eq_true rfl) ⟨(Nat.le_of_ble_eq_true rfl), (Nat.le_of_ble_eq_true rfl)⟩ ⟨(Nat.le_of_ble_eq_true rfl), (Nat.le_of_ble_eq_true rfl)⟩ dX12_weakest_40) ?_
            refine tt_aload_n (pc := 43) (i := 0) (j := 0) E dX12_weakest_43 rfl rfl ?_
            refine tt_iload_n (pc := 44) (i := 2) (j := 2) E dX12_weakest_44 rfl rfl ?_
            refine tt_iconst (pc := 45) (v := 2) E dX12_weakest_45 ic_2 ?_
            obtain ⟨r_18, hr_19, hf⟩ := bd_some hf
            have hc_20 := cX12_of_ok (l := l) (B := B) (D := D) (cT := cT) (n := n) (adK := adK) (adV := adV) h0 hr_19
            refine tt_cI (pc := 46) (tt_vi E lmX12_192 mtX12_of hc_20 h0 rfl rfl (Nat.le_of_ble_eq_true rfl) ⟨(Nat.le_of_ble_eq_true rfl), (Nat.le_of_ble_eq_true rfl)⟩ ⟨(Nat.le_of_ble_eq_true rfl), (Nat.le_of_ble_eq_true rfl)⟩ dX12_weakest_46) ?_
            refine tt_icmp_ge (pc := 49) (tgt := 54) E dX12_weakest_49 rfl (fun c_23 => ?_) (fun c_23 => ?_)
            · have hf := ip c_23 hf
              obtain ⟨v_21, ev_21, hf⟩ := nm_ex hf
              refine tt_iinc (pc := 54) (i := 3) (j := 3) (lv' := [(3, .int v_21), (0, .ref (B + o0)), (1, .int v1), (2, .int v2)]) E dX12_weakest_54 rfl (ev_21).symm (Nat.le_of_ble_eq_true rfl) rfl ?_
              refine tt_goto (pc := 57) (tgt := 4) E dX12_weakest_57 rfl ?_
              refine tt_sub [1, 2, 3, 0] (lv' := [(0, .ref (B + o0)), (1, .int v1), (2, .int v2), (3, .int v_21)]) rfl ?_
              exact ih v2 v_21 hf
            · have hf := ine c_23 hf
              refine tt_iload_n (pc := 52) (i := 3) (j := 3) E dX12_weakest_52 rfl rfl ?_
              refine tt_istore_n (pc := 53) (i := 2) (lv' := [(2, .int v3), (0, .ref (B + o0)), (1, .int v1), (3, .int v3)]) E dX12_weakest_53 rfl (Nat.le_of_ble_eq_true rfl) rfl ?_
              obtain ⟨v_22, ev_22, hf⟩ := nm_ex hf
              refine tt_iinc (pc := 54) (i := 3) (j := 3) (lv' := [(3, .int v_22), (2, .int v3), (0, .ref (B + o0)), (1, .int v1)]) E dX12_weakest_54 rfl (ev_22).symm (Nat.le_of_ble_eq_true rfl) rfl ?_
              refine tt_goto (pc := 57) (tgt := 4) E dX12_weakest_57 rfl ?_
              refine tt_sub [2, 3, 1, 0] (lv' := [(0, .ref (B + o0)), (1, .int v1), (2, .int v3), (3, .int v_22)]) rfl ?_
              exact ih v3 v_22 hf
set_option maxHeartbeats 4000000 in
theorem cX12_weakest_ok {l : Launch} {B : Nat} {D : va_G} {cT : Nat → ClassId} {n : Nat} {adK adV : Nat → Nat} {o0 : Nat} {v1 : Int32} {μ : Mem} {res : Int32} (h0 : isK n o0 9) (hf : fX12_weakest o0 v1 μ = some res) : MI l yX12_weakest cX12_weakest 4 (some .int) rmX12_weakest B D cT (XW B adK adV) n [.ref (B + o0), .int v1] μ (res, μ) := by
  refine tt_ofW mtX12_weakest.1 (Nat.le_of_ble_eq_true rfl) rfl ?_
  intro p e s m below meth c E0 hr hlk
  have E : EE p s m _ c cX12_weakest 4 RX12 B D cT (XW B adK adV) := E0
  unfold fX12_weakest at hf
  refine tt_iconst (pc := 0) (v := (-1)) E dX12_weakest_0 ic_m1 ?_
  refine tt_istore_n (pc := 1) (i := 2) (lv' := [(2, .int ((-1))), (0, .ref (B + o0)), (1, .int v1)]) E dX12_weakest_1 rfl (Nat.le_of_ble_eq_true rfl) rfl ?_
  refine tt_iconst (pc := 2) (v := 0) E dX12_weakest_2 ic_0 ?_
  refine tt_istore_n (pc := 3) (i := 3) (lv' := [(3, .int 0), (2, .int ((-1))), (0, .ref (B + o0)), (1, .int v1)]) E dX12_weakest_3 rfl (Nat.le_of_ble_eq_true rfl) rfl ?_
  refine tt_sub [2, 3, 1, 0] (lv' := [(0, .ref (B + o0)), (1, .int v1), (2, .int ((-1))), (3, .int 0)]) rfl ?_
  exact tX12_weakest_4 E hr hlk h0 FU ((-1)) 0 hf
set_option maxHeartbeats 4000000 in
theorem tX12_fullest_4 {p : Program} {l : Launch} {e : Env} {s : State} {m : MethodId} {args : Array Value} {below : List Frame} {meth : Method} {c : Code} {B : Nat} {D : va_G} {cT : Nat → ClassId} {n : Nat} {adK adV : Nat → Nat} {res : Int32} (E : EE p s m args c cX12_fullest 4 RX12 B D cT (XW B adK adV)) (hr : meth.sig.returnType = some .int) (hlk : meth.locks = false) {o0 : Nat} {v1 : Int32} (h0 : isK n o0 9) {μ : Mem} : ∀ (fu : Nat) (v2 : Int32) (v3 : Int32), zl2 (gX12_fullest_4 o0 v1 μ) fu v2 v3 = some res → TT p l e rmX12_fullest s m args below meth c (QI B D cT n below args s (res, μ)) 4 B D cT n 0 0 μ 4 [(0, .ref (B + o0)), (1, .int v1), (2, .int v2), (3, .int v3)] [] := by
  intro fu
  induction fu with
  | zero => intro v2 v3 hf; exact absurd hf (fun h => by cases h)
  | succ fu ih =>
    intro v2 v3 hf
    have hf : gX12_fullest_4 o0 v1 μ (zl2 (gX12_fullest_4 o0 v1 μ) fu) v2 v3 = some res := hf
    unfold gX12_fullest_4 at hf
    refine tt_iload_n (pc := 4) (i := 3) (j := 3) E dX12_fullest_4 rfl rfl ?_
    refine tt_aload_n (pc := 5) (i := 0) (j := 0) E dX12_fullest_5 rfl rfl ?_
    obtain ⟨q_1, hq_2, hf⟩ := bd_some hf
    refine tt_getP (pc := 6) (t := 11) E lfX12_20 rfl rfl h0 dX12_fullest_6 hq_2 (fun kq_3 => ?_)
    refine tt_iconst (pc := 9) (v := 0) E dX12_fullest_9 ic_0 ?_
    obtain ⟨g_4, hf⟩ := gd_some hf
    refine tt_iald (pc := 10) E kq_3 g_4 dX12_fullest_10 ?_
    refine tt_icmp_ge (pc := 11) (tgt := 60) E dX12_fullest_11 rfl (fun c_27 => ?_) (fun c_27 => ?_)
    · have hf := ip c_27 hf
      refine tt_iload_n (pc := 60) (i := 2) (j := 2) E dX12_fullest_60 rfl rfl ?_
      exact tt_iret (pc := 61) E hr hlk dX12_fullest_61 (Nat.le_of_ble_eq_true rfl) (Nat.le_of_ble_eq_true rfl) (pv hf)
    · have hf := ine c_27 hf
      refine tt_aload_n (pc := 14) (i := 0) (j := 0) E dX12_fullest_14 rfl rfl ?_
      refine tt_iload_n (pc := 15) (i := 3) (j := 3) E dX12_fullest_15 rfl rfl ?_
      obtain ⟨r_5, hr_6, hf⟩ := bd_some hf
      have hc_7 := cX12_lives_ok (l := l) (B := B) (D := D) (cT := cT) (n := n) (adK := adK) (adV := adV) h0 hr_6
      refine tt_cZ (pc := 16) (tt_vi E lmX12_263 mtX12_lives hc_7 h0 rfl rfl (Nat.le_of_ble_eq_true rfl) ⟨(Nat.le_of_ble_eq_true rfl), (Nat.le_of_ble_eq_true rfl)⟩ ⟨(Nat.le_of_ble_eq_true rfl), (Nat.le_of_ble_eq_true rfl)⟩ dX12_fullest_16) (fun z_8 => ?_)
      refine tt_if_eq (pc := 19) (tgt := 54) E dX12_fullest_19 rfl (fun c_26 => ?_) (fun c_26 => ?_)
      · have hf := ip c_26 hf
        obtain ⟨v_9, ev_9, hf⟩ := nm_ex hf
        refine tt_iinc (pc := 54) (i := 3) (j := 3) (lv' := [(3, .int v_9), (0, .ref (B + o0)), (1, .int v1), (2, .int v2)]) E dX12_fullest_54 rfl (ev_9).symm (Nat.le_of_ble_eq_true rfl) rfl ?_
        refine tt_goto (pc := 57) (tgt := 4) E dX12_fullest_57 rfl ?_
        refine tt_sub [1, 2, 3, 0] (lv' := [(0, .ref (B + o0)), (1, .int v1), (2, .int v2), (3, .int v_9)]) rfl ?_
        exact ih v2 v_9 hf
      · have hf := ine c_26 hf
        refine tt_aload_n (pc := 22) (i := 0) (j := 0) E dX12_fullest_22 rfl rfl ?_
        refine tt_iload_n (pc := 23) (i := 3) (j := 3) E dX12_fullest_23 rfl rfl ?_
        refine tt_iconst (pc := 24) (v := 0) E dX12_fullest_24 ic_0 ?_
        obtain ⟨r_10, hr_11, hf⟩ := bd_some hf
        have hc_12 := cX12_of_ok (l := l) (B := B) (D := D) (cT := cT) (n := n) (adK := adK) (adV := adV) h0 hr_11
        refine tt_cI (pc := 25) (tt_vi E lmX12_192 mtX12_of hc_12 h0 rfl rfl (Nat.le_of_ble_eq_true rfl) ⟨(Nat.le_of_ble_eq_true rfl), (Nat.le_of_ble_eq_true rfl)⟩ ⟨(Nat.le_of_ble_eq_true rfl), (Nat.le_of_ble_eq_true rfl)⟩ dX12_fullest_25) ?_
        refine tt_iload_n (pc := 28) (i := 1) (j := 1) E dX12_fullest_28 rfl rfl ?_
        refine tt_icmp_ne (pc := 29) (tgt := 54) E dX12_fullest_29 rfl (fun c_25 => ?_) (fun c_25 => ?_)
        · have hf := ine c_25 hf
          obtain ⟨v_13, ev_13, hf⟩ := nm_ex hf
          refine tt_iinc (pc := 54) (i := 3) (j := 3) (lv' := [(3, .int v_13), (0, .ref (B + o0)), (1, .int v1), (2, .int v2)]) E dX12_fullest_54 rfl (ev_13).symm (Nat.le_of_ble_eq_true rfl) rfl ?_
          refine tt_goto (pc := 57) (tgt := 4) E dX12_fullest_57 rfl ?_
          refine tt_sub [1, 2, 3, 0] (lv' := [(0, .ref (B + o0)), (1, .int v1), (2, .int v2), (3, .int v_13)]) rfl ?_
          exact ih v2 v_13 hf
        · have hf := ip c_25 hf
          refine tt_iload_n (pc := 32) (i := 2) (j := 2) E dX12_fullest_32 rfl rfl ?_
          refine tt_iconst (pc := 33) (v := (-1)) E dX12_fullest_33 ic_m1 ?_
          refine tt_icmp_eq (pc := 34) (tgt := 52) E dX12_fullest_34 rfl (fun c_24 => ?_) (fun c_24 => ?_)
          · have hf := ip c_24 hf
            refine tt_iload_n (pc := 52) (i := 3) (j := 3) E dX12_fullest_52 rfl rfl ?_
            refine tt_istore_n (pc := 53) (i := 2) (lv' := [(2, .int v3), (0, .ref (B + o0)), (1, .int v1), (3, .int v3)]) E dX12_fullest_53 rfl (Nat.le_of_ble_eq_true rfl) rfl ?_
            obtain ⟨v_14, ev_14, hf⟩ := nm_ex hf
            refine tt_iinc (pc := 54) (i := 3) (j := 3) (lv' := [(3, .int v_14), (2, .int v3), (0, .ref (B + o0)), (1, .int v1)]) E dX12_fullest_54 rfl (ev_14).symm (Nat.le_of_ble_eq_true rfl) rfl ?_
            refine tt_goto (pc := 57) (tgt := 4) E dX12_fullest_57 rfl ?_
            refine tt_sub [2, 3, 1, 0] (lv' := [(0, .ref (B + o0)), (1, .int v1), (2, .int v3), (3, .int v_14)]) rfl ?_
            exact ih v3 v_14 hf
          · have hf := ine c_24 hf
            refine tt_aload_n (pc := 37) (i := 0) (j := 0) E dX12_fullest_37 rfl rfl ?_
            refine tt_iload_n (pc := 38) (i := 3) (j := 3) E dX12_fullest_38 rfl rfl ?_
            refine tt_iconst (pc := 39) (v := 4) E dX12_fullest_39 ic_4 ?_
            obtain ⟨r_15, hr_16, hf⟩ := bd_some hf
            have hc_17 := cX12_of_ok (l := l) (B := B) (D := D) (cT := cT) (n := n) (adK := adK) (adV := adV) h0 hr_16
            refine tt_cI (pc := 40) (tt_vi E lmX12_192 mtX12_of hc_17 h0 rfl rfl (Nat.le_of_ble_eq_true rfl) ⟨(Nat.le_of_ble_eq_true rfl), (Nat.le_of_ble_eq_true rfl)⟩ ⟨(Nat.le_of_ble_eq_true rfl), (Nat.le_of_ble_eq_true rfl)⟩ dX12_fullest_40) ?_
            refine tt_aload_n (pc := 43) (i := 0) (j := 0) E dX12_fullest_43 rfl rfl ?_
            refine tt_iload_n (pc := 44) (i := 2) (j := 2) E dX12_fullest_44 rfl rfl ?_
            refine tt_iconst (pc := 45) (v := 4) E dX12_fullest_45 ic_4 ?_
            obtain ⟨r_18, hr_19, hf⟩ := bd_some hf
            have hc_20 := cX12_of_ok (l := l) (B := B) (D := D) (cT := cT) (n := n) (adK := adK) (adV := adV) h0 hr_19
            refine tt_cI (pc := 46) (tt_vi E lmX12_192 mtX12_of hc_20 h0 rfl rfl (Nat.le_of_ble_eq_true rfl) ⟨(Nat.le_of_ble_eq_true rfl), (Nat.le_of_ble_eq_true rfl)⟩ ⟨(Nat.le_of_ble_eq_true rfl), (Nat.le_of_ble_eq_true rfl)⟩ dX12_fullest_46) ?_
            refine tt_icmp_le (pc := 49) (tgt := 54) E dX12_fullest_49 rfl (fun c_23 => ?_) (fun c_23 => ?_)
            · have hf := ip c_23 hf
              obtain ⟨v_21, ev_21, hf⟩ := nm_ex hf
              refine tt_iinc (pc := 54) (i := 3) (j := 3) (lv' := [(3, .int v_21), (0, .ref (B + o0)), (1, .int v1), (2, .int v2)]) E dX12_fullest_54 rfl (ev_21).symm (Nat.le_of_ble_eq_true rfl) rfl ?_
              refine tt_goto (pc := 57) (tgt := 4) E dX12_fullest_57 rfl ?_
              refine tt_sub [1, 2, 3, 0] (lv' := [(0, .ref (B + o0)), (1, .int v1), (2, .int v2), (3, .int v_21)]) rfl ?_
              exact ih v2 v_21 hf
            · have hf := ine c_23 hf
              refine tt_iload_n (pc := 52) (i := 3) (j := 3) E dX12_fullest_52 rfl rfl ?_
              refine tt_istore_n (pc := 53) (i := 2) (lv' := [(2, .int v3), (0, .ref (B + o0)), (1, .int v1), (3, .int v3)]) E dX12_fullest_53 rfl (Nat.le_of_ble_eq_true rfl) rfl ?_
              obtain ⟨v_22, ev_22, hf⟩ := nm_ex hf
              refine tt_iinc (pc := 54) (i := 3) (j := 3) (lv' := [(3, .int v_22), (2, .int v3), (0, .ref (B + o0)), (1, .int v1)]) E dX12_fullest_54 rfl (ev_22).symm (Nat.le_of_ble_eq_true rfl) rfl ?_
              refine tt_goto (pc := 57) (tgt := 4) E dX12_fullest_57 rfl ?_
              refine tt_sub [2, 3, 1, 0] (lv' := [(0, .ref (B + o0)), (1, .int v1), (2, .int v3), (3, .int v_22)]) rfl ?_
              exact ih v3 v_22 hf
set_option maxHeartbeats 4000000 in
theorem cX12_fullest_ok {l : Launch} {B : Nat} {D : va_G} {cT : Nat → ClassId} {n : Nat} {adK adV : Nat → Nat} {o0 : Nat} {v1 : Int32} {μ : Mem} {res : Int32} (h0 : isK n o0 9) (hf : fX12_fullest o0 v1 μ = some res) : MI l yX12_fullest cX12_fullest 4 (some .int) rmX12_fullest B D cT (XW B adK adV) n [.ref (B + o0), .int v1] μ (res, μ) := by
  refine tt_ofW mtX12_fullest.1 (Nat.le_of_ble_eq_true rfl) rfl ?_
  intro p e s m below meth c E0 hr hlk
  have E : EE p s m _ c cX12_fullest 4 RX12 B D cT (XW B adK adV) := E0
  unfold fX12_fullest at hf
  refine tt_iconst (pc := 0) (v := (-1)) E dX12_fullest_0 ic_m1 ?_
  refine tt_istore_n (pc := 1) (i := 2) (lv' := [(2, .int ((-1))), (0, .ref (B + o0)), (1, .int v1)]) E dX12_fullest_1 rfl (Nat.le_of_ble_eq_true rfl) rfl ?_
  refine tt_iconst (pc := 2) (v := 0) E dX12_fullest_2 ic_0 ?_
  refine tt_istore_n (pc := 3) (i := 3) (lv' := [(3, .int 0), (2, .int ((-1))), (0, .ref (B + o0)), (1, .int v1)]) E dX12_fullest_3 rfl (Nat.le_of_ble_eq_true rfl) rfl ?_
  refine tt_sub [2, 3, 1, 0] (lv' := [(0, .ref (B + o0)), (1, .int v1), (2, .int ((-1))), (3, .int 0)]) rfl ?_
  exact tX12_fullest_4 E hr hlk h0 FU ((-1)) 0 hf
set_option maxHeartbeats 4000000 in
theorem tX12_emptiestBeside_4 {p : Program} {l : Launch} {e : Env} {s : State} {m : MethodId} {args : Array Value} {below : List Frame} {meth : Method} {c : Code} {B : Nat} {D : va_G} {cT : Nat → ClassId} {n : Nat} {adK adV : Nat → Nat} {res : Int32} (E : EE p s m args c cX12_emptiestBeside 4 RX12 B D cT (XW B adK adV)) (hr : meth.sig.returnType = some .int) (hlk : meth.locks = false) {o0 : Nat} {v1 : Int32} (h0 : isK n o0 9) {μ : Mem} : ∀ (fu : Nat) (v2 : Int32) (v3 : Int32), zl2 (gX12_emptiestBeside_4 o0 v1 μ) fu v2 v3 = some res → TT p l e rmX12_emptiestBeside s m args below meth c (QI B D cT n below args s (res, μ)) 4 B D cT n 0 0 μ 4 [(0, .ref (B + o0)), (1, .int v1), (2, .int v2), (3, .int v3)] [] := by
  intro fu
  induction fu with
  | zero => intro v2 v3 hf; exact absurd hf (fun h => by cases h)
  | succ fu ih =>
    intro v2 v3 hf
    have hf : gX12_emptiestBeside_4 o0 v1 μ (zl2 (gX12_emptiestBeside_4 o0 v1 μ) fu) v2 v3 = some res := hf
    unfold gX12_emptiestBeside_4 at hf
    refine tt_iload_n (pc := 4) (i := 3) (j := 3) E dX12_emptiestBeside_4 rfl rfl ?_
    refine tt_aload_n (pc := 5) (i := 0) (j := 0) E dX12_emptiestBeside_5 rfl rfl ?_
    obtain ⟨q_1, hq_2, hf⟩ := bd_some hf
    refine tt_getP (pc := 6) (t := 11) E lfX12_20 rfl rfl h0 dX12_emptiestBeside_6 hq_2 (fun kq_3 => ?_)
    refine tt_iconst (pc := 9) (v := 0) E dX12_emptiestBeside_9 ic_0 ?_
    obtain ⟨g_4, hf⟩ := gd_some hf
    refine tt_iald (pc := 10) E kq_3 g_4 dX12_emptiestBeside_10 ?_
    refine tt_icmp_ge (pc := 11) (tgt := 73) E dX12_emptiestBeside_11 rfl (fun c_32 => ?_) (fun c_32 => ?_)
    · have hf := ip c_32 hf
      refine tt_iload_n (pc := 73) (i := 2) (j := 2) E dX12_emptiestBeside_73 rfl rfl ?_
      exact tt_iret (pc := 74) E hr hlk dX12_emptiestBeside_74 (Nat.le_of_ble_eq_true rfl) (Nat.le_of_ble_eq_true rfl) (pv hf)
    · have hf := ine c_32 hf
      refine tt_iload_n (pc := 14) (i := 3) (j := 3) E dX12_emptiestBeside_14 rfl rfl ?_
      refine tt_iload_n (pc := 15) (i := 1) (j := 1) E dX12_emptiestBeside_15 rfl rfl ?_
      refine tt_icmp_eq (pc := 16) (tgt := 67) E dX12_emptiestBeside_16 rfl (fun c_31 => ?_) (fun c_31 => ?_)
      · have hf := ip c_31 hf
        obtain ⟨v_5, ev_5, hf⟩ := nm_ex hf
        refine tt_iinc (pc := 67) (i := 3) (j := 3) (lv' := [(3, .int v_5), (0, .ref (B + o0)), (1, .int v1), (2, .int v2)]) E dX12_emptiestBeside_67 rfl (ev_5).symm (Nat.le_of_ble_eq_true rfl) rfl ?_
        refine tt_goto (pc := 70) (tgt := 4) E dX12_emptiestBeside_70 rfl ?_
        refine tt_sub [1, 2, 3, 0] (lv' := [(0, .ref (B + o0)), (1, .int v1), (2, .int v2), (3, .int v_5)]) rfl ?_
        exact ih v2 v_5 hf
      · have hf := ine c_31 hf
        refine tt_aload_n (pc := 19) (i := 0) (j := 0) E dX12_emptiestBeside_19 rfl rfl ?_
        refine tt_iload_n (pc := 20) (i := 3) (j := 3) E dX12_emptiestBeside_20 rfl rfl ?_
        obtain ⟨r_6, hr_7, hf⟩ := bd_some hf
        have hc_8 := cX12_lives_ok (l := l) (B := B) (D := D) (cT := cT) (n := n) (adK := adK) (adV := adV) h0 hr_7
        refine tt_cZ (pc := 21) (tt_vi E lmX12_263 mtX12_lives hc_8 h0 rfl rfl (Nat.le_of_ble_eq_true rfl) ⟨(Nat.le_of_ble_eq_true rfl), (Nat.le_of_ble_eq_true rfl)⟩ ⟨(Nat.le_of_ble_eq_true rfl), (Nat.le_of_ble_eq_true rfl)⟩ dX12_emptiestBeside_21) (fun z_9 => ?_)
        refine tt_if_eq (pc := 24) (tgt := 67) E dX12_emptiestBeside_24 rfl (fun c_30 => ?_) (fun c_30 => ?_)
        · have hf := ip c_30 hf
          obtain ⟨v_10, ev_10, hf⟩ := nm_ex hf
          refine tt_iinc (pc := 67) (i := 3) (j := 3) (lv' := [(3, .int v_10), (0, .ref (B + o0)), (1, .int v1), (2, .int v2)]) E dX12_emptiestBeside_67 rfl (ev_10).symm (Nat.le_of_ble_eq_true rfl) rfl ?_
          refine tt_goto (pc := 70) (tgt := 4) E dX12_emptiestBeside_70 rfl ?_
          refine tt_sub [1, 2, 3, 0] (lv' := [(0, .ref (B + o0)), (1, .int v1), (2, .int v2), (3, .int v_10)]) rfl ?_
          exact ih v2 v_10 hf
        · have hf := ine c_30 hf
          refine tt_aload_n (pc := 27) (i := 0) (j := 0) E dX12_emptiestBeside_27 rfl rfl ?_
          refine tt_iload_n (pc := 28) (i := 3) (j := 3) E dX12_emptiestBeside_28 rfl rfl ?_
          refine tt_iconst (pc := 29) (v := 0) E dX12_emptiestBeside_29 ic_0 ?_
          obtain ⟨r_11, hr_12, hf⟩ := bd_some hf
          have hc_13 := cX12_of_ok (l := l) (B := B) (D := D) (cT := cT) (n := n) (adK := adK) (adV := adV) h0 hr_12
          refine tt_cI (pc := 30) (tt_vi E lmX12_192 mtX12_of hc_13 h0 rfl rfl (Nat.le_of_ble_eq_true rfl) ⟨(Nat.le_of_ble_eq_true rfl), (Nat.le_of_ble_eq_true rfl)⟩ ⟨(Nat.le_of_ble_eq_true rfl), (Nat.le_of_ble_eq_true rfl)⟩ dX12_emptiestBeside_30) ?_
          refine tt_aload_n (pc := 33) (i := 0) (j := 0) E dX12_emptiestBeside_33 rfl rfl ?_
          refine tt_iload_n (pc := 34) (i := 1) (j := 1) E dX12_emptiestBeside_34 rfl rfl ?_
          refine tt_iconst (pc := 35) (v := 0) E dX12_emptiestBeside_35 ic_0 ?_
          obtain ⟨r_14, hr_15, hf⟩ := bd_some hf
          have hc_16 := cX12_of_ok (l := l) (B := B) (D := D) (cT := cT) (n := n) (adK := adK) (adV := adV) h0 hr_15
          refine tt_cI (pc := 36) (tt_vi E lmX12_192 mtX12_of hc_16 h0 rfl rfl (Nat.le_of_ble_eq_true rfl) ⟨(Nat.le_of_ble_eq_true rfl), (Nat.le_of_ble_eq_true rfl)⟩ ⟨(Nat.le_of_ble_eq_true rfl), (Nat.le_of_ble_eq_true rfl)⟩ dX12_emptiestBeside_36) ?_
          refine tt_icmp_eq (pc := 39) (tgt := 45) E dX12_emptiestBeside_39 rfl (fun c_29 => ?_) (fun c_29 => ?_)
          · have hf := ip c_29 hf
            refine tt_iload_n (pc := 45) (i := 2) (j := 2) E dX12_emptiestBeside_45 rfl rfl ?_
            refine tt_iconst (pc := 46) (v := (-1)) E dX12_emptiestBeside_46 ic_m1 ?_
            refine tt_icmp_eq (pc := 47) (tgt := 65) E dX12_emptiestBeside_47 rfl (fun c_27 => ?_) (fun c_27 => ?_)
            · have hf := ip c_27 hf
              refine tt_iload_n (pc := 65) (i := 3) (j := 3) E dX12_emptiestBeside_65 rfl rfl ?_
              refine tt_istore_n (pc := 66) (i := 2) (lv' := [(2, .int v3), (0, .ref (B + o0)), (1, .int v1), (3, .int v3)]) E dX12_emptiestBeside_66 rfl (Nat.le_of_ble_eq_true rfl) rfl ?_
              obtain ⟨v_17, ev_17, hf⟩ := nm_ex hf
              refine tt_iinc (pc := 67) (i := 3) (j := 3) (lv' := [(3, .int v_17), (2, .int v3), (0, .ref (B + o0)), (1, .int v1)]) E dX12_emptiestBeside_67 rfl (ev_17).symm (Nat.le_of_ble_eq_true rfl) rfl ?_
              refine tt_goto (pc := 70) (tgt := 4) E dX12_emptiestBeside_70 rfl ?_
              refine tt_sub [2, 3, 1, 0] (lv' := [(0, .ref (B + o0)), (1, .int v1), (2, .int v3), (3, .int v_17)]) rfl ?_
              exact ih v3 v_17 hf
            · have hf := ine c_27 hf
              refine tt_aload_n (pc := 50) (i := 0) (j := 0) E dX12_emptiestBeside_50 rfl rfl ?_
              refine tt_iload_n (pc := 51) (i := 3) (j := 3) E dX12_emptiestBeside_51 rfl rfl ?_
              refine tt_iconst (pc := 52) (v := 4) E dX12_emptiestBeside_52 ic_4 ?_
              obtain ⟨r_18, hr_19, hf⟩ := bd_some hf
              have hc_20 := cX12_of_ok (l := l) (B := B) (D := D) (cT := cT) (n := n) (adK := adK) (adV := adV) h0 hr_19
              refine tt_cI (pc := 53) (tt_vi E lmX12_192 mtX12_of hc_20 h0 rfl rfl (Nat.le_of_ble_eq_true rfl) ⟨(Nat.le_of_ble_eq_true rfl), (Nat.le_of_ble_eq_true rfl)⟩ ⟨(Nat.le_of_ble_eq_true rfl), (Nat.le_of_ble_eq_true rfl)⟩ dX12_emptiestBeside_53) ?_
              refine tt_aload_n (pc := 56) (i := 0) (j := 0) E dX12_emptiestBeside_56 rfl rfl ?_
              refine tt_iload_n (pc := 57) (i := 2) (j := 2) E dX12_emptiestBeside_57 rfl rfl ?_
              refine tt_iconst (pc := 58) (v := 4) E dX12_emptiestBeside_58 ic_4 ?_
              obtain ⟨r_21, hr_22, hf⟩ := bd_some hf
              have hc_23 := cX12_of_ok (l := l) (B := B) (D := D) (cT := cT) (n := n) (adK := adK) (adV := adV) h0 hr_22
              refine tt_cI (pc := 59) (tt_vi E lmX12_192 mtX12_of hc_23 h0 rfl rfl (Nat.le_of_ble_eq_true rfl) ⟨(Nat.le_of_ble_eq_true rfl), (Nat.le_of_ble_eq_true rfl)⟩ ⟨(Nat.le_of_ble_eq_true rfl), (Nat.le_of_ble_eq_true rfl)⟩ dX12_emptiestBeside_59) ?_
              refine tt_icmp_ge (pc := 62) (tgt := 67) E dX12_emptiestBeside_62 rfl (fun c_26 => ?_) (fun c_26 => ?_)
              · have hf := ip c_26 hf
                obtain ⟨v_24, ev_24, hf⟩ := nm_ex hf
                refine tt_iinc (pc := 67) (i := 3) (j := 3) (lv' := [(3, .int v_24), (0, .ref (B + o0)), (1, .int v1), (2, .int v2)]) E dX12_emptiestBeside_67 rfl (ev_24).symm (Nat.le_of_ble_eq_true rfl) rfl ?_
                refine tt_goto (pc := 70) (tgt := 4) E dX12_emptiestBeside_70 rfl ?_
                refine tt_sub [1, 2, 3, 0] (lv' := [(0, .ref (B + o0)), (1, .int v1), (2, .int v2), (3, .int v_24)]) rfl ?_
                exact ih v2 v_24 hf
              · have hf := ine c_26 hf
                refine tt_iload_n (pc := 65) (i := 3) (j := 3) E dX12_emptiestBeside_65 rfl rfl ?_
                refine tt_istore_n (pc := 66) (i := 2) (lv' := [(2, .int v3), (0, .ref (B + o0)), (1, .int v1), (3, .int v3)]) E dX12_emptiestBeside_66 rfl (Nat.le_of_ble_eq_true rfl) rfl ?_
                obtain ⟨v_25, ev_25, hf⟩ := nm_ex hf
                refine tt_iinc (pc := 67) (i := 3) (j := 3) (lv' := [(3, .int v_25), (2, .int v3), (0, .ref (B + o0)), (1, .int v1)]) E dX12_emptiestBeside_67 rfl (ev_25).symm (Nat.le_of_ble_eq_true rfl) rfl ?_
                refine tt_goto (pc := 70) (tgt := 4) E dX12_emptiestBeside_70 rfl ?_
                refine tt_sub [2, 3, 1, 0] (lv' := [(0, .ref (B + o0)), (1, .int v1), (2, .int v3), (3, .int v_25)]) rfl ?_
                exact ih v3 v_25 hf
          · have hf := ine c_29 hf
            refine tt_goto (pc := 42) (tgt := 67) E dX12_emptiestBeside_42 rfl ?_
            obtain ⟨v_28, ev_28, hf⟩ := nm_ex hf
            refine tt_iinc (pc := 67) (i := 3) (j := 3) (lv' := [(3, .int v_28), (0, .ref (B + o0)), (1, .int v1), (2, .int v2)]) E dX12_emptiestBeside_67 rfl (ev_28).symm (Nat.le_of_ble_eq_true rfl) rfl ?_
            refine tt_goto (pc := 70) (tgt := 4) E dX12_emptiestBeside_70 rfl ?_
            refine tt_sub [1, 2, 3, 0] (lv' := [(0, .ref (B + o0)), (1, .int v1), (2, .int v2), (3, .int v_28)]) rfl ?_
            exact ih v2 v_28 hf
set_option maxHeartbeats 4000000 in
theorem cX12_emptiestBeside_ok {l : Launch} {B : Nat} {D : va_G} {cT : Nat → ClassId} {n : Nat} {adK adV : Nat → Nat} {o0 : Nat} {v1 : Int32} {μ : Mem} {res : Int32} (h0 : isK n o0 9) (hf : fX12_emptiestBeside o0 v1 μ = some res) : MI l yX12_emptiestBeside cX12_emptiestBeside 4 (some .int) rmX12_emptiestBeside B D cT (XW B adK adV) n [.ref (B + o0), .int v1] μ (res, μ) := by
  refine tt_ofW mtX12_emptiestBeside.1 (Nat.le_of_ble_eq_true rfl) rfl ?_
  intro p e s m below meth c E0 hr hlk
  have E : EE p s m _ c cX12_emptiestBeside 4 RX12 B D cT (XW B adK adV) := E0
  unfold fX12_emptiestBeside at hf
  refine tt_iconst (pc := 0) (v := (-1)) E dX12_emptiestBeside_0 ic_m1 ?_
  refine tt_istore_n (pc := 1) (i := 2) (lv' := [(2, .int ((-1))), (0, .ref (B + o0)), (1, .int v1)]) E dX12_emptiestBeside_1 rfl (Nat.le_of_ble_eq_true rfl) rfl ?_
  refine tt_iconst (pc := 2) (v := 0) E dX12_emptiestBeside_2 ic_0 ?_
  refine tt_istore_n (pc := 3) (i := 3) (lv' := [(3, .int 0), (2, .int ((-1))), (0, .ref (B + o0)), (1, .int v1)]) E dX12_emptiestBeside_3 rfl (Nat.le_of_ble_eq_true rfl) rfl ?_
  refine tt_sub [2, 3, 1, 0] (lv' := [(0, .ref (B + o0)), (1, .int v1), (2, .int ((-1))), (3, .int 0)]) rfl ?_
  exact tX12_emptiestBeside_4 E hr hlk h0 FU ((-1)) 0 hf
set_option maxHeartbeats 4000000 in
theorem cX12_hits_ok {l : Launch} {B : Nat} {D : va_G} {cT : Nat → ClassId} {n : Nat} {adK adV : Nat → Nat} {o0 : Nat} {v1 : Int32} {v2 : Int32} {μ : Mem} {res : Mem} (h0 : isK n o0 9) (hf : fX12_hits o0 v1 v2 μ = some res) : MV l yX12_hits cX12_hits 5 (none) rmX12_hits B D cT (XW B adK adV) n [.ref (B + o0), .int v1, .int v2] μ res := by
  refine tt_ofW mtX12_hits.1 (Nat.le_of_ble_eq_true rfl) rfl ?_
  intro p e s m below meth c E0 hr hlk
  have E : EE p s m _ c cX12_hits 5 RX12 B D cT (XW B adK adV) := E0
  unfold fX12_hits at hf
  refine tt_aload_n (pc := 0) (i := 0) (j := 0) E dX12_hits_0 rfl rfl ?_
  refine tt_iconst (pc := 1) (v := 1) E dX12_hits_1 ic_1 ?_
  refine tt_aload_n (pc := 2) (i := 0) (j := 0) E dX12_hits_2 rfl rfl ?_
  refine tt_iload_n (pc := 3) (i := 1) (j := 1) E dX12_hits_3 rfl rfl ?_
  refine tt_iconst (pc := 4) (v := 0) E dX12_hits_4 ic_0 ?_
  obtain ⟨r_1, hr_2, hf⟩ := bd_some hf
  have hc_3 := cX12_of_ok (l := l) (B := B) (D := D) (cT := cT) (n := n) (adK := adK) (adV := adV) h0 hr_2
  refine tt_cI (pc := 5) (tt_vi E lmX12_192 mtX12_of hc_3 h0 rfl rfl (Nat.le_of_ble_eq_true rfl) ⟨(Nat.le_of_ble_eq_true rfl), (Nat.le_of_ble_eq_true rfl)⟩ ⟨(Nat.le_of_ble_eq_true rfl), (Nat.le_of_ble_eq_true rfl)⟩ dX12_hits_5) ?_
  refine tt_isub (pc := 8) E dX12_hits_8 ?_
  obtain ⟨r_4, hr_5, hf⟩ := bd_some hf
  have hc_6 := cX12_weakest_ok (l := l) (B := B) (D := D) (cT := cT) (n := n) (adK := adK) (adV := adV) h0 hr_5
  refine tt_cI (pc := 9) (tt_vi E lmX12_291 mtX12_weakest hc_6 h0 rfl rfl (Nat.le_of_ble_eq_true rfl) ⟨(Nat.le_of_ble_eq_true rfl), (Nat.le_of_ble_eq_true rfl)⟩ ⟨(Nat.le_of_ble_eq_true rfl), (Nat.le_of_ble_eq_true rfl)⟩ dX12_hits_9) ?_
  refine tt_istore_n (pc := 12) (i := 3) (lv' := [(3, .int r_4), (0, .ref (B + o0)), (1, .int v1), (2, .int v2)]) E dX12_hits_12 rfl (Nat.le_of_ble_eq_true rfl) rfl ?_
  refine tt_aload_n (pc := 13) (i := 0) (j := 1) E dX12_hits_13 rfl rfl ?_
  refine tt_iload_n (pc := 14) (i := 3) (j := 0) E dX12_hits_14 rfl rfl ?_
  refine tt_iconst (pc := 15) (v := 2) E dX12_hits_15 ic_2 ?_
  obtain ⟨r_7, hr_8, hf⟩ := bd_some hf
  have hc_9 := cX12_of_ok (l := l) (B := B) (D := D) (cT := cT) (n := n) (adK := adK) (adV := adV) h0 hr_8
  refine tt_cI (pc := 16) (tt_vi E lmX12_192 mtX12_of hc_9 h0 rfl rfl (Nat.le_of_ble_eq_true rfl) ⟨(Nat.le_of_ble_eq_true rfl), (Nat.le_of_ble_eq_true rfl)⟩ ⟨(Nat.le_of_ble_eq_true rfl), (Nat.le_of_ble_eq_true rfl)⟩ dX12_hits_16) ?_
  refine tt_iconst (pc := 19) (v := 0) E dX12_hits_19 ic_0 ?_
  refine tt_iload_n (pc := 20) (i := 2) (j := 3) E dX12_hits_20 rfl rfl ?_
  refine tt_aload_n (pc := 21) (i := 0) (j := 1) E dX12_hits_21 rfl rfl ?_
  refine tt_iload_n (pc := 22) (i := 3) (j := 0) E dX12_hits_22 rfl rfl ?_
  refine tt_iconst (pc := 23) (v := 5) E dX12_hits_23 ic_5 ?_
  obtain ⟨r_10, hr_11, hf⟩ := bd_some hf
  have hc_12 := cX12_of_ok (l := l) (B := B) (D := D) (cT := cT) (n := n) (adK := adK) (adV := adV) h0 hr_11
  refine tt_cI (pc := 24) (tt_vi E lmX12_192 mtX12_of hc_12 h0 rfl rfl (Nat.le_of_ble_eq_true rfl) ⟨(Nat.le_of_ble_eq_true rfl), (Nat.le_of_ble_eq_true rfl)⟩ ⟨(Nat.le_of_ble_eq_true rfl), (Nat.le_of_ble_eq_true rfl)⟩ dX12_hits_24) ?_
  refine tt_isub (pc := 27) E dX12_hits_27 ?_
  obtain ⟨r_13, hr_14, hf⟩ := bd_some hf
  have hc_15 := cX12_greater_ok (l := l) (B := B) (D := D) (cT := cT) (n := n) (adK := adK) (adV := adV) hr_14
  refine tt_cI (pc := 28) (tt_si E lmX12_294 mtX12_greater hc_15 rfl rfl (Nat.le_of_ble_eq_true rfl) ⟨(Nat.le_of_ble_eq_true rfl), (Nat.le_of_ble_eq_true rfl)⟩ ⟨(Nat.le_of_ble_eq_true rfl), (Nat.le_of_ble_eq_true rfl)⟩ dX12_hits_28) ?_
  obtain ⟨r_16, hr_17, hf⟩ := bd_some hf
  have hc_18 := cX12_lesser_ok (l := l) (B := B) (D := D) (cT := cT) (n := n) (adK := adK) (adV := adV) hr_17
  refine tt_cI (pc := 31) (tt_si E lmX12_297 mtX12_lesser hc_18 rfl rfl (Nat.le_of_ble_eq_true rfl) ⟨(Nat.le_of_ble_eq_true rfl), (Nat.le_of_ble_eq_true rfl)⟩ ⟨(Nat.le_of_ble_eq_true rfl), (Nat.le_of_ble_eq_true rfl)⟩ dX12_hits_31) ?_
  refine tt_istore (pc := 34) (i := 4) (lv' := [(4, .int r_16), (3, .int r_4), (0, .ref (B + o0)), (1, .int v1), (2, .int v2)]) E dX12_hits_34 (Nat.le_of_ble_eq_true rfl) rfl ?_
  refine tt_aload_n (pc := 36) (i := 0) (j := 2) E dX12_hits_36 rfl rfl ?_
  refine tt_iload_n (pc := 37) (i := 3) (j := 1) E dX12_hits_37 rfl rfl ?_
  refine tt_iconst (pc := 38) (v := 2) E dX12_hits_38 ic_2 ?_
  refine tt_aload_n (pc := 39) (i := 0) (j := 2) E dX12_hits_39 rfl rfl ?_
  refine tt_iload_n (pc := 40) (i := 3) (j := 1) E dX12_hits_40 rfl rfl ?_
  refine tt_iconst (pc := 41) (v := 2) E dX12_hits_41 ic_2 ?_
  obtain ⟨r_19, hr_20, hf⟩ := bd_some hf
  have hc_21 := cX12_of_ok (l := l) (B := B) (D := D) (cT := cT) (n := n) (adK := adK) (adV := adV) h0 hr_20
  refine tt_cI (pc := 42) (tt_vi E lmX12_192 mtX12_of hc_21 h0 rfl rfl (Nat.le_of_ble_eq_true rfl) ⟨(Nat.le_of_ble_eq_true rfl), (Nat.le_of_ble_eq_true rfl)⟩ ⟨(Nat.le_of_ble_eq_true rfl), (Nat.le_of_ble_eq_true rfl)⟩ dX12_hits_42) ?_
  refine tt_iload (pc := 45) (i := 4) (j := 0) E dX12_hits_45 rfl ?_
  refine tt_isub (pc := 47) E dX12_hits_47 ?_
  obtain ⟨r_22, hr_23, hf⟩ := bd_some hf
  have hc_24 := cX12_sets_ok (l := l) (B := B) (D := D) (cT := cT) (n := n) (adK := adK) (adV := adV) h0 hr_23
  refine tt_cV (pc := 48) (tt_vi E lmX12_201 mtX12_sets hc_24 h0 rfl rfl (Nat.le_of_ble_eq_true rfl) ⟨(Nat.le_of_ble_eq_true rfl), (Nat.le_of_ble_eq_true rfl)⟩ ⟨(Nat.le_of_ble_eq_true rfl), (Nat.le_of_ble_eq_true rfl)⟩ dX12_hits_48) ?_
  refine tt_aload_n (pc := 51) (i := 0) (j := 2) E dX12_hits_51 rfl rfl ?_
  refine tt_iload_n (pc := 52) (i := 1) (j := 3) E dX12_hits_52 rfl rfl ?_
  refine tt_bipush (pc := 53) (v := 11) E dX12_hits_53 bc_11 ?_
  refine tt_aload_n (pc := 55) (i := 0) (j := 2) E dX12_hits_55 rfl rfl ?_
  refine tt_iload_n (pc := 56) (i := 1) (j := 3) E dX12_hits_56 rfl rfl ?_
  refine tt_bipush (pc := 57) (v := 11) E dX12_hits_57 bc_11 ?_
  obtain ⟨r_25, hr_26, hf⟩ := bd_some hf
  have hc_27 := cX12_of_ok (l := l) (B := B) (D := D) (cT := cT) (n := n) (adK := adK) (adV := adV) h0 hr_26
  refine tt_cI (pc := 59) (tt_vi E lmX12_192 mtX12_of hc_27 h0 rfl rfl (Nat.le_of_ble_eq_true rfl) ⟨(Nat.le_of_ble_eq_true rfl), (Nat.le_of_ble_eq_true rfl)⟩ ⟨(Nat.le_of_ble_eq_true rfl), (Nat.le_of_ble_eq_true rfl)⟩ dX12_hits_59) ?_
  refine tt_iload (pc := 62) (i := 4) (j := 0) E dX12_hits_62 rfl ?_
  refine tt_iadd (pc := 64) E dX12_hits_64 ?_
  obtain ⟨r_28, hr_29, hf⟩ := bd_some hf
  have hc_30 := cX12_sets_ok (l := l) (B := B) (D := D) (cT := cT) (n := n) (adK := adK) (adV := adV) h0 hr_29
  refine tt_cV (pc := 65) (tt_vi E lmX12_201 mtX12_sets hc_30 h0 rfl rfl (Nat.le_of_ble_eq_true rfl) ⟨(Nat.le_of_ble_eq_true rfl), (Nat.le_of_ble_eq_true rfl)⟩ ⟨(Nat.le_of_ble_eq_true rfl), (Nat.le_of_ble_eq_true rfl)⟩ dX12_hits_65) ?_
  refine tt_aload_n (pc := 68) (i := 0) (j := 2) E dX12_hits_68 rfl rfl ?_
  refine tt_iload_n (pc := 69) (i := 3) (j := 1) E dX12_hits_69 rfl rfl ?_
  obtain ⟨r_31, hr_32, hf⟩ := bd_some hf
  have hc_33 := cX12_lives_ok (l := l) (B := B) (D := D) (cT := cT) (n := n) (adK := adK) (adV := adV) h0 hr_32
  refine tt_cZ (pc := 70) (tt_vi E lmX12_263 mtX12_lives hc_33 h0 rfl rfl (Nat.le_of_ble_eq_true rfl) ⟨(Nat.le_of_ble_eq_true rfl), (Nat.le_of_ble_eq_true rfl)⟩ ⟨(Nat.le_of_ble_eq_true rfl), (Nat.le_of_ble_eq_true rfl)⟩ dX12_hits_70) (fun z_34 => ?_)
  refine tt_if_eq (pc := 73) (tgt := 77) E dX12_hits_73 rfl (fun c_44 => ?_) (fun c_44 => ?_)
  · have hf := ip c_44 hf
    refine tt_aload_n (pc := 77) (i := 0) (j := 2) E dX12_hits_77 rfl rfl ?_
    refine tt_iload_n (pc := 78) (i := 3) (j := 1) E dX12_hits_78 rfl rfl ?_
    refine tt_iconst (pc := 79) (v := 4) E dX12_hits_79 ic_4 ?_
    refine tt_iconst (pc := 80) (v := 0) E dX12_hits_80 ic_0 ?_
    obtain ⟨r_35, hr_36, hf⟩ := bd_some hf
    have hc_37 := cX12_sets_ok (l := l) (B := B) (D := D) (cT := cT) (n := n) (adK := adK) (adV := adV) h0 hr_36
    refine tt_cV (pc := 81) (tt_vi E lmX12_201 mtX12_sets hc_37 h0 rfl rfl (Nat.le_of_ble_eq_true rfl) ⟨(Nat.le_of_ble_eq_true rfl), (Nat.le_of_ble_eq_true rfl)⟩ ⟨(Nat.le_of_ble_eq_true rfl), (Nat.le_of_ble_eq_true rfl)⟩ dX12_hits_81) ?_
    refine tt_aload_n (pc := 84) (i := 0) (j := 2) E dX12_hits_84 rfl rfl ?_
    refine tt_iload_n (pc := 85) (i := 3) (j := 1) E dX12_hits_85 rfl rfl ?_
    refine tt_iconst (pc := 86) (v := 5) E dX12_hits_86 ic_5 ?_
    refine tt_iconst (pc := 87) (v := 0) E dX12_hits_87 ic_0 ?_
    obtain ⟨r_38, hr_39, hf⟩ := bd_some hf
    have hc_40 := cX12_sets_ok (l := l) (B := B) (D := D) (cT := cT) (n := n) (adK := adK) (adV := adV) h0 hr_39
    refine tt_cV (pc := 88) (tt_vi E lmX12_201 mtX12_sets hc_40 h0 rfl rfl (Nat.le_of_ble_eq_true rfl) ⟨(Nat.le_of_ble_eq_true rfl), (Nat.le_of_ble_eq_true rfl)⟩ ⟨(Nat.le_of_ble_eq_true rfl), (Nat.le_of_ble_eq_true rfl)⟩ dX12_hits_88) ?_
    refine tt_aload_n (pc := 91) (i := 0) (j := 2) E dX12_hits_91 rfl rfl ?_
    refine tt_iload_n (pc := 92) (i := 3) (j := 1) E dX12_hits_92 rfl rfl ?_
    refine tt_bipush (pc := 93) (v := 6) E dX12_hits_93 bc_6 ?_
    refine tt_iconst (pc := 95) (v := 0) E dX12_hits_95 ic_0 ?_
    obtain ⟨r_41, hr_42, hf⟩ := bd_some hf
    have hc_43 := cX12_sets_ok (l := l) (B := B) (D := D) (cT := cT) (n := n) (adK := adK) (adV := adV) h0 hr_42
    refine tt_cV (pc := 96) (tt_vi E lmX12_201 mtX12_sets hc_43 h0 rfl rfl (Nat.le_of_ble_eq_true rfl) ⟨(Nat.le_of_ble_eq_true rfl), (Nat.le_of_ble_eq_true rfl)⟩ ⟨(Nat.le_of_ble_eq_true rfl), (Nat.le_of_ble_eq_true rfl)⟩ dX12_hits_96) ?_
    exact tt_vret (pc := 99) E hr hlk dX12_hits_99 (Nat.le_of_ble_eq_true rfl) (Nat.le_of_ble_eq_true rfl) hf
  · have hf := ine c_44 hf
    exact tt_vret (pc := 76) E hr hlk dX12_hits_76 (Nat.le_of_ble_eq_true rfl) (Nat.le_of_ble_eq_true rfl) hf
set_option maxHeartbeats 4000000 in
theorem cX12_lowers_ok {l : Launch} {B : Nat} {D : va_G} {cT : Nat → ClassId} {n : Nat} {adK adV : Nat → Nat} {o0 : Nat} {v1 : Int32} {v2 : Int32} {μ : Mem} {res : Int32 × Mem} (h0 : isK n o0 9) (hf : fX12_lowers o0 v1 v2 μ = some res) : MI l yX12_lowers cX12_lowers 3 (some .int) rmX12_lowers B D cT (XW B adK adV) n [.ref (B + o0), .int v1, .int v2] μ res := by
  refine tt_ofW mtX12_lowers.1 (Nat.le_of_ble_eq_true rfl) rfl ?_
  intro p e s m below meth c E0 hr hlk
  have E : EE p s m _ c cX12_lowers 3 RX12 B D cT (XW B adK adV) := E0
  unfold fX12_lowers at hf
  refine tt_aload_n (pc := 0) (i := 0) (j := 0) E dX12_lowers_0 rfl rfl ?_
  refine tt_iload_n (pc := 1) (i := 1) (j := 1) E dX12_lowers_1 rfl rfl ?_
  refine tt_iconst (pc := 2) (v := 4) E dX12_lowers_2 ic_4 ?_
  refine tt_iconst (pc := 3) (v := 0) E dX12_lowers_3 ic_0 ?_
  refine tt_aload_n (pc := 4) (i := 0) (j := 0) E dX12_lowers_4 rfl rfl ?_
  refine tt_iload_n (pc := 5) (i := 1) (j := 1) E dX12_lowers_5 rfl rfl ?_
  refine tt_iconst (pc := 6) (v := 4) E dX12_lowers_6 ic_4 ?_
  obtain ⟨r_1, hr_2, hf⟩ := bd_some hf
  have hc_3 := cX12_of_ok (l := l) (B := B) (D := D) (cT := cT) (n := n) (adK := adK) (adV := adV) h0 hr_2
  refine tt_cI (pc := 7) (tt_vi E lmX12_192 mtX12_of hc_3 h0 rfl rfl (Nat.le_of_ble_eq_true rfl) ⟨(Nat.le_of_ble_eq_true rfl), (Nat.le_of_ble_eq_true rfl)⟩ ⟨(Nat.le_of_ble_eq_true rfl), (Nat.le_of_ble_eq_true rfl)⟩ dX12_lowers_7) ?_
  refine tt_iload_n (pc := 10) (i := 2) (j := 2) E dX12_lowers_10 rfl rfl ?_
  refine tt_isub (pc := 11) E dX12_lowers_11 ?_
  obtain ⟨r_4, hr_5, hf⟩ := bd_some hf
  have hc_6 := cX12_greater_ok (l := l) (B := B) (D := D) (cT := cT) (n := n) (adK := adK) (adV := adV) hr_5
  refine tt_cI (pc := 12) (tt_si E lmX12_294 mtX12_greater hc_6 rfl rfl (Nat.le_of_ble_eq_true rfl) ⟨(Nat.le_of_ble_eq_true rfl), (Nat.le_of_ble_eq_true rfl)⟩ ⟨(Nat.le_of_ble_eq_true rfl), (Nat.le_of_ble_eq_true rfl)⟩ dX12_lowers_12) ?_
  obtain ⟨r_7, hr_8, hf⟩ := bd_some hf
  have hc_9 := cX12_sets_ok (l := l) (B := B) (D := D) (cT := cT) (n := n) (adK := adK) (adV := adV) h0 hr_8
  refine tt_cV (pc := 15) (tt_vi E lmX12_201 mtX12_sets hc_9 h0 rfl rfl (Nat.le_of_ble_eq_true rfl) ⟨(Nat.le_of_ble_eq_true rfl), (Nat.le_of_ble_eq_true rfl)⟩ ⟨(Nat.le_of_ble_eq_true rfl), (Nat.le_of_ble_eq_true rfl)⟩ dX12_lowers_15) ?_
  refine tt_aload_n (pc := 18) (i := 0) (j := 0) E dX12_lowers_18 rfl rfl ?_
  refine tt_iload_n (pc := 19) (i := 1) (j := 1) E dX12_lowers_19 rfl rfl ?_
  refine tt_iconst (pc := 20) (v := 4) E dX12_lowers_20 ic_4 ?_
  obtain ⟨r_10, hr_11, hf⟩ := bd_some hf
  have hc_12 := cX12_of_ok (l := l) (B := B) (D := D) (cT := cT) (n := n) (adK := adK) (adV := adV) h0 hr_11
  refine tt_cI (pc := 21) (tt_vi E lmX12_192 mtX12_of hc_12 h0 rfl rfl (Nat.le_of_ble_eq_true rfl) ⟨(Nat.le_of_ble_eq_true rfl), (Nat.le_of_ble_eq_true rfl)⟩ ⟨(Nat.le_of_ble_eq_true rfl), (Nat.le_of_ble_eq_true rfl)⟩ dX12_lowers_21) ?_
  exact tt_iret (pc := 24) E hr hlk dX12_lowers_24 (Nat.le_of_ble_eq_true rfl) (Nat.le_of_ble_eq_true rfl) hf
set_option maxHeartbeats 4000000 in
theorem cX12_raises_ok {l : Launch} {B : Nat} {D : va_G} {cT : Nat → ClassId} {n : Nat} {adK adV : Nat → Nat} {o0 : Nat} {v1 : Int32} {v2 : Int32} {μ : Mem} {res : Int32 × Mem} (h0 : isK n o0 9) (hf : fX12_raises o0 v1 v2 μ = some res) : MI l yX12_raises cX12_raises 3 (some .int) rmX12_raises B D cT (XW B adK adV) n [.ref (B + o0), .int v1, .int v2] μ res := by
  refine tt_ofW mtX12_raises.1 (Nat.le_of_ble_eq_true rfl) rfl ?_
  intro p e s m below meth c E0 hr hlk
  have E : EE p s m _ c cX12_raises 3 RX12 B D cT (XW B adK adV) := E0
  unfold fX12_raises at hf
  refine tt_aload_n (pc := 0) (i := 0) (j := 0) E dX12_raises_0 rfl rfl ?_
  refine tt_iload_n (pc := 1) (i := 1) (j := 1) E dX12_raises_1 rfl rfl ?_
  refine tt_iconst (pc := 2) (v := 4) E dX12_raises_2 ic_4 ?_
  refine tt_sipush (pc := 3) (v := 9999) E dX12_raises_3 sc_9999 ?_
  refine tt_aload_n (pc := 6) (i := 0) (j := 0) E dX12_raises_6 rfl rfl ?_
  refine tt_iload_n (pc := 7) (i := 1) (j := 1) E dX12_raises_7 rfl rfl ?_
  refine tt_iconst (pc := 8) (v := 4) E dX12_raises_8 ic_4 ?_
  obtain ⟨r_1, hr_2, hf⟩ := bd_some hf
  have hc_3 := cX12_of_ok (l := l) (B := B) (D := D) (cT := cT) (n := n) (adK := adK) (adV := adV) h0 hr_2
  refine tt_cI (pc := 9) (tt_vi E lmX12_192 mtX12_of hc_3 h0 rfl rfl (Nat.le_of_ble_eq_true rfl) ⟨(Nat.le_of_ble_eq_true rfl), (Nat.le_of_ble_eq_true rfl)⟩ ⟨(Nat.le_of_ble_eq_true rfl), (Nat.le_of_ble_eq_true rfl)⟩ dX12_raises_9) ?_
  refine tt_iload_n (pc := 12) (i := 2) (j := 2) E dX12_raises_12 rfl rfl ?_
  refine tt_iadd (pc := 13) E dX12_raises_13 ?_
  obtain ⟨r_4, hr_5, hf⟩ := bd_some hf
  have hc_6 := cX12_lesser_ok (l := l) (B := B) (D := D) (cT := cT) (n := n) (adK := adK) (adV := adV) hr_5
  refine tt_cI (pc := 14) (tt_si E lmX12_297 mtX12_lesser hc_6 rfl rfl (Nat.le_of_ble_eq_true rfl) ⟨(Nat.le_of_ble_eq_true rfl), (Nat.le_of_ble_eq_true rfl)⟩ ⟨(Nat.le_of_ble_eq_true rfl), (Nat.le_of_ble_eq_true rfl)⟩ dX12_raises_14) ?_
  obtain ⟨r_7, hr_8, hf⟩ := bd_some hf
  have hc_9 := cX12_sets_ok (l := l) (B := B) (D := D) (cT := cT) (n := n) (adK := adK) (adV := adV) h0 hr_8
  refine tt_cV (pc := 17) (tt_vi E lmX12_201 mtX12_sets hc_9 h0 rfl rfl (Nat.le_of_ble_eq_true rfl) ⟨(Nat.le_of_ble_eq_true rfl), (Nat.le_of_ble_eq_true rfl)⟩ ⟨(Nat.le_of_ble_eq_true rfl), (Nat.le_of_ble_eq_true rfl)⟩ dX12_raises_17) ?_
  refine tt_aload_n (pc := 20) (i := 0) (j := 0) E dX12_raises_20 rfl rfl ?_
  refine tt_iload_n (pc := 21) (i := 1) (j := 1) E dX12_raises_21 rfl rfl ?_
  refine tt_iconst (pc := 22) (v := 4) E dX12_raises_22 ic_4 ?_
  obtain ⟨r_10, hr_11, hf⟩ := bd_some hf
  have hc_12 := cX12_of_ok (l := l) (B := B) (D := D) (cT := cT) (n := n) (adK := adK) (adV := adV) h0 hr_11
  refine tt_cI (pc := 23) (tt_vi E lmX12_192 mtX12_of hc_12 h0 rfl rfl (Nat.le_of_ble_eq_true rfl) ⟨(Nat.le_of_ble_eq_true rfl), (Nat.le_of_ble_eq_true rfl)⟩ ⟨(Nat.le_of_ble_eq_true rfl), (Nat.le_of_ble_eq_true rfl)⟩ dX12_raises_23) ?_
  exact tt_iret (pc := 26) E hr hlk dX12_raises_26 (Nat.le_of_ble_eq_true rfl) (Nat.le_of_ble_eq_true rfl) hf
set_option maxHeartbeats 4000000 in
theorem cX12_heals_ok {l : Launch} {B : Nat} {D : va_G} {cT : Nat → ClassId} {n : Nat} {adK adV : Nat → Nat} {o0 : Nat} {v1 : Int32} {v2 : Int32} {μ : Mem} {res : Int32 × Mem} (h0 : isK n o0 9) (hf : fX12_heals o0 v1 v2 μ = some res) : MI l yX12_heals cX12_heals 3 (some .int) rmX12_heals B D cT (XW B adK adV) n [.ref (B + o0), .int v1, .int v2] μ res := by
  refine tt_ofW mtX12_heals.1 (Nat.le_of_ble_eq_true rfl) rfl ?_
  intro p e s m below meth c E0 hr hlk
  have E : EE p s m _ c cX12_heals 3 RX12 B D cT (XW B adK adV) := E0
  unfold fX12_heals at hf
  refine tt_aload_n (pc := 0) (i := 0) (j := 0) E dX12_heals_0 rfl rfl ?_
  refine tt_iload_n (pc := 1) (i := 1) (j := 1) E dX12_heals_1 rfl rfl ?_
  refine tt_iconst (pc := 2) (v := 2) E dX12_heals_2 ic_2 ?_
  refine tt_sipush (pc := 3) (v := 999) E dX12_heals_3 sc_999 ?_
  refine tt_aload_n (pc := 6) (i := 0) (j := 0) E dX12_heals_6 rfl rfl ?_
  refine tt_iload_n (pc := 7) (i := 1) (j := 1) E dX12_heals_7 rfl rfl ?_
  refine tt_iconst (pc := 8) (v := 2) E dX12_heals_8 ic_2 ?_
  obtain ⟨r_1, hr_2, hf⟩ := bd_some hf
  have hc_3 := cX12_of_ok (l := l) (B := B) (D := D) (cT := cT) (n := n) (adK := adK) (adV := adV) h0 hr_2
  refine tt_cI (pc := 9) (tt_vi E lmX12_192 mtX12_of hc_3 h0 rfl rfl (Nat.le_of_ble_eq_true rfl) ⟨(Nat.le_of_ble_eq_true rfl), (Nat.le_of_ble_eq_true rfl)⟩ ⟨(Nat.le_of_ble_eq_true rfl), (Nat.le_of_ble_eq_true rfl)⟩ dX12_heals_9) ?_
  refine tt_iload_n (pc := 12) (i := 2) (j := 2) E dX12_heals_12 rfl rfl ?_
  refine tt_iadd (pc := 13) E dX12_heals_13 ?_
  obtain ⟨r_4, hr_5, hf⟩ := bd_some hf
  have hc_6 := cX12_lesser_ok (l := l) (B := B) (D := D) (cT := cT) (n := n) (adK := adK) (adV := adV) hr_5
  refine tt_cI (pc := 14) (tt_si E lmX12_297 mtX12_lesser hc_6 rfl rfl (Nat.le_of_ble_eq_true rfl) ⟨(Nat.le_of_ble_eq_true rfl), (Nat.le_of_ble_eq_true rfl)⟩ ⟨(Nat.le_of_ble_eq_true rfl), (Nat.le_of_ble_eq_true rfl)⟩ dX12_heals_14) ?_
  obtain ⟨r_7, hr_8, hf⟩ := bd_some hf
  have hc_9 := cX12_sets_ok (l := l) (B := B) (D := D) (cT := cT) (n := n) (adK := adK) (adV := adV) h0 hr_8
  refine tt_cV (pc := 17) (tt_vi E lmX12_201 mtX12_sets hc_9 h0 rfl rfl (Nat.le_of_ble_eq_true rfl) ⟨(Nat.le_of_ble_eq_true rfl), (Nat.le_of_ble_eq_true rfl)⟩ ⟨(Nat.le_of_ble_eq_true rfl), (Nat.le_of_ble_eq_true rfl)⟩ dX12_heals_17) ?_
  refine tt_aload_n (pc := 20) (i := 0) (j := 0) E dX12_heals_20 rfl rfl ?_
  refine tt_iload_n (pc := 21) (i := 1) (j := 1) E dX12_heals_21 rfl rfl ?_
  refine tt_iconst (pc := 22) (v := 2) E dX12_heals_22 ic_2 ?_
  obtain ⟨r_10, hr_11, hf⟩ := bd_some hf
  have hc_12 := cX12_of_ok (l := l) (B := B) (D := D) (cT := cT) (n := n) (adK := adK) (adV := adV) h0 hr_11
  refine tt_cI (pc := 23) (tt_vi E lmX12_192 mtX12_of hc_12 h0 rfl rfl (Nat.le_of_ble_eq_true rfl) ⟨(Nat.le_of_ble_eq_true rfl), (Nat.le_of_ble_eq_true rfl)⟩ ⟨(Nat.le_of_ble_eq_true rfl), (Nat.le_of_ble_eq_true rfl)⟩ dX12_heals_23) ?_
  exact tt_iret (pc := 26) E hr hlk dX12_heals_26 (Nat.le_of_ble_eq_true rfl) (Nat.le_of_ble_eq_true rfl) hf
set_option maxHeartbeats 4000000 in
theorem cX12_acts_ok {l : Launch} {B : Nat} {D : va_G} {cT : Nat → ClassId} {n : Nat} {adK adV : Nat → Nat} {o0 : Nat} {v1 : Int32} {v2 : Int32} {v3 : Int32} {μ : Mem} {res : Mem} (h0 : isK n o0 9) (hf : fX12_acts o0 v1 v2 v3 μ = some res) : MV l yX12_acts cX12_acts 6 (none) rmX12_acts B D cT (XW B adK adV) n [.ref (B + o0), .int v1, .int v2, .int v3] μ res := by
  refine tt_ofW mtX12_acts.1 (Nat.le_of_ble_eq_true rfl) rfl ?_
  intro p e s m below meth c E0 hr hlk
  have E : EE p s m _ c cX12_acts 6 RX12 B D cT (XW B adK adV) := E0
  unfold fX12_acts at hf
  refine tt_iconst (pc := 0) (v := 0) E dX12_acts_0 ic_0 ?_
  refine tt_istore (pc := 1) (i := 4) (lv' := [(4, .int 0), (0, .ref (B + o0)), (1, .int v1), (2, .int v2), (3, .int v3)]) E dX12_acts_1 (Nat.le_of_ble_eq_true rfl) rfl ?_
  refine tt_iload_n (pc := 3) (i := 2) (j := 3) E dX12_acts_3 rfl rfl ?_
  refine tt_if_ne (pc := 4) (tgt := 16) E dX12_acts_4 rfl (fun c_43 => ?_) (fun c_43 => ?_)
  · have hf := ine c_43 hf
    refine tt_iload_n (pc := 16) (i := 2) (j := 3) E dX12_acts_16 rfl rfl ?_
    refine tt_iconst (pc := 17) (v := 1) E dX12_acts_17 ic_1 ?_
    refine tt_icmp_ne (pc := 18) (tgt := 43) E dX12_acts_18 rfl (fun c_39 => ?_) (fun c_39 => ?_)
    · have hf := ine c_39 hf
      refine tt_iload_n (pc := 43) (i := 2) (j := 3) E dX12_acts_43 rfl rfl ?_
      refine tt_iconst (pc := 44) (v := 2) E dX12_acts_44 ic_2 ?_
      refine tt_icmp_ne (pc := 45) (tgt := 77) E dX12_acts_45 rfl (fun c_29 => ?_) (fun c_29 => ?_)
      · have hf := ine c_29 hf
        refine tt_iload_n (pc := 77) (i := 2) (j := 3) E dX12_acts_77 rfl rfl ?_
        refine tt_iconst (pc := 78) (v := 3) E dX12_acts_78 ic_3 ?_
        refine tt_icmp_ne (pc := 79) (tgt := 92) E dX12_acts_79 rfl (fun c_21 => ?_) (fun c_21 => ?_)
        · have hf := ine c_21 hf
          refine tt_iload_n (pc := 92) (i := 2) (j := 3) E dX12_acts_92 rfl rfl ?_
          refine tt_iconst (pc := 93) (v := 4) E dX12_acts_93 ic_4 ?_
          refine tt_icmp_ne (pc := 94) (tgt := 120) E dX12_acts_94 rfl (fun c_17 => ?_) (fun c_17 => ?_)
          · have hf := ine c_17 hf
            refine tt_iload_n (pc := 120) (i := 2) (j := 3) E dX12_acts_120 rfl rfl ?_
            refine tt_iconst (pc := 121) (v := 5) E dX12_acts_121 ic_5 ?_
            refine tt_icmp_ne (pc := 122) (tgt := 135) E dX12_acts_122 rfl (fun c_7 => ?_) (fun c_7 => ?_)
            · have hf := ine c_7 hf
              refine tt_aload_n (pc := 135) (i := 0) (j := 1) E dX12_acts_135 rfl rfl ?_
              refine tt_iload_n (pc := 136) (i := 1) (j := 2) E dX12_acts_136 rfl rfl ?_
              refine tt_iload_n (pc := 137) (i := 3) (j := 4) E dX12_acts_137 rfl rfl ?_
              obtain ⟨r_1, hr_2, hf⟩ := bd_some hf
              have hc_3 := cX12_heals_ok (l := l) (B := B) (D := D) (cT := cT) (n := n) (adK := adK) (adV := adV) h0 hr_2
              refine tt_cI (pc := 138) (tt_vi E lmX12_316 mtX12_heals hc_3 h0 rfl rfl (Nat.le_of_ble_eq_true rfl) ⟨(Nat.le_of_ble_eq_true rfl), (Nat.le_of_ble_eq_true rfl)⟩ ⟨(Nat.le_of_ble_eq_true rfl), (Nat.le_of_ble_eq_true rfl)⟩ dX12_acts_138) ?_
              refine tt_istore (pc := 141) (i := 4) (lv' := [(4, .int r_1.1), (0, .ref (B + o0)), (1, .int v1), (2, .int v2), (3, .int v3)]) E dX12_acts_141 (Nat.le_of_ble_eq_true rfl) rfl ?_
              exact tt_vret (pc := 143) E hr hlk dX12_acts_143 (Nat.le_of_ble_eq_true rfl) (Nat.le_of_ble_eq_true rfl) hf
            · have hf := ip c_7 hf
              refine tt_aload_n (pc := 125) (i := 0) (j := 1) E dX12_acts_125 rfl rfl ?_
              refine tt_iload_n (pc := 126) (i := 1) (j := 2) E dX12_acts_126 rfl rfl ?_
              refine tt_iconst (pc := 127) (v := 1) E dX12_acts_127 ic_1 ?_
              refine tt_iload_n (pc := 128) (i := 3) (j := 4) E dX12_acts_128 rfl rfl ?_
              obtain ⟨r_4, hr_5, hf⟩ := bd_some hf
              have hc_6 := cX12_sets_ok (l := l) (B := B) (D := D) (cT := cT) (n := n) (adK := adK) (adV := adV) h0 hr_5
              refine tt_cV (pc := 129) (tt_vi E lmX12_201 mtX12_sets hc_6 h0 rfl rfl (Nat.le_of_ble_eq_true rfl) ⟨(Nat.le_of_ble_eq_true rfl), (Nat.le_of_ble_eq_true rfl)⟩ ⟨(Nat.le_of_ble_eq_true rfl), (Nat.le_of_ble_eq_true rfl)⟩ dX12_acts_129) ?_
              refine tt_goto (pc := 132) (tgt := 143) E dX12_acts_132 rfl ?_
              exact tt_vret (pc := 143) E hr hlk dX12_acts_143 (Nat.le_of_ble_eq_true rfl) (Nat.le_of_ble_eq_true rfl) hf
          · have hf := ip c_17 hf
            refine tt_aload_n (pc := 97) (i := 0) (j := 1) E dX12_acts_97 rfl rfl ?_
            refine tt_iload_n (pc := 98) (i := 1) (j := 2) E dX12_acts_98 rfl rfl ?_
            refine tt_bipush (pc := 99) (v := 6) E dX12_acts_99 bc_6 ?_
            refine tt_iconst (pc := 101) (v := 3) E dX12_acts_101 ic_3 ?_
            refine tt_aload_n (pc := 102) (i := 0) (j := 1) E dX12_acts_102 rfl rfl ?_
            refine tt_iload_n (pc := 103) (i := 1) (j := 2) E dX12_acts_103 rfl rfl ?_
            refine tt_bipush (pc := 104) (v := 6) E dX12_acts_104 bc_6 ?_
            obtain ⟨r_8, hr_9, hf⟩ := bd_some hf
            have hc_10 := cX12_of_ok (l := l) (B := B) (D := D) (cT := cT) (n := n) (adK := adK) (adV := adV) h0 hr_9
            refine tt_cI (pc := 106) (tt_vi E lmX12_192 mtX12_of hc_10 h0 rfl rfl (Nat.le_of_ble_eq_true rfl) ⟨(Nat.le_of_ble_eq_true rfl), (Nat.le_of_ble_eq_true rfl)⟩ ⟨(Nat.le_of_ble_eq_true rfl), (Nat.le_of_ble_eq_true rfl)⟩ dX12_acts_106) ?_
            refine tt_iload_n (pc := 109) (i := 3) (j := 4) E dX12_acts_109 rfl rfl ?_
            refine tt_iadd (pc := 110) E dX12_acts_110 ?_
            obtain ⟨r_11, hr_12, hf⟩ := bd_some hf
            have hc_13 := cX12_lesser_ok (l := l) (B := B) (D := D) (cT := cT) (n := n) (adK := adK) (adV := adV) hr_12
            refine tt_cI (pc := 111) (tt_si E lmX12_297 mtX12_lesser hc_13 rfl rfl (Nat.le_of_ble_eq_true rfl) ⟨(Nat.le_of_ble_eq_true rfl), (Nat.le_of_ble_eq_true rfl)⟩ ⟨(Nat.le_of_ble_eq_true rfl), (Nat.le_of_ble_eq_true rfl)⟩ dX12_acts_111) ?_
            obtain ⟨r_14, hr_15, hf⟩ := bd_some hf
            have hc_16 := cX12_sets_ok (l := l) (B := B) (D := D) (cT := cT) (n := n) (adK := adK) (adV := adV) h0 hr_15
            refine tt_cV (pc := 114) (tt_vi E lmX12_201 mtX12_sets hc_16 h0 rfl rfl (Nat.le_of_ble_eq_true rfl) ⟨(Nat.le_of_ble_eq_true rfl), (Nat.le_of_ble_eq_true rfl)⟩ ⟨(Nat.le_of_ble_eq_true rfl), (Nat.le_of_ble_eq_true rfl)⟩ dX12_acts_114) ?_
            refine tt_goto (pc := 117) (tgt := 143) E dX12_acts_117 rfl ?_
            exact tt_vret (pc := 143) E hr hlk dX12_acts_143 (Nat.le_of_ble_eq_true rfl) (Nat.le_of_ble_eq_true rfl) hf
        · have hf := ip c_21 hf
          refine tt_aload_n (pc := 82) (i := 0) (j := 1) E dX12_acts_82 rfl rfl ?_
          refine tt_iload_n (pc := 83) (i := 1) (j := 2) E dX12_acts_83 rfl rfl ?_
          refine tt_iconst (pc := 84) (v := 5) E dX12_acts_84 ic_5 ?_
          refine tt_iload_n (pc := 85) (i := 3) (j := 4) E dX12_acts_85 rfl rfl ?_
          obtain ⟨r_18, hr_19, hf⟩ := bd_some hf
          have hc_20 := cX12_sets_ok (l := l) (B := B) (D := D) (cT := cT) (n := n) (adK := adK) (adV := adV) h0 hr_19
          refine tt_cV (pc := 86) (tt_vi E lmX12_201 mtX12_sets hc_20 h0 rfl rfl (Nat.le_of_ble_eq_true rfl) ⟨(Nat.le_of_ble_eq_true rfl), (Nat.le_of_ble_eq_true rfl)⟩ ⟨(Nat.le_of_ble_eq_true rfl), (Nat.le_of_ble_eq_true rfl)⟩ dX12_acts_86) ?_
          refine tt_goto (pc := 89) (tgt := 143) E dX12_acts_89 rfl ?_
          exact tt_vret (pc := 143) E hr hlk dX12_acts_143 (Nat.le_of_ble_eq_true rfl) (Nat.le_of_ble_eq_true rfl) hf
      · have hf := ip c_29 hf
        refine tt_aload_n (pc := 48) (i := 0) (j := 1) E dX12_acts_48 rfl rfl ?_
        refine tt_iload_n (pc := 49) (i := 1) (j := 2) E dX12_acts_49 rfl rfl ?_
        obtain ⟨r_22, hr_23, hf⟩ := bd_some hf
        have hc_24 := cX12_emptiestBeside_ok (l := l) (B := B) (D := D) (cT := cT) (n := n) (adK := adK) (adV := adV) h0 hr_23
        refine tt_cI (pc := 50) (tt_vi E lmX12_310 mtX12_emptiestBeside hc_24 h0 rfl rfl (Nat.le_of_ble_eq_true rfl) ⟨(Nat.le_of_ble_eq_true rfl), (Nat.le_of_ble_eq_true rfl)⟩ ⟨(Nat.le_of_ble_eq_true rfl), (Nat.le_of_ble_eq_true rfl)⟩ dX12_acts_50) ?_
        refine tt_istore (pc := 53) (i := 5) (lv' := [(5, .int r_22), (4, .int 0), (0, .ref (B + o0)), (1, .int v1), (2, .int v2), (3, .int v3)]) E dX12_acts_53 (Nat.le_of_ble_eq_true rfl) rfl ?_
        refine tt_iload (pc := 55) (i := 5) (j := 0) E dX12_acts_55 rfl ?_
        refine tt_iconst (pc := 57) (v := (-1)) E dX12_acts_57 ic_m1 ?_
        refine tt_icmp_ne (pc := 58) (tgt := 65) E dX12_acts_58 rfl (fun c_28 => ?_) (fun c_28 => ?_)
        · have hf := ine c_28 hf
          refine tt_aload_n (pc := 65) (i := 0) (j := 2) E dX12_acts_65 rfl rfl ?_
          refine tt_iload (pc := 66) (i := 5) (j := 0) E dX12_acts_66 rfl ?_
          refine tt_iload_n (pc := 68) (i := 3) (j := 5) E dX12_acts_68 rfl rfl ?_
          obtain ⟨r_25, hr_26, hf⟩ := bd_some hf
          have hc_27 := cX12_raises_ok (l := l) (B := B) (D := D) (cT := cT) (n := n) (adK := adK) (adV := adV) h0 hr_26
          refine tt_cI (pc := 69) (tt_vi E lmX12_313 mtX12_raises hc_27 h0 rfl rfl (Nat.le_of_ble_eq_true rfl) ⟨(Nat.le_of_ble_eq_true rfl), (Nat.le_of_ble_eq_true rfl)⟩ ⟨(Nat.le_of_ble_eq_true rfl), (Nat.le_of_ble_eq_true rfl)⟩ dX12_acts_69) ?_
          refine tt_istore (pc := 72) (i := 4) (lv' := [(4, .int r_25.1), (5, .int r_22), (0, .ref (B + o0)), (1, .int v1), (2, .int v2), (3, .int v3)]) E dX12_acts_72 (Nat.le_of_ble_eq_true rfl) rfl ?_
          refine tt_goto (pc := 74) (tgt := 143) E dX12_acts_74 rfl ?_
          exact tt_vret (pc := 143) E hr hlk dX12_acts_143 (Nat.le_of_ble_eq_true rfl) (Nat.le_of_ble_eq_true rfl) hf
        · have hf := ip c_28 hf
          refine tt_iconst (pc := 61) (v := 0) E dX12_acts_61 ic_0 ?_
          refine tt_goto (pc := 62) (tgt := 72) E dX12_acts_62 rfl ?_
          refine tt_istore (pc := 72) (i := 4) (lv' := [(4, .int 0), (5, .int r_22), (0, .ref (B + o0)), (1, .int v1), (2, .int v2), (3, .int v3)]) E dX12_acts_72 (Nat.le_of_ble_eq_true rfl) rfl ?_
          refine tt_goto (pc := 74) (tgt := 143) E dX12_acts_74 rfl ?_
          exact tt_vret (pc := 143) E hr hlk dX12_acts_143 (Nat.le_of_ble_eq_true rfl) (Nat.le_of_ble_eq_true rfl) hf
    · have hf := ip c_39 hf
      refine tt_aload_n (pc := 21) (i := 0) (j := 1) E dX12_acts_21 rfl rfl ?_
      refine tt_aload_n (pc := 22) (i := 0) (j := 1) E dX12_acts_22 rfl rfl ?_
      refine tt_iconst (pc := 23) (v := 1) E dX12_acts_23 ic_1 ?_
      refine tt_aload_n (pc := 24) (i := 0) (j := 1) E dX12_acts_24 rfl rfl ?_
      refine tt_iload_n (pc := 25) (i := 1) (j := 2) E dX12_acts_25 rfl rfl ?_
      refine tt_iconst (pc := 26) (v := 0) E dX12_acts_26 ic_0 ?_
      obtain ⟨r_30, hr_31, hf⟩ := bd_some hf
      have hc_32 := cX12_of_ok (l := l) (B := B) (D := D) (cT := cT) (n := n) (adK := adK) (adV := adV) h0 hr_31
      refine tt_cI (pc := 27) (tt_vi E lmX12_192 mtX12_of hc_32 h0 rfl rfl (Nat.le_of_ble_eq_true rfl) ⟨(Nat.le_of_ble_eq_true rfl), (Nat.le_of_ble_eq_true rfl)⟩ ⟨(Nat.le_of_ble_eq_true rfl), (Nat.le_of_ble_eq_true rfl)⟩ dX12_acts_27) ?_
      refine tt_isub (pc := 30) E dX12_acts_30 ?_
      obtain ⟨r_33, hr_34, hf⟩ := bd_some hf
      have hc_35 := cX12_fullest_ok (l := l) (B := B) (D := D) (cT := cT) (n := n) (adK := adK) (adV := adV) h0 hr_34
      refine tt_cI (pc := 31) (tt_vi E lmX12_304 mtX12_fullest hc_35 h0 rfl rfl (Nat.le_of_ble_eq_true rfl) ⟨(Nat.le_of_ble_eq_true rfl), (Nat.le_of_ble_eq_true rfl)⟩ ⟨(Nat.le_of_ble_eq_true rfl), (Nat.le_of_ble_eq_true rfl)⟩ dX12_acts_31) ?_
      refine tt_iload_n (pc := 34) (i := 3) (j := 4) E dX12_acts_34 rfl rfl ?_
      obtain ⟨r_36, hr_37, hf⟩ := bd_some hf
      have hc_38 := cX12_lowers_ok (l := l) (B := B) (D := D) (cT := cT) (n := n) (adK := adK) (adV := adV) h0 hr_37
      refine tt_cI (pc := 35) (tt_vi E lmX12_307 mtX12_lowers hc_38 h0 rfl rfl (Nat.le_of_ble_eq_true rfl) ⟨(Nat.le_of_ble_eq_true rfl), (Nat.le_of_ble_eq_true rfl)⟩ ⟨(Nat.le_of_ble_eq_true rfl), (Nat.le_of_ble_eq_true rfl)⟩ dX12_acts_35) ?_
      refine tt_istore (pc := 38) (i := 4) (lv' := [(4, .int r_36.1), (0, .ref (B + o0)), (1, .int v1), (2, .int v2), (3, .int v3)]) E dX12_acts_38 (Nat.le_of_ble_eq_true rfl) rfl ?_
      refine tt_goto (pc := 40) (tgt := 143) E dX12_acts_40 rfl ?_
      exact tt_vret (pc := 143) E hr hlk dX12_acts_143 (Nat.le_of_ble_eq_true rfl) (Nat.le_of_ble_eq_true rfl) hf
  · have hf := ip c_43 hf
    refine tt_aload_n (pc := 7) (i := 0) (j := 1) E dX12_acts_7 rfl rfl ?_
    refine tt_iload_n (pc := 8) (i := 1) (j := 2) E dX12_acts_8 rfl rfl ?_
    refine tt_iload_n (pc := 9) (i := 3) (j := 4) E dX12_acts_9 rfl rfl ?_
    obtain ⟨r_40, hr_41, hf⟩ := bd_some hf
    have hc_42 := cX12_hits_ok (l := l) (B := B) (D := D) (cT := cT) (n := n) (adK := adK) (adV := adV) h0 hr_41
    refine tt_cV (pc := 10) (tt_vi E lmX12_300 mtX12_hits hc_42 h0 rfl rfl (Nat.le_of_ble_eq_true rfl) ⟨(Nat.le_of_ble_eq_true rfl), (Nat.le_of_ble_eq_true rfl)⟩ ⟨(Nat.le_of_ble_eq_true rfl), (Nat.le_of_ble_eq_true rfl)⟩ dX12_acts_10) ?_
    refine tt_goto (pc := 13) (tgt := 143) E dX12_acts_13 rfl ?_
    exact tt_vret (pc := 143) E hr hlk dX12_acts_143 (Nat.le_of_ble_eq_true rfl) (Nat.le_of_ble_eq_true rfl) hf
set_option maxHeartbeats 4000000 in
theorem tX12_turns_81 {p : Program} {l : Launch} {e : Env} {s : State} {m : MethodId} {args : Array Value} {below : List Frame} {meth : Method} {c : Code} {B : Nat} {D : va_G} {cT : Nat → ClassId} {n : Nat} {adK adV : Nat → Nat} {res : Mem} (E : EE p s m args c cX12_turns 3 RX12 B D cT (XW B adK adV)) (hr : meth.sig.returnType = none) (hlk : meth.locks = false) {o0 : Nat} {v1 : Int32} (h0 : isK n o0 9) (h1 : zb v1) {μ : Mem} (hf : fX12_turns_81 o0 v1 μ = some res) : TT p l e rmX12_turns s m args below meth c (QV B D cT n below args s res) 3 B D cT n 0 0 μ 81 [(0, .ref (B + o0)), (1, .int v1)] [] := by
  unfold fX12_turns_81 at hf
  refine tt_aload_n (pc := 81) (i := 0) (j := 0) E dX12_turns_81 rfl rfl ?_
  refine tt_aload_n (pc := 82) (i := 0) (j := 0) E dX12_turns_82 rfl rfl ?_
  refine tt_getI (pc := 83) E lfX12_322 rfl h0 dX12_turns_83 ?_
  refine tt_bipush (pc := 86) (v := 10) E dX12_turns_86 bc_10 ?_
  refine tt_aload_n (pc := 88) (i := 0) (j := 0) E dX12_turns_88 rfl rfl ?_
  refine tt_aload_n (pc := 89) (i := 0) (j := 0) E dX12_turns_89 rfl rfl ?_
  refine tt_getI (pc := 90) E lfX12_322 rfl h0 dX12_turns_90 ?_
  refine tt_bipush (pc := 93) (v := 10) E dX12_turns_93 bc_10 ?_
  obtain ⟨r_1, hr_2, hf⟩ := bd_some hf
  have hc_3 := cX12_of_ok (l := l) (B := B) (D := D) (cT := cT) (n := n) (adK := adK) (adV := adV) h0 hr_2
  refine tt_cI (pc := 95) (tt_vi E lmX12_192 mtX12_of hc_3 h0 rfl rfl (Nat.le_of_ble_eq_true rfl) ⟨(Nat.le_of_ble_eq_true rfl), (Nat.le_of_ble_eq_true rfl)⟩ ⟨(Nat.le_of_ble_eq_true rfl), (Nat.le_of_ble_eq_true rfl)⟩ dX12_turns_95) ?_
  refine tt_iload_n (pc := 98) (i := 1) (j := 1) E dX12_turns_98 rfl rfl ?_
  obtain ⟨r_4, hr_5, hf⟩ := bd_some hf
  have hc_6 := cX12_truth_ok (l := l) (B := B) (D := D) (cT := cT) (n := n) (adK := adK) (adV := adV) h1 hr_5
  refine tt_cI (pc := 99) (tt_si E lmX12_78 mtX12_truth hc_6 rfl rfl (Nat.le_of_ble_eq_true rfl) ⟨(Nat.le_of_ble_eq_true rfl), (Nat.le_of_ble_eq_true rfl)⟩ ⟨(Nat.le_of_ble_eq_true rfl), (Nat.le_of_ble_eq_true rfl)⟩ dX12_turns_99) ?_
  refine tt_iadd (pc := 102) E dX12_turns_102 ?_
  obtain ⟨r_7, hr_8, hf⟩ := bd_some hf
  have hc_9 := cX12_sets_ok (l := l) (B := B) (D := D) (cT := cT) (n := n) (adK := adK) (adV := adV) h0 hr_8
  refine tt_cV (pc := 103) (tt_vi E lmX12_201 mtX12_sets hc_9 h0 rfl rfl (Nat.le_of_ble_eq_true rfl) ⟨(Nat.le_of_ble_eq_true rfl), (Nat.le_of_ble_eq_true rfl)⟩ ⟨(Nat.le_of_ble_eq_true rfl), (Nat.le_of_ble_eq_true rfl)⟩ dX12_turns_103) ?_
  refine tt_aload_n (pc := 106) (i := 0) (j := 0) E dX12_turns_106 rfl rfl ?_
  refine tt_aload_n (pc := 107) (i := 0) (j := 0) E dX12_turns_107 rfl rfl ?_
  refine tt_getI (pc := 108) E lfX12_322 rfl h0 dX12_turns_108 ?_
  refine tt_bipush (pc := 111) (v := 9) E dX12_turns_111 bc_9 ?_
  refine tt_aload_n (pc := 113) (i := 0) (j := 0) E dX12_turns_113 rfl rfl ?_
  refine tt_aload_n (pc := 114) (i := 0) (j := 0) E dX12_turns_114 rfl rfl ?_
  refine tt_getI (pc := 115) E lfX12_322 rfl h0 dX12_turns_115 ?_
  refine tt_bipush (pc := 118) (v := 9) E dX12_turns_118 bc_9 ?_
  obtain ⟨r_10, hr_11, hf⟩ := bd_some hf
  have hc_12 := cX12_of_ok (l := l) (B := B) (D := D) (cT := cT) (n := n) (adK := adK) (adV := adV) h0 hr_11
  refine tt_cI (pc := 120) (tt_vi E lmX12_192 mtX12_of hc_12 h0 rfl rfl (Nat.le_of_ble_eq_true rfl) ⟨(Nat.le_of_ble_eq_true rfl), (Nat.le_of_ble_eq_true rfl)⟩ ⟨(Nat.le_of_ble_eq_true rfl), (Nat.le_of_ble_eq_true rfl)⟩ dX12_turns_120) ?_
  refine tt_iconst (pc := 123) (v := 1) E dX12_turns_123 ic_1 ?_
  refine tt_iadd (pc := 124) E dX12_turns_124 ?_
  obtain ⟨r_13, hr_14, hf⟩ := bd_some hf
  have hc_15 := cX12_sets_ok (l := l) (B := B) (D := D) (cT := cT) (n := n) (adK := adK) (adV := adV) h0 hr_14
  refine tt_cV (pc := 125) (tt_vi E lmX12_201 mtX12_sets hc_15 h0 rfl rfl (Nat.le_of_ble_eq_true rfl) ⟨(Nat.le_of_ble_eq_true rfl), (Nat.le_of_ble_eq_true rfl)⟩ ⟨(Nat.le_of_ble_eq_true rfl), (Nat.le_of_ble_eq_true rfl)⟩ dX12_turns_125) ?_
  refine tt_aload_n (pc := 128) (i := 0) (j := 0) E dX12_turns_128 rfl rfl ?_
  refine tt_aload_n (pc := 129) (i := 0) (j := 0) E dX12_turns_129 rfl rfl ?_
  refine tt_getI (pc := 130) E lfX12_322 rfl h0 dX12_turns_130 ?_
  refine tt_iconst (pc := 133) (v := 5) E dX12_turns_133 ic_5 ?_
  refine tt_iconst (pc := 134) (v := 0) E dX12_turns_134 ic_0 ?_
  obtain ⟨r_16, hr_17, hf⟩ := bd_some hf
  have hc_18 := cX12_sets_ok (l := l) (B := B) (D := D) (cT := cT) (n := n) (adK := adK) (adV := adV) h0 hr_17
  refine tt_cV (pc := 135) (tt_vi E lmX12_201 mtX12_sets hc_18 h0 rfl rfl (Nat.le_of_ble_eq_true rfl) ⟨(Nat.le_of_ble_eq_true rfl), (Nat.le_of_ble_eq_true rfl)⟩ ⟨(Nat.le_of_ble_eq_true rfl), (Nat.le_of_ble_eq_true rfl)⟩ dX12_turns_135) ?_
  refine tt_aload_n (pc := 138) (i := 0) (j := 0) E dX12_turns_138 rfl rfl ?_
  refine tt_aload_n (pc := 139) (i := 0) (j := 0) E dX12_turns_139 rfl rfl ?_
  refine tt_getI (pc := 140) E lfX12_322 rfl h0 dX12_turns_140 ?_
  refine tt_bipush (pc := 143) (v := 7) E dX12_turns_143 bc_7 ?_
  obtain ⟨r_19, hr_20, hf⟩ := bd_some hf
  have hc_21 := cX12_of_ok (l := l) (B := B) (D := D) (cT := cT) (n := n) (adK := adK) (adV := adV) h0 hr_20
  refine tt_cI (pc := 145) (tt_vi E lmX12_192 mtX12_of hc_21 h0 rfl rfl (Nat.le_of_ble_eq_true rfl) ⟨(Nat.le_of_ble_eq_true rfl), (Nat.le_of_ble_eq_true rfl)⟩ ⟨(Nat.le_of_ble_eq_true rfl), (Nat.le_of_ble_eq_true rfl)⟩ dX12_turns_145) ?_
  refine tt_istore_n (pc := 148) (i := 2) (lv' := [(2, .int r_19), (0, .ref (B + o0)), (1, .int v1)]) E dX12_turns_148 rfl (Nat.le_of_ble_eq_true rfl) rfl ?_
  refine tt_aload_n (pc := 149) (i := 0) (j := 1) E dX12_turns_149 rfl rfl ?_
  refine tt_aload_n (pc := 150) (i := 0) (j := 1) E dX12_turns_150 rfl rfl ?_
  obtain ⟨q_22, hq_23, hf⟩ := bd_some hf
  refine tt_getP (pc := 151) (t := 11) E lfX12_20 rfl rfl h0 dX12_turns_151 hq_23 (fun kq_24 => ?_)
  refine tt_bipush (pc := 154) (v := 100) E dX12_turns_154 bc_100 ?_
  refine tt_bipush (pc := 156) (v := 6) E dX12_turns_156 bc_6 ?_
  refine tt_aload_n (pc := 158) (i := 0) (j := 1) E dX12_turns_158 rfl rfl ?_
  refine tt_getI (pc := 159) E lfX12_322 rfl h0 dX12_turns_159 ?_
  refine tt_imul (pc := 162) E dX12_turns_162 ?_
  refine tt_iadd (pc := 163) E dX12_turns_163 ?_
  refine tt_iload_n (pc := 164) (i := 2) (j := 0) E dX12_turns_164 rfl rfl ?_
  refine tt_iadd (pc := 165) E dX12_turns_165 ?_
  obtain ⟨g_25, hf⟩ := gd_some hf
  refine tt_iald (pc := 166) E kq_24 g_25 dX12_turns_166 ?_
  refine tt_putI (pc := 167) E lfX12_325 rfl h0 dX12_turns_167 (tt_nmM hf (fun m_26 hf => ?_))
  refine tt_aload_n (pc := 170) (i := 0) (j := 1) E dX12_turns_170 rfl rfl ?_
  refine tt_aload_n (pc := 171) (i := 0) (j := 1) E dX12_turns_171 rfl rfl ?_
  refine tt_getI (pc := 172) E lfX12_322 rfl h0 dX12_turns_172 ?_
  refine tt_bipush (pc := 175) (v := 7) E dX12_turns_175 bc_7 ?_
  refine tt_iload_n (pc := 177) (i := 2) (j := 0) E dX12_turns_177 rfl rfl ?_
  refine tt_iconst (pc := 178) (v := 1) E dX12_turns_178 ic_1 ?_
  refine tt_iadd (pc := 179) E dX12_turns_179 ?_
  refine tt_aload_n (pc := 180) (i := 0) (j := 1) E dX12_turns_180 rfl rfl ?_
  refine tt_aload_n (pc := 181) (i := 0) (j := 1) E dX12_turns_181 rfl rfl ?_
  refine tt_getI (pc := 182) E lfX12_322 rfl h0 dX12_turns_182 ?_
  refine tt_bipush (pc := 185) (v := 8) E dX12_turns_185 bc_8 ?_
  obtain ⟨r_27, hr_28, hf⟩ := bd_some hf
  have hc_29 := cX12_of_ok (l := l) (B := B) (D := D) (cT := cT) (n := n) (adK := adK) (adV := adV) h0 hr_28
  refine tt_cI (pc := 187) (tt_vi E lmX12_192 mtX12_of hc_29 h0 rfl rfl (Nat.le_of_ble_eq_true rfl) ⟨(Nat.le_of_ble_eq_true rfl), (Nat.le_of_ble_eq_true rfl)⟩ ⟨(Nat.le_of_ble_eq_true rfl), (Nat.le_of_ble_eq_true rfl)⟩ dX12_turns_187) ?_
  obtain ⟨g_30, hf⟩ := gd_some hf
  refine tt_irem (pc := 190) E dX12_turns_190 (nz_ne g_30) ?_
  obtain ⟨r_31, hr_32, hf⟩ := bd_some hf
  have hc_33 := cX12_sets_ok (l := l) (B := B) (D := D) (cT := cT) (n := n) (adK := adK) (adV := adV) h0 hr_32
  refine tt_cV (pc := 191) (tt_vi E lmX12_201 mtX12_sets hc_33 h0 rfl rfl (Nat.le_of_ble_eq_true rfl) ⟨(Nat.le_of_ble_eq_true rfl), (Nat.le_of_ble_eq_true rfl)⟩ ⟨(Nat.le_of_ble_eq_true rfl), (Nat.le_of_ble_eq_true rfl)⟩ dX12_turns_191) ?_
  refine tt_aload_n (pc := 194) (i := 0) (j := 1) E dX12_turns_194 rfl rfl ?_
  obtain ⟨q_34, hq_35, hf⟩ := bd_some hf
  refine tt_getP (pc := 195) (t := 11) E lfX12_20 rfl rfl h0 dX12_turns_195 hq_35 (fun kq_36 => ?_)
  refine tt_iconst (pc := 198) (v := 3) E dX12_turns_198 ic_3 ?_
  refine tt_dup2 (pc := 199) E dX12_turns_199 rfl rfl ?_
  obtain ⟨g_37, hf⟩ := gd_some hf
  refine tt_iald (pc := 200) E kq_36 g_37 dX12_turns_200 ?_
  refine tt_iconst (pc := 201) (v := 1) E dX12_turns_201 ic_1 ?_
  refine tt_iadd (pc := 202) E dX12_turns_202 ?_
  obtain ⟨g_39, hf⟩ := gd_some hf
  refine tt_iast (pc := 203) E kq_36 g_39 dX12_turns_203 (tt_nmM hf (fun m_38 hf => ?_))
  refine tt_aload_n (pc := 204) (i := 0) (j := 1) E dX12_turns_204 rfl rfl ?_
  refine tt_aload_n (pc := 205) (i := 0) (j := 1) E dX12_turns_205 rfl rfl ?_
  refine tt_getI (pc := 206) E lfX12_322 rfl h0 dX12_turns_206 ?_
  refine tt_aload_n (pc := 209) (i := 0) (j := 1) E dX12_turns_209 rfl rfl ?_
  refine tt_getI (pc := 210) E lfX12_325 rfl h0 dX12_turns_210 ?_
  refine tt_aload_n (pc := 213) (i := 0) (j := 1) E dX12_turns_213 rfl rfl ?_
  obtain ⟨q_40, hq_41, hf⟩ := bd_some hf
  refine tt_getP (pc := 214) (t := 11) E lfX12_20 rfl rfl h0 dX12_turns_214 hq_41 (fun kq_42 => ?_)
  refine tt_sipush (pc := 217) (v := 148) E dX12_turns_217 sc_148 ?_
  refine tt_bipush (pc := 220) (v := 6) E dX12_turns_220 bc_6 ?_
  refine tt_aload_n (pc := 222) (i := 0) (j := 1) E dX12_turns_222 rfl rfl ?_
  refine tt_getI (pc := 223) E lfX12_322 rfl h0 dX12_turns_223 ?_
  refine tt_imul (pc := 226) E dX12_turns_226 ?_
  refine tt_iadd (pc := 227) E dX12_turns_227 ?_
  refine tt_iload_n (pc := 228) (i := 2) (j := 0) E dX12_turns_228 rfl rfl ?_
  refine tt_iadd (pc := 229) E dX12_turns_229 ?_
  obtain ⟨g_43, hf⟩ := gd_some hf
  refine tt_iald (pc := 230) E kq_42 g_43 dX12_turns_230 ?_
  obtain ⟨r_44, hr_45, hf⟩ := bd_some hf
  have hc_46 := cX12_acts_ok (l := l) (B := B) (D := D) (cT := cT) (n := n) (adK := adK) (adV := adV) h0 hr_45
  refine tt_cV (pc := 231) (tt_vi E lmX12_328 mtX12_acts hc_46 h0 rfl rfl (Nat.le_of_ble_eq_true rfl) ⟨(Nat.le_of_ble_eq_true rfl), (Nat.le_of_ble_eq_true rfl)⟩ ⟨(Nat.le_of_ble_eq_true rfl), (Nat.le_of_ble_eq_true rfl)⟩ dX12_turns_231) ?_
  exact tt_vret (pc := 234) E hr hlk dX12_turns_234 (Nat.le_of_ble_eq_true rfl) (Nat.le_of_ble_eq_true rfl) hf
set_option maxHeartbeats 4000000 in
theorem tX12_turns_26 {p : Program} {l : Launch} {e : Env} {s : State} {m : MethodId} {args : Array Value} {below : List Frame} {meth : Method} {c : Code} {B : Nat} {D : va_G} {cT : Nat → ClassId} {n : Nat} {adK adV : Nat → Nat} {res : Mem} (E : EE p s m args c cX12_turns 3 RX12 B D cT (XW B adK adV)) (hr : meth.sig.returnType = none) (hlk : meth.locks = false) {o0 : Nat} {vt0 : Int32} (h0 : isK n o0 9) (ht0 : zb vt0) {μ : Mem} (hf : fX12_turns_26 o0 vt0 μ = some res) : TT p l e rmX12_turns s m args below meth c (QV B D cT n below args s res) 3 B D cT n 0 0 μ 26 [(0, .ref (B + o0))] [.int vt0] := by
  unfold fX12_turns_26 at hf
  refine tt_istore_n (pc := 26) (i := 1) (lv' := [(1, .int vt0), (0, .ref (B + o0))]) E dX12_turns_26 rfl (Nat.le_of_ble_eq_true rfl) rfl ?_
  refine tt_iload_n (pc := 27) (i := 1) (j := 0) E dX12_turns_27 rfl rfl ?_
  refine tt_if_eq (pc := 28) (tgt := 56) E dX12_turns_28 rfl (fun c_17 => ?_) (fun c_17 => ?_)
  · have hf := ip c_17 hf
    refine tt_aload_n (pc := 56) (i := 0) (j := 1) E dX12_turns_56 rfl rfl ?_
    refine tt_aload_n (pc := 57) (i := 0) (j := 1) E dX12_turns_57 rfl rfl ?_
    refine tt_getI (pc := 58) E lfX12_322 rfl h0 dX12_turns_58 ?_
    refine tt_iconst (pc := 61) (v := 4) E dX12_turns_61 ic_4 ?_
    refine tt_aload_n (pc := 62) (i := 0) (j := 1) E dX12_turns_62 rfl rfl ?_
    refine tt_aload_n (pc := 63) (i := 0) (j := 1) E dX12_turns_63 rfl rfl ?_
    refine tt_getI (pc := 64) E lfX12_322 rfl h0 dX12_turns_64 ?_
    refine tt_iconst (pc := 67) (v := 4) E dX12_turns_67 ic_4 ?_
    obtain ⟨r_1, hr_2, hf⟩ := bd_some hf
    have hc_3 := cX12_of_ok (l := l) (B := B) (D := D) (cT := cT) (n := n) (adK := adK) (adV := adV) h0 hr_2
    refine tt_cI (pc := 68) (tt_vi E lmX12_192 mtX12_of hc_3 h0 rfl rfl (Nat.le_of_ble_eq_true rfl) ⟨(Nat.le_of_ble_eq_true rfl), (Nat.le_of_ble_eq_true rfl)⟩ ⟨(Nat.le_of_ble_eq_true rfl), (Nat.le_of_ble_eq_true rfl)⟩ dX12_turns_68) ?_
    refine tt_aload_n (pc := 71) (i := 0) (j := 1) E dX12_turns_71 rfl rfl ?_
    obtain ⟨q_4, hq_5, hf⟩ := bd_some hf
    refine tt_getP (pc := 72) (t := 11) E lfX12_20 rfl rfl h0 dX12_turns_72 hq_5 (fun kq_6 => ?_)
    refine tt_iconst (pc := 75) (v := 1) E dX12_turns_75 ic_1 ?_
    obtain ⟨g_7, hf⟩ := gd_some hf
    refine tt_iald (pc := 76) E kq_6 g_7 dX12_turns_76 ?_
    refine tt_isub (pc := 77) E dX12_turns_77 ?_
    obtain ⟨r_8, hr_9, hf⟩ := bd_some hf
    have hc_10 := cX12_sets_ok (l := l) (B := B) (D := D) (cT := cT) (n := n) (adK := adK) (adV := adV) h0 hr_9
    refine tt_cV (pc := 78) (tt_vi E lmX12_201 mtX12_sets hc_10 h0 rfl rfl (Nat.le_of_ble_eq_true rfl) ⟨(Nat.le_of_ble_eq_true rfl), (Nat.le_of_ble_eq_true rfl)⟩ ⟨(Nat.le_of_ble_eq_true rfl), (Nat.le_of_ble_eq_true rfl)⟩ dX12_turns_78) ?_
    refine tt_sub [1, 0] (lv' := [(0, .ref (B + o0)), (1, .int vt0)]) rfl ?_
    exact tX12_turns_81 E hr hlk h0 ht0 hf
  · have hf := ine c_17 hf
    refine tt_aload_n (pc := 31) (i := 0) (j := 1) E dX12_turns_31 rfl rfl ?_
    refine tt_aload_n (pc := 32) (i := 0) (j := 1) E dX12_turns_32 rfl rfl ?_
    refine tt_getI (pc := 33) E lfX12_322 rfl h0 dX12_turns_33 ?_
    refine tt_bipush (pc := 36) (v := 6) E dX12_turns_36 bc_6 ?_
    refine tt_aload_n (pc := 38) (i := 0) (j := 1) E dX12_turns_38 rfl rfl ?_
    refine tt_aload_n (pc := 39) (i := 0) (j := 1) E dX12_turns_39 rfl rfl ?_
    refine tt_getI (pc := 40) E lfX12_322 rfl h0 dX12_turns_40 ?_
    refine tt_bipush (pc := 43) (v := 6) E dX12_turns_43 bc_6 ?_
    obtain ⟨r_11, hr_12, hf⟩ := bd_some hf
    have hc_13 := cX12_of_ok (l := l) (B := B) (D := D) (cT := cT) (n := n) (adK := adK) (adV := adV) h0 hr_12
    refine tt_cI (pc := 45) (tt_vi E lmX12_192 mtX12_of hc_13 h0 rfl rfl (Nat.le_of_ble_eq_true rfl) ⟨(Nat.le_of_ble_eq_true rfl), (Nat.le_of_ble_eq_true rfl)⟩ ⟨(Nat.le_of_ble_eq_true rfl), (Nat.le_of_ble_eq_true rfl)⟩ dX12_turns_45) ?_
    refine tt_iconst (pc := 48) (v := 1) E dX12_turns_48 ic_1 ?_
    refine tt_isub (pc := 49) E dX12_turns_49 ?_
    obtain ⟨r_14, hr_15, hf⟩ := bd_some hf
    have hc_16 := cX12_sets_ok (l := l) (B := B) (D := D) (cT := cT) (n := n) (adK := adK) (adV := adV) h0 hr_15
    refine tt_cV (pc := 50) (tt_vi E lmX12_201 mtX12_sets hc_16 h0 rfl rfl (Nat.le_of_ble_eq_true rfl) ⟨(Nat.le_of_ble_eq_true rfl), (Nat.le_of_ble_eq_true rfl)⟩ ⟨(Nat.le_of_ble_eq_true rfl), (Nat.le_of_ble_eq_true rfl)⟩ dX12_turns_50) ?_
    refine tt_goto (pc := 53) (tgt := 81) E dX12_turns_53 rfl ?_
    refine tt_sub [1, 0] (lv' := [(0, .ref (B + o0)), (1, .int vt0)]) rfl ?_
    exact tX12_turns_81 E hr hlk h0 ht0 hf
set_option maxHeartbeats 4000000 in
theorem cX12_turns_ok {l : Launch} {B : Nat} {D : va_G} {cT : Nat → ClassId} {n : Nat} {adK adV : Nat → Nat} {o0 : Nat} {μ : Mem} {res : Mem} (h0 : isK n o0 9) (hf : fX12_turns o0 μ = some res) : MV l yX12_turns cX12_turns 3 (none) rmX12_turns B D cT (XW B adK adV) n [.ref (B + o0)] μ res := by
  refine tt_ofW mtX12_turns.1 (Nat.le_of_ble_eq_true rfl) rfl ?_
  intro p e s m below meth c E0 hr hlk
  have E : EE p s m _ c cX12_turns 3 RX12 B D cT (XW B adK adV) := E0
  unfold fX12_turns at hf
  refine tt_aload_n (pc := 0) (i := 0) (j := 0) E dX12_turns_0 rfl rfl ?_
  refine tt_aload_n (pc := 1) (i := 0) (j := 0) E dX12_turns_1 rfl rfl ?_
  obtain ⟨r_1, hr_2, hf⟩ := bd_some hf
  have hc_3 := cX12_next_ok (l := l) (B := B) (D := D) (cT := cT) (n := n) (adK := adK) (adV := adV) h0 hr_2
  refine tt_cI (pc := 2) (tt_vi E lmX12_319 mtX12_next hc_3 h0 rfl rfl (Nat.le_of_ble_eq_true rfl) ⟨(Nat.le_of_ble_eq_true rfl), (Nat.le_of_ble_eq_true rfl)⟩ ⟨(Nat.le_of_ble_eq_true rfl), (Nat.le_of_ble_eq_true rfl)⟩ dX12_turns_2) ?_
  refine tt_putI (pc := 5) E lfX12_322 rfl h0 dX12_turns_5 (tt_nmM hf (fun m_4 hf => ?_))
  refine tt_aload_n (pc := 8) (i := 0) (j := 0) E dX12_turns_8 rfl rfl ?_
  refine tt_aload_n (pc := 9) (i := 0) (j := 0) E dX12_turns_9 rfl rfl ?_
  refine tt_getI (pc := 10) E lfX12_322 rfl h0 dX12_turns_10 ?_
  refine tt_bipush (pc := 13) (v := 6) E dX12_turns_13 bc_6 ?_
  obtain ⟨r_5, hr_6, hf⟩ := bd_some hf
  have hc_7 := cX12_of_ok (l := l) (B := B) (D := D) (cT := cT) (n := n) (adK := adK) (adV := adV) h0 hr_6
  refine tt_cI (pc := 15) (tt_vi E lmX12_192 mtX12_of hc_7 h0 rfl rfl (Nat.le_of_ble_eq_true rfl) ⟨(Nat.le_of_ble_eq_true rfl), (Nat.le_of_ble_eq_true rfl)⟩ ⟨(Nat.le_of_ble_eq_true rfl), (Nat.le_of_ble_eq_true rfl)⟩ dX12_turns_15) ?_
  refine tt_if_le (pc := 18) (tgt := 25) E dX12_turns_18 rfl (fun c_8 => ?_) (fun c_8 => ?_)
  · have hf := ip c_8 hf
    refine tt_iconst (pc := 25) (v := 0) E dX12_turns_25 ic_0 ?_
    exact tX12_turns_26 E hr hlk h0 ((Or.inl rfl)) hf
  · have hf := ine c_8 hf
    refine tt_iconst (pc := 21) (v := 1) E dX12_turns_21 ic_1 ?_
    refine tt_goto (pc := 22) (tgt := 26) E dX12_turns_22 rfl ?_
    exact tX12_turns_26 E hr hlk h0 ((Or.inr rfl)) hf
set_option maxHeartbeats 4000000 in
theorem tX12_plays_2 {p : Program} {l : Launch} {e : Env} {s : State} {m : MethodId} {args : Array Value} {below : List Frame} {meth : Method} {c : Code} {B : Nat} {D : va_G} {cT : Nat → ClassId} {n : Nat} {adK adV : Nat → Nat} {res : Int32 × Mem} (E : EE p s m args c cX12_plays 3 RX12 B D cT (XW B adK adV)) (hr : meth.sig.returnType = some .int) (hlk : meth.locks = false) {o0 : Nat} {v1 : Int32} (h0 : isK n o0 9) : ∀ (fu : Nat) (v2 : Int32) (μ : Mem), zl2 (gX12_plays_2 o0 v1) fu v2 μ = some res → TT p l e rmX12_plays s m args below meth c (QI B D cT n below args s res) 3 B D cT n 0 0 μ 2 [(0, .ref (B + o0)), (1, .int v1), (2, .int v2)] [] := by
  intro fu
  induction fu with
  | zero => intro v2 μ hf; exact absurd hf (fun h => by cases h)
  | succ fu ih =>
    intro v2 μ hf
    have hf : gX12_plays_2 o0 v1 (zl2 (gX12_plays_2 o0 v1) fu) v2 μ = some res := hf
    unfold gX12_plays_2 at hf
    refine tt_iload_n (pc := 2) (i := 2) (j := 2) E dX12_plays_2 rfl rfl ?_
    refine tt_iload_n (pc := 3) (i := 1) (j := 1) E dX12_plays_3 rfl rfl ?_
    refine tt_icmp_ge (pc := 4) (tgt := 24) E dX12_plays_4 rfl (fun c_10 => ?_) (fun c_10 => ?_)
    · have hf := ip c_10 hf
      refine tt_iload_n (pc := 24) (i := 2) (j := 2) E dX12_plays_24 rfl rfl ?_
      exact tt_iret (pc := 25) E hr hlk dX12_plays_25 (Nat.le_of_ble_eq_true rfl) (Nat.le_of_ble_eq_true rfl) hf
    · have hf := ine c_10 hf
      refine tt_aload_n (pc := 7) (i := 0) (j := 0) E dX12_plays_7 rfl rfl ?_
      obtain ⟨r_1, hr_2, hf⟩ := bd_some hf
      have hc_3 := cX12_isOver_ok (l := l) (B := B) (D := D) (cT := cT) (n := n) (adK := adK) (adV := adV) h0 hr_2
      refine tt_cZ (pc := 8) (tt_vi E lmX12_269 mtX12_isOver hc_3 h0 rfl rfl (Nat.le_of_ble_eq_true rfl) ⟨(Nat.le_of_ble_eq_true rfl), (Nat.le_of_ble_eq_true rfl)⟩ ⟨(Nat.le_of_ble_eq_true rfl), (Nat.le_of_ble_eq_true rfl)⟩ dX12_plays_8) (fun z_4 => ?_)
      refine tt_if_ne (pc := 11) (tgt := 24) E dX12_plays_11 rfl (fun c_9 => ?_) (fun c_9 => ?_)
      · have hf := ine c_9 hf
        refine tt_iload_n (pc := 24) (i := 2) (j := 2) E dX12_plays_24 rfl rfl ?_
        exact tt_iret (pc := 25) E hr hlk dX12_plays_25 (Nat.le_of_ble_eq_true rfl) (Nat.le_of_ble_eq_true rfl) hf
      · have hf := ip c_9 hf
        refine tt_aload_n (pc := 14) (i := 0) (j := 0) E dX12_plays_14 rfl rfl ?_
        obtain ⟨r_5, hr_6, hf⟩ := bd_some hf
        have hc_7 := cX12_turns_ok (l := l) (B := B) (D := D) (cT := cT) (n := n) (adK := adK) (adV := adV) h0 hr_6
        refine tt_cV (pc := 15) (tt_vi E lmX12_331 mtX12_turns hc_7 h0 rfl rfl (Nat.le_of_ble_eq_true rfl) ⟨(Nat.le_of_ble_eq_true rfl), (Nat.le_of_ble_eq_true rfl)⟩ ⟨(Nat.le_of_ble_eq_true rfl), (Nat.le_of_ble_eq_true rfl)⟩ dX12_plays_15) ?_
        obtain ⟨v_8, ev_8, hf⟩ := nm_ex hf
        refine tt_iinc (pc := 18) (i := 2) (j := 2) (lv' := [(2, .int v_8), (0, .ref (B + o0)), (1, .int v1)]) E dX12_plays_18 rfl (ev_8).symm (Nat.le_of_ble_eq_true rfl) rfl ?_
        refine tt_goto (pc := 21) (tgt := 2) E dX12_plays_21 rfl ?_
        refine tt_sub [1, 2, 0] (lv' := [(0, .ref (B + o0)), (1, .int v1), (2, .int v_8)]) rfl ?_
        exact ih v_8 r_5 hf
set_option maxHeartbeats 4000000 in
theorem cX12_plays_ok {l : Launch} {B : Nat} {D : va_G} {cT : Nat → ClassId} {n : Nat} {adK adV : Nat → Nat} {o0 : Nat} {v1 : Int32} {μ : Mem} {res : Int32 × Mem} (h0 : isK n o0 9) (hf : fX12_plays o0 v1 μ = some res) : MI l yX12_plays cX12_plays 3 (some .int) rmX12_plays B D cT (XW B adK adV) n [.ref (B + o0), .int v1] μ res := by
  refine tt_ofW mtX12_plays.1 (Nat.le_of_ble_eq_true rfl) rfl ?_
  intro p e s m below meth c E0 hr hlk
  have E : EE p s m _ c cX12_plays 3 RX12 B D cT (XW B adK adV) := E0
  unfold fX12_plays at hf
  refine tt_iconst (pc := 0) (v := 0) E dX12_plays_0 ic_0 ?_
  refine tt_istore_n (pc := 1) (i := 2) (lv' := [(2, .int 0), (0, .ref (B + o0)), (1, .int v1)]) E dX12_plays_1 rfl (Nat.le_of_ble_eq_true rfl) rfl ?_
  refine tt_sub [1, 2, 0] (lv' := [(0, .ref (B + o0)), (1, .int v1), (2, .int 0)]) rfl ?_
  exact tX12_plays_2 E hr hlk h0 FU 0 μ hf
set_option maxHeartbeats 4000000 in
theorem cX12_isFighter_ok {l : Launch} {B : Nat} {D : va_G} {cT : Nat → ClassId} {n : Nat} {adK adV : Nat → Nat} {o0 : Nat} {v1 : Int32} {μ : Mem} {res : Int32} (h0 : isK n o0 9) (hf : fX12_isFighter o0 v1 μ = some res) : MZ l yX12_isFighter cX12_isFighter 2 (some .boolean) rmX12_isFighter B D cT (XW B adK adV) n [.ref (B + o0), .int v1] μ (res, μ) := by
  refine tt_ofW mtX12_isFighter.1 (Nat.le_of_ble_eq_true rfl) rfl ?_
  intro p e s m below meth c E0 hr hlk
  have E : EE p s m _ c cX12_isFighter 2 RX12 B D cT (XW B adK adV) := E0
  unfold fX12_isFighter at hf
  refine tt_iload_n (pc := 0) (i := 1) (j := 1) E dX12_isFighter_0 rfl rfl ?_
  refine tt_i2l (pc := 1) E dX12_isFighter_1 ?_
  refine tt_lconst (pc := 2) (v := 0) E dX12_isFighter_2 lc_0 ?_
  refine tt_aload_n (pc := 3) (i := 0) (j := 0) E dX12_isFighter_3 rfl rfl ?_
  obtain ⟨q_1, hq_2, hf⟩ := bd_some hf
  refine tt_getP (pc := 4) (t := 11) E lfX12_20 rfl rfl h0 dX12_isFighter_4 hq_2 (fun kq_3 => ?_)
  refine tt_iconst (pc := 7) (v := 0) E dX12_isFighter_7 ic_0 ?_
  obtain ⟨g_4, hf⟩ := gd_some hf
  refine tt_iald (pc := 8) E kq_3 g_4 dX12_isFighter_8 ?_
  refine tt_iconst (pc := 9) (v := 1) E dX12_isFighter_9 ic_1 ?_
  refine tt_isub (pc := 10) E dX12_isFighter_10 ?_
  refine tt_i2l (pc := 11) E dX12_isFighter_11 ?_
  obtain ⟨r_5, hr_6, hf⟩ := bd_some hf
  have hc_7 := cX12_isIn_ok (l := l) (B := B) (D := D) (cT := cT) (n := n) (adK := adK) (adV := adV) hr_6
  refine tt_cZ (pc := 12) (tt_si E lmX12_92 mtX12_isIn hc_7 rfl rfl (Nat.le_of_ble_eq_true rfl) ⟨(Nat.le_of_ble_eq_true rfl), (Nat.le_of_ble_eq_true rfl)⟩ ⟨(Nat.le_of_ble_eq_true rfl), (Nat.le_of_ble_eq_true rfl)⟩ dX12_isFighter_12) (fun z_8 => ?_)
  exact tt_zret (pc := 15) E z_8 hr hlk dX12_isFighter_15 (Nat.le_of_ble_eq_true rfl) (Nat.le_of_ble_eq_true rfl) (pv hf)
set_option maxHeartbeats 4000000 in
theorem cX12_living_ok {l : Launch} {B : Nat} {D : va_G} {cT : Nat → ClassId} {n : Nat} {adK adV : Nat → Nat} {o0 : Nat} {μ : Mem} {res : Int32} (h0 : isK n o0 9) (hf : fX12_living o0 μ = some res) : MI l yX12_living cX12_living 1 (some .int) rmX12_living B D cT (XW B adK adV) n [.ref (B + o0)] μ (res, μ) := by
  refine tt_ofW mtX12_living.1 (Nat.le_of_ble_eq_true rfl) rfl ?_
  intro p e s m below meth c E0 hr hlk
  have E : EE p s m _ c cX12_living 1 RX12 B D cT (XW B adK adV) := E0
  unfold fX12_living at hf
  refine tt_aload_n (pc := 0) (i := 0) (j := 0) E dX12_living_0 rfl rfl ?_
  refine tt_iconst (pc := 1) (v := 0) E dX12_living_1 ic_0 ?_
  obtain ⟨r_1, hr_2, hf⟩ := bd_some hf
  have hc_3 := cX12_livingOn_ok (l := l) (B := B) (D := D) (cT := cT) (n := n) (adK := adK) (adV := adV) h0 hr_2
  refine tt_cI (pc := 2) (tt_vi E lmX12_266 mtX12_livingOn hc_3 h0 rfl rfl (Nat.le_of_ble_eq_true rfl) ⟨(Nat.le_of_ble_eq_true rfl), (Nat.le_of_ble_eq_true rfl)⟩ ⟨(Nat.le_of_ble_eq_true rfl), (Nat.le_of_ble_eq_true rfl)⟩ dX12_living_2) ?_
  refine tt_aload_n (pc := 5) (i := 0) (j := 0) E dX12_living_5 rfl rfl ?_
  refine tt_iconst (pc := 6) (v := 1) E dX12_living_6 ic_1 ?_
  obtain ⟨r_4, hr_5, hf⟩ := bd_some hf
  have hc_6 := cX12_livingOn_ok (l := l) (B := B) (D := D) (cT := cT) (n := n) (adK := adK) (adV := adV) h0 hr_5
  refine tt_cI (pc := 7) (tt_vi E lmX12_266 mtX12_livingOn hc_6 h0 rfl rfl (Nat.le_of_ble_eq_true rfl) ⟨(Nat.le_of_ble_eq_true rfl), (Nat.le_of_ble_eq_true rfl)⟩ ⟨(Nat.le_of_ble_eq_true rfl), (Nat.le_of_ble_eq_true rfl)⟩ dX12_living_7) ?_
  refine tt_iadd (pc := 10) E dX12_living_10 ?_
  exact tt_iret (pc := 11) E hr hlk dX12_living_11 (Nat.le_of_ble_eq_true rfl) (Nat.le_of_ble_eq_true rfl) (pv hf)
set_option maxHeartbeats 4000000 in
theorem cX12_setting_ok {l : Launch} {B : Nat} {D : va_G} {cT : Nat → ClassId} {n : Nat} {adK adV : Nat → Nat} {o0 : Nat} {v1 : Int32} {μ : Mem} {res : Int32 × Mem} (h0 : isK n o0 9) (hf : fX12_setting o0 v1 μ = some res) : MI l yX12_setting cX12_setting 2 (some .int) rmX12_setting B D cT (XW B adK adV) n [.ref (B + o0), .int v1] μ res := by
  refine tt_ofW mtX12_setting.1 (Nat.le_of_ble_eq_true rfl) rfl ?_
  intro p e s m below meth c E0 hr hlk
  have E : EE p s m _ c cX12_setting 2 RX12 B D cT (XW B adK adV) := E0
  unfold fX12_setting at hf
  refine tt_aload_n (pc := 0) (i := 0) (j := 0) E dX12_setting_0 rfl rfl ?_
  refine tt_iload_n (pc := 1) (i := 1) (j := 1) E dX12_setting_1 rfl rfl ?_
  refine tt_i2l (pc := 2) E dX12_setting_2 ?_
  refine tt_lconst (pc := 3) (v := 0) E dX12_setting_3 lc_0 ?_
  refine tt_ldc2 (pc := 4) (v := 9) E dX12_setting_4 (gw_mem (mt7 (at_l 186 rfl)) rfl) ?_
  obtain ⟨r_1, hr_2, hf⟩ := bd_some hf
  have hc_3 := cX12_isIn_ok (l := l) (B := B) (D := D) (cT := cT) (n := n) (adK := adK) (adV := adV) hr_2
  refine tt_cZ (pc := 7) (tt_si E lmX12_92 mtX12_isIn hc_3 rfl rfl (Nat.le_of_ble_eq_true rfl) ⟨(Nat.le_of_ble_eq_true rfl), (Nat.le_of_ble_eq_true rfl)⟩ ⟨(Nat.le_of_ble_eq_true rfl), (Nat.le_of_ble_eq_true rfl)⟩ dX12_setting_7) (fun z_4 => ?_)
  obtain ⟨r_5, hr_6, hf⟩ := bd_some hf
  have hc_7 := cX12_goes_ok (l := l) (B := B) (D := D) (cT := cT) (n := n) (adK := adK) (adV := adV) h0 z_4 hr_6
  refine tt_cZ (pc := 10) (tt_vi E lmX12_85 mtX12_goes hc_7 h0 rfl rfl (Nat.le_of_ble_eq_true rfl) ⟨(Nat.le_of_ble_eq_true rfl), (Nat.le_of_ble_eq_true rfl)⟩ ⟨(Nat.le_of_ble_eq_true rfl), (Nat.le_of_ble_eq_true rfl)⟩ dX12_setting_10) (fun z_8 => ?_)
  refine tt_if_ne (pc := 13) (tgt := 18) E dX12_setting_13 rfl (fun c_32 => ?_) (fun c_32 => ?_)
  · have hf := ine c_32 hf
    refine tt_iload_n (pc := 18) (i := 1) (j := 1) E dX12_setting_18 rfl rfl ?_
    by_cases s19_4 : v1 = 4
    · have hf := ip s19_4 hf
      refine tt_swIn (pc := 19) (tgt := 56) E dX12_setting_19 (sw1 s19_4 (by decide)) (sw2 s19_4 (by decide)) (sw3 s19_4 rfl) rfl ?_
      refine tt_aload_n (pc := 56) (i := 0) (j := 0) E dX12_setting_56 rfl rfl ?_
      obtain ⟨r_29, hr_30, hf⟩ := bd_some hf
      have hc_31 := cX12_living_ok (l := l) (B := B) (D := D) (cT := cT) (n := n) (adK := adK) (adV := adV) h0 hr_30
      refine tt_cI (pc := 57) (tt_vi E lmX12_336 mtX12_living hc_31 h0 rfl rfl (Nat.le_of_ble_eq_true rfl) ⟨(Nat.le_of_ble_eq_true rfl), (Nat.le_of_ble_eq_true rfl)⟩ ⟨(Nat.le_of_ble_eq_true rfl), (Nat.le_of_ble_eq_true rfl)⟩ dX12_setting_57) ?_
      exact tt_iret (pc := 60) E hr hlk dX12_setting_60 (Nat.le_of_ble_eq_true rfl) (Nat.le_of_ble_eq_true rfl) hf
    have hf := ine s19_4 hf
    by_cases s19_5 : v1 = 5
    · have hf := ip s19_5 hf
      refine tt_swIn (pc := 19) (tgt := 61) E dX12_setting_19 (sw1 s19_5 (by decide)) (sw2 s19_5 (by decide)) (sw3 s19_5 rfl) rfl ?_
      refine tt_aload_n (pc := 61) (i := 0) (j := 0) E dX12_setting_61 rfl rfl ?_
      refine tt_iconst (pc := 62) (v := 0) E dX12_setting_62 ic_0 ?_
      obtain ⟨r_26, hr_27, hf⟩ := bd_some hf
      have hc_28 := cX12_lifeOn_ok (l := l) (B := B) (D := D) (cT := cT) (n := n) (adK := adK) (adV := adV) h0 hr_27
      refine tt_cI (pc := 63) (tt_vi E lmX12_339 mtX12_lifeOn hc_28 h0 rfl rfl (Nat.le_of_ble_eq_true rfl) ⟨(Nat.le_of_ble_eq_true rfl), (Nat.le_of_ble_eq_true rfl)⟩ ⟨(Nat.le_of_ble_eq_true rfl), (Nat.le_of_ble_eq_true rfl)⟩ dX12_setting_63) ?_
      exact tt_iret (pc := 66) E hr hlk dX12_setting_66 (Nat.le_of_ble_eq_true rfl) (Nat.le_of_ble_eq_true rfl) hf
    have hf := ine s19_5 hf
    by_cases s19_6 : v1 = 6
    · have hf := ip s19_6 hf
      refine tt_swIn (pc := 19) (tgt := 67) E dX12_setting_19 (sw1 s19_6 (by decide)) (sw2 s19_6 (by decide)) (sw3 s19_6 rfl) rfl ?_
      refine tt_aload_n (pc := 67) (i := 0) (j := 0) E dX12_setting_67 rfl rfl ?_
      refine tt_iconst (pc := 68) (v := 1) E dX12_setting_68 ic_1 ?_
      obtain ⟨r_23, hr_24, hf⟩ := bd_some hf
      have hc_25 := cX12_lifeOn_ok (l := l) (B := B) (D := D) (cT := cT) (n := n) (adK := adK) (adV := adV) h0 hr_24
      refine tt_cI (pc := 69) (tt_vi E lmX12_339 mtX12_lifeOn hc_25 h0 rfl rfl (Nat.le_of_ble_eq_true rfl) ⟨(Nat.le_of_ble_eq_true rfl), (Nat.le_of_ble_eq_true rfl)⟩ ⟨(Nat.le_of_ble_eq_true rfl), (Nat.le_of_ble_eq_true rfl)⟩ dX12_setting_69) ?_
      exact tt_iret (pc := 72) E hr hlk dX12_setting_72 (Nat.le_of_ble_eq_true rfl) (Nat.le_of_ble_eq_true rfl) hf
    have hf := ine s19_6 hf
    by_cases s19_7 : v1 = 7
    · have hf := ip s19_7 hf
      refine tt_swIn (pc := 19) (tgt := 73) E dX12_setting_19 (sw1 s19_7 (by decide)) (sw2 s19_7 (by decide)) (sw3 s19_7 rfl) rfl ?_
      refine tt_aload_n (pc := 73) (i := 0) (j := 0) E dX12_setting_73 rfl rfl ?_
      obtain ⟨r_20, hr_21, hf⟩ := bd_some hf
      have hc_22 := cX12_sideThatWon_ok (l := l) (B := B) (D := D) (cT := cT) (n := n) (adK := adK) (adV := adV) h0 hr_21
      refine tt_cI (pc := 74) (tt_vi E lmX12_342 mtX12_sideThatWon hc_22 h0 rfl rfl (Nat.le_of_ble_eq_true rfl) ⟨(Nat.le_of_ble_eq_true rfl), (Nat.le_of_ble_eq_true rfl)⟩ ⟨(Nat.le_of_ble_eq_true rfl), (Nat.le_of_ble_eq_true rfl)⟩ dX12_setting_74) ?_
      exact tt_iret (pc := 77) E hr hlk dX12_setting_77 (Nat.le_of_ble_eq_true rfl) (Nat.le_of_ble_eq_true rfl) hf
    have hf := ine s19_7 hf
    by_cases s19_8 : v1 = 8
    · have hf := ip s19_8 hf
      refine tt_swIn (pc := 19) (tgt := 78) E dX12_setting_19 (sw1 s19_8 (by decide)) (sw2 s19_8 (by decide)) (sw3 s19_8 rfl) rfl ?_
      refine tt_aload_n (pc := 78) (i := 0) (j := 0) E dX12_setting_78 rfl rfl ?_
      obtain ⟨r_13, hr_14, hf⟩ := bd_some hf
      have hc_15 := cX12_isOver_ok (l := l) (B := B) (D := D) (cT := cT) (n := n) (adK := adK) (adV := adV) h0 hr_14
      refine tt_cZ (pc := 79) (tt_vi E lmX12_269 mtX12_isOver hc_15 h0 rfl rfl (Nat.le_of_ble_eq_true rfl) ⟨(Nat.le_of_ble_eq_true rfl), (Nat.le_of_ble_eq_true rfl)⟩ ⟨(Nat.le_of_ble_eq_true rfl), (Nat.le_of_ble_eq_true rfl)⟩ dX12_setting_79) (fun z_16 => ?_)
      obtain ⟨r_17, hr_18, hf⟩ := bd_some hf
      have hc_19 := cX12_truth_ok (l := l) (B := B) (D := D) (cT := cT) (n := n) (adK := adK) (adV := adV) z_16 hr_18
      refine tt_cI (pc := 82) (tt_si E lmX12_78 mtX12_truth hc_19 rfl rfl (Nat.le_of_ble_eq_true rfl) ⟨(Nat.le_of_ble_eq_true rfl), (Nat.le_of_ble_eq_true rfl)⟩ ⟨(Nat.le_of_ble_eq_true rfl), (Nat.le_of_ble_eq_true rfl)⟩ dX12_setting_82) ?_
      exact tt_iret (pc := 85) E hr hlk dX12_setting_85 (Nat.le_of_ble_eq_true rfl) (Nat.le_of_ble_eq_true rfl) hf
    have hf := ine s19_8 hf
    by_cases s19_9 : v1 = 9
    · have hf := ip s19_9 hf
      refine tt_swIn (pc := 19) (tgt := 86) E dX12_setting_19 (sw1 s19_9 (by decide)) (sw2 s19_9 (by decide)) (sw3 s19_9 rfl) rfl ?_
      refine tt_aload_n (pc := 86) (i := 0) (j := 0) E dX12_setting_86 rfl rfl ?_
      refine tt_getI (pc := 87) E lfX12_157 rfl h0 dX12_setting_87 ?_
      exact tt_iret (pc := 90) E hr hlk dX12_setting_90 (Nat.le_of_ble_eq_true rfl) (Nat.le_of_ble_eq_true rfl) hf
    have hf := ine s19_9 hf
    refine tt_swOut (pc := 19) (tgt := 91) E dX12_setting_19 (sw_out (N := 6) (fun j hj => by
        match j, hj with
        | 0, _ => exact s19_4
        | 1, _ => exact s19_5
        | 2, _ => exact s19_6
        | 3, _ => exact s19_7
        | 4, _ => exact s19_8
        | 5, _ => exact s19_9
        | j + 6, hj => exact absurd hj (by omega))) rfl ?_
    refine tt_aload_n (pc := 91) (i := 0) (j := 0) E dX12_setting_91 rfl rfl ?_
    obtain ⟨q_9, hq_10, hf⟩ := bd_some hf
    refine tt_getP (pc := 92) (t := 11) E lfX12_20 rfl rfl h0 dX12_setting_92 hq_10 (fun kq_11 => ?_)
    refine tt_iload_n (pc := 95) (i := 1) (j := 1) E dX12_setting_95 rfl rfl ?_
    obtain ⟨g_12, hf⟩ := gd_some hf
    refine tt_iald (pc := 96) E kq_11 g_12 dX12_setting_96 ?_
    exact tt_iret (pc := 97) E hr hlk dX12_setting_97 (Nat.le_of_ble_eq_true rfl) (Nat.le_of_ble_eq_true rfl) hf
  · have hf := ip c_32 hf
    refine tt_iconst (pc := 16) (v := 0) E dX12_setting_16 ic_0 ?_
    exact tt_iret (pc := 17) E hr hlk dX12_setting_17 (Nat.le_of_ble_eq_true rfl) (Nat.le_of_ble_eq_true rfl) hf
set_option maxHeartbeats 4000000 in
theorem cX12_fighter_ok {l : Launch} {B : Nat} {D : va_G} {cT : Nat → ClassId} {n : Nat} {adK adV : Nat → Nat} {o0 : Nat} {v1 : Int32} {v2 : Int32} {μ : Mem} {res : Int32 × Mem} (h0 : isK n o0 9) (hf : fX12_fighter o0 v1 v2 μ = some res) : MI l yX12_fighter cX12_fighter 3 (some .int) rmX12_fighter B D cT (XW B adK adV) n [.ref (B + o0), .int v1, .int v2] μ res := by
  refine tt_ofW mtX12_fighter.1 (Nat.le_of_ble_eq_true rfl) rfl ?_
  intro p e s m below meth c E0 hr hlk
  have E : EE p s m _ c cX12_fighter 3 RX12 B D cT (XW B adK adV) := E0
  unfold fX12_fighter at hf
  refine tt_aload_n (pc := 0) (i := 0) (j := 0) E dX12_fighter_0 rfl rfl ?_
  refine tt_aload_n (pc := 1) (i := 0) (j := 0) E dX12_fighter_1 rfl rfl ?_
  refine tt_iload_n (pc := 2) (i := 1) (j := 1) E dX12_fighter_2 rfl rfl ?_
  obtain ⟨r_1, hr_2, hf⟩ := bd_some hf
  have hc_3 := cX12_isFighter_ok (l := l) (B := B) (D := D) (cT := cT) (n := n) (adK := adK) (adV := adV) h0 hr_2
  refine tt_cZ (pc := 3) (tt_vi E lmX12_345 mtX12_isFighter hc_3 h0 rfl rfl (Nat.le_of_ble_eq_true rfl) ⟨(Nat.le_of_ble_eq_true rfl), (Nat.le_of_ble_eq_true rfl)⟩ ⟨(Nat.le_of_ble_eq_true rfl), (Nat.le_of_ble_eq_true rfl)⟩ dX12_fighter_3) (fun z_4 => ?_)
  refine tt_iload_n (pc := 6) (i := 2) (j := 2) E dX12_fighter_6 rfl rfl ?_
  refine tt_i2l (pc := 7) E dX12_fighter_7 ?_
  refine tt_lconst (pc := 8) (v := 0) E dX12_fighter_8 lc_0 ?_
  refine tt_ldc2 (pc := 9) (v := 11) E dX12_fighter_9 (gw_mem (mt7 (at_l 219 rfl)) rfl) ?_
  obtain ⟨r_5, hr_6, hf⟩ := bd_some hf
  have hc_7 := cX12_isIn_ok (l := l) (B := B) (D := D) (cT := cT) (n := n) (adK := adK) (adV := adV) hr_6
  refine tt_cZ (pc := 12) (tt_si E lmX12_92 mtX12_isIn hc_7 rfl rfl (Nat.le_of_ble_eq_true rfl) ⟨(Nat.le_of_ble_eq_true rfl), (Nat.le_of_ble_eq_true rfl)⟩ ⟨(Nat.le_of_ble_eq_true rfl), (Nat.le_of_ble_eq_true rfl)⟩ dX12_fighter_12) (fun z_8 => ?_)
  obtain ⟨r_9, hr_10, hf⟩ := bd_some hf
  have hc_11 := cX12_goesBoth_ok (l := l) (B := B) (D := D) (cT := cT) (n := n) (adK := adK) (adV := adV) h0 z_4 z_8 hr_10
  refine tt_cZ (pc := 15) (tt_vi E lmX12_350 mtX12_goesBoth hc_11 h0 rfl rfl (Nat.le_of_ble_eq_true rfl) ⟨(Nat.le_of_ble_eq_true rfl), (Nat.le_of_ble_eq_true rfl)⟩ ⟨(Nat.le_of_ble_eq_true rfl), (Nat.le_of_ble_eq_true rfl)⟩ dX12_fighter_15) (fun z_12 => ?_)
  refine tt_if_eq (pc := 18) (tgt := 30) E dX12_fighter_18 rfl (fun c_16 => ?_) (fun c_16 => ?_)
  · have hf := ip c_16 hf
    refine tt_iconst (pc := 30) (v := 0) E dX12_fighter_30 ic_0 ?_
    exact tt_iret (pc := 31) E hr hlk dX12_fighter_31 (Nat.le_of_ble_eq_true rfl) (Nat.le_of_ble_eq_true rfl) hf
  · have hf := ine c_16 hf
    refine tt_aload_n (pc := 21) (i := 0) (j := 0) E dX12_fighter_21 rfl rfl ?_
    refine tt_iload_n (pc := 22) (i := 1) (j := 1) E dX12_fighter_22 rfl rfl ?_
    refine tt_iload_n (pc := 23) (i := 2) (j := 2) E dX12_fighter_23 rfl rfl ?_
    obtain ⟨r_13, hr_14, hf⟩ := bd_some hf
    have hc_15 := cX12_of_ok (l := l) (B := B) (D := D) (cT := cT) (n := n) (adK := adK) (adV := adV) h0 hr_14
    refine tt_cI (pc := 24) (tt_vi E lmX12_192 mtX12_of hc_15 h0 rfl rfl (Nat.le_of_ble_eq_true rfl) ⟨(Nat.le_of_ble_eq_true rfl), (Nat.le_of_ble_eq_true rfl)⟩ ⟨(Nat.le_of_ble_eq_true rfl), (Nat.le_of_ble_eq_true rfl)⟩ dX12_fighter_24) ?_
    refine tt_goto (pc := 27) (tgt := 31) E dX12_fighter_27 rfl ?_
    exact tt_iret (pc := 31) E hr hlk dX12_fighter_31 (Nat.le_of_ble_eq_true rfl) (Nat.le_of_ble_eq_true rfl) hf
set_option maxHeartbeats 4000000 in
theorem cX12_isAct_ok {l : Launch} {B : Nat} {D : va_G} {cT : Nat → ClassId} {n : Nat} {adK adV : Nat → Nat} {o0 : Nat} {v1 : Int32} {v2 : Int32} {μ : Mem} {res : Int32} (h0 : isK n o0 9) (hf : fX12_isAct o0 v1 v2 μ = some res) : MZ l yX12_isAct cX12_isAct 3 (some .boolean) rmX12_isAct B D cT (XW B adK adV) n [.ref (B + o0), .int v1, .int v2] μ (res, μ) := by
  refine tt_ofW mtX12_isAct.1 (Nat.le_of_ble_eq_true rfl) rfl ?_
  intro p e s m below meth c E0 hr hlk
  have E : EE p s m _ c cX12_isAct 3 RX12 B D cT (XW B adK adV) := E0
  unfold fX12_isAct at hf
  refine tt_iload_n (pc := 0) (i := 2) (j := 2) E dX12_isAct_0 rfl rfl ?_
  refine tt_i2l (pc := 1) E dX12_isAct_1 ?_
  refine tt_lconst (pc := 2) (v := 0) E dX12_isAct_2 lc_0 ?_
  refine tt_aload_n (pc := 3) (i := 0) (j := 0) E dX12_isAct_3 rfl rfl ?_
  refine tt_iload_n (pc := 4) (i := 1) (j := 1) E dX12_isAct_4 rfl rfl ?_
  refine tt_bipush (pc := 5) (v := 8) E dX12_isAct_5 bc_8 ?_
  obtain ⟨r_1, hr_2, hf⟩ := bd_some hf
  have hc_3 := cX12_of_ok (l := l) (B := B) (D := D) (cT := cT) (n := n) (adK := adK) (adV := adV) h0 hr_2
  refine tt_cI (pc := 7) (tt_vi E lmX12_192 mtX12_of hc_3 h0 rfl rfl (Nat.le_of_ble_eq_true rfl) ⟨(Nat.le_of_ble_eq_true rfl), (Nat.le_of_ble_eq_true rfl)⟩ ⟨(Nat.le_of_ble_eq_true rfl), (Nat.le_of_ble_eq_true rfl)⟩ dX12_isAct_7) ?_
  refine tt_iconst (pc := 10) (v := 1) E dX12_isAct_10 ic_1 ?_
  refine tt_isub (pc := 11) E dX12_isAct_11 ?_
  refine tt_i2l (pc := 12) E dX12_isAct_12 ?_
  obtain ⟨r_4, hr_5, hf⟩ := bd_some hf
  have hc_6 := cX12_isIn_ok (l := l) (B := B) (D := D) (cT := cT) (n := n) (adK := adK) (adV := adV) hr_5
  refine tt_cZ (pc := 13) (tt_si E lmX12_92 mtX12_isIn hc_6 rfl rfl (Nat.le_of_ble_eq_true rfl) ⟨(Nat.le_of_ble_eq_true rfl), (Nat.le_of_ble_eq_true rfl)⟩ ⟨(Nat.le_of_ble_eq_true rfl), (Nat.le_of_ble_eq_true rfl)⟩ dX12_isAct_13) (fun z_7 => ?_)
  exact tt_zret (pc := 16) E z_7 hr hlk dX12_isAct_16 (Nat.le_of_ble_eq_true rfl) (Nat.le_of_ble_eq_true rfl) (pv hf)
set_option maxHeartbeats 4000000 in
theorem cX12_actKind_ok {l : Launch} {B : Nat} {D : va_G} {cT : Nat → ClassId} {n : Nat} {adK adV : Nat → Nat} {o0 : Nat} {v1 : Int32} {v2 : Int32} {μ : Mem} {res : Int32 × Mem} (h0 : isK n o0 9) (hf : fX12_actKind o0 v1 v2 μ = some res) : MI l yX12_actKind cX12_actKind 3 (some .int) rmX12_actKind B D cT (XW B adK adV) n [.ref (B + o0), .int v1, .int v2] μ res := by
  refine tt_ofW mtX12_actKind.1 (Nat.le_of_ble_eq_true rfl) rfl ?_
  intro p e s m below meth c E0 hr hlk
  have E : EE p s m _ c cX12_actKind 3 RX12 B D cT (XW B adK adV) := E0
  unfold fX12_actKind at hf
  refine tt_aload_n (pc := 0) (i := 0) (j := 0) E dX12_actKind_0 rfl rfl ?_
  refine tt_aload_n (pc := 1) (i := 0) (j := 0) E dX12_actKind_1 rfl rfl ?_
  refine tt_iload_n (pc := 2) (i := 1) (j := 1) E dX12_actKind_2 rfl rfl ?_
  obtain ⟨r_1, hr_2, hf⟩ := bd_some hf
  have hc_3 := cX12_isFighter_ok (l := l) (B := B) (D := D) (cT := cT) (n := n) (adK := adK) (adV := adV) h0 hr_2
  refine tt_cZ (pc := 3) (tt_vi E lmX12_345 mtX12_isFighter hc_3 h0 rfl rfl (Nat.le_of_ble_eq_true rfl) ⟨(Nat.le_of_ble_eq_true rfl), (Nat.le_of_ble_eq_true rfl)⟩ ⟨(Nat.le_of_ble_eq_true rfl), (Nat.le_of_ble_eq_true rfl)⟩ dX12_actKind_3) (fun z_4 => ?_)
  obtain ⟨r_5, hr_6, hf⟩ := bd_some hf
  have hc_7 := cX12_goes_ok (l := l) (B := B) (D := D) (cT := cT) (n := n) (adK := adK) (adV := adV) h0 z_4 hr_6
  refine tt_cZ (pc := 6) (tt_vi E lmX12_85 mtX12_goes hc_7 h0 rfl rfl (Nat.le_of_ble_eq_true rfl) ⟨(Nat.le_of_ble_eq_true rfl), (Nat.le_of_ble_eq_true rfl)⟩ ⟨(Nat.le_of_ble_eq_true rfl), (Nat.le_of_ble_eq_true rfl)⟩ dX12_actKind_6) (fun z_8 => ?_)
  refine tt_if_ne (pc := 9) (tgt := 14) E dX12_actKind_9 rfl (fun c_18 => ?_) (fun c_18 => ?_)
  · have hf := ine c_18 hf
    refine tt_aload_n (pc := 14) (i := 0) (j := 0) E dX12_actKind_14 rfl rfl ?_
    refine tt_iload_n (pc := 15) (i := 1) (j := 1) E dX12_actKind_15 rfl rfl ?_
    refine tt_iload_n (pc := 16) (i := 2) (j := 2) E dX12_actKind_16 rfl rfl ?_
    obtain ⟨r_9, hr_10, hf⟩ := bd_some hf
    have hc_11 := cX12_isAct_ok (l := l) (B := B) (D := D) (cT := cT) (n := n) (adK := adK) (adV := adV) h0 hr_10
    refine tt_cZ (pc := 17) (tt_vi E lmX12_354 mtX12_isAct hc_11 h0 rfl rfl (Nat.le_of_ble_eq_true rfl) ⟨(Nat.le_of_ble_eq_true rfl), (Nat.le_of_ble_eq_true rfl)⟩ ⟨(Nat.le_of_ble_eq_true rfl), (Nat.le_of_ble_eq_true rfl)⟩ dX12_actKind_17) (fun z_12 => ?_)
    refine tt_if_eq (pc := 20) (tgt := 40) E dX12_actKind_20 rfl (fun c_17 => ?_) (fun c_17 => ?_)
    · have hf := ip c_17 hf
      refine tt_iconst (pc := 40) (v := (-1)) E dX12_actKind_40 ic_m1 ?_
      exact tt_iret (pc := 41) E hr hlk dX12_actKind_41 (Nat.le_of_ble_eq_true rfl) (Nat.le_of_ble_eq_true rfl) hf
    · have hf := ine c_17 hf
      refine tt_aload_n (pc := 23) (i := 0) (j := 0) E dX12_actKind_23 rfl rfl ?_
      obtain ⟨q_13, hq_14, hf⟩ := bd_some hf
      refine tt_getP (pc := 24) (t := 11) E lfX12_20 rfl rfl h0 dX12_actKind_24 hq_14 (fun kq_15 => ?_)
      refine tt_bipush (pc := 27) (v := 100) E dX12_actKind_27 bc_100 ?_
      refine tt_bipush (pc := 29) (v := 6) E dX12_actKind_29 bc_6 ?_
      refine tt_iload_n (pc := 31) (i := 1) (j := 1) E dX12_actKind_31 rfl rfl ?_
      refine tt_imul (pc := 32) E dX12_actKind_32 ?_
      refine tt_iadd (pc := 33) E dX12_actKind_33 ?_
      refine tt_iload_n (pc := 34) (i := 2) (j := 2) E dX12_actKind_34 rfl rfl ?_
      refine tt_iadd (pc := 35) E dX12_actKind_35 ?_
      obtain ⟨g_16, hf⟩ := gd_some hf
      refine tt_iald (pc := 36) E kq_15 g_16 dX12_actKind_36 ?_
      refine tt_goto (pc := 37) (tgt := 41) E dX12_actKind_37 rfl ?_
      exact tt_iret (pc := 41) E hr hlk dX12_actKind_41 (Nat.le_of_ble_eq_true rfl) (Nat.le_of_ble_eq_true rfl) hf
  · have hf := ip c_18 hf
    refine tt_iconst (pc := 12) (v := 0) E dX12_actKind_12 ic_0 ?_
    exact tt_iret (pc := 13) E hr hlk dX12_actKind_13 (Nat.le_of_ble_eq_true rfl) (Nat.le_of_ble_eq_true rfl) hf
set_option maxHeartbeats 4000000 in
theorem cX12_actNumber_ok {l : Launch} {B : Nat} {D : va_G} {cT : Nat → ClassId} {n : Nat} {adK adV : Nat → Nat} {o0 : Nat} {v1 : Int32} {v2 : Int32} {μ : Mem} {res : Int32 × Mem} (h0 : isK n o0 9) (hf : fX12_actNumber o0 v1 v2 μ = some res) : MI l yX12_actNumber cX12_actNumber 3 (some .int) rmX12_actNumber B D cT (XW B adK adV) n [.ref (B + o0), .int v1, .int v2] μ res := by
  refine tt_ofW mtX12_actNumber.1 (Nat.le_of_ble_eq_true rfl) rfl ?_
  intro p e s m below meth c E0 hr hlk
  have E : EE p s m _ c cX12_actNumber 3 RX12 B D cT (XW B adK adV) := E0
  unfold fX12_actNumber at hf
  refine tt_aload_n (pc := 0) (i := 0) (j := 0) E dX12_actNumber_0 rfl rfl ?_
  refine tt_aload_n (pc := 1) (i := 0) (j := 0) E dX12_actNumber_1 rfl rfl ?_
  refine tt_iload_n (pc := 2) (i := 1) (j := 1) E dX12_actNumber_2 rfl rfl ?_
  obtain ⟨r_1, hr_2, hf⟩ := bd_some hf
  have hc_3 := cX12_isFighter_ok (l := l) (B := B) (D := D) (cT := cT) (n := n) (adK := adK) (adV := adV) h0 hr_2
  refine tt_cZ (pc := 3) (tt_vi E lmX12_345 mtX12_isFighter hc_3 h0 rfl rfl (Nat.le_of_ble_eq_true rfl) ⟨(Nat.le_of_ble_eq_true rfl), (Nat.le_of_ble_eq_true rfl)⟩ ⟨(Nat.le_of_ble_eq_true rfl), (Nat.le_of_ble_eq_true rfl)⟩ dX12_actNumber_3) (fun z_4 => ?_)
  obtain ⟨r_5, hr_6, hf⟩ := bd_some hf
  have hc_7 := cX12_goes_ok (l := l) (B := B) (D := D) (cT := cT) (n := n) (adK := adK) (adV := adV) h0 z_4 hr_6
  refine tt_cZ (pc := 6) (tt_vi E lmX12_85 mtX12_goes hc_7 h0 rfl rfl (Nat.le_of_ble_eq_true rfl) ⟨(Nat.le_of_ble_eq_true rfl), (Nat.le_of_ble_eq_true rfl)⟩ ⟨(Nat.le_of_ble_eq_true rfl), (Nat.le_of_ble_eq_true rfl)⟩ dX12_actNumber_6) (fun z_8 => ?_)
  refine tt_if_ne (pc := 9) (tgt := 14) E dX12_actNumber_9 rfl (fun c_18 => ?_) (fun c_18 => ?_)
  · have hf := ine c_18 hf
    refine tt_aload_n (pc := 14) (i := 0) (j := 0) E dX12_actNumber_14 rfl rfl ?_
    refine tt_iload_n (pc := 15) (i := 1) (j := 1) E dX12_actNumber_15 rfl rfl ?_
    refine tt_iload_n (pc := 16) (i := 2) (j := 2) E dX12_actNumber_16 rfl rfl ?_
    obtain ⟨r_9, hr_10, hf⟩ := bd_some hf
    have hc_11 := cX12_isAct_ok (l := l) (B := B) (D := D) (cT := cT) (n := n) (adK := adK) (adV := adV) h0 hr_10
    refine tt_cZ (pc := 17) (tt_vi E lmX12_354 mtX12_isAct hc_11 h0 rfl rfl (Nat.le_of_ble_eq_true rfl) ⟨(Nat.le_of_ble_eq_true rfl), (Nat.le_of_ble_eq_true rfl)⟩ ⟨(Nat.le_of_ble_eq_true rfl), (Nat.le_of_ble_eq_true rfl)⟩ dX12_actNumber_17) (fun z_12 => ?_)
    refine tt_if_eq (pc := 20) (tgt := 41) E dX12_actNumber_20 rfl (fun c_17 => ?_) (fun c_17 => ?_)
    · have hf := ip c_17 hf
      refine tt_iconst (pc := 41) (v := (-1)) E dX12_actNumber_41 ic_m1 ?_
      exact tt_iret (pc := 42) E hr hlk dX12_actNumber_42 (Nat.le_of_ble_eq_true rfl) (Nat.le_of_ble_eq_true rfl) hf
    · have hf := ine c_17 hf
      refine tt_aload_n (pc := 23) (i := 0) (j := 0) E dX12_actNumber_23 rfl rfl ?_
      obtain ⟨q_13, hq_14, hf⟩ := bd_some hf
      refine tt_getP (pc := 24) (t := 11) E lfX12_20 rfl rfl h0 dX12_actNumber_24 hq_14 (fun kq_15 => ?_)
      refine tt_sipush (pc := 27) (v := 148) E dX12_actNumber_27 sc_148 ?_
      refine tt_bipush (pc := 30) (v := 6) E dX12_actNumber_30 bc_6 ?_
      refine tt_iload_n (pc := 32) (i := 1) (j := 1) E dX12_actNumber_32 rfl rfl ?_
      refine tt_imul (pc := 33) E dX12_actNumber_33 ?_
      refine tt_iadd (pc := 34) E dX12_actNumber_34 ?_
      refine tt_iload_n (pc := 35) (i := 2) (j := 2) E dX12_actNumber_35 rfl rfl ?_
      refine tt_iadd (pc := 36) E dX12_actNumber_36 ?_
      obtain ⟨g_16, hf⟩ := gd_some hf
      refine tt_iald (pc := 37) E kq_15 g_16 dX12_actNumber_37 ?_
      refine tt_goto (pc := 38) (tgt := 42) E dX12_actNumber_38 rfl ?_
      exact tt_iret (pc := 42) E hr hlk dX12_actNumber_42 (Nat.le_of_ble_eq_true rfl) (Nat.le_of_ble_eq_true rfl) hf
  · have hf := ip c_18 hf
    refine tt_iconst (pc := 12) (v := 0) E dX12_actNumber_12 ic_0 ?_
    exact tt_iret (pc := 13) E hr hlk dX12_actNumber_13 (Nat.le_of_ble_eq_true rfl) (Nat.le_of_ble_eq_true rfl) hf
set_option maxHeartbeats 4000000 in
theorem tX12_lettersOf_4 {p : Program} {l : Launch} {e : Env} {s : State} {m : MethodId} {args : Array Value} {below : List Frame} {meth : Method} {c : Code} {B : Nat} {D : va_G} {cT : Nat → ClassId} {n : Nat} {adK adV : Nat → Nat} {res : Int32} (E : EE p s m args c cX12_lettersOf 5 RX12 B D cT (XW B adK adV)) (hr : meth.sig.returnType = some .int) (hlk : meth.locks = false) {μ : Mem} : ∀ (fu : Nat) (v2 : Int32) (v3 : Int64), zl2 (gX12_lettersOf_4 μ) fu v2 v3 = some res → TT p l e rmX12_lettersOf s m args below meth c (QI B D cT n below args s (res, μ)) 5 B D cT n 0 0 μ 4 [(2, .int v2), (3, .long v3)] [] := by
  intro fu
  induction fu with
  | zero => intro v2 v3 hf; exact absurd hf (fun h => by cases h)
  | succ fu ih =>
    intro v2 v3 hf
    have hf : gX12_lettersOf_4 μ (zl2 (gX12_lettersOf_4 μ) fu) v2 v3 = some res := hf
    unfold gX12_lettersOf_4 at hf
    refine tt_lload_n (pc := 4) (i := 3) (j := 1) E dX12_lettersOf_4 rfl rfl ?_
    refine tt_lconst (pc := 5) (v := 0) E dX12_lettersOf_5 lc_0 ?_
    refine tt_lcmp (pc := 6) E dX12_lettersOf_6 ?_
    refine tt_if_le (pc := 7) (tgt := 20) E dX12_lettersOf_7 rfl (fun c_3 => ?_) (fun c_3 => ?_)
    · have hf := ip c_3 hf
      refine tt_iload_n (pc := 20) (i := 2) (j := 0) E dX12_lettersOf_20 rfl rfl ?_
      exact tt_iret (pc := 21) E hr hlk dX12_lettersOf_21 (Nat.le_of_ble_eq_true rfl) (Nat.le_of_ble_eq_true rfl) (pv hf)
    · have hf := ine c_3 hf
      obtain ⟨v_1, ev_1, hf⟩ := nm_ex hf
      refine tt_iinc (pc := 10) (i := 2) (j := 0) (lv' := [(2, .int v_1), (3, .long v3)]) E dX12_lettersOf_10 rfl (ev_1).symm (Nat.le_of_ble_eq_true rfl) rfl ?_
      refine tt_lload_n (pc := 13) (i := 3) (j := 1) E dX12_lettersOf_13 rfl rfl ?_
      refine tt_iconst (pc := 14) (v := 5) E dX12_lettersOf_14 ic_5 ?_
      refine tt_lshr (pc := 15) E dX12_lettersOf_15 ?_
      refine tt_nmJ hf (fun v_2 hf => ?_)
      refine tt_lstore_n (pc := 16) (i := 3) (lv' := [(3, .long v_2), (2, .int v_1)]) E dX12_lettersOf_16 rfl (Nat.le_of_ble_eq_true rfl) rfl ?_
      refine tt_goto (pc := 17) (tgt := 4) E dX12_lettersOf_17 rfl ?_
      refine tt_sub [1, 0] (lv' := [(2, .int v_1), (3, .long v_2)]) rfl ?_
      exact ih v_1 v_2 hf
set_option maxHeartbeats 4000000 in
theorem cX12_lettersOf_ok {l : Launch} {B : Nat} {D : va_G} {cT : Nat → ClassId} {n : Nat} {adK adV : Nat → Nat} {v0 : Int64} {μ : Mem} {res : Int32} (hf : fX12_lettersOf v0 μ = some res) : MI l yX12_lettersOf cX12_lettersOf 5 (some .int) rmX12_lettersOf B D cT (XW B adK adV) n [.long v0] μ (res, μ) := by
  refine tt_ofW mtX12_lettersOf.1 (Nat.le_of_ble_eq_true rfl) rfl ?_
  intro p e s m below meth c E0 hr hlk
  have E : EE p s m _ c cX12_lettersOf 5 RX12 B D cT (XW B adK adV) := E0
  unfold fX12_lettersOf at hf
  refine tt_iconst (pc := 0) (v := 0) E dX12_lettersOf_0 ic_0 ?_
  refine tt_istore_n (pc := 1) (i := 2) (lv' := [(2, .int 0), (0, .long v0)]) E dX12_lettersOf_1 rfl (Nat.le_of_ble_eq_true rfl) rfl ?_
  refine tt_lload_n (pc := 2) (i := 0) (j := 1) E dX12_lettersOf_2 rfl rfl ?_
  refine tt_lstore_n (pc := 3) (i := 3) (lv' := [(3, .long v0), (2, .int 0), (0, .long v0)]) E dX12_lettersOf_3 rfl (Nat.le_of_ble_eq_true rfl) rfl ?_
  refine tt_sub [1, 0] (lv' := [(2, .int 0), (3, .long v0)]) rfl ?_
  exact tX12_lettersOf_4 E hr hlk FU 0 v0 hf
set_option maxHeartbeats 4000000 in
theorem cX12_letterOf_ok {l : Launch} {B : Nat} {D : va_G} {cT : Nat → ClassId} {n : Nat} {adK adV : Nat → Nat} {v0 : Int64} {v2 : Int32} {μ : Mem} {res : Int32} (hf : fX12_letterOf v0 v2 μ = some res) : MI l yX12_letterOf cX12_letterOf 4 (some .int) rmX12_letterOf B D cT (XW B adK adV) n [.long v0, .int v2] μ (res, μ) := by
  refine tt_ofW mtX12_letterOf.1 (Nat.le_of_ble_eq_true rfl) rfl ?_
  intro p e s m below meth c E0 hr hlk
  have E : EE p s m _ c cX12_letterOf 4 RX12 B D cT (XW B adK adV) := E0
  unfold fX12_letterOf at hf
  refine tt_lload_n (pc := 0) (i := 0) (j := 0) E dX12_letterOf_0 rfl rfl ?_
  obtain ⟨r_1, hr_2, hf⟩ := bd_some hf
  have hc_3 := cX12_lettersOf_ok (l := l) (B := B) (D := D) (cT := cT) (n := n) (adK := adK) (adV := adV) hr_2
  refine tt_cI (pc := 1) (tt_si E lmX12_357 mtX12_lettersOf hc_3 rfl rfl (Nat.le_of_ble_eq_true rfl) ⟨(Nat.le_of_ble_eq_true rfl), (Nat.le_of_ble_eq_true rfl)⟩ ⟨(Nat.le_of_ble_eq_true rfl), (Nat.le_of_ble_eq_true rfl)⟩ dX12_letterOf_1) ?_
  refine tt_istore_n (pc := 4) (i := 3) (lv' := [(3, .int r_1), (0, .long v0), (2, .int v2)]) E dX12_letterOf_4 rfl (Nat.le_of_ble_eq_true rfl) rfl ?_
  refine tt_iload_n (pc := 5) (i := 2) (j := 2) E dX12_letterOf_5 rfl rfl ?_
  refine tt_i2l (pc := 6) E dX12_letterOf_6 ?_
  refine tt_lconst (pc := 7) (v := 0) E dX12_letterOf_7 lc_0 ?_
  refine tt_iload_n (pc := 8) (i := 3) (j := 0) E dX12_letterOf_8 rfl rfl ?_
  refine tt_iconst (pc := 9) (v := 1) E dX12_letterOf_9 ic_1 ?_
  refine tt_isub (pc := 10) E dX12_letterOf_10 ?_
  refine tt_i2l (pc := 11) E dX12_letterOf_11 ?_
  obtain ⟨r_4, hr_5, hf⟩ := bd_some hf
  have hc_6 := cX12_isIn_ok (l := l) (B := B) (D := D) (cT := cT) (n := n) (adK := adK) (adV := adV) hr_5
  refine tt_cZ (pc := 12) (tt_si E lmX12_92 mtX12_isIn hc_6 rfl rfl (Nat.le_of_ble_eq_true rfl) ⟨(Nat.le_of_ble_eq_true rfl), (Nat.le_of_ble_eq_true rfl)⟩ ⟨(Nat.le_of_ble_eq_true rfl), (Nat.le_of_ble_eq_true rfl)⟩ dX12_letterOf_12) (fun z_7 => ?_)
  refine tt_if_eq (pc := 15) (tgt := 38) E dX12_letterOf_15 rfl (fun c_8 => ?_) (fun c_8 => ?_)
  · have hf := ip c_8 hf
    refine tt_iconst (pc := 38) (v := 0) E dX12_letterOf_38 ic_0 ?_
    exact tt_iret (pc := 39) E hr hlk dX12_letterOf_39 (Nat.le_of_ble_eq_true rfl) (Nat.le_of_ble_eq_true rfl) (pv hf)
  · have hf := ine c_8 hf
    refine tt_lload_n (pc := 18) (i := 0) (j := 1) E dX12_letterOf_18 rfl rfl ?_
    refine tt_iconst (pc := 19) (v := 5) E dX12_letterOf_19 ic_5 ?_
    refine tt_iload_n (pc := 20) (i := 3) (j := 0) E dX12_letterOf_20 rfl rfl ?_
    refine tt_iconst (pc := 21) (v := 1) E dX12_letterOf_21 ic_1 ?_
    refine tt_isub (pc := 22) E dX12_letterOf_22 ?_
    refine tt_iload_n (pc := 23) (i := 2) (j := 2) E dX12_letterOf_23 rfl rfl ?_
    refine tt_isub (pc := 24) E dX12_letterOf_24 ?_
    refine tt_imul (pc := 25) E dX12_letterOf_25 ?_
    refine tt_lshr (pc := 26) E dX12_letterOf_26 ?_
    refine tt_ldc2 (pc := 27) (v := 31) E dX12_letterOf_27 (gw_mem (mt8 (at_l 6 rfl)) rfl) ?_
    refine tt_land (pc := 30) E dX12_letterOf_30 ?_
    refine tt_l2i (pc := 31) E dX12_letterOf_31 ?_
    refine tt_bipush (pc := 32) (v := 96) E dX12_letterOf_32 bc_96 ?_
    refine tt_iadd (pc := 34) E dX12_letterOf_34 ?_
    refine tt_goto (pc := 35) (tgt := 39) E dX12_letterOf_35 rfl ?_
    exact tt_iret (pc := 39) E hr hlk dX12_letterOf_39 (Nat.le_of_ble_eq_true rfl) (Nat.le_of_ble_eq_true rfl) (pv hf)
set_option maxHeartbeats 4000000 in
theorem cX12_letter_ok {l : Launch} {B : Nat} {D : va_G} {cT : Nat → ClassId} {n : Nat} {adK adV : Nat → Nat} {o0 : Nat} {v1 : Int32} {v2 : Int32} {μ : Mem} {res : Int32 × Mem} (h0 : isK n o0 9) (hf : fX12_letter o0 v1 v2 μ = some res) : MI l yX12_letter cX12_letter 3 (some .int) rmX12_letter B D cT (XW B adK adV) n [.ref (B + o0), .int v1, .int v2] μ res := by
  refine tt_ofW mtX12_letter.1 (Nat.le_of_ble_eq_true rfl) rfl ?_
  intro p e s m below meth c E0 hr hlk
  have E : EE p s m _ c cX12_letter 3 RX12 B D cT (XW B adK adV) := E0
  unfold fX12_letter at hf
  refine tt_aload_n (pc := 0) (i := 0) (j := 0) E dX12_letter_0 rfl rfl ?_
  refine tt_aload_n (pc := 1) (i := 0) (j := 0) E dX12_letter_1 rfl rfl ?_
  refine tt_iload_n (pc := 2) (i := 1) (j := 1) E dX12_letter_2 rfl rfl ?_
  obtain ⟨r_1, hr_2, hf⟩ := bd_some hf
  have hc_3 := cX12_isFighter_ok (l := l) (B := B) (D := D) (cT := cT) (n := n) (adK := adK) (adV := adV) h0 hr_2
  refine tt_cZ (pc := 3) (tt_vi E lmX12_345 mtX12_isFighter hc_3 h0 rfl rfl (Nat.le_of_ble_eq_true rfl) ⟨(Nat.le_of_ble_eq_true rfl), (Nat.le_of_ble_eq_true rfl)⟩ ⟨(Nat.le_of_ble_eq_true rfl), (Nat.le_of_ble_eq_true rfl)⟩ dX12_letter_3) (fun z_4 => ?_)
  obtain ⟨r_5, hr_6, hf⟩ := bd_some hf
  have hc_7 := cX12_goes_ok (l := l) (B := B) (D := D) (cT := cT) (n := n) (adK := adK) (adV := adV) h0 z_4 hr_6
  refine tt_cZ (pc := 6) (tt_vi E lmX12_85 mtX12_goes hc_7 h0 rfl rfl (Nat.le_of_ble_eq_true rfl) ⟨(Nat.le_of_ble_eq_true rfl), (Nat.le_of_ble_eq_true rfl)⟩ ⟨(Nat.le_of_ble_eq_true rfl), (Nat.le_of_ble_eq_true rfl)⟩ dX12_letter_6) (fun z_8 => ?_)
  refine tt_if_eq (pc := 9) (tgt := 25) E dX12_letter_9 rfl (fun c_16 => ?_) (fun c_16 => ?_)
  · have hf := ip c_16 hf
    refine tt_iconst (pc := 25) (v := 0) E dX12_letter_25 ic_0 ?_
    exact tt_iret (pc := 26) E hr hlk dX12_letter_26 (Nat.le_of_ble_eq_true rfl) (Nat.le_of_ble_eq_true rfl) hf
  · have hf := ine c_16 hf
    refine tt_aload_n (pc := 12) (i := 0) (j := 0) E dX12_letter_12 rfl rfl ?_
    obtain ⟨q_9, hq_10, hf⟩ := bd_some hf
    refine tt_getP (pc := 13) (t := 12) E lfX12_35 rfl rfl h0 dX12_letter_13 hq_10 (fun kq_11 => ?_)
    refine tt_iload_n (pc := 16) (i := 1) (j := 1) E dX12_letter_16 rfl rfl ?_
    obtain ⟨g_12, hf⟩ := gd_some hf
    refine tt_lald (pc := 17) E kq_11 g_12 dX12_letter_17 ?_
    refine tt_iload_n (pc := 18) (i := 2) (j := 2) E dX12_letter_18 rfl rfl ?_
    obtain ⟨r_13, hr_14, hf⟩ := bd_some hf
    have hc_15 := cX12_letterOf_ok (l := l) (B := B) (D := D) (cT := cT) (n := n) (adK := adK) (adV := adV) hr_14
    refine tt_cI (pc := 19) (tt_si E lmX12_363 mtX12_letterOf hc_15 rfl rfl (Nat.le_of_ble_eq_true rfl) ⟨(Nat.le_of_ble_eq_true rfl), (Nat.le_of_ble_eq_true rfl)⟩ ⟨(Nat.le_of_ble_eq_true rfl), (Nat.le_of_ble_eq_true rfl)⟩ dX12_letter_19) ?_
    refine tt_goto (pc := 22) (tgt := 26) E dX12_letter_22 rfl ?_
    exact tt_iret (pc := 26) E hr hlk dX12_letter_26 (Nat.le_of_ble_eq_true rfl) (Nat.le_of_ble_eq_true rfl) hf
set_option maxHeartbeats 4000000 in
theorem cX12_ticksTo_ok {l : Launch} {B : Nat} {D : va_G} {cT : Nat → ClassId} {n : Nat} {adK adV : Nat → Nat} {o0 : Nat} {v1 : Int32} {μ : Mem} {res : Int32 × Mem} (h0 : isK n o0 9) (hf : fX12_ticksTo o0 v1 μ = some res) : MI l yX12_ticksTo cX12_ticksTo 2 (some .int) rmX12_ticksTo B D cT (XW B adK adV) n [.ref (B + o0), .int v1] μ res := by
  refine tt_ofW mtX12_ticksTo.1 (Nat.le_of_ble_eq_true rfl) rfl ?_
  intro p e s m below meth c E0 hr hlk
  have E : EE p s m _ c cX12_ticksTo 2 RX12 B D cT (XW B adK adV) := E0
  unfold fX12_ticksTo at hf
  refine tt_aload_n (pc := 0) (i := 0) (j := 0) E dX12_ticksTo_0 rfl rfl ?_
  refine tt_aload_n (pc := 1) (i := 0) (j := 0) E dX12_ticksTo_1 rfl rfl ?_
  refine tt_iload_n (pc := 2) (i := 1) (j := 1) E dX12_ticksTo_2 rfl rfl ?_
  obtain ⟨r_1, hr_2, hf⟩ := bd_some hf
  have hc_3 := cX12_isFighter_ok (l := l) (B := B) (D := D) (cT := cT) (n := n) (adK := adK) (adV := adV) h0 hr_2
  refine tt_cZ (pc := 3) (tt_vi E lmX12_345 mtX12_isFighter hc_3 h0 rfl rfl (Nat.le_of_ble_eq_true rfl) ⟨(Nat.le_of_ble_eq_true rfl), (Nat.le_of_ble_eq_true rfl)⟩ ⟨(Nat.le_of_ble_eq_true rfl), (Nat.le_of_ble_eq_true rfl)⟩ dX12_ticksTo_3) (fun z_4 => ?_)
  obtain ⟨r_5, hr_6, hf⟩ := bd_some hf
  have hc_7 := cX12_goes_ok (l := l) (B := B) (D := D) (cT := cT) (n := n) (adK := adK) (adV := adV) h0 z_4 hr_6
  refine tt_cZ (pc := 6) (tt_vi E lmX12_85 mtX12_goes hc_7 h0 rfl rfl (Nat.le_of_ble_eq_true rfl) ⟨(Nat.le_of_ble_eq_true rfl), (Nat.le_of_ble_eq_true rfl)⟩ ⟨(Nat.le_of_ble_eq_true rfl), (Nat.le_of_ble_eq_true rfl)⟩ dX12_ticksTo_6) (fun z_8 => ?_)
  refine tt_if_ne (pc := 9) (tgt := 14) E dX12_ticksTo_9 rfl (fun c_17 => ?_) (fun c_17 => ?_)
  · have hf := ine c_17 hf
    refine tt_aload_n (pc := 14) (i := 0) (j := 0) E dX12_ticksTo_14 rfl rfl ?_
    refine tt_iload_n (pc := 15) (i := 1) (j := 1) E dX12_ticksTo_15 rfl rfl ?_
    obtain ⟨r_9, hr_10, hf⟩ := bd_some hf
    have hc_11 := cX12_lives_ok (l := l) (B := B) (D := D) (cT := cT) (n := n) (adK := adK) (adV := adV) h0 hr_10
    refine tt_cZ (pc := 16) (tt_vi E lmX12_263 mtX12_lives hc_11 h0 rfl rfl (Nat.le_of_ble_eq_true rfl) ⟨(Nat.le_of_ble_eq_true rfl), (Nat.le_of_ble_eq_true rfl)⟩ ⟨(Nat.le_of_ble_eq_true rfl), (Nat.le_of_ble_eq_true rfl)⟩ dX12_ticksTo_16) (fun z_12 => ?_)
    refine tt_if_eq (pc := 19) (tgt := 30) E dX12_ticksTo_19 rfl (fun c_16 => ?_) (fun c_16 => ?_)
    · have hf := ip c_16 hf
      refine tt_iconst (pc := 30) (v := (-1)) E dX12_ticksTo_30 ic_m1 ?_
      exact tt_iret (pc := 31) E hr hlk dX12_ticksTo_31 (Nat.le_of_ble_eq_true rfl) (Nat.le_of_ble_eq_true rfl) hf
    · have hf := ine c_16 hf
      refine tt_aload_n (pc := 22) (i := 0) (j := 0) E dX12_ticksTo_22 rfl rfl ?_
      refine tt_iload_n (pc := 23) (i := 1) (j := 1) E dX12_ticksTo_23 rfl rfl ?_
      obtain ⟨r_13, hr_14, hf⟩ := bd_some hf
      have hc_15 := cX12_ticksFor_ok (l := l) (B := B) (D := D) (cT := cT) (n := n) (adK := adK) (adV := adV) h0 hr_14
      refine tt_cI (pc := 24) (tt_vi E lmX12_276 mtX12_ticksFor hc_15 h0 rfl rfl (Nat.le_of_ble_eq_true rfl) ⟨(Nat.le_of_ble_eq_true rfl), (Nat.le_of_ble_eq_true rfl)⟩ ⟨(Nat.le_of_ble_eq_true rfl), (Nat.le_of_ble_eq_true rfl)⟩ dX12_ticksTo_24) ?_
      refine tt_goto (pc := 27) (tgt := 31) E dX12_ticksTo_27 rfl ?_
      exact tt_iret (pc := 31) E hr hlk dX12_ticksTo_31 (Nat.le_of_ble_eq_true rfl) (Nat.le_of_ble_eq_true rfl) hf
  · have hf := ip c_17 hf
    refine tt_iconst (pc := 12) (v := 0) E dX12_ticksTo_12 ic_0 ?_
    exact tt_iret (pc := 13) E hr hlk dX12_ticksTo_13 (Nat.le_of_ble_eq_true rfl) (Nat.le_of_ble_eq_true rfl) hf
set_option maxHeartbeats 4000000 in
theorem cX12_isSooner_ok {l : Launch} {B : Nat} {D : va_G} {cT : Nat → ClassId} {n : Nat} {adK adV : Nat → Nat} {o0 : Nat} {v1 : Int32} {v2 : Int32} {μ : Mem} {res : Int32} (h0 : isK n o0 9) (hf : fX12_isSooner o0 v1 v2 μ = some res) : MZ l yX12_isSooner cX12_isSooner 5 (some .boolean) rmX12_isSooner B D cT (XW B adK adV) n [.ref (B + o0), .int v1, .int v2] μ (res, μ) := by
  refine tt_ofW mtX12_isSooner.1 (Nat.le_of_ble_eq_true rfl) rfl ?_
  intro p e s m below meth c E0 hr hlk
  have E : EE p s m _ c cX12_isSooner 5 RX12 B D cT (XW B adK adV) := E0
  unfold fX12_isSooner at hf
  refine tt_aload_n (pc := 0) (i := 0) (j := 0) E dX12_isSooner_0 rfl rfl ?_
  refine tt_iload_n (pc := 1) (i := 1) (j := 1) E dX12_isSooner_1 rfl rfl ?_
  obtain ⟨r_1, hr_2, hf⟩ := bd_some hf
  have hc_3 := cX12_ticksFor_ok (l := l) (B := B) (D := D) (cT := cT) (n := n) (adK := adK) (adV := adV) h0 hr_2
  refine tt_cI (pc := 2) (tt_vi E lmX12_276 mtX12_ticksFor hc_3 h0 rfl rfl (Nat.le_of_ble_eq_true rfl) ⟨(Nat.le_of_ble_eq_true rfl), (Nat.le_of_ble_eq_true rfl)⟩ ⟨(Nat.le_of_ble_eq_true rfl), (Nat.le_of_ble_eq_true rfl)⟩ dX12_isSooner_2) ?_
  refine tt_aload_n (pc := 5) (i := 0) (j := 0) E dX12_isSooner_5 rfl rfl ?_
  refine tt_iload_n (pc := 6) (i := 2) (j := 2) E dX12_isSooner_6 rfl rfl ?_
  obtain ⟨r_4, hr_5, hf⟩ := bd_some hf
  have hc_6 := cX12_ticksFor_ok (l := l) (B := B) (D := D) (cT := cT) (n := n) (adK := adK) (adV := adV) h0 hr_5
  refine tt_cI (pc := 7) (tt_vi E lmX12_276 mtX12_ticksFor hc_6 h0 rfl rfl (Nat.le_of_ble_eq_true rfl) ⟨(Nat.le_of_ble_eq_true rfl), (Nat.le_of_ble_eq_true rfl)⟩ ⟨(Nat.le_of_ble_eq_true rfl), (Nat.le_of_ble_eq_true rfl)⟩ dX12_isSooner_7) ?_
  refine tt_isub (pc := 10) E dX12_isSooner_10 ?_
  refine tt_nmI hf (fun v_7 hf => ?_)
  refine tt_istore_n (pc := 11) (i := 3) (lv' := [(3, .int v_7), (0, .ref (B + o0)), (1, .int v1), (2, .int v2)]) E dX12_isSooner_11 rfl (Nat.le_of_ble_eq_true rfl) rfl ?_
  refine tt_iload_n (pc := 12) (i := 3) (j := 0) E dX12_isSooner_12 rfl rfl ?_
  refine tt_if_eq (pc := 13) (tgt := 26) E dX12_isSooner_13 rfl (fun c_19 => ?_) (fun c_19 => ?_)
  · have hf := ip c_19 hf
    refine tt_aload_n (pc := 26) (i := 0) (j := 1) E dX12_isSooner_26 rfl rfl ?_
    refine tt_iload_n (pc := 27) (i := 1) (j := 2) E dX12_isSooner_27 rfl rfl ?_
    refine tt_iconst (pc := 28) (v := 3) E dX12_isSooner_28 ic_3 ?_
    obtain ⟨r_8, hr_9, hf⟩ := bd_some hf
    have hc_10 := cX12_of_ok (l := l) (B := B) (D := D) (cT := cT) (n := n) (adK := adK) (adV := adV) h0 hr_9
    refine tt_cI (pc := 29) (tt_vi E lmX12_192 mtX12_of hc_10 h0 rfl rfl (Nat.le_of_ble_eq_true rfl) ⟨(Nat.le_of_ble_eq_true rfl), (Nat.le_of_ble_eq_true rfl)⟩ ⟨(Nat.le_of_ble_eq_true rfl), (Nat.le_of_ble_eq_true rfl)⟩ dX12_isSooner_29) ?_
    refine tt_aload_n (pc := 32) (i := 0) (j := 1) E dX12_isSooner_32 rfl rfl ?_
    refine tt_iload_n (pc := 33) (i := 2) (j := 3) E dX12_isSooner_33 rfl rfl ?_
    refine tt_iconst (pc := 34) (v := 3) E dX12_isSooner_34 ic_3 ?_
    obtain ⟨r_11, hr_12, hf⟩ := bd_some hf
    have hc_13 := cX12_of_ok (l := l) (B := B) (D := D) (cT := cT) (n := n) (adK := adK) (adV := adV) h0 hr_12
    refine tt_cI (pc := 35) (tt_vi E lmX12_192 mtX12_of hc_13 h0 rfl rfl (Nat.le_of_ble_eq_true rfl) ⟨(Nat.le_of_ble_eq_true rfl), (Nat.le_of_ble_eq_true rfl)⟩ ⟨(Nat.le_of_ble_eq_true rfl), (Nat.le_of_ble_eq_true rfl)⟩ dX12_isSooner_35) ?_
    refine tt_isub (pc := 38) E dX12_isSooner_38 ?_
    refine tt_nmI hf (fun v_14 hf => ?_)
    refine tt_istore (pc := 39) (i := 4) (lv' := [(4, .int v_14), (3, .int v_7), (0, .ref (B + o0)), (1, .int v1), (2, .int v2)]) E dX12_isSooner_39 (Nat.le_of_ble_eq_true rfl) rfl ?_
    refine tt_iload (pc := 41) (i := 4) (j := 0) E dX12_isSooner_41 rfl ?_
    refine tt_if_gt (pc := 43) (tgt := 56) E dX12_isSooner_43 rfl (fun c_17 => ?_) (fun c_17 => ?_)
    · have hf := ip c_17 hf
      refine tt_iconst (pc := 56) (v := 1) E dX12_isSooner_56 ic_1 ?_
      refine tt_goto (pc := 57) (tgt := 61) E dX12_isSooner_57 rfl ?_
      exact tt_zret (pc := 61) E ((Or.inr rfl)) hr hlk dX12_isSooner_61 (Nat.le_of_ble_eq_true rfl) (Nat.le_of_ble_eq_true rfl) (pv hf)
    · have hf := ine c_17 hf
      refine tt_iload (pc := 46) (i := 4) (j := 0) E dX12_isSooner_46 rfl ?_
      refine tt_if_ne (pc := 48) (tgt := 60) E dX12_isSooner_48 rfl (fun c_16 => ?_) (fun c_16 => ?_)
      · have hf := ine c_16 hf
        refine tt_iconst (pc := 60) (v := 0) E dX12_isSooner_60 ic_0 ?_
        exact tt_zret (pc := 61) E ((Or.inl rfl)) hr hlk dX12_isSooner_61 (Nat.le_of_ble_eq_true rfl) (Nat.le_of_ble_eq_true rfl) (pv hf)
      · have hf := ip c_16 hf
        refine tt_iload_n (pc := 51) (i := 1) (j := 3) E dX12_isSooner_51 rfl rfl ?_
        refine tt_iload_n (pc := 52) (i := 2) (j := 4) E dX12_isSooner_52 rfl rfl ?_
        refine tt_icmp_ge (pc := 53) (tgt := 60) E dX12_isSooner_53 rfl (fun c_15 => ?_) (fun c_15 => ?_)
        · have hf := ip c_15 hf
          refine tt_iconst (pc := 60) (v := 0) E dX12_isSooner_60 ic_0 ?_
          exact tt_zret (pc := 61) E ((Or.inl rfl)) hr hlk dX12_isSooner_61 (Nat.le_of_ble_eq_true rfl) (Nat.le_of_ble_eq_true rfl) (pv hf)
        · have hf := ine c_15 hf
          refine tt_iconst (pc := 56) (v := 1) E dX12_isSooner_56 ic_1 ?_
          refine tt_goto (pc := 57) (tgt := 61) E dX12_isSooner_57 rfl ?_
          exact tt_zret (pc := 61) E ((Or.inr rfl)) hr hlk dX12_isSooner_61 (Nat.le_of_ble_eq_true rfl) (Nat.le_of_ble_eq_true rfl) (pv hf)
  · have hf := ine c_19 hf
    refine tt_iload_n (pc := 16) (i := 3) (j := 0) E dX12_isSooner_16 rfl rfl ?_
    refine tt_if_ge (pc := 17) (tgt := 24) E dX12_isSooner_17 rfl (fun c_18 => ?_) (fun c_18 => ?_)
    · have hf := ip c_18 hf
      refine tt_iconst (pc := 24) (v := 0) E dX12_isSooner_24 ic_0 ?_
      exact tt_zret (pc := 25) E ((Or.inl rfl)) hr hlk dX12_isSooner_25 (Nat.le_of_ble_eq_true rfl) (Nat.le_of_ble_eq_true rfl) (pv hf)
    · have hf := ine c_18 hf
      refine tt_iconst (pc := 20) (v := 1) E dX12_isSooner_20 ic_1 ?_
      refine tt_goto (pc := 21) (tgt := 25) E dX12_isSooner_21 rfl ?_
      exact tt_zret (pc := 25) E ((Or.inr rfl)) hr hlk dX12_isSooner_25 (Nat.le_of_ble_eq_true rfl) (Nat.le_of_ble_eq_true rfl) (pv hf)
