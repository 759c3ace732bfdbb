/-! the law's own methods: contracts -/
abbrev hhL_feed : List (Nat × Nat × Nat × Nat) := [(0, 16, 19, 13)]
theorem mtL_feed : MTw yL_feed cL_feed 8 (some .int) hhL_feed 7 := ⟨(gw_mem (mt1 (at_l 0 rfl)) rfl), (gw_mem (mt3 (at_l 127 rfl)) rfl), (by decide +kernel), (by decide +kernel), (gw_mem (mt3 (at_l 126 rfl)) rfl)⟩
abbrev hhL_truncate : List (Nat × Nat × Nat × Nat) := [(0, 9, 12, 19)]
theorem mtL_truncate : MTw yL_truncate cL_truncate 4 (some .int) hhL_truncate 3 := ⟨(gw_mem (mt1 (at_l 0 rfl)) rfl), (gw_mem (mt3 (at_l 210 rfl)) rfl), (by decide +kernel), (by decide +kernel), (gw_mem (mt3 (at_l 209 rfl)) rfl)⟩
abbrev hhL_readText : List (Nat × Nat × Nat × Nat) := [(0, 8, 11, 19)]
theorem mtL_readText : MTw yL_readText cL_readText 3 (some .int) hhL_readText 2 := ⟨(gw_mem (mt1 (at_l 0 rfl)) rfl), (gw_mem (mt3 (at_l 237 rfl)) rfl), (by decide +kernel), (by decide +kernel), (gw_mem (mt3 (at_l 236 rfl)) rfl)⟩
abbrev hhL_runScript : List (Nat × Nat × Nat × Nat) := [(0, 8, 11, 19)]
theorem mtL_runScript : MTw yL_runScript cL_runScript 3 (some .int) hhL_runScript 2 := ⟨(gw_mem (mt1 (at_l 0 rfl)) rfl), (gw_mem (mt4 (at_l 174 rfl)) rfl), (by decide +kernel), (by decide +kernel), (gw_mem (mt4 (at_l 173 rfl)) rfl)⟩
abbrev hhL_setting : List (Nat × Nat × Nat × Nat) := [(0, 9, 12, 19)]
theorem mtL_setting : MTw yL_setting cL_setting 4 (some .int) hhL_setting 3 := ⟨(gw_mem (mt1 (at_l 0 rfl)) rfl), (gw_mem (mt5 (at_l 58 rfl)) rfl), (by decide +kernel), (by decide +kernel), (gw_mem (mt5 (at_l 57 rfl)) rfl)⟩
abbrev hhL_fighter : List (Nat × Nat × Nat × Nat) := [(0, 10, 13, 35), (0, 10, 17, 19)]
theorem mtL_fighter : MTw yL_fighter cL_fighter 5 (some .int) hhL_fighter 4 := ⟨(gw_mem (mt1 (at_l 0 rfl)) rfl), (gw_mem (mt5 (at_l 67 rfl)) rfl), (by decide +kernel), (by decide +kernel), (gw_mem (mt5 (at_l 66 rfl)) rfl)⟩
abbrev hhL_actKind : List (Nat × Nat × Nat × Nat) := [(0, 10, 13, 35)]
theorem mtL_actKind : MTw yL_actKind cL_actKind 5 (some .int) hhL_actKind 4 := ⟨(gw_mem (mt1 (at_l 0 rfl)) rfl), (gw_mem (mt5 (at_l 97 rfl)) rfl), (by decide +kernel), (by decide +kernel), (gw_mem (mt5 (at_l 96 rfl)) rfl)⟩
abbrev hhL_actNumber : List (Nat × Nat × Nat × Nat) := [(0, 10, 13, 35)]
theorem mtL_actNumber : MTw yL_actNumber cL_actNumber 5 (some .int) hhL_actNumber 4 := ⟨(gw_mem (mt1 (at_l 0 rfl)) rfl), (gw_mem (mt5 (at_l 105 rfl)) rfl), (by decide +kernel), (by decide +kernel), (gw_mem (mt5 (at_l 104 rfl)) rfl)⟩
abbrev hhL_letter : List (Nat × Nat × Nat × Nat) := [(0, 10, 13, 35)]
theorem mtL_letter : MTw yL_letter cL_letter 5 (some .int) hhL_letter 4 := ⟨(gw_mem (mt1 (at_l 0 rfl)) rfl), (gw_mem (mt5 (at_l 113 rfl)) rfl), (by decide +kernel), (by decide +kernel), (gw_mem (mt5 (at_l 112 rfl)) rfl)⟩
abbrev hhL_ticksTo : List (Nat × Nat × Nat × Nat) := [(0, 9, 12, 35)]
theorem mtL_ticksTo : MTw yL_ticksTo cL_ticksTo 4 (some .int) hhL_ticksTo 3 := ⟨(gw_mem (mt1 (at_l 0 rfl)) rfl), (gw_mem (mt5 (at_l 121 rfl)) rfl), (by decide +kernel), (by decide +kernel), (gw_mem (mt5 (at_l 120 rfl)) rfl)⟩
abbrev hhL_turn : List (Nat × Nat × Nat × Nat) := [(0, 9, 12, 19)]
theorem mtL_turn : MTw yL_turn cL_turn 4 (some .int) hhL_turn 3 := ⟨(gw_mem (mt1 (at_l 0 rfl)) rfl), (gw_mem (mt5 (at_l 129 rfl)) rfl), (by decide +kernel), (by decide +kernel), (gw_mem (mt5 (at_l 128 rfl)) rfl)⟩
abbrev hhL_turnTime : List (Nat × Nat × Nat × Nat) := [(0, 9, 12, 19)]
theorem mtL_turnTime : MTw yL_turnTime cL_turnTime 4 (some .int) hhL_turnTime 3 := ⟨(gw_mem (mt1 (at_l 0 rfl)) rfl), (gw_mem (mt5 (at_l 136 rfl)) rfl), (by decide +kernel), (by decide +kernel), (gw_mem (mt5 (at_l 135 rfl)) rfl)⟩
abbrev hhL_turnKind : List (Nat × Nat × Nat × Nat) := [(0, 9, 12, 19)]
theorem mtL_turnKind : MTw yL_turnKind cL_turnKind 4 (some .int) hhL_turnKind 3 := ⟨(gw_mem (mt1 (at_l 0 rfl)) rfl), (gw_mem (mt5 (at_l 147 rfl)) rfl), (by decide +kernel), (by decide +kernel), (gw_mem (mt5 (at_l 146 rfl)) rfl)⟩
abbrev hhL_lifeIn : List (Nat × Nat × Nat × Nat) := [(0, 10, 13, 35), (0, 10, 17, 19)]
theorem mtL_lifeIn : MTw yL_lifeIn cL_lifeIn 5 (some .int) hhL_lifeIn 4 := ⟨(gw_mem (mt1 (at_l 0 rfl)) rfl), (gw_mem (mt5 (at_l 159 rfl)) rfl), (by decide +kernel), (by decide +kernel), (gw_mem (mt5 (at_l 158 rfl)) rfl)⟩
abbrev hhL_gaugeIn : List (Nat × Nat × Nat × Nat) := [(0, 10, 13, 35), (0, 10, 17, 19)]
theorem mtL_gaugeIn : MTw yL_gaugeIn cL_gaugeIn 5 (some .int) hhL_gaugeIn 4 := ⟨(gw_mem (mt1 (at_l 0 rfl)) rfl), (gw_mem (mt5 (at_l 170 rfl)) rfl), (by decide +kernel), (by decide +kernel), (gw_mem (mt5 (at_l 169 rfl)) rfl)⟩
abbrev hhL_turnsOf : List (Nat × Nat × Nat × Nat) := [(0, 10, 13, 35), (0, 10, 17, 19)]
theorem mtL_turnsOf : MTw yL_turnsOf cL_turnsOf 5 (some .int) hhL_turnsOf 4 := ⟨(gw_mem (mt1 (at_l 0 rfl)) rfl), (gw_mem (mt5 (at_l 177 rfl)) rfl), (by decide +kernel), (by decide +kernel), (gw_mem (mt5 (at_l 176 rfl)) rfl)⟩
abbrev hhL_longestRun : List (Nat × Nat × Nat × Nat) := [(0, 9, 12, 19)]
theorem mtL_longestRun : MTw yL_longestRun cL_longestRun 4 (some .int) hhL_longestRun 3 := ⟨(gw_mem (mt1 (at_l 0 rfl)) rfl), (gw_mem (mt5 (at_l 184 rfl)) rfl), (by decide +kernel), (by decide +kernel), (gw_mem (mt5 (at_l 183 rfl)) rfl)⟩
abbrev hhL_firstLoss : List (Nat × Nat × Nat × Nat) := [(0, 9, 12, 35)]
theorem mtL_firstLoss : MTw yL_firstLoss cL_firstLoss 4 (some .int) hhL_firstLoss 3 := ⟨(gw_mem (mt1 (at_l 0 rfl)) rfl), (gw_mem (mt5 (at_l 197 rfl)) rfl), (by decide +kernel), (by decide +kernel), (gw_mem (mt5 (at_l 196 rfl)) rfl)⟩
abbrev hhL_leastSpeed : List (Nat × Nat × Nat × Nat) := [(0, 9, 12, 35)]
theorem mtL_leastSpeed : MTw yL_leastSpeed cL_leastSpeed 4 (some .int) hhL_leastSpeed 3 := ⟨(gw_mem (mt1 (at_l 0 rfl)) rfl), (gw_mem (mt5 (at_l 209 rfl)) rfl), (by decide +kernel), (by decide +kernel), (gw_mem (mt5 (at_l 208 rfl)) rfl)⟩
abbrev hhL_bestPush : List (Nat × Nat × Nat × Nat) := [(0, 10, 13, 19)]
theorem mtL_bestPush : MTw yL_bestPush cL_bestPush 5 (some .int) hhL_bestPush 4 := ⟨(gw_mem (mt1 (at_l 0 rfl)) rfl), (gw_mem (mt5 (at_l 221 rfl)) rfl), (by decide +kernel), (by decide +kernel), (gw_mem (mt5 (at_l 220 rfl)) rfl)⟩
abbrev hhL_bestSwap : List (Nat × Nat × Nat × Nat) := [(0, 9, 12, 35)]
theorem mtL_bestSwap : MTw yL_bestSwap cL_bestSwap 4 (some .int) hhL_bestSwap 3 := ⟨(gw_mem (mt1 (at_l 0 rfl)) rfl), (gw_mem (mt5 (at_l 234 rfl)) rfl), (by decide +kernel), (by decide +kernel), (gw_mem (mt5 (at_l 233 rfl)) rfl)⟩
abbrev hhL_bestPlace : List (Nat × Nat × Nat × Nat) := [(0, 9, 12, 35)]
theorem mtL_bestPlace : MTw yL_bestPlace cL_bestPlace 4 (some .int) hhL_bestPlace 3 := ⟨(gw_mem (mt1 (at_l 0 rfl)) rfl), (gw_mem (mt6 (at_l 5 rfl)) rfl), (by decide +kernel), (by decide +kernel), (gw_mem (mt6 (at_l 4 rfl)) rfl)⟩
abbrev hhL_play : List (Nat × Nat × Nat × Nat) := [(0, 9, 12, 19), (0, 9, 15, 13)]
theorem mtL_play : MTw yL_play cL_play 4 (some .int) hhL_play 3 := ⟨(gw_mem (mt1 (at_l 0 rfl)) rfl), (gw_mem (mt6 (at_l 16 rfl)) rfl), (by decide +kernel), (by decide +kernel), (gw_mem (mt6 (at_l 15 rfl)) rfl)⟩
abbrev hhL_push : List (Nat × Nat × Nat × Nat) := [(0, 10, 13, 35), (0, 10, 17, 19), (0, 10, 21, 13)]
theorem mtL_push : MTw yL_push cL_push 5 (some .int) hhL_push 4 := ⟨(gw_mem (mt1 (at_l 0 rfl)) rfl), (gw_mem (mt6 (at_l 29 rfl)) rfl), (by decide +kernel), (by decide +kernel), (gw_mem (mt6 (at_l 28 rfl)) rfl)⟩
abbrev hhL_lift : List (Nat × Nat × Nat × Nat) := [(0, 10, 13, 35), (0, 10, 17, 19), (0, 10, 21, 13)]
theorem mtL_lift : MTw yL_lift cL_lift 5 (some .int) hhL_lift 4 := ⟨(gw_mem (mt1 (at_l 0 rfl)) rfl), (gw_mem (mt6 (at_l 38 rfl)) rfl), (by decide +kernel), (by decide +kernel), (gw_mem (mt6 (at_l 37 rfl)) rfl)⟩
abbrev hhL_extra : List (Nat × Nat × Nat × Nat) := [(0, 16, 19, 35), (0, 16, 22, 13)]
theorem mtL_extra : MTw yL_extra cL_extra 4 (some .int) hhL_extra 3 := ⟨(gw_mem (mt1 (at_l 0 rfl)) rfl), (gw_mem (mt6 (at_l 46 rfl)) rfl), (by decide +kernel), (by decide +kernel), (gw_mem (mt6 (at_l 45 rfl)) rfl)⟩
abbrev hhL_setSpeed : List (Nat × Nat × Nat × Nat) := [(0, 10, 13, 35), (0, 10, 17, 19)]
theorem mtL_setSpeed : MTw yL_setSpeed cL_setSpeed 5 (some .int) hhL_setSpeed 4 := ⟨(gw_mem (mt1 (at_l 0 rfl)) rfl), (gw_mem (mt6 (at_l 55 rfl)) rfl), (by decide +kernel), (by decide +kernel), (gw_mem (mt6 (at_l 54 rfl)) rfl)⟩
abbrev hhL_heal : List (Nat × Nat × Nat × Nat) := [(0, 10, 13, 35), (0, 10, 17, 19)]
theorem mtL_heal : MTw yL_heal cL_heal 5 (some .int) hhL_heal 4 := ⟨(gw_mem (mt1 (at_l 0 rfl)) rfl), (gw_mem (mt6 (at_l 63 rfl)) rfl), (by decide +kernel), (by decide +kernel), (gw_mem (mt6 (at_l 62 rfl)) rfl)⟩
abbrev hhL_setWheel : List (Nat × Nat × Nat × Nat) := [(0, 9, 12, 19)]
theorem mtL_setWheel : MTw yL_setWheel cL_setWheel 4 (some .int) hhL_setWheel 3 := ⟨(gw_mem (mt1 (at_l 0 rfl)) rfl), (gw_mem (mt6 (at_l 72 rfl)) rfl), (by decide +kernel), (by decide +kernel), (gw_mem (mt6 (at_l 71 rfl)) rfl)⟩
abbrev hhL_setAct : List (Nat × Nat × Nat × Nat) := [(0, 14, 17, 35), (0, 14, 21, 19)]
theorem mtL_setAct : MTw yL_setAct cL_setAct 7 (some .int) hhL_setAct 6 := ⟨(gw_mem (mt1 (at_l 0 rfl)) rfl), (gw_mem (mt6 (at_l 80 rfl)) rfl), (by decide +kernel), (by decide +kernel), (gw_mem (mt6 (at_l 79 rfl)) rfl)⟩
abbrev hhL_reportByte : List (Nat × Nat × Nat × Nat) := [(0, 9, 12, 35)]
theorem mtL_reportByte : MTw yL_reportByte cL_reportByte 4 (some .int) hhL_reportByte 3 := ⟨(gw_mem (mt1 (at_l 0 rfl)) rfl), (gw_mem (mt6 (at_l 89 rfl)) rfl), (by decide +kernel), (by decide +kernel), (gw_mem (mt6 (at_l 88 rfl)) rfl)⟩
abbrev hhL_restore : List (Nat × Nat × Nat × Nat) := [(0, 8, 11, 13)]
theorem mtL_restore : MTw yL_restore cL_restore 3 (some .int) hhL_restore 2 := ⟨(gw_mem (mt1 (at_l 0 rfl)) rfl), (gw_mem (mt6 (at_l 101 rfl)) rfl), (by decide +kernel), (by decide +kernel), (gw_mem (mt6 (at_l 100 rfl)) rfl)⟩
theorem bc_63 : (Int8.ofInt (63)).toInt32 = (63 : Int32) := by decide +kernel
set_option maxHeartbeats 4000000 in
theorem cL_feed_ok {l : Launch} {B : Nat} {D : va_G} {cT : Nat → ClassId} {n : Nat} {adK adV : Nat → Nat} {o0 : Nat} {v1 : Int32} {v2 : Int32} {v3 : Int32} {v4 : Int32} {v5 : Int32} {o6 : Nat} (hl0 : l.stackTraces = false) {μ : Mem} {res : Int32 × Mem} (h0 : isK n o0 8) (h6 : isK n o6 12) (hf : fL_feed o0 v1 v2 v3 v4 v5 o6 μ = some res) : MIw l yL_feed cL_feed 8 (some .int) hhL_feed rmL_feed B D cT (XW B adK adV) n [.ref (B + o0), .int v1, .int v2, .int v3, .int v4, .int v5, .ref (B + o6)] μ res := by
  refine tt_ofWL mtL_feed (Nat.le_of_ble_eq_true rfl) rfl ?_
  intro p e s m below meth c E0 hr hlk htab
  have E : EE p s m _ c cL_feed 8 RL B D cT (XW B adK adV) := E0
  unfold fL_feed at hf
  refine tt_aload (pc := 0) (i := 6) (j := 6) E dL_feed_0 rfl ?_
  refine tt_iconst (pc := 2) (v := 0) E dL_feed_2 ic_0 ?_
  refine tt_aload_n (pc := 3) (i := 0) (j := 0) E dL_feed_3 rfl rfl ?_
  refine tt_iload_n (pc := 4) (i := 1) (j := 1) E dL_feed_4 rfl rfl ?_
  refine tt_iload_n (pc := 5) (i := 2) (j := 2) E dL_feed_5 rfl rfl ?_
  refine tt_iload_n (pc := 6) (i := 3) (j := 3) E dL_feed_6 rfl rfl ?_
  refine tt_iload (pc := 7) (i := 4) (j := 4) E dL_feed_7 rfl ?_
  refine tt_iload (pc := 9) (i := 5) (j := 5) E dL_feed_9 rfl ?_
  obtain ⟨r_1, hr_2, hf⟩ := bd_some hf
  have hc_3 := cX11_feed_ok (l := l) (B := B) (D := D) (cT := cT) (n := n) (adK := adK) (adV := adV) hl0 h0 hr_2
  refine tx_cI (pc := 11) (tx_vi E lmL_7 mtX11_feed hc_3 h0 rfl rfl (Nat.le_of_ble_eq_true rfl) ⟨(Nat.le_of_ble_eq_true rfl), (Nat.le_of_ble_eq_true rfl)⟩ ⟨(Nat.le_of_ble_eq_true rfl), (Nat.le_of_ble_eq_true rfl)⟩ dL_feed_11) (fun k_4 m_5 hx_6 => ?_) (fun v_7 m_5 hx_6 => ?_)
  · subst hx_6
    have hf := xc_r hf
    by_cases x_0 : k_4 = 1
    · have hf := ip x_0 hf
      subst x_0
      refine tx_catch (pc := 11) (i := 0) E htab (by decide) rfl (by decide) (gw_mem (mt3 (at_l 128 rfl)) rfl) (fun j hj => absurd hj (by omega)) (fun qx => ?_)
      refine tt_astore (pc := 19) (i := 7) (lv' := [(7, .ref qx), (0, .ref (B + o0)), (1, .int v1), (2, .int v2), (3, .int v3), (4, .int v4), (5, .int v5), (6, .ref (B + o6))]) E dL_feed_19 (Nat.le_of_ble_eq_true rfl) rfl ?_
      refine tt_iconst (pc := 21) (v := 1) E dL_feed_21 ic_1 ?_
      exact tt_iret (pc := 22) E hr hlk dL_feed_22 (Nat.le_of_ble_eq_true rfl) (Nat.le_of_ble_eq_true rfl) hf
    have hf := ine x_0 hf
    exact absurd hf (fun h => by cases h)
  subst hx_6
  have hf := xc_l hf
  refine tt_i2l (pc := 14) E dL_feed_14 ?_
  obtain ⟨g_8, hf⟩ := gd_some hf
  refine tt_last (pc := 15) E h6 g_8 dL_feed_15 (tt_nmM hf (fun m_9 hf => ?_))
  refine tt_goto (pc := 16) (tgt := 23) E dL_feed_16 rfl ?_
  refine tt_iconst (pc := 23) (v := 0) E dL_feed_23 ic_0 ?_
  exact tt_iret (pc := 24) E hr hlk dL_feed_24 (Nat.le_of_ble_eq_true rfl) (Nat.le_of_ble_eq_true rfl) hf
set_option maxHeartbeats 4000000 in
theorem cL_truncate_ok {l : Launch} {B : Nat} {D : va_G} {cT : Nat → ClassId} {n : Nat} {adK adV : Nat → Nat} {o0 : Nat} {v1 : Int32} {o2 : Nat} (hl0 : l.stackTraces = false) {μ : Mem} {res : Int32 × Mem} (h0 : isK n o0 8) (h2 : isK n o2 12) (hf : fL_truncate o0 v1 o2 μ = some res) : MIw l yL_truncate cL_truncate 4 (some .int) hhL_truncate rmL_truncate B D cT (XW B adK adV) n [.ref (B + o0), .int v1, .ref (B + o2)] μ res := by
  refine tt_ofWL mtL_truncate (Nat.le_of_ble_eq_true rfl) rfl ?_
  intro p e s m below meth c E0 hr hlk htab
  have E : EE p s m _ c cL_truncate 4 RL B D cT (XW B adK adV) := E0
  unfold fL_truncate at hf
  refine tt_aload_n (pc := 0) (i := 2) (j := 2) E dL_truncate_0 rfl rfl ?_
  refine tt_iconst (pc := 1) (v := 0) E dL_truncate_1 ic_0 ?_
  refine tt_aload_n (pc := 2) (i := 0) (j := 0) E dL_truncate_2 rfl rfl ?_
  refine tt_iload_n (pc := 3) (i := 1) (j := 1) E dL_truncate_3 rfl rfl ?_
  obtain ⟨r_1, hr_2, hf⟩ := bd_some hf
  have hc_3 := cX11_truncate_ok (l := l) (B := B) (D := D) (cT := cT) (n := n) (adK := adK) (adV := adV) hl0 h0 hr_2
  refine tx_cI (pc := 4) (tx_vi E lmL_15 mtX11_truncate hc_3 h0 rfl rfl (Nat.le_of_ble_eq_true rfl) ⟨(Nat.le_of_ble_eq_true rfl), (Nat.le_of_ble_eq_true rfl)⟩ ⟨(Nat.le_of_ble_eq_true rfl), (Nat.le_of_ble_eq_true rfl)⟩ dL_truncate_4) (fun k_4 m_5 hx_6 => ?_) (fun v_7 m_5 hx_6 => ?_)
  · subst hx_6
    have hf := xc_r hf
    by_cases x_0 : k_4 = 0
    · have hf := ip x_0 hf
      subst x_0
      refine tx_catch (pc := 4) (i := 0) E htab (by decide) rfl (by decide) (gw_mem (mt3 (at_l 211 rfl)) rfl) (fun j hj => absurd hj (by omega)) (fun qx => ?_)
      refine tt_astore_n (pc := 12) (i := 3) (lv' := [(3, .ref qx), (0, .ref (B + o0)), (1, .int v1), (2, .ref (B + o2))]) E dL_truncate_12 rfl (Nat.le_of_ble_eq_true rfl) rfl ?_
      refine tt_iconst (pc := 13) (v := 1) E dL_truncate_13 ic_1 ?_
      exact tt_iret (pc := 14) E hr hlk dL_truncate_14 (Nat.le_of_ble_eq_true rfl) (Nat.le_of_ble_eq_true rfl) hf
    have hf := ine x_0 hf
    exact absurd hf (fun h => by cases h)
  subst hx_6
  have hf := xc_l hf
  refine tt_i2l (pc := 7) E dL_truncate_7 ?_
  obtain ⟨g_8, hf⟩ := gd_some hf
  refine tt_last (pc := 8) E h2 g_8 dL_truncate_8 (tt_nmM hf (fun m_9 hf => ?_))
  refine tt_goto (pc := 9) (tgt := 15) E dL_truncate_9 rfl ?_
  refine tt_iconst (pc := 15) (v := 0) E dL_truncate_15 ic_0 ?_
  exact tt_iret (pc := 16) E hr hlk dL_truncate_16 (Nat.le_of_ble_eq_true rfl) (Nat.le_of_ble_eq_true rfl) hf
set_option maxHeartbeats 4000000 in
theorem cL_readText_ok {l : Launch} {B : Nat} {D : va_G} {cT : Nat → ClassId} {n : Nat} {adK adV : Nat → Nat} {o0 : Nat} {o1 : Nat} (hl0 : l.stackTraces = false) {μ : Mem} {res : Int32 × Mem} (h0 : isK n o0 8) (h1 : isK n o1 12) (hf : fL_readText o0 o1 μ = some res) : MIw l yL_readText cL_readText 3 (some .int) hhL_readText rmL_readText B D cT (XW B adK adV) n [.ref (B + o0), .ref (B + o1)] μ res := by
  refine tt_ofWL mtL_readText (Nat.le_of_ble_eq_true rfl) rfl ?_
  intro p e s m below meth c E0 hr hlk htab
  have E : EE p s m _ c cL_readText 3 RL B D cT (XW B adK adV) := E0
  unfold fL_readText at hf
  refine tt_aload_n (pc := 0) (i := 1) (j := 1) E dL_readText_0 rfl rfl ?_
  refine tt_iconst (pc := 1) (v := 0) E dL_readText_1 ic_0 ?_
  refine tt_aload_n (pc := 2) (i := 0) (j := 0) E dL_readText_2 rfl rfl ?_
  obtain ⟨r_1, hr_2, hf⟩ := bd_some hf
  have hc_3 := cX11_readText_ok (l := l) (B := B) (D := D) (cT := cT) (n := n) (adK := adK) (adV := adV) hl0 h0 hr_2
  refine tx_cI (pc := 3) (tx_vi E lmL_21 mtX11_readText hc_3 h0 rfl rfl (Nat.le_of_ble_eq_true rfl) ⟨(Nat.le_of_ble_eq_true rfl), (Nat.le_of_ble_eq_true rfl)⟩ ⟨(Nat.le_of_ble_eq_true rfl), (Nat.le_of_ble_eq_true rfl)⟩ dL_readText_3) (fun k_4 m_5 hx_6 => ?_) (fun v_7 m_5 hx_6 => ?_)
  · subst hx_6
    have hf := xc_r hf
    by_cases x_0 : k_4 = 0
    · have hf := ip x_0 hf
      subst x_0
      refine tx_catch (pc := 3) (i := 0) E htab (by decide) rfl (by decide) (gw_mem (mt3 (at_l 211 rfl)) rfl) (fun j hj => absurd hj (by omega)) (fun qx => ?_)
      refine tt_astore_n (pc := 11) (i := 2) (lv' := [(2, .ref qx), (0, .ref (B + o0)), (1, .ref (B + o1))]) E dL_readText_11 rfl (Nat.le_of_ble_eq_true rfl) rfl ?_
      refine tt_iconst (pc := 12) (v := 1) E dL_readText_12 ic_1 ?_
      exact tt_iret (pc := 13) E hr hlk dL_readText_13 (Nat.le_of_ble_eq_true rfl) (Nat.le_of_ble_eq_true rfl) hf
    have hf := ine x_0 hf
    exact absurd hf (fun h => by cases h)
  subst hx_6
  have hf := xc_l hf
  refine tt_i2l (pc := 6) E dL_readText_6 ?_
  obtain ⟨g_8, hf⟩ := gd_some hf
  refine tt_last (pc := 7) E h1 g_8 dL_readText_7 (tt_nmM hf (fun m_9 hf => ?_))
  refine tt_goto (pc := 8) (tgt := 14) E dL_readText_8 rfl ?_
  refine tt_iconst (pc := 14) (v := 0) E dL_readText_14 ic_0 ?_
  exact tt_iret (pc := 15) E hr hlk dL_readText_15 (Nat.le_of_ble_eq_true rfl) (Nat.le_of_ble_eq_true rfl) hf
set_option maxHeartbeats 4000000 in
theorem cL_runScript_ok {l : Launch} {B : Nat} {D : va_G} {cT : Nat → ClassId} {n : Nat} {adK adV : Nat → Nat} {o0 : Nat} {o1 : Nat} (hl0 : l.stackTraces = false) {μ : Mem} {res : Int32 × Mem} (h0 : isK n o0 8) (h1 : isK n o1 12) (hf : fL_runScript o0 o1 μ = some res) : MIw l yL_runScript cL_runScript 3 (some .int) hhL_runScript rmL_runScript B D cT (XW B adK adV) n [.ref (B + o0), .ref (B + o1)] μ res := by
  refine tt_ofWL mtL_runScript (Nat.le_of_ble_eq_true rfl) rfl ?_
  intro p e s m below meth c E0 hr hlk htab
  have E : EE p s m _ c cL_runScript 3 RL B D cT (XW B adK adV) := E0
  unfold fL_runScript at hf
  refine tt_aload_n (pc := 0) (i := 1) (j := 1) E dL_runScript_0 rfl rfl ?_
  refine tt_iconst (pc := 1) (v := 0) E dL_runScript_1 ic_0 ?_
  refine tt_aload_n (pc := 2) (i := 0) (j := 0) E dL_runScript_2 rfl rfl ?_
  obtain ⟨r_1, hr_2, hf⟩ := bd_some hf
  have hc_3 := cX11_runScript_ok (l := l) (B := B) (D := D) (cT := cT) (n := n) (adK := adK) (adV := adV) hl0 h0 hr_2
  refine tx_cI (pc := 3) (tx_vi E lmL_25 mtX11_runScript hc_3 h0 rfl rfl (Nat.le_of_ble_eq_true rfl) ⟨(Nat.le_of_ble_eq_true rfl), (Nat.le_of_ble_eq_true rfl)⟩ ⟨(Nat.le_of_ble_eq_true rfl), (Nat.le_of_ble_eq_true rfl)⟩ dL_runScript_3) (fun k_4 m_5 hx_6 => ?_) (fun v_7 m_5 hx_6 => ?_)
  · subst hx_6
    have hf := xc_r hf
    by_cases x_0 : k_4 = 0
    · have hf := ip x_0 hf
      subst x_0
      refine tx_catch (pc := 3) (i := 0) E htab (by decide) rfl (by decide) (gw_mem (mt3 (at_l 211 rfl)) rfl) (fun j hj => absurd hj (by omega)) (fun qx => ?_)
      refine tt_astore_n (pc := 11) (i := 2) (lv' := [(2, .ref qx), (0, .ref (B + o0)), (1, .ref (B + o1))]) E dL_runScript_11 rfl (Nat.le_of_ble_eq_true rfl) rfl ?_
      refine tt_iconst (pc := 12) (v := 1) E dL_runScript_12 ic_1 ?_
      exact tt_iret (pc := 13) E hr hlk dL_runScript_13 (Nat.le_of_ble_eq_true rfl) (Nat.le_of_ble_eq_true rfl) hf
    have hf := ine x_0 hf
    exact absurd hf (fun h => by cases h)
  subst hx_6
  have hf := xc_l hf
  refine tt_i2l (pc := 6) E dL_runScript_6 ?_
  obtain ⟨g_8, hf⟩ := gd_some hf
  refine tt_last (pc := 7) E h1 g_8 dL_runScript_7 (tt_nmM hf (fun m_9 hf => ?_))
  refine tt_goto (pc := 8) (tgt := 14) E dL_runScript_8 rfl ?_
  refine tt_iconst (pc := 14) (v := 0) E dL_runScript_14 ic_0 ?_
  exact tt_iret (pc := 15) E hr hlk dL_runScript_15 (Nat.le_of_ble_eq_true rfl) (Nat.le_of_ble_eq_true rfl) hf
set_option maxHeartbeats 4000000 in
theorem cL_setting_ok {l : Launch} {B : Nat} {D : va_G} {cT : Nat → ClassId} {n : Nat} {adK adV : Nat → Nat} {o0 : Nat} {v1 : Int32} {o2 : Nat} (hl0 : l.stackTraces = false) {μ : Mem} {res : Int32 × Mem} (h0 : isK n o0 8) (h2 : isK n o2 12) (hf : fL_setting o0 v1 o2 μ = some res) : MIw l yL_setting cL_setting 4 (some .int) hhL_setting rmL_setting B D cT (XW B adK adV) n [.ref (B + o0), .int v1, .ref (B + o2)] μ res := by
  refine tt_ofWL mtL_setting (Nat.le_of_ble_eq_true rfl) rfl ?_
  intro p e s m below meth c E0 hr hlk htab
  have E : EE p s m _ c cL_setting 4 RL B D cT (XW B adK adV) := E0
  unfold fL_setting at hf
  refine tt_aload_n (pc := 0) (i := 2) (j := 2) E dL_setting_0 rfl rfl ?_
  refine tt_iconst (pc := 1) (v := 0) E dL_setting_1 ic_0 ?_
  refine tt_aload_n (pc := 2) (i := 0) (j := 0) E dL_setting_2 rfl rfl ?_
  refine tt_iload_n (pc := 3) (i := 1) (j := 1) E dL_setting_3 rfl rfl ?_
  obtain ⟨r_1, hr_2, hf⟩ := bd_some hf
  have hc_3 := cX11_setting_ok (l := l) (B := B) (D := D) (cT := cT) (n := n) (adK := adK) (adV := adV) hl0 h0 hr_2
  refine tx_cI (pc := 4) (tx_vi E lmL_28 mtX11_setting hc_3 h0 rfl rfl (Nat.le_of_ble_eq_true rfl) ⟨(Nat.le_of_ble_eq_true rfl), (Nat.le_of_ble_eq_true rfl)⟩ ⟨(Nat.le_of_ble_eq_true rfl), (Nat.le_of_ble_eq_true rfl)⟩ dL_setting_4) (fun k_4 m_5 hx_6 => ?_) (fun v_7 m_5 hx_6 => ?_)
  · subst hx_6
    have hf := xc_r hf
    by_cases x_0 : k_4 = 0
    · have hf := ip x_0 hf
      subst x_0
      refine tx_catch (pc := 4) (i := 0) E htab (by decide) rfl (by decide) (gw_mem (mt3 (at_l 211 rfl)) rfl) (fun j hj => absurd hj (by omega)) (fun qx => ?_)
      refine tt_astore_n (pc := 12) (i := 3) (lv' := [(3, .ref qx), (0, .ref (B + o0)), (1, .int v1), (2, .ref (B + o2))]) E dL_setting_12 rfl (Nat.le_of_ble_eq_true rfl) rfl ?_
      refine tt_iconst (pc := 13) (v := 1) E dL_setting_13 ic_1 ?_
      exact tt_iret (pc := 14) E hr hlk dL_setting_14 (Nat.le_of_ble_eq_true rfl) (Nat.le_of_ble_eq_true rfl) hf
    have hf := ine x_0 hf
    exact absurd hf (fun h => by cases h)
  subst hx_6
  have hf := xc_l hf
  refine tt_i2l (pc := 7) E dL_setting_7 ?_
  obtain ⟨g_8, hf⟩ := gd_some hf
  refine tt_last (pc := 8) E h2 g_8 dL_setting_8 (tt_nmM hf (fun m_9 hf => ?_))
  refine tt_goto (pc := 9) (tgt := 15) E dL_setting_9 rfl ?_
  refine tt_iconst (pc := 15) (v := 0) E dL_setting_15 ic_0 ?_
  exact tt_iret (pc := 16) E hr hlk dL_setting_16 (Nat.le_of_ble_eq_true rfl) (Nat.le_of_ble_eq_true rfl) hf
set_option maxHeartbeats 4000000 in
theorem cL_fighter_ok {l : Launch} {B : Nat} {D : va_G} {cT : Nat → ClassId} {n : Nat} {adK adV : Nat → Nat} {o0 : Nat} {v1 : Int32} {v2 : Int32} {o3 : Nat} (hl0 : l.stackTraces = false) {μ : Mem} {res : Int32 × Mem} (h0 : isK n o0 8) (h3 : isK n o3 12) (hf : fL_fighter o0 v1 v2 o3 μ = some res) : MIw l yL_fighter cL_fighter 5 (some .int) hhL_fighter rmL_fighter B D cT (XW B adK adV) n [.ref (B + o0), .int v1, .int v2, .ref (B + o3)] μ res := by
  refine tt_ofWL mtL_fighter (Nat.le_of_ble_eq_true rfl) rfl ?_
  intro p e s m below meth c E0 hr hlk htab
  have E : EE p s m _ c cL_fighter 5 RL B D cT (XW B adK adV) := E0
  unfold fL_fighter at hf
  refine tt_aload_n (pc := 0) (i := 3) (j := 3) E dL_fighter_0 rfl rfl ?_
  refine tt_iconst (pc := 1) (v := 0) E dL_fighter_1 ic_0 ?_
  refine tt_aload_n (pc := 2) (i := 0) (j := 0) E dL_fighter_2 rfl rfl ?_
  refine tt_iload_n (pc := 3) (i := 1) (j := 1) E dL_fighter_3 rfl rfl ?_
  refine tt_iload_n (pc := 4) (i := 2) (j := 2) E dL_fighter_4 rfl rfl ?_
  obtain ⟨r_1, hr_2, hf⟩ := bd_some hf
  have hc_3 := cX11_fighter_ok (l := l) (B := B) (D := D) (cT := cT) (n := n) (adK := adK) (adV := adV) hl0 h0 hr_2
  refine tx_cI (pc := 5) (tx_vi E lmL_31 mtX11_fighter hc_3 h0 rfl rfl (Nat.le_of_ble_eq_true rfl) ⟨(Nat.le_of_ble_eq_true rfl), (Nat.le_of_ble_eq_true rfl)⟩ ⟨(Nat.le_of_ble_eq_true rfl), (Nat.le_of_ble_eq_true rfl)⟩ dL_fighter_5) (fun k_4 m_5 hx_6 => ?_) (fun v_7 m_5 hx_6 => ?_)
  · subst hx_6
    have hf := xc_r hf
    by_cases x_0 : k_4 = 2
    · have hf := ip x_0 hf
      subst x_0
      refine tx_catch (pc := 5) (i := 0) E htab (by decide) rfl (by decide) (gw_mem (mt5 (at_l 68 rfl)) rfl) (fun j hj => absurd hj (by omega)) (fun qx => ?_)
      refine tt_astore (pc := 13) (i := 4) (lv' := [(4, .ref qx), (0, .ref (B + o0)), (1, .int v1), (2, .int v2), (3, .ref (B + o3))]) E dL_fighter_13 (Nat.le_of_ble_eq_true rfl) rfl ?_
      refine tt_iconst (pc := 15) (v := 1) E dL_fighter_15 ic_1 ?_
      exact tt_iret (pc := 16) E hr hlk dL_fighter_16 (Nat.le_of_ble_eq_true rfl) (Nat.le_of_ble_eq_true rfl) hf
    have hf := ine x_0 hf
    by_cases x_1 : k_4 = 0
    · have hf := ip x_1 hf
      subst x_1
      refine tx_catch (pc := 5) (i := 1) E htab (by decide) rfl (by decide) (gw_mem (mt3 (at_l 211 rfl)) rfl) (fun j hj q hq => by
          rcases (show j = 0 by omega) with rfl
          · cases hq; exact ⟨by decide, 2, by decide, by decide, (gw_mem (mt5 (at_l 68 rfl)) rfl)⟩) (fun qx => ?_)
      refine tt_astore (pc := 17) (i := 4) (lv' := [(4, .ref qx), (0, .ref (B + o0)), (1, .int v1), (2, .int v2), (3, .ref (B + o3))]) E dL_fighter_17 (Nat.le_of_ble_eq_true rfl) rfl ?_
      refine tt_iconst (pc := 19) (v := 2) E dL_fighter_19 ic_2 ?_
      exact tt_iret (pc := 20) E hr hlk dL_fighter_20 (Nat.le_of_ble_eq_true rfl) (Nat.le_of_ble_eq_true rfl) hf
    have hf := ine x_1 hf
    exact absurd hf (fun h => by cases h)
  subst hx_6
  have hf := xc_l hf
  refine tt_i2l (pc := 8) E dL_fighter_8 ?_
  obtain ⟨g_8, hf⟩ := gd_some hf
  refine tt_last (pc := 9) E h3 g_8 dL_fighter_9 (tt_nmM hf (fun m_9 hf => ?_))
  refine tt_goto (pc := 10) (tgt := 21) E dL_fighter_10 rfl ?_
  refine tt_iconst (pc := 21) (v := 0) E dL_fighter_21 ic_0 ?_
  exact tt_iret (pc := 22) E hr hlk dL_fighter_22 (Nat.le_of_ble_eq_true rfl) (Nat.le_of_ble_eq_true rfl) hf
set_option maxHeartbeats 4000000 in
theorem cL_actKind_ok {l : Launch} {B : Nat} {D : va_G} {cT : Nat → ClassId} {n : Nat} {adK adV : Nat → Nat} {o0 : Nat} {v1 : Int32} {v2 : Int32} {o3 : Nat} (hl0 : l.stackTraces = false) {μ : Mem} {res : Int32 × Mem} (h0 : isK n o0 8) (h3 : isK n o3 12) (hf : fL_actKind o0 v1 v2 o3 μ = some res) : MIw l yL_actKind cL_actKind 5 (some .int) hhL_actKind rmL_actKind B D cT (XW B adK adV) n [.ref (B + o0), .int v1, .int v2, .ref (B + o3)] μ res := by
  refine tt_ofWL mtL_actKind (Nat.le_of_ble_eq_true rfl) rfl ?_
  intro p e s m below meth c E0 hr hlk htab
  have E : EE p s m _ c cL_actKind 5 RL B D cT (XW B adK adV) := E0
  unfold fL_actKind at hf
  refine tt_aload_n (pc := 0) (i := 3) (j := 3) E dL_actKind_0 rfl rfl ?_
  refine tt_iconst (pc := 1) (v := 0) E dL_actKind_1 ic_0 ?_
  refine tt_aload_n (pc := 2) (i := 0) (j := 0) E dL_actKind_2 rfl rfl ?_
  refine tt_iload_n (pc := 3) (i := 1) (j := 1) E dL_actKind_3 rfl rfl ?_
  refine tt_iload_n (pc := 4) (i := 2) (j := 2) E dL_actKind_4 rfl rfl ?_
  obtain ⟨r_1, hr_2, hf⟩ := bd_some hf
  have hc_3 := cX11_actKind_ok (l := l) (B := B) (D := D) (cT := cT) (n := n) (adK := adK) (adV := adV) hl0 h0 hr_2
  refine tx_cI (pc := 5) (tx_vi E lmL_37 mtX11_actKind hc_3 h0 rfl rfl (Nat.le_of_ble_eq_true rfl) ⟨(Nat.le_of_ble_eq_true rfl), (Nat.le_of_ble_eq_true rfl)⟩ ⟨(Nat.le_of_ble_eq_true rfl), (Nat.le_of_ble_eq_true rfl)⟩ dL_actKind_5) (fun k_4 m_5 hx_6 => ?_) (fun v_7 m_5 hx_6 => ?_)
  · subst hx_6
    have hf := xc_r hf
    by_cases x_0 : k_4 = 2
    · have hf := ip x_0 hf
      subst x_0
      refine tx_catch (pc := 5) (i := 0) E htab (by decide) rfl (by decide) (gw_mem (mt5 (at_l 68 rfl)) rfl) (fun j hj => absurd hj (by omega)) (fun qx => ?_)
      refine tt_astore (pc := 13) (i := 4) (lv' := [(4, .ref qx), (0, .ref (B + o0)), (1, .int v1), (2, .int v2), (3, .ref (B + o3))]) E dL_actKind_13 (Nat.le_of_ble_eq_true rfl) rfl ?_
      refine tt_iconst (pc := 15) (v := 1) E dL_actKind_15 ic_1 ?_
      exact tt_iret (pc := 16) E hr hlk dL_actKind_16 (Nat.le_of_ble_eq_true rfl) (Nat.le_of_ble_eq_true rfl) hf
    have hf := ine x_0 hf
    exact absurd hf (fun h => by cases h)
  subst hx_6
  have hf := xc_l hf
  refine tt_i2l (pc := 8) E dL_actKind_8 ?_
  obtain ⟨g_8, hf⟩ := gd_some hf
  refine tt_last (pc := 9) E h3 g_8 dL_actKind_9 (tt_nmM hf (fun m_9 hf => ?_))
  refine tt_goto (pc := 10) (tgt := 17) E dL_actKind_10 rfl ?_
  refine tt_iconst (pc := 17) (v := 0) E dL_actKind_17 ic_0 ?_
  exact tt_iret (pc := 18) E hr hlk dL_actKind_18 (Nat.le_of_ble_eq_true rfl) (Nat.le_of_ble_eq_true rfl) hf
set_option maxHeartbeats 4000000 in
theorem cL_actNumber_ok {l : Launch} {B : Nat} {D : va_G} {cT : Nat → ClassId} {n : Nat} {adK adV : Nat → Nat} {o0 : Nat} {v1 : Int32} {v2 : Int32} {o3 : Nat} (hl0 : l.stackTraces = false) {μ : Mem} {res : Int32 × Mem} (h0 : isK n o0 8) (h3 : isK n o3 12) (hf : fL_actNumber o0 v1 v2 o3 μ = some res) : MIw l yL_actNumber cL_actNumber 5 (some .int) hhL_actNumber rmL_actNumber B D cT (XW B adK adV) n [.ref (B + o0), .int v1, .int v2, .ref (B + o3)] μ res := by
  refine tt_ofWL mtL_actNumber (Nat.le_of_ble_eq_true rfl) rfl ?_
  intro p e s m below meth c E0 hr hlk htab
  have E : EE p s m _ c cL_actNumber 5 RL B D cT (XW B adK adV) := E0
  unfold fL_actNumber at hf
  refine tt_aload_n (pc := 0) (i := 3) (j := 3) E dL_actNumber_0 rfl rfl ?_
  refine tt_iconst (pc := 1) (v := 0) E dL_actNumber_1 ic_0 ?_
  refine tt_aload_n (pc := 2) (i := 0) (j := 0) E dL_actNumber_2 rfl rfl ?_
  refine tt_iload_n (pc := 3) (i := 1) (j := 1) E dL_actNumber_3 rfl rfl ?_
  refine tt_iload_n (pc := 4) (i := 2) (j := 2) E dL_actNumber_4 rfl rfl ?_
  obtain ⟨r_1, hr_2, hf⟩ := bd_some hf
  have hc_3 := cX11_actNumber_ok (l := l) (B := B) (D := D) (cT := cT) (n := n) (adK := adK) (adV := adV) hl0 h0 hr_2
  refine tx_cI (pc := 5) (tx_vi E lmL_40 mtX11_actNumber hc_3 h0 rfl rfl (Nat.le_of_ble_eq_true rfl) ⟨(Nat.le_of_ble_eq_true rfl), (Nat.le_of_ble_eq_true rfl)⟩ ⟨(Nat.le_of_ble_eq_true rfl), (Nat.le_of_ble_eq_true rfl)⟩ dL_actNumber_5) (fun k_4 m_5 hx_6 => ?_) (fun v_7 m_5 hx_6 => ?_)
  · subst hx_6
    have hf := xc_r hf
    by_cases x_0 : k_4 = 2
    · have hf := ip x_0 hf
      subst x_0
      refine tx_catch (pc := 5) (i := 0) E htab (by decide) rfl (by decide) (gw_mem (mt5 (at_l 68 rfl)) rfl) (fun j hj => absurd hj (by omega)) (fun qx => ?_)
      refine tt_astore (pc := 13) (i := 4) (lv' := [(4, .ref qx), (0, .ref (B + o0)), (1, .int v1), (2, .int v2), (3, .ref (B + o3))]) E dL_actNumber_13 (Nat.le_of_ble_eq_true rfl) rfl ?_
      refine tt_iconst (pc := 15) (v := 1) E dL_actNumber_15 ic_1 ?_
      exact tt_iret (pc := 16) E hr hlk dL_actNumber_16 (Nat.le_of_ble_eq_true rfl) (Nat.le_of_ble_eq_true rfl) hf
    have hf := ine x_0 hf
    exact absurd hf (fun h => by cases h)
  subst hx_6
  have hf := xc_l hf
  refine tt_i2l (pc := 8) E dL_actNumber_8 ?_
  obtain ⟨g_8, hf⟩ := gd_some hf
  refine tt_last (pc := 9) E h3 g_8 dL_actNumber_9 (tt_nmM hf (fun m_9 hf => ?_))
  refine tt_goto (pc := 10) (tgt := 17) E dL_actNumber_10 rfl ?_
  refine tt_iconst (pc := 17) (v := 0) E dL_actNumber_17 ic_0 ?_
  exact tt_iret (pc := 18) E hr hlk dL_actNumber_18 (Nat.le_of_ble_eq_true rfl) (Nat.le_of_ble_eq_true rfl) hf
set_option maxHeartbeats 4000000 in
theorem cL_letter_ok {l : Launch} {B : Nat} {D : va_G} {cT : Nat → ClassId} {n : Nat} {adK adV : Nat → Nat} {o0 : Nat} {v1 : Int32} {v2 : Int32} {o3 : Nat} (hl0 : l.stackTraces = false) {μ : Mem} {res : Int32 × Mem} (h0 : isK n o0 8) (h3 : isK n o3 12) (hf : fL_letter o0 v1 v2 o3 μ = some res) : MIw l yL_letter cL_letter 5 (some .int) hhL_letter rmL_letter B D cT (XW B adK adV) n [.ref (B + o0), .int v1, .int v2, .ref (B + o3)] μ res := by
  refine tt_ofWL mtL_letter (Nat.le_of_ble_eq_true rfl) rfl ?_
  intro p e s m below meth c E0 hr hlk htab
  have E : EE p s m _ c cL_letter 5 RL B D cT (XW B adK adV) := E0
  unfold fL_letter at hf
  refine tt_aload_n (pc := 0) (i := 3) (j := 3) E dL_letter_0 rfl rfl ?_
  refine tt_iconst (pc := 1) (v := 0) E dL_letter_1 ic_0 ?_
  refine tt_aload_n (pc := 2) (i := 0) (j := 0) E dL_letter_2 rfl rfl ?_
  refine tt_iload_n (pc := 3) (i := 1) (j := 1) E dL_letter_3 rfl rfl ?_
  refine tt_iload_n (pc := 4) (i := 2) (j := 2) E dL_letter_4 rfl rfl ?_
  obtain ⟨r_1, hr_2, hf⟩ := bd_some hf
  have hc_3 := cX11_letter_ok (l := l) (B := B) (D := D) (cT := cT) (n := n) (adK := adK) (adV := adV) hl0 h0 hr_2
  refine tx_cI (pc := 5) (tx_vi E lmL_43 mtX11_letter hc_3 h0 rfl rfl (Nat.le_of_ble_eq_true rfl) ⟨(Nat.le_of_ble_eq_true rfl), (Nat.le_of_ble_eq_true rfl)⟩ ⟨(Nat.le_of_ble_eq_true rfl), (Nat.le_of_ble_eq_true rfl)⟩ dL_letter_5) (fun k_4 m_5 hx_6 => ?_) (fun v_7 m_5 hx_6 => ?_)
  · subst hx_6
    have hf := xc_r hf
    by_cases x_0 : k_4 = 2
    · have hf := ip x_0 hf
      subst x_0
      refine tx_catch (pc := 5) (i := 0) E htab (by decide) rfl (by decide) (gw_mem (mt5 (at_l 68 rfl)) rfl) (fun j hj => absurd hj (by omega)) (fun qx => ?_)
      refine tt_astore (pc := 13) (i := 4) (lv' := [(4, .ref qx), (0, .ref (B + o0)), (1, .int v1), (2, .int v2), (3, .ref (B + o3))]) E dL_letter_13 (Nat.le_of_ble_eq_true rfl) rfl ?_
      refine tt_iconst (pc := 15) (v := 1) E dL_letter_15 ic_1 ?_
      exact tt_iret (pc := 16) E hr hlk dL_letter_16 (Nat.le_of_ble_eq_true rfl) (Nat.le_of_ble_eq_true rfl) hf
    have hf := ine x_0 hf
    exact absurd hf (fun h => by cases h)
  subst hx_6
  have hf := xc_l hf
  refine tt_i2l (pc := 8) E dL_letter_8 ?_
  obtain ⟨g_8, hf⟩ := gd_some hf
  refine tt_last (pc := 9) E h3 g_8 dL_letter_9 (tt_nmM hf (fun m_9 hf => ?_))
  refine tt_goto (pc := 10) (tgt := 17) E dL_letter_10 rfl ?_
  refine tt_iconst (pc := 17) (v := 0) E dL_letter_17 ic_0 ?_
  exact tt_iret (pc := 18) E hr hlk dL_letter_18 (Nat.le_of_ble_eq_true rfl) (Nat.le_of_ble_eq_true rfl) hf
set_option maxHeartbeats 4000000 in
theorem cL_ticksTo_ok {l : Launch} {B : Nat} {D : va_G} {cT : Nat → ClassId} {n : Nat} {adK adV : Nat → Nat} {o0 : Nat} {v1 : Int32} {o2 : Nat} (hl0 : l.stackTraces = false) {μ : Mem} {res : Int32 × Mem} (h0 : isK n o0 8) (h2 : isK n o2 12) (hf : fL_ticksTo o0 v1 o2 μ = some res) : MIw l yL_ticksTo cL_ticksTo 4 (some .int) hhL_ticksTo rmL_ticksTo B D cT (XW B adK adV) n [.ref (B + o0), .int v1, .ref (B + o2)] μ res := by
  refine tt_ofWL mtL_ticksTo (Nat.le_of_ble_eq_true rfl) rfl ?_
  intro p e s m below meth c E0 hr hlk htab
  have E : EE p s m _ c cL_ticksTo 4 RL B D cT (XW B adK adV) := E0
  unfold fL_ticksTo at hf
  refine tt_aload_n (pc := 0) (i := 2) (j := 2) E dL_ticksTo_0 rfl rfl ?_
  refine tt_iconst (pc := 1) (v := 0) E dL_ticksTo_1 ic_0 ?_
  refine tt_aload_n (pc := 2) (i := 0) (j := 0) E dL_ticksTo_2 rfl rfl ?_
  refine tt_iload_n (pc := 3) (i := 1) (j := 1) E dL_ticksTo_3 rfl rfl ?_
  obtain ⟨r_1, hr_2, hf⟩ := bd_some hf
  have hc_3 := cX11_ticksTo_ok (l := l) (B := B) (D := D) (cT := cT) (n := n) (adK := adK) (adV := adV) hl0 h0 hr_2
  refine tx_cI (pc := 4) (tx_vi E lmL_46 mtX11_ticksTo hc_3 h0 rfl rfl (Nat.le_of_ble_eq_true rfl) ⟨(Nat.le_of_ble_eq_true rfl), (Nat.le_of_ble_eq_true rfl)⟩ ⟨(Nat.le_of_ble_eq_true rfl), (Nat.le_of_ble_eq_true rfl)⟩ dL_ticksTo_4) (fun k_4 m_5 hx_6 => ?_) (fun v_7 m_5 hx_6 => ?_)
  · subst hx_6
    have hf := xc_r hf
    by_cases x_0 : k_4 = 2
    · have hf := ip x_0 hf
      subst x_0
      refine tx_catch (pc := 4) (i := 0) E htab (by decide) rfl (by decide) (gw_mem (mt5 (at_l 68 rfl)) rfl) (fun j hj => absurd hj (by omega)) (fun qx => ?_)
      refine tt_astore_n (pc := 12) (i := 3) (lv' := [(3, .ref qx), (0, .ref (B + o0)), (1, .int v1), (2, .ref (B + o2))]) E dL_ticksTo_12 rfl (Nat.le_of_ble_eq_true rfl) rfl ?_
      refine tt_iconst (pc := 13) (v := 1) E dL_ticksTo_13 ic_1 ?_
      exact tt_iret (pc := 14) E hr hlk dL_ticksTo_14 (Nat.le_of_ble_eq_true rfl) (Nat.le_of_ble_eq_true rfl) hf
    have hf := ine x_0 hf
    exact absurd hf (fun h => by cases h)
  subst hx_6
  have hf := xc_l hf
  refine tt_i2l (pc := 7) E dL_ticksTo_7 ?_
  obtain ⟨g_8, hf⟩ := gd_some hf
  refine tt_last (pc := 8) E h2 g_8 dL_ticksTo_8 (tt_nmM hf (fun m_9 hf => ?_))
  refine tt_goto (pc := 9) (tgt := 15) E dL_ticksTo_9 rfl ?_
  refine tt_iconst (pc := 15) (v := 0) E dL_ticksTo_15 ic_0 ?_
  exact tt_iret (pc := 16) E hr hlk dL_ticksTo_16 (Nat.le_of_ble_eq_true rfl) (Nat.le_of_ble_eq_true rfl) hf
set_option maxHeartbeats 4000000 in
theorem cL_turn_ok {l : Launch} {B : Nat} {D : va_G} {cT : Nat → ClassId} {n : Nat} {adK adV : Nat → Nat} {o0 : Nat} {v1 : Int32} {o2 : Nat} (hl0 : l.stackTraces = false) {μ : Mem} {res : Int32 × Mem} (h0 : isK n o0 8) (h2 : isK n o2 12) (hf : fL_turn o0 v1 o2 μ = some res) : MIw l yL_turn cL_turn 4 (some .int) hhL_turn rmL_turn B D cT (XW B adK adV) n [.ref (B + o0), .int v1, .ref (B + o2)] μ res := by
  refine tt_ofWL mtL_turn (Nat.le_of_ble_eq_true rfl) rfl ?_
  intro p e s m below meth c E0 hr hlk htab
  have E : EE p s m _ c cL_turn 4 RL B D cT (XW B adK adV) := E0
  unfold fL_turn at hf
  refine tt_aload_n (pc := 0) (i := 2) (j := 2) E dL_turn_0 rfl rfl ?_
  refine tt_iconst (pc := 1) (v := 0) E dL_turn_1 ic_0 ?_
  refine tt_aload_n (pc := 2) (i := 0) (j := 0) E dL_turn_2 rfl rfl ?_
  refine tt_iload_n (pc := 3) (i := 1) (j := 1) E dL_turn_3 rfl rfl ?_
  obtain ⟨r_1, hr_2, hf⟩ := bd_some hf
  have hc_3 := cX11_turn_ok (l := l) (B := B) (D := D) (cT := cT) (n := n) (adK := adK) (adV := adV) hl0 h0 hr_2
  refine tx_cI (pc := 4) (tx_vi E lmL_49 mtX11_turn hc_3 h0 rfl rfl (Nat.le_of_ble_eq_true rfl) ⟨(Nat.le_of_ble_eq_true rfl), (Nat.le_of_ble_eq_true rfl)⟩ ⟨(Nat.le_of_ble_eq_true rfl), (Nat.le_of_ble_eq_true rfl)⟩ dL_turn_4) (fun k_4 m_5 hx_6 => ?_) (fun v_7 m_5 hx_6 => ?_)
  · subst hx_6
    have hf := xc_r hf
    by_cases x_0 : k_4 = 0
    · have hf := ip x_0 hf
      subst x_0
      refine tx_catch (pc := 4) (i := 0) E htab (by decide) rfl (by decide) (gw_mem (mt3 (at_l 211 rfl)) rfl) (fun j hj => absurd hj (by omega)) (fun qx => ?_)
      refine tt_astore_n (pc := 12) (i := 3) (lv' := [(3, .ref qx), (0, .ref (B + o0)), (1, .int v1), (2, .ref (B + o2))]) E dL_turn_12 rfl (Nat.le_of_ble_eq_true rfl) rfl ?_
      refine tt_iconst (pc := 13) (v := 1) E dL_turn_13 ic_1 ?_
      exact tt_iret (pc := 14) E hr hlk dL_turn_14 (Nat.le_of_ble_eq_true rfl) (Nat.le_of_ble_eq_true rfl) hf
    have hf := ine x_0 hf
    exact absurd hf (fun h => by cases h)
  subst hx_6
  have hf := xc_l hf
  refine tt_i2l (pc := 7) E dL_turn_7 ?_
  obtain ⟨g_8, hf⟩ := gd_some hf
  refine tt_last (pc := 8) E h2 g_8 dL_turn_8 (tt_nmM hf (fun m_9 hf => ?_))
  refine tt_goto (pc := 9) (tgt := 15) E dL_turn_9 rfl ?_
  refine tt_iconst (pc := 15) (v := 0) E dL_turn_15 ic_0 ?_
  exact tt_iret (pc := 16) E hr hlk dL_turn_16 (Nat.le_of_ble_eq_true rfl) (Nat.le_of_ble_eq_true rfl) hf
set_option maxHeartbeats 4000000 in
theorem cL_turnTime_ok {l : Launch} {B : Nat} {D : va_G} {cT : Nat → ClassId} {n : Nat} {adK adV : Nat → Nat} {o0 : Nat} {v1 : Int32} {o2 : Nat} (hl0 : l.stackTraces = false) {μ : Mem} {res : Int32 × Mem} (h0 : isK n o0 8) (h2 : isK n o2 12) (hf : fL_turnTime o0 v1 o2 μ = some res) : MIw l yL_turnTime cL_turnTime 4 (some .int) hhL_turnTime rmL_turnTime B D cT (XW B adK adV) n [.ref (B + o0), .int v1, .ref (B + o2)] μ res := by
  refine tt_ofWL mtL_turnTime (Nat.le_of_ble_eq_true rfl) rfl ?_
  intro p e s m below meth c E0 hr hlk htab
  have E : EE p s m _ c cL_turnTime 4 RL B D cT (XW B adK adV) := E0
  unfold fL_turnTime at hf
  refine tt_aload_n (pc := 0) (i := 2) (j := 2) E dL_turnTime_0 rfl rfl ?_
  refine tt_iconst (pc := 1) (v := 0) E dL_turnTime_1 ic_0 ?_
  refine tt_aload_n (pc := 2) (i := 0) (j := 0) E dL_turnTime_2 rfl rfl ?_
  refine tt_iload_n (pc := 3) (i := 1) (j := 1) E dL_turnTime_3 rfl rfl ?_
  obtain ⟨r_1, hr_2, hf⟩ := bd_some hf
  have hc_3 := cX11_turnTime_ok (l := l) (B := B) (D := D) (cT := cT) (n := n) (adK := adK) (adV := adV) hl0 h0 hr_2
  refine tx_cI (pc := 4) (tx_vi E lmL_52 mtX11_turnTime hc_3 h0 rfl rfl (Nat.le_of_ble_eq_true rfl) ⟨(Nat.le_of_ble_eq_true rfl), (Nat.le_of_ble_eq_true rfl)⟩ ⟨(Nat.le_of_ble_eq_true rfl), (Nat.le_of_ble_eq_true rfl)⟩ dL_turnTime_4) (fun k_4 m_5 hx_6 => ?_) (fun v_7 m_5 hx_6 => ?_)
  · subst hx_6
    have hf := xc_r hf
    by_cases x_0 : k_4 = 0
    · have hf := ip x_0 hf
      subst x_0
      refine tx_catch (pc := 4) (i := 0) E htab (by decide) rfl (by decide) (gw_mem (mt3 (at_l 211 rfl)) rfl) (fun j hj => absurd hj (by omega)) (fun qx => ?_)
      refine tt_astore_n (pc := 12) (i := 3) (lv' := [(3, .ref qx), (0, .ref (B + o0)), (1, .int v1), (2, .ref (B + o2))]) E dL_turnTime_12 rfl (Nat.le_of_ble_eq_true rfl) rfl ?_
      refine tt_iconst (pc := 13) (v := 1) E dL_turnTime_13 ic_1 ?_
      exact tt_iret (pc := 14) E hr hlk dL_turnTime_14 (Nat.le_of_ble_eq_true rfl) (Nat.le_of_ble_eq_true rfl) hf
    have hf := ine x_0 hf
    exact absurd hf (fun h => by cases h)
  subst hx_6
  have hf := xc_l hf
  refine tt_i2l (pc := 7) E dL_turnTime_7 ?_
  obtain ⟨g_8, hf⟩ := gd_some hf
  refine tt_last (pc := 8) E h2 g_8 dL_turnTime_8 (tt_nmM hf (fun m_9 hf => ?_))
  refine tt_goto (pc := 9) (tgt := 15) E dL_turnTime_9 rfl ?_
  refine tt_iconst (pc := 15) (v := 0) E dL_turnTime_15 ic_0 ?_
  exact tt_iret (pc := 16) E hr hlk dL_turnTime_16 (Nat.le_of_ble_eq_true rfl) (Nat.le_of_ble_eq_true rfl) hf
set_option maxHeartbeats 4000000 in
theorem cL_turnKind_ok {l : Launch} {B : Nat} {D : va_G} {cT : Nat → ClassId} {n : Nat} {adK adV : Nat → Nat} {o0 : Nat} {v1 : Int32} {o2 : Nat} (hl0 : l.stackTraces = false) {μ : Mem} {res : Int32 × Mem} (h0 : isK n o0 8) (h2 : isK n o2 12) (hf : fL_turnKind o0 v1 o2 μ = some res) : MIw l yL_turnKind cL_turnKind 4 (some .int) hhL_turnKind rmL_turnKind B D cT (XW B adK adV) n [.ref (B + o0), .int v1, .ref (B + o2)] μ res := by
  refine tt_ofWL mtL_turnKind (Nat.le_of_ble_eq_true rfl) rfl ?_
  intro p e s m below meth c E0 hr hlk htab
  have E : EE p s m _ c cL_turnKind 4 RL B D cT (XW B adK adV) := E0
  unfold fL_turnKind at hf
  refine tt_aload_n (pc := 0) (i := 2) (j := 2) E dL_turnKind_0 rfl rfl ?_
  refine tt_iconst (pc := 1) (v := 0) E dL_turnKind_1 ic_0 ?_
  refine tt_aload_n (pc := 2) (i := 0) (j := 0) E dL_turnKind_2 rfl rfl ?_
  refine tt_iload_n (pc := 3) (i := 1) (j := 1) E dL_turnKind_3 rfl rfl ?_
  obtain ⟨r_1, hr_2, hf⟩ := bd_some hf
  have hc_3 := cX11_turnKind_ok (l := l) (B := B) (D := D) (cT := cT) (n := n) (adK := adK) (adV := adV) hl0 h0 hr_2
  refine tx_cI (pc := 4) (tx_vi E lmL_55 mtX11_turnKind hc_3 h0 rfl rfl (Nat.le_of_ble_eq_true rfl) ⟨(Nat.le_of_ble_eq_true rfl), (Nat.le_of_ble_eq_true rfl)⟩ ⟨(Nat.le_of_ble_eq_true rfl), (Nat.le_of_ble_eq_true rfl)⟩ dL_turnKind_4) (fun k_4 m_5 hx_6 => ?_) (fun v_7 m_5 hx_6 => ?_)
  · subst hx_6
    have hf := xc_r hf
    by_cases x_0 : k_4 = 0
    · have hf := ip x_0 hf
      subst x_0
      refine tx_catch (pc := 4) (i := 0) E htab (by decide) rfl (by decide) (gw_mem (mt3 (at_l 211 rfl)) rfl) (fun j hj => absurd hj (by omega)) (fun qx => ?_)
      refine tt_astore_n (pc := 12) (i := 3) (lv' := [(3, .ref qx), (0, .ref (B + o0)), (1, .int v1), (2, .ref (B + o2))]) E dL_turnKind_12 rfl (Nat.le_of_ble_eq_true rfl) rfl ?_
      refine tt_iconst (pc := 13) (v := 1) E dL_turnKind_13 ic_1 ?_
      exact tt_iret (pc := 14) E hr hlk dL_turnKind_14 (Nat.le_of_ble_eq_true rfl) (Nat.le_of_ble_eq_true rfl) hf
    have hf := ine x_0 hf
    exact absurd hf (fun h => by cases h)
  subst hx_6
  have hf := xc_l hf
  refine tt_i2l (pc := 7) E dL_turnKind_7 ?_
  obtain ⟨g_8, hf⟩ := gd_some hf
  refine tt_last (pc := 8) E h2 g_8 dL_turnKind_8 (tt_nmM hf (fun m_9 hf => ?_))
  refine tt_goto (pc := 9) (tgt := 15) E dL_turnKind_9 rfl ?_
  refine tt_iconst (pc := 15) (v := 0) E dL_turnKind_15 ic_0 ?_
  exact tt_iret (pc := 16) E hr hlk dL_turnKind_16 (Nat.le_of_ble_eq_true rfl) (Nat.le_of_ble_eq_true rfl) hf
set_option maxHeartbeats 4000000 in
theorem cL_lifeIn_ok {l : Launch} {B : Nat} {D : va_G} {cT : Nat → ClassId} {n : Nat} {adK adV : Nat → Nat} {o0 : Nat} {v1 : Int32} {v2 : Int32} {o3 : Nat} (hl0 : l.stackTraces = false) {μ : Mem} {res : Int32 × Mem} (h0 : isK n o0 8) (h3 : isK n o3 12) (hf : fL_lifeIn o0 v1 v2 o3 μ = some res) : MIw l yL_lifeIn cL_lifeIn 5 (some .int) hhL_lifeIn rmL_lifeIn B D cT (XW B adK adV) n [.ref (B + o0), .int v1, .int v2, .ref (B + o3)] μ res := by
  refine tt_ofWL mtL_lifeIn (Nat.le_of_ble_eq_true rfl) rfl ?_
  intro p e s m below meth c E0 hr hlk htab
  have E : EE p s m _ c cL_lifeIn 5 RL B D cT (XW B adK adV) := E0
  unfold fL_lifeIn at hf
  refine tt_aload_n (pc := 0) (i := 3) (j := 3) E dL_lifeIn_0 rfl rfl ?_
  refine tt_iconst (pc := 1) (v := 0) E dL_lifeIn_1 ic_0 ?_
  refine tt_aload_n (pc := 2) (i := 0) (j := 0) E dL_lifeIn_2 rfl rfl ?_
  refine tt_iload_n (pc := 3) (i := 1) (j := 1) E dL_lifeIn_3 rfl rfl ?_
  refine tt_iload_n (pc := 4) (i := 2) (j := 2) E dL_lifeIn_4 rfl rfl ?_
  obtain ⟨r_1, hr_2, hf⟩ := bd_some hf
  have hc_3 := cX11_lifeIn_ok (l := l) (B := B) (D := D) (cT := cT) (n := n) (adK := adK) (adV := adV) hl0 h0 hr_2
  refine tx_cI (pc := 5) (tx_vi E lmL_58 mtX11_lifeIn hc_3 h0 rfl rfl (Nat.le_of_ble_eq_true rfl) ⟨(Nat.le_of_ble_eq_true rfl), (Nat.le_of_ble_eq_true rfl)⟩ ⟨(Nat.le_of_ble_eq_true rfl), (Nat.le_of_ble_eq_true rfl)⟩ dL_lifeIn_5) (fun k_4 m_5 hx_6 => ?_) (fun v_7 m_5 hx_6 => ?_)
  · subst hx_6
    have hf := xc_r hf
    by_cases x_0 : k_4 = 2
    · have hf := ip x_0 hf
      subst x_0
      refine tx_catch (pc := 5) (i := 0) E htab (by decide) rfl (by decide) (gw_mem (mt5 (at_l 68 rfl)) rfl) (fun j hj => absurd hj (by omega)) (fun qx => ?_)
      refine tt_astore (pc := 13) (i := 4) (lv' := [(4, .ref qx), (0, .ref (B + o0)), (1, .int v1), (2, .int v2), (3, .ref (B + o3))]) E dL_lifeIn_13 (Nat.le_of_ble_eq_true rfl) rfl ?_
      refine tt_iconst (pc := 15) (v := 1) E dL_lifeIn_15 ic_1 ?_
      exact tt_iret (pc := 16) E hr hlk dL_lifeIn_16 (Nat.le_of_ble_eq_true rfl) (Nat.le_of_ble_eq_true rfl) hf
    have hf := ine x_0 hf
    by_cases x_1 : k_4 = 0
    · have hf := ip x_1 hf
      subst x_1
      refine tx_catch (pc := 5) (i := 1) E htab (by decide) rfl (by decide) (gw_mem (mt3 (at_l 211 rfl)) rfl) (fun j hj q hq => by
          rcases (show j = 0 by omega) with rfl
          · cases hq; exact ⟨by decide, 2, by decide, by decide, (gw_mem (mt5 (at_l 68 rfl)) rfl)⟩) (fun qx => ?_)
      refine tt_astore (pc := 17) (i := 4) (lv' := [(4, .ref qx), (0, .ref (B + o0)), (1, .int v1), (2, .int v2), (3, .ref (B + o3))]) E dL_lifeIn_17 (Nat.le_of_ble_eq_true rfl) rfl ?_
      refine tt_iconst (pc := 19) (v := 2) E dL_lifeIn_19 ic_2 ?_
      exact tt_iret (pc := 20) E hr hlk dL_lifeIn_20 (Nat.le_of_ble_eq_true rfl) (Nat.le_of_ble_eq_true rfl) hf
    have hf := ine x_1 hf
    exact absurd hf (fun h => by cases h)
  subst hx_6
  have hf := xc_l hf
  refine tt_i2l (pc := 8) E dL_lifeIn_8 ?_
  obtain ⟨g_8, hf⟩ := gd_some hf
  refine tt_last (pc := 9) E h3 g_8 dL_lifeIn_9 (tt_nmM hf (fun m_9 hf => ?_))
  refine tt_goto (pc := 10) (tgt := 21) E dL_lifeIn_10 rfl ?_
  refine tt_iconst (pc := 21) (v := 0) E dL_lifeIn_21 ic_0 ?_
  exact tt_iret (pc := 22) E hr hlk dL_lifeIn_22 (Nat.le_of_ble_eq_true rfl) (Nat.le_of_ble_eq_true rfl) hf
set_option maxHeartbeats 4000000 in
theorem cL_gaugeIn_ok {l : Launch} {B : Nat} {D : va_G} {cT : Nat → ClassId} {n : Nat} {adK adV : Nat → Nat} {o0 : Nat} {v1 : Int32} {v2 : Int32} {o3 : Nat} (hl0 : l.stackTraces = false) {μ : Mem} {res : Int32 × Mem} (h0 : isK n o0 8) (h3 : isK n o3 12) (hf : fL_gaugeIn o0 v1 v2 o3 μ = some res) : MIw l yL_gaugeIn cL_gaugeIn 5 (some .int) hhL_gaugeIn rmL_gaugeIn B D cT (XW B adK adV) n [.ref (B + o0), .int v1, .int v2, .ref (B + o3)] μ res := by
  refine tt_ofWL mtL_gaugeIn (Nat.le_of_ble_eq_true rfl) rfl ?_
  intro p e s m below meth c E0 hr hlk htab
  have E : EE p s m _ c cL_gaugeIn 5 RL B D cT (XW B adK adV) := E0
  unfold fL_gaugeIn at hf
  refine tt_aload_n (pc := 0) (i := 3) (j := 3) E dL_gaugeIn_0 rfl rfl ?_
  refine tt_iconst (pc := 1) (v := 0) E dL_gaugeIn_1 ic_0 ?_
  refine tt_aload_n (pc := 2) (i := 0) (j := 0) E dL_gaugeIn_2 rfl rfl ?_
  refine tt_iload_n (pc := 3) (i := 1) (j := 1) E dL_gaugeIn_3 rfl rfl ?_
  refine tt_iload_n (pc := 4) (i := 2) (j := 2) E dL_gaugeIn_4 rfl rfl ?_
  obtain ⟨r_1, hr_2, hf⟩ := bd_some hf
  have hc_3 := cX11_gaugeIn_ok (l := l) (B := B) (D := D) (cT := cT) (n := n) (adK := adK) (adV := adV) hl0 h0 hr_2
  refine tx_cI (pc := 5) (tx_vi E lmL_61 mtX11_gaugeIn hc_3 h0 rfl rfl (Nat.le_of_ble_eq_true rfl) ⟨(Nat.le_of_ble_eq_true rfl), (Nat.le_of_ble_eq_true rfl)⟩ ⟨(Nat.le_of_ble_eq_true rfl), (Nat.le_of_ble_eq_true rfl)⟩ dL_gaugeIn_5) (fun k_4 m_5 hx_6 => ?_) (fun v_7 m_5 hx_6 => ?_)
  · subst hx_6
    have hf := xc_r hf
    by_cases x_0 : k_4 = 2
    · have hf := ip x_0 hf
      subst x_0
      refine tx_catch (pc := 5) (i := 0) E htab (by decide) rfl (by decide) (gw_mem (mt5 (at_l 68 rfl)) rfl) (fun j hj => absurd hj (by omega)) (fun qx => ?_)
      refine tt_astore (pc := 13) (i := 4) (lv' := [(4, .ref qx), (0, .ref (B + o0)), (1, .int v1), (2, .int v2), (3, .ref (B + o3))]) E dL_gaugeIn_13 (Nat.le_of_ble_eq_true rfl) rfl ?_
      refine tt_iconst (pc := 15) (v := 1) E dL_gaugeIn_15 ic_1 ?_
      exact tt_iret (pc := 16) E hr hlk dL_gaugeIn_16 (Nat.le_of_ble_eq_true rfl) (Nat.le_of_ble_eq_true rfl) hf
    have hf := ine x_0 hf
    by_cases x_1 : k_4 = 0
    · have hf := ip x_1 hf
      subst x_1
      refine tx_catch (pc := 5) (i := 1) E htab (by decide) rfl (by decide) (gw_mem (mt3 (at_l 211 rfl)) rfl) (fun j hj q hq => by
          rcases (show j = 0 by omega) with rfl
          · cases hq; exact ⟨by decide, 2, by decide, by decide, (gw_mem (mt5 (at_l 68 rfl)) rfl)⟩) (fun qx => ?_)
      refine tt_astore (pc := 17) (i := 4) (lv' := [(4, .ref qx), (0, .ref (B + o0)), (1, .int v1), (2, .int v2), (3, .ref (B + o3))]) E dL_gaugeIn_17 (Nat.le_of_ble_eq_true rfl) rfl ?_
      refine tt_iconst (pc := 19) (v := 2) E dL_gaugeIn_19 ic_2 ?_
      exact tt_iret (pc := 20) E hr hlk dL_gaugeIn_20 (Nat.le_of_ble_eq_true rfl) (Nat.le_of_ble_eq_true rfl) hf
    have hf := ine x_1 hf
    exact absurd hf (fun h => by cases h)
  subst hx_6
  have hf := xc_l hf
  refine tt_i2l (pc := 8) E dL_gaugeIn_8 ?_
  obtain ⟨g_8, hf⟩ := gd_some hf
  refine tt_last (pc := 9) E h3 g_8 dL_gaugeIn_9 (tt_nmM hf (fun m_9 hf => ?_))
  refine tt_goto (pc := 10) (tgt := 21) E dL_gaugeIn_10 rfl ?_
  refine tt_iconst (pc := 21) (v := 0) E dL_gaugeIn_21 ic_0 ?_
  exact tt_iret (pc := 22) E hr hlk dL_gaugeIn_22 (Nat.le_of_ble_eq_true rfl) (Nat.le_of_ble_eq_true rfl) hf
set_option maxHeartbeats 4000000 in
theorem cL_turnsOf_ok {l : Launch} {B : Nat} {D : va_G} {cT : Nat → ClassId} {n : Nat} {adK adV : Nat → Nat} {o0 : Nat} {v1 : Int32} {v2 : Int32} {o3 : Nat} (hl0 : l.stackTraces = false) {μ : Mem} {res : Int32 × Mem} (h0 : isK n o0 8) (h3 : isK n o3 12) (hf : fL_turnsOf o0 v1 v2 o3 μ = some res) : MIw l yL_turnsOf cL_turnsOf 5 (some .int) hhL_turnsOf rmL_turnsOf B D cT (XW B adK adV) n [.ref (B + o0), .int v1, .int v2, .ref (B + o3)] μ res := by
  refine tt_ofWL mtL_turnsOf (Nat.le_of_ble_eq_true rfl) rfl ?_
  intro p e s m below meth c E0 hr hlk htab
  have E : EE p s m _ c cL_turnsOf 5 RL B D cT (XW B adK adV) := E0
  unfold fL_turnsOf at hf
  refine tt_aload_n (pc := 0) (i := 3) (j := 3) E dL_turnsOf_0 rfl rfl ?_
  refine tt_iconst (pc := 1) (v := 0) E dL_turnsOf_1 ic_0 ?_
  refine tt_aload_n (pc := 2) (i := 0) (j := 0) E dL_turnsOf_2 rfl rfl ?_
  refine tt_iload_n (pc := 3) (i := 1) (j := 1) E dL_turnsOf_3 rfl rfl ?_
  refine tt_iload_n (pc := 4) (i := 2) (j := 2) E dL_turnsOf_4 rfl rfl ?_
  obtain ⟨r_1, hr_2, hf⟩ := bd_some hf
  have hc_3 := cX11_turnsOf_ok (l := l) (B := B) (D := D) (cT := cT) (n := n) (adK := adK) (adV := adV) hl0 h0 hr_2
  refine tx_cI (pc := 5) (tx_vi E lmL_64 mtX11_turnsOf hc_3 h0 rfl rfl (Nat.le_of_ble_eq_true rfl) ⟨(Nat.le_of_ble_eq_true rfl), (Nat.le_of_ble_eq_true rfl)⟩ ⟨(Nat.le_of_ble_eq_true rfl), (Nat.le_of_ble_eq_true rfl)⟩ dL_turnsOf_5) (fun k_4 m_5 hx_6 => ?_) (fun v_7 m_5 hx_6 => ?_)
  · subst hx_6
    have hf := xc_r hf
    by_cases x_0 : k_4 = 2
    · have hf := ip x_0 hf
      subst x_0
      refine tx_catch (pc := 5) (i := 0) E htab (by decide) rfl (by decide) (gw_mem (mt5 (at_l 68 rfl)) rfl) (fun j hj => absurd hj (by omega)) (fun qx => ?_)
      refine tt_astore (pc := 13) (i := 4) (lv' := [(4, .ref qx), (0, .ref (B + o0)), (1, .int v1), (2, .int v2), (3, .ref (B + o3))]) E dL_turnsOf_13 (Nat.le_of_ble_eq_true rfl) rfl ?_
      refine tt_iconst (pc := 15) (v := 1) E dL_turnsOf_15 ic_1 ?_
      exact tt_iret (pc := 16) E hr hlk dL_turnsOf_16 (Nat.le_of_ble_eq_true rfl) (Nat.le_of_ble_eq_true rfl) hf
    have hf := ine x_0 hf
    by_cases x_1 : k_4 = 0
    · have hf := ip x_1 hf
      subst x_1
      refine tx_catch (pc := 5) (i := 1) E htab (by decide) rfl (by decide) (gw_mem (mt3 (at_l 211 rfl)) rfl) (fun j hj q hq => by
          rcases (show j = 0 by omega) with rfl
          · cases hq; exact ⟨by decide, 2, by decide, by decide, (gw_mem (mt5 (at_l 68 rfl)) rfl)⟩) (fun qx => ?_)
      refine tt_astore (pc := 17) (i := 4) (lv' := [(4, .ref qx), (0, .ref (B + o0)), (1, .int v1), (2, .int v2), (3, .ref (B + o3))]) E dL_turnsOf_17 (Nat.le_of_ble_eq_true rfl) rfl ?_
      refine tt_iconst (pc := 19) (v := 2) E dL_turnsOf_19 ic_2 ?_
      exact tt_iret (pc := 20) E hr hlk dL_turnsOf_20 (Nat.le_of_ble_eq_true rfl) (Nat.le_of_ble_eq_true rfl) hf
    have hf := ine x_1 hf
    exact absurd hf (fun h => by cases h)
  subst hx_6
  have hf := xc_l hf
  refine tt_i2l (pc := 8) E dL_turnsOf_8 ?_
  obtain ⟨g_8, hf⟩ := gd_some hf
  refine tt_last (pc := 9) E h3 g_8 dL_turnsOf_9 (tt_nmM hf (fun m_9 hf => ?_))
  refine tt_goto (pc := 10) (tgt := 21) E dL_turnsOf_10 rfl ?_
  refine tt_iconst (pc := 21) (v := 0) E dL_turnsOf_21 ic_0 ?_
  exact tt_iret (pc := 22) E hr hlk dL_turnsOf_22 (Nat.le_of_ble_eq_true rfl) (Nat.le_of_ble_eq_true rfl) hf
set_option maxHeartbeats 4000000 in
theorem cL_longestRun_ok {l : Launch} {B : Nat} {D : va_G} {cT : Nat → ClassId} {n : Nat} {adK adV : Nat → Nat} {o0 : Nat} {v1 : Int32} {o2 : Nat} (hl0 : l.stackTraces = false) {μ : Mem} {res : Int32 × Mem} (h0 : isK n o0 8) (h2 : isK n o2 12) (hf : fL_longestRun o0 v1 o2 μ = some res) : MIw l yL_longestRun cL_longestRun 4 (some .int) hhL_longestRun rmL_longestRun B D cT (XW B adK adV) n [.ref (B + o0), .int v1, .ref (B + o2)] μ res := by
  refine tt_ofWL mtL_longestRun (Nat.le_of_ble_eq_true rfl) rfl ?_
  intro p e s m below meth c E0 hr hlk htab
  have E : EE p s m _ c cL_longestRun 4 RL B D cT (XW B adK adV) := E0
  unfold fL_longestRun at hf
  refine tt_aload_n (pc := 0) (i := 2) (j := 2) E dL_longestRun_0 rfl rfl ?_
  refine tt_iconst (pc := 1) (v := 0) E dL_longestRun_1 ic_0 ?_
  refine tt_aload_n (pc := 2) (i := 0) (j := 0) E dL_longestRun_2 rfl rfl ?_
  refine tt_iload_n (pc := 3) (i := 1) (j := 1) E dL_longestRun_3 rfl rfl ?_
  obtain ⟨r_1, hr_2, hf⟩ := bd_some hf
  have hc_3 := cX11_longestRun_ok (l := l) (B := B) (D := D) (cT := cT) (n := n) (adK := adK) (adV := adV) hl0 h0 hr_2
  refine tx_cI (pc := 4) (tx_vi E lmL_67 mtX11_longestRun hc_3 h0 rfl rfl (Nat.le_of_ble_eq_true rfl) ⟨(Nat.le_of_ble_eq_true rfl), (Nat.le_of_ble_eq_true rfl)⟩ ⟨(Nat.le_of_ble_eq_true rfl), (Nat.le_of_ble_eq_true rfl)⟩ dL_longestRun_4) (fun k_4 m_5 hx_6 => ?_) (fun v_7 m_5 hx_6 => ?_)
  · subst hx_6
    have hf := xc_r hf
    by_cases x_0 : k_4 = 0
    · have hf := ip x_0 hf
      subst x_0
      refine tx_catch (pc := 4) (i := 0) E htab (by decide) rfl (by decide) (gw_mem (mt3 (at_l 211 rfl)) rfl) (fun j hj => absurd hj (by omega)) (fun qx => ?_)
      refine tt_astore_n (pc := 12) (i := 3) (lv' := [(3, .ref qx), (0, .ref (B + o0)), (1, .int v1), (2, .ref (B + o2))]) E dL_longestRun_12 rfl (Nat.le_of_ble_eq_true rfl) rfl ?_
      refine tt_iconst (pc := 13) (v := 1) E dL_longestRun_13 ic_1 ?_
      exact tt_iret (pc := 14) E hr hlk dL_longestRun_14 (Nat.le_of_ble_eq_true rfl) (Nat.le_of_ble_eq_true rfl) hf
    have hf := ine x_0 hf
    exact absurd hf (fun h => by cases h)
  subst hx_6
  have hf := xc_l hf
  refine tt_i2l (pc := 7) E dL_longestRun_7 ?_
  obtain ⟨g_8, hf⟩ := gd_some hf
  refine tt_last (pc := 8) E h2 g_8 dL_longestRun_8 (tt_nmM hf (fun m_9 hf => ?_))
  refine tt_goto (pc := 9) (tgt := 15) E dL_longestRun_9 rfl ?_
  refine tt_iconst (pc := 15) (v := 0) E dL_longestRun_15 ic_0 ?_
  exact tt_iret (pc := 16) E hr hlk dL_longestRun_16 (Nat.le_of_ble_eq_true rfl) (Nat.le_of_ble_eq_true rfl) hf
set_option maxHeartbeats 4000000 in
theorem cL_firstLoss_ok {l : Launch} {B : Nat} {D : va_G} {cT : Nat → ClassId} {n : Nat} {adK adV : Nat → Nat} {o0 : Nat} {v1 : Int32} {o2 : Nat} (hl0 : l.stackTraces = false) {μ : Mem} {res : Int32 × Mem} (h0 : isK n o0 8) (h2 : isK n o2 12) (hf : fL_firstLoss o0 v1 o2 μ = some res) : MIw l yL_firstLoss cL_firstLoss 4 (some .int) hhL_firstLoss rmL_firstLoss B D cT (XW B adK adV) n [.ref (B + o0), .int v1, .ref (B + o2)] μ res := by
  refine tt_ofWL mtL_firstLoss (Nat.le_of_ble_eq_true rfl) rfl ?_
  intro p e s m below meth c E0 hr hlk htab
  have E : EE p s m _ c cL_firstLoss 4 RL B D cT (XW B adK adV) := E0
  unfold fL_firstLoss at hf
  refine tt_aload_n (pc := 0) (i := 2) (j := 2) E dL_firstLoss_0 rfl rfl ?_
  refine tt_iconst (pc := 1) (v := 0) E dL_firstLoss_1 ic_0 ?_
  refine tt_aload_n (pc := 2) (i := 0) (j := 0) E dL_firstLoss_2 rfl rfl ?_
  refine tt_iload_n (pc := 3) (i := 1) (j := 1) E dL_firstLoss_3 rfl rfl ?_
  obtain ⟨r_1, hr_2, hf⟩ := bd_some hf
  have hc_3 := cX11_firstLoss_ok (l := l) (B := B) (D := D) (cT := cT) (n := n) (adK := adK) (adV := adV) hl0 h0 hr_2
  refine tx_cI (pc := 4) (tx_vi E lmL_70 mtX11_firstLoss hc_3 h0 rfl rfl (Nat.le_of_ble_eq_true rfl) ⟨(Nat.le_of_ble_eq_true rfl), (Nat.le_of_ble_eq_true rfl)⟩ ⟨(Nat.le_of_ble_eq_true rfl), (Nat.le_of_ble_eq_true rfl)⟩ dL_firstLoss_4) (fun k_4 m_5 hx_6 => ?_) (fun v_7 m_5 hx_6 => ?_)
  · subst hx_6
    have hf := xc_r hf
    by_cases x_0 : k_4 = 2
    · have hf := ip x_0 hf
      subst x_0
      refine tx_catch (pc := 4) (i := 0) E htab (by decide) rfl (by decide) (gw_mem (mt5 (at_l 68 rfl)) rfl) (fun j hj => absurd hj (by omega)) (fun qx => ?_)
      refine tt_astore_n (pc := 12) (i := 3) (lv' := [(3, .ref qx), (0, .ref (B + o0)), (1, .int v1), (2, .ref (B + o2))]) E dL_firstLoss_12 rfl (Nat.le_of_ble_eq_true rfl) rfl ?_
      refine tt_iconst (pc := 13) (v := 1) E dL_firstLoss_13 ic_1 ?_
      exact tt_iret (pc := 14) E hr hlk dL_firstLoss_14 (Nat.le_of_ble_eq_true rfl) (Nat.le_of_ble_eq_true rfl) hf
    have hf := ine x_0 hf
    exact absurd hf (fun h => by cases h)
  subst hx_6
  have hf := xc_l hf
  refine tt_i2l (pc := 7) E dL_firstLoss_7 ?_
  obtain ⟨g_8, hf⟩ := gd_some hf
  refine tt_last (pc := 8) E h2 g_8 dL_firstLoss_8 (tt_nmM hf (fun m_9 hf => ?_))
  refine tt_goto (pc := 9) (tgt := 15) E dL_firstLoss_9 rfl ?_
  refine tt_iconst (pc := 15) (v := 0) E dL_firstLoss_15 ic_0 ?_
  exact tt_iret (pc := 16) E hr hlk dL_firstLoss_16 (Nat.le_of_ble_eq_true rfl) (Nat.le_of_ble_eq_true rfl) hf
set_option maxHeartbeats 4000000 in
theorem cL_leastSpeed_ok {l : Launch} {B : Nat} {D : va_G} {cT : Nat → ClassId} {n : Nat} {adK adV : Nat → Nat} {o0 : Nat} {v1 : Int32} {o2 : Nat} (hl0 : l.stackTraces = false) {μ : Mem} {res : Int32 × Mem} (h0 : isK n o0 8) (h2 : isK n o2 12) (hf : fL_leastSpeed o0 v1 o2 μ = some res) : MIw l yL_leastSpeed cL_leastSpeed 4 (some .int) hhL_leastSpeed rmL_leastSpeed B D cT (XW B adK adV) n [.ref (B + o0), .int v1, .ref (B + o2)] μ res := by
  refine tt_ofWL mtL_leastSpeed (Nat.le_of_ble_eq_true rfl) rfl ?_
  intro p e s m below meth c E0 hr hlk htab
  have E : EE p s m _ c cL_leastSpeed 4 RL B D cT (XW B adK adV) := E0
  unfold fL_leastSpeed at hf
  refine tt_aload_n (pc := 0) (i := 2) (j := 2) E dL_leastSpeed_0 rfl rfl ?_
  refine tt_iconst (pc := 1) (v := 0) E dL_leastSpeed_1 ic_0 ?_
  refine tt_aload_n (pc := 2) (i := 0) (j := 0) E dL_leastSpeed_2 rfl rfl ?_
  refine tt_iload_n (pc := 3) (i := 1) (j := 1) E dL_leastSpeed_3 rfl rfl ?_
  obtain ⟨r_1, hr_2, hf⟩ := bd_some hf
  have hc_3 := cX11_leastSpeed_ok (l := l) (B := B) (D := D) (cT := cT) (n := n) (adK := adK) (adV := adV) hl0 h0 hr_2
  refine tx_cI (pc := 4) (tx_vi E lmL_73 mtX11_leastSpeed hc_3 h0 rfl rfl (Nat.le_of_ble_eq_true rfl) ⟨(Nat.le_of_ble_eq_true rfl), (Nat.le_of_ble_eq_true rfl)⟩ ⟨(Nat.le_of_ble_eq_true rfl), (Nat.le_of_ble_eq_true rfl)⟩ dL_leastSpeed_4) (fun k_4 m_5 hx_6 => ?_) (fun v_7 m_5 hx_6 => ?_)
  · subst hx_6
    have hf := xc_r hf
    by_cases x_0 : k_4 = 2
    · have hf := ip x_0 hf
      subst x_0
      refine tx_catch (pc := 4) (i := 0) E htab (by decide) rfl (by decide) (gw_mem (mt5 (at_l 68 rfl)) rfl) (fun j hj => absurd hj (by omega)) (fun qx => ?_)
      refine tt_astore_n (pc := 12) (i := 3) (lv' := [(3, .ref qx), (0, .ref (B + o0)), (1, .int v1), (2, .ref (B + o2))]) E dL_leastSpeed_12 rfl (Nat.le_of_ble_eq_true rfl) rfl ?_
      refine tt_iconst (pc := 13) (v := 1) E dL_leastSpeed_13 ic_1 ?_
      exact tt_iret (pc := 14) E hr hlk dL_leastSpeed_14 (Nat.le_of_ble_eq_true rfl) (Nat.le_of_ble_eq_true rfl) hf
    have hf := ine x_0 hf
    exact absurd hf (fun h => by cases h)
  subst hx_6
  have hf := xc_l hf
  refine tt_i2l (pc := 7) E dL_leastSpeed_7 ?_
  obtain ⟨g_8, hf⟩ := gd_some hf
  refine tt_last (pc := 8) E h2 g_8 dL_leastSpeed_8 (tt_nmM hf (fun m_9 hf => ?_))
  refine tt_goto (pc := 9) (tgt := 15) E dL_leastSpeed_9 rfl ?_
  refine tt_iconst (pc := 15) (v := 0) E dL_leastSpeed_15 ic_0 ?_
  exact tt_iret (pc := 16) E hr hlk dL_leastSpeed_16 (Nat.le_of_ble_eq_true rfl) (Nat.le_of_ble_eq_true rfl) hf
set_option maxHeartbeats 4000000 in
theorem cL_bestPush_ok {l : Launch} {B : Nat} {D : va_G} {cT : Nat → ClassId} {n : Nat} {adK adV : Nat → Nat} {o0 : Nat} {v1 : Int32} {v2 : Int32} {o3 : Nat} (hl0 : l.stackTraces = false) {μ : Mem} {res : Int32 × Mem} (h0 : isK n o0 8) (h3 : isK n o3 12) (hf : fL_bestPush o0 v1 v2 o3 μ = some res) : MIw l yL_bestPush cL_bestPush 5 (some .int) hhL_bestPush rmL_bestPush B D cT (XW B adK adV) n [.ref (B + o0), .int v1, .int v2, .ref (B + o3)] μ res := by
  refine tt_ofWL mtL_bestPush (Nat.le_of_ble_eq_true rfl) rfl ?_
  intro p e s m below meth c E0 hr hlk htab
  have E : EE p s m _ c cL_bestPush 5 RL B D cT (XW B adK adV) := E0
  unfold fL_bestPush at hf
  refine tt_aload_n (pc := 0) (i := 3) (j := 3) E dL_bestPush_0 rfl rfl ?_
  refine tt_iconst (pc := 1) (v := 0) E dL_bestPush_1 ic_0 ?_
  refine tt_aload_n (pc := 2) (i := 0) (j := 0) E dL_bestPush_2 rfl rfl ?_
  refine tt_iload_n (pc := 3) (i := 1) (j := 1) E dL_bestPush_3 rfl rfl ?_
  refine tt_iload_n (pc := 4) (i := 2) (j := 2) E dL_bestPush_4 rfl rfl ?_
  obtain ⟨r_1, hr_2, hf⟩ := bd_some hf
  have hc_3 := cX11_bestPush_ok (l := l) (B := B) (D := D) (cT := cT) (n := n) (adK := adK) (adV := adV) hl0 h0 hr_2
  refine tx_cI (pc := 5) (tx_vi E lmL_76 mtX11_bestPush hc_3 h0 rfl rfl (Nat.le_of_ble_eq_true rfl) ⟨(Nat.le_of_ble_eq_true rfl), (Nat.le_of_ble_eq_true rfl)⟩ ⟨(Nat.le_of_ble_eq_true rfl), (Nat.le_of_ble_eq_true rfl)⟩ dL_bestPush_5) (fun k_4 m_5 hx_6 => ?_) (fun v_7 m_5 hx_6 => ?_)
  · subst hx_6
    have hf := xc_r hf
    by_cases x_0 : k_4 = 0
    · have hf := ip x_0 hf
      subst x_0
      refine tx_catch (pc := 5) (i := 0) E htab (by decide) rfl (by decide) (gw_mem (mt3 (at_l 211 rfl)) rfl) (fun j hj => absurd hj (by omega)) (fun qx => ?_)
      refine tt_astore (pc := 13) (i := 4) (lv' := [(4, .ref qx), (0, .ref (B + o0)), (1, .int v1), (2, .int v2), (3, .ref (B + o3))]) E dL_bestPush_13 (Nat.le_of_ble_eq_true rfl) rfl ?_
      refine tt_iconst (pc := 15) (v := 1) E dL_bestPush_15 ic_1 ?_
      exact tt_iret (pc := 16) E hr hlk dL_bestPush_16 (Nat.le_of_ble_eq_true rfl) (Nat.le_of_ble_eq_true rfl) hf
    have hf := ine x_0 hf
    exact absurd hf (fun h => by cases h)
  subst hx_6
  have hf := xc_l hf
  refine tt_i2l (pc := 8) E dL_bestPush_8 ?_
  obtain ⟨g_8, hf⟩ := gd_some hf
  refine tt_last (pc := 9) E h3 g_8 dL_bestPush_9 (tt_nmM hf (fun m_9 hf => ?_))
  refine tt_goto (pc := 10) (tgt := 17) E dL_bestPush_10 rfl ?_
  refine tt_iconst (pc := 17) (v := 0) E dL_bestPush_17 ic_0 ?_
  exact tt_iret (pc := 18) E hr hlk dL_bestPush_18 (Nat.le_of_ble_eq_true rfl) (Nat.le_of_ble_eq_true rfl) hf
set_option maxHeartbeats 4000000 in
theorem cL_bestSwap_ok {l : Launch} {B : Nat} {D : va_G} {cT : Nat → ClassId} {n : Nat} {adK adV : Nat → Nat} {o0 : Nat} {v1 : Int32} {o2 : Nat} (hl0 : l.stackTraces = false) {μ : Mem} {res : Int32 × Mem} (h0 : isK n o0 8) (h2 : isK n o2 12) (hf : fL_bestSwap o0 v1 o2 μ = some res) : MIw l yL_bestSwap cL_bestSwap 4 (some .int) hhL_bestSwap rmL_bestSwap B D cT (XW B adK adV) n [.ref (B + o0), .int v1, .ref (B + o2)] μ res := by
  refine tt_ofWL mtL_bestSwap (Nat.le_of_ble_eq_true rfl) rfl ?_
  intro p e s m below meth c E0 hr hlk htab
  have E : EE p s m _ c cL_bestSwap 4 RL B D cT (XW B adK adV) := E0
  unfold fL_bestSwap at hf
  refine tt_aload_n (pc := 0) (i := 2) (j := 2) E dL_bestSwap_0 rfl rfl ?_
  refine tt_iconst (pc := 1) (v := 0) E dL_bestSwap_1 ic_0 ?_
  refine tt_aload_n (pc := 2) (i := 0) (j := 0) E dL_bestSwap_2 rfl rfl ?_
  refine tt_iload_n (pc := 3) (i := 1) (j := 1) E dL_bestSwap_3 rfl rfl ?_
  obtain ⟨r_1, hr_2, hf⟩ := bd_some hf
  have hc_3 := cX11_bestSwap_ok (l := l) (B := B) (D := D) (cT := cT) (n := n) (adK := adK) (adV := adV) hl0 h0 hr_2
  refine tx_cI (pc := 4) (tx_vi E lmL_79 mtX11_bestSwap hc_3 h0 rfl rfl (Nat.le_of_ble_eq_true rfl) ⟨(Nat.le_of_ble_eq_true rfl), (Nat.le_of_ble_eq_true rfl)⟩ ⟨(Nat.le_of_ble_eq_true rfl), (Nat.le_of_ble_eq_true rfl)⟩ dL_bestSwap_4) (fun k_4 m_5 hx_6 => ?_) (fun v_7 m_5 hx_6 => ?_)
  · subst hx_6
    have hf := xc_r hf
    by_cases x_0 : k_4 = 2
    · have hf := ip x_0 hf
      subst x_0
      refine tx_catch (pc := 4) (i := 0) E htab (by decide) rfl (by decide) (gw_mem (mt5 (at_l 68 rfl)) rfl) (fun j hj => absurd hj (by omega)) (fun qx => ?_)
      refine tt_astore_n (pc := 12) (i := 3) (lv' := [(3, .ref qx), (0, .ref (B + o0)), (1, .int v1), (2, .ref (B + o2))]) E dL_bestSwap_12 rfl (Nat.le_of_ble_eq_true rfl) rfl ?_
      refine tt_iconst (pc := 13) (v := 1) E dL_bestSwap_13 ic_1 ?_
      exact tt_iret (pc := 14) E hr hlk dL_bestSwap_14 (Nat.le_of_ble_eq_true rfl) (Nat.le_of_ble_eq_true rfl) hf
    have hf := ine x_0 hf
    exact absurd hf (fun h => by cases h)
  subst hx_6
  have hf := xc_l hf
  refine tt_i2l (pc := 7) E dL_bestSwap_7 ?_
  obtain ⟨g_8, hf⟩ := gd_some hf
  refine tt_last (pc := 8) E h2 g_8 dL_bestSwap_8 (tt_nmM hf (fun m_9 hf => ?_))
  refine tt_goto (pc := 9) (tgt := 15) E dL_bestSwap_9 rfl ?_
  refine tt_iconst (pc := 15) (v := 0) E dL_bestSwap_15 ic_0 ?_
  exact tt_iret (pc := 16) E hr hlk dL_bestSwap_16 (Nat.le_of_ble_eq_true rfl) (Nat.le_of_ble_eq_true rfl) hf
set_option maxHeartbeats 4000000 in
theorem cL_bestPlace_ok {l : Launch} {B : Nat} {D : va_G} {cT : Nat → ClassId} {n : Nat} {adK adV : Nat → Nat} {o0 : Nat} {v1 : Int32} {o2 : Nat} (hl0 : l.stackTraces = false) {μ : Mem} {res : Int32 × Mem} (h0 : isK n o0 8) (h2 : isK n o2 12) (hf : fL_bestPlace o0 v1 o2 μ = some res) : MIw l yL_bestPlace cL_bestPlace 4 (some .int) hhL_bestPlace rmL_bestPlace B D cT (XW B adK adV) n [.ref (B + o0), .int v1, .ref (B + o2)] μ res := by
  refine tt_ofWL mtL_bestPlace (Nat.le_of_ble_eq_true rfl) rfl ?_
  intro p e s m below meth c E0 hr hlk htab
  have E : EE p s m _ c cL_bestPlace 4 RL B D cT (XW B adK adV) := E0
  unfold fL_bestPlace at hf
  refine tt_aload_n (pc := 0) (i := 2) (j := 2) E dL_bestPlace_0 rfl rfl ?_
  refine tt_iconst (pc := 1) (v := 0) E dL_bestPlace_1 ic_0 ?_
  refine tt_aload_n (pc := 2) (i := 0) (j := 0) E dL_bestPlace_2 rfl rfl ?_
  refine tt_iload_n (pc := 3) (i := 1) (j := 1) E dL_bestPlace_3 rfl rfl ?_
  obtain ⟨r_1, hr_2, hf⟩ := bd_some hf
  have hc_3 := cX11_bestPlace_ok (l := l) (B := B) (D := D) (cT := cT) (n := n) (adK := adK) (adV := adV) hl0 h0 hr_2
  refine tx_cI (pc := 4) (tx_vi E lmL_82 mtX11_bestPlace hc_3 h0 rfl rfl (Nat.le_of_ble_eq_true rfl) ⟨(Nat.le_of_ble_eq_true rfl), (Nat.le_of_ble_eq_true rfl)⟩ ⟨(Nat.le_of_ble_eq_true rfl), (Nat.le_of_ble_eq_true rfl)⟩ dL_bestPlace_4) (fun k_4 m_5 hx_6 => ?_) (fun v_7 m_5 hx_6 => ?_)
  · subst hx_6
    have hf := xc_r hf
    by_cases x_0 : k_4 = 2
    · have hf := ip x_0 hf
      subst x_0
      refine tx_catch (pc := 4) (i := 0) E htab (by decide) rfl (by decide) (gw_mem (mt5 (at_l 68 rfl)) rfl) (fun j hj => absurd hj (by omega)) (fun qx => ?_)
      refine tt_astore_n (pc := 12) (i := 3) (lv' := [(3, .ref qx), (0, .ref (B + o0)), (1, .int v1), (2, .ref (B + o2))]) E dL_bestPlace_12 rfl (Nat.le_of_ble_eq_true rfl) rfl ?_
      refine tt_iconst (pc := 13) (v := 1) E dL_bestPlace_13 ic_1 ?_
      exact tt_iret (pc := 14) E hr hlk dL_bestPlace_14 (Nat.le_of_ble_eq_true rfl) (Nat.le_of_ble_eq_true rfl) hf
    have hf := ine x_0 hf
    exact absurd hf (fun h => by cases h)
  subst hx_6
  have hf := xc_l hf
  refine tt_i2l (pc := 7) E dL_bestPlace_7 ?_
  obtain ⟨g_8, hf⟩ := gd_some hf
  refine tt_last (pc := 8) E h2 g_8 dL_bestPlace_8 (tt_nmM hf (fun m_9 hf => ?_))
  refine tt_goto (pc := 9) (tgt := 15) E dL_bestPlace_9 rfl ?_
  refine tt_iconst (pc := 15) (v := 0) E dL_bestPlace_15 ic_0 ?_
  exact tt_iret (pc := 16) E hr hlk dL_bestPlace_16 (Nat.le_of_ble_eq_true rfl) (Nat.le_of_ble_eq_true rfl) hf
set_option maxHeartbeats 4000000 in
theorem cL_play_ok {l : Launch} {B : Nat} {D : va_G} {cT : Nat → ClassId} {n : Nat} {adK adV : Nat → Nat} {o0 : Nat} {v1 : Int32} {o2 : Nat} (hl0 : l.stackTraces = false) {μ : Mem} {res : Int32 × Mem} (h0 : isK n o0 8) (h2 : isK n o2 12) (hf : fL_play o0 v1 o2 μ = some res) : MIw l yL_play cL_play 4 (some .int) hhL_play rmL_play B D cT (XW B adK adV) n [.ref (B + o0), .int v1, .ref (B + o2)] μ res := by
  refine tt_ofWL mtL_play (Nat.le_of_ble_eq_true rfl) rfl ?_
  intro p e s m below meth c E0 hr hlk htab
  have E : EE p s m _ c cL_play 4 RL B D cT (XW B adK adV) := E0
  unfold fL_play at hf
  refine tt_aload_n (pc := 0) (i := 2) (j := 2) E dL_play_0 rfl rfl ?_
  refine tt_iconst (pc := 1) (v := 0) E dL_play_1 ic_0 ?_
  refine tt_aload_n (pc := 2) (i := 0) (j := 0) E dL_play_2 rfl rfl ?_
  refine tt_iload_n (pc := 3) (i := 1) (j := 1) E dL_play_3 rfl rfl ?_
  obtain ⟨r_1, hr_2, hf⟩ := bd_some hf
  have hc_3 := cX11_play_ok (l := l) (B := B) (D := D) (cT := cT) (n := n) (adK := adK) (adV := adV) hl0 h0 hr_2
  refine tx_cI (pc := 4) (tx_vi E lmL_85 mtX11_play hc_3 h0 rfl rfl (Nat.le_of_ble_eq_true rfl) ⟨(Nat.le_of_ble_eq_true rfl), (Nat.le_of_ble_eq_true rfl)⟩ ⟨(Nat.le_of_ble_eq_true rfl), (Nat.le_of_ble_eq_true rfl)⟩ dL_play_4) (fun k_4 m_5 hx_6 => ?_) (fun v_7 m_5 hx_6 => ?_)
  · subst hx_6
    have hf := xc_r hf
    by_cases x_0 : k_4 = 0
    · have hf := ip x_0 hf
      subst x_0
      refine tx_catch (pc := 4) (i := 0) E htab (by decide) rfl (by decide) (gw_mem (mt3 (at_l 211 rfl)) rfl) (fun j hj => absurd hj (by omega)) (fun qx => ?_)
      refine tt_astore_n (pc := 12) (i := 3) (lv' := [(3, .ref qx), (0, .ref (B + o0)), (1, .int v1), (2, .ref (B + o2))]) E dL_play_12 rfl (Nat.le_of_ble_eq_true rfl) rfl ?_
      refine tt_iconst (pc := 13) (v := 1) E dL_play_13 ic_1 ?_
      exact tt_iret (pc := 14) E hr hlk dL_play_14 (Nat.le_of_ble_eq_true rfl) (Nat.le_of_ble_eq_true rfl) hf
    have hf := ine x_0 hf
    by_cases x_1 : k_4 = 1
    · have hf := ip x_1 hf
      subst x_1
      refine tx_catch (pc := 4) (i := 1) E htab (by decide) rfl (by decide) (gw_mem (mt3 (at_l 128 rfl)) rfl) (fun j hj q hq => by
          rcases (show j = 0 by omega) with rfl
          · cases hq; exact ⟨by decide, 0, by decide, by decide, (gw_mem (mt3 (at_l 211 rfl)) rfl)⟩) (fun qx => ?_)
      refine tt_astore_n (pc := 15) (i := 3) (lv' := [(3, .ref qx), (0, .ref (B + o0)), (1, .int v1), (2, .ref (B + o2))]) E dL_play_15 rfl (Nat.le_of_ble_eq_true rfl) rfl ?_
      refine tt_iconst (pc := 16) (v := 2) E dL_play_16 ic_2 ?_
      exact tt_iret (pc := 17) E hr hlk dL_play_17 (Nat.le_of_ble_eq_true rfl) (Nat.le_of_ble_eq_true rfl) hf
    have hf := ine x_1 hf
    exact absurd hf (fun h => by cases h)
  subst hx_6
  have hf := xc_l hf
  refine tt_i2l (pc := 7) E dL_play_7 ?_
  obtain ⟨g_8, hf⟩ := gd_some hf
  refine tt_last (pc := 8) E h2 g_8 dL_play_8 (tt_nmM hf (fun m_9 hf => ?_))
  refine tt_goto (pc := 9) (tgt := 18) E dL_play_9 rfl ?_
  refine tt_iconst (pc := 18) (v := 0) E dL_play_18 ic_0 ?_
  exact tt_iret (pc := 19) E hr hlk dL_play_19 (Nat.le_of_ble_eq_true rfl) (Nat.le_of_ble_eq_true rfl) hf
set_option maxHeartbeats 4000000 in
theorem cL_push_ok {l : Launch} {B : Nat} {D : va_G} {cT : Nat → ClassId} {n : Nat} {adK adV : Nat → Nat} {o0 : Nat} {v1 : Int32} {v2 : Int32} {o3 : Nat} (hl0 : l.stackTraces = false) {μ : Mem} {res : Int32 × Mem} (h0 : isK n o0 8) (h3 : isK n o3 12) (hf : fL_push o0 v1 v2 o3 μ = some res) : MIw l yL_push cL_push 5 (some .int) hhL_push rmL_push B D cT (XW B adK adV) n [.ref (B + o0), .int v1, .int v2, .ref (B + o3)] μ res := by
  refine tt_ofWL mtL_push (Nat.le_of_ble_eq_true rfl) rfl ?_
  intro p e s m below meth c E0 hr hlk htab
  have E : EE p s m _ c cL_push 5 RL B D cT (XW B adK adV) := E0
  unfold fL_push at hf
  refine tt_aload_n (pc := 0) (i := 3) (j := 3) E dL_push_0 rfl rfl ?_
  refine tt_iconst (pc := 1) (v := 0) E dL_push_1 ic_0 ?_
  refine tt_aload_n (pc := 2) (i := 0) (j := 0) E dL_push_2 rfl rfl ?_
  refine tt_iload_n (pc := 3) (i := 1) (j := 1) E dL_push_3 rfl rfl ?_
  refine tt_iload_n (pc := 4) (i := 2) (j := 2) E dL_push_4 rfl rfl ?_
  obtain ⟨r_1, hr_2, hf⟩ := bd_some hf
  have hc_3 := cX11_push_ok (l := l) (B := B) (D := D) (cT := cT) (n := n) (adK := adK) (adV := adV) hl0 h0 hr_2
  refine tx_cI (pc := 5) (tx_vi E lmL_88 mtX11_push hc_3 h0 rfl rfl (Nat.le_of_ble_eq_true rfl) ⟨(Nat.le_of_ble_eq_true rfl), (Nat.le_of_ble_eq_true rfl)⟩ ⟨(Nat.le_of_ble_eq_true rfl), (Nat.le_of_ble_eq_true rfl)⟩ dL_push_5) (fun k_4 m_5 hx_6 => ?_) (fun v_7 m_5 hx_6 => ?_)
  · subst hx_6
    have hf := xc_r hf
    by_cases x_0 : k_4 = 2
    · have hf := ip x_0 hf
      subst x_0
      refine tx_catch (pc := 5) (i := 0) E htab (by decide) rfl (by decide) (gw_mem (mt5 (at_l 68 rfl)) rfl) (fun j hj => absurd hj (by omega)) (fun qx => ?_)
      refine tt_astore (pc := 13) (i := 4) (lv' := [(4, .ref qx), (0, .ref (B + o0)), (1, .int v1), (2, .int v2), (3, .ref (B + o3))]) E dL_push_13 (Nat.le_of_ble_eq_true rfl) rfl ?_
      refine tt_iconst (pc := 15) (v := 1) E dL_push_15 ic_1 ?_
      exact tt_iret (pc := 16) E hr hlk dL_push_16 (Nat.le_of_ble_eq_true rfl) (Nat.le_of_ble_eq_true rfl) hf
    have hf := ine x_0 hf
    by_cases x_1 : k_4 = 0
    · have hf := ip x_1 hf
      subst x_1
      refine tx_catch (pc := 5) (i := 1) E htab (by decide) rfl (by decide) (gw_mem (mt3 (at_l 211 rfl)) rfl) (fun j hj q hq => by
          rcases (show j = 0 by omega) with rfl
          · cases hq; exact ⟨by decide, 2, by decide, by decide, (gw_mem (mt5 (at_l 68 rfl)) rfl)⟩) (fun qx => ?_)
      refine tt_astore (pc := 17) (i := 4) (lv' := [(4, .ref qx), (0, .ref (B + o0)), (1, .int v1), (2, .int v2), (3, .ref (B + o3))]) E dL_push_17 (Nat.le_of_ble_eq_true rfl) rfl ?_
      refine tt_iconst (pc := 19) (v := 2) E dL_push_19 ic_2 ?_
      exact tt_iret (pc := 20) E hr hlk dL_push_20 (Nat.le_of_ble_eq_true rfl) (Nat.le_of_ble_eq_true rfl) hf
    have hf := ine x_1 hf
    by_cases x_2 : k_4 = 1
    · have hf := ip x_2 hf
      subst x_2
      refine tx_catch (pc := 5) (i := 2) E htab (by decide) rfl (by decide) (gw_mem (mt3 (at_l 128 rfl)) rfl) (fun j hj q hq => by
          rcases (show j = 0 ∨ j = 1 by omega) with rfl | rfl
          · cases hq; exact ⟨by decide, 2, by decide, by decide, (gw_mem (mt5 (at_l 68 rfl)) rfl)⟩
          · cases hq; exact ⟨by decide, 0, by decide, by decide, (gw_mem (mt3 (at_l 211 rfl)) rfl)⟩) (fun qx => ?_)
      refine tt_astore (pc := 21) (i := 4) (lv' := [(4, .ref qx), (0, .ref (B + o0)), (1, .int v1), (2, .int v2), (3, .ref (B + o3))]) E dL_push_21 (Nat.le_of_ble_eq_true rfl) rfl ?_
      refine tt_iconst (pc := 23) (v := 3) E dL_push_23 ic_3 ?_
      exact tt_iret (pc := 24) E hr hlk dL_push_24 (Nat.le_of_ble_eq_true rfl) (Nat.le_of_ble_eq_true rfl) hf
    have hf := ine x_2 hf
    exact absurd hf (fun h => by cases h)
  subst hx_6
  have hf := xc_l hf
  refine tt_i2l (pc := 8) E dL_push_8 ?_
  obtain ⟨g_8, hf⟩ := gd_some hf
  refine tt_last (pc := 9) E h3 g_8 dL_push_9 (tt_nmM hf (fun m_9 hf => ?_))
  refine tt_goto (pc := 10) (tgt := 25) E dL_push_10 rfl ?_
  refine tt_iconst (pc := 25) (v := 0) E dL_push_25 ic_0 ?_
  exact tt_iret (pc := 26) E hr hlk dL_push_26 (Nat.le_of_ble_eq_true rfl) (Nat.le_of_ble_eq_true rfl) hf
set_option maxHeartbeats 4000000 in
theorem cL_lift_ok {l : Launch} {B : Nat} {D : va_G} {cT : Nat → ClassId} {n : Nat} {adK adV : Nat → Nat} {o0 : Nat} {v1 : Int32} {v2 : Int32} {o3 : Nat} (hl0 : l.stackTraces = false) {μ : Mem} {res : Int32 × Mem} (h0 : isK n o0 8) (h3 : isK n o3 12) (hf : fL_lift o0 v1 v2 o3 μ = some res) : MIw l yL_lift cL_lift 5 (some .int) hhL_lift rmL_lift B D cT (XW B adK adV) n [.ref (B + o0), .int v1, .int v2, .ref (B + o3)] μ res := by
  refine tt_ofWL mtL_lift (Nat.le_of_ble_eq_true rfl) rfl ?_
  intro p e s m below meth c E0 hr hlk htab
  have E : EE p s m _ c cL_lift 5 RL B D cT (XW B adK adV) := E0
  unfold fL_lift at hf
  refine tt_aload_n (pc := 0) (i := 3) (j := 3) E dL_lift_0 rfl rfl ?_
  refine tt_iconst (pc := 1) (v := 0) E dL_lift_1 ic_0 ?_
  refine tt_aload_n (pc := 2) (i := 0) (j := 0) E dL_lift_2 rfl rfl ?_
  refine tt_iload_n (pc := 3) (i := 1) (j := 1) E dL_lift_3 rfl rfl ?_
  refine tt_iload_n (pc := 4) (i := 2) (j := 2) E dL_lift_4 rfl rfl ?_
  obtain ⟨r_1, hr_2, hf⟩ := bd_some hf
  have hc_3 := cX11_lift_ok (l := l) (B := B) (D := D) (cT := cT) (n := n) (adK := adK) (adV := adV) hl0 h0 hr_2
  refine tx_cI (pc := 5) (tx_vi E lmL_91 mtX11_lift hc_3 h0 rfl rfl (Nat.le_of_ble_eq_true rfl) ⟨(Nat.le_of_ble_eq_true rfl), (Nat.le_of_ble_eq_true rfl)⟩ ⟨(Nat.le_of_ble_eq_true rfl), (Nat.le_of_ble_eq_true rfl)⟩ dL_lift_5) (fun k_4 m_5 hx_6 => ?_) (fun v_7 m_5 hx_6 => ?_)
  · subst hx_6
    have hf := xc_r hf
    by_cases x_0 : k_4 = 2
    · have hf := ip x_0 hf
      subst x_0
      refine tx_catch (pc := 5) (i := 0) E htab (by decide) rfl (by decide) (gw_mem (mt5 (at_l 68 rfl)) rfl) (fun j hj => absurd hj (by omega)) (fun qx => ?_)
      refine tt_astore (pc := 13) (i := 4) (lv' := [(4, .ref qx), (0, .ref (B + o0)), (1, .int v1), (2, .int v2), (3, .ref (B + o3))]) E dL_lift_13 (Nat.le_of_ble_eq_true rfl) rfl ?_
      refine tt_iconst (pc := 15) (v := 1) E dL_lift_15 ic_1 ?_
      exact tt_iret (pc := 16) E hr hlk dL_lift_16 (Nat.le_of_ble_eq_true rfl) (Nat.le_of_ble_eq_true rfl) hf
    have hf := ine x_0 hf
    by_cases x_1 : k_4 = 0
    · have hf := ip x_1 hf
      subst x_1
      refine tx_catch (pc := 5) (i := 1) E htab (by decide) rfl (by decide) (gw_mem (mt3 (at_l 211 rfl)) rfl) (fun j hj q hq => by
          rcases (show j = 0 by omega) with rfl
          · cases hq; exact ⟨by decide, 2, by decide, by decide, (gw_mem (mt5 (at_l 68 rfl)) rfl)⟩) (fun qx => ?_)
      refine tt_astore (pc := 17) (i := 4) (lv' := [(4, .ref qx), (0, .ref (B + o0)), (1, .int v1), (2, .int v2), (3, .ref (B + o3))]) E dL_lift_17 (Nat.le_of_ble_eq_true rfl) rfl ?_
      refine tt_iconst (pc := 19) (v := 2) E dL_lift_19 ic_2 ?_
      exact tt_iret (pc := 20) E hr hlk dL_lift_20 (Nat.le_of_ble_eq_true rfl) (Nat.le_of_ble_eq_true rfl) hf
    have hf := ine x_1 hf
    by_cases x_2 : k_4 = 1
    · have hf := ip x_2 hf
      subst x_2
      refine tx_catch (pc := 5) (i := 2) E htab (by decide) rfl (by decide) (gw_mem (mt3 (at_l 128 rfl)) rfl) (fun j hj q hq => by
          rcases (show j = 0 ∨ j = 1 by omega) with rfl | rfl
          · cases hq; exact ⟨by decide, 2, by decide, by decide, (gw_mem (mt5 (at_l 68 rfl)) rfl)⟩
          · cases hq; exact ⟨by decide, 0, by decide, by decide, (gw_mem (mt3 (at_l 211 rfl)) rfl)⟩) (fun qx => ?_)
      refine tt_astore (pc := 21) (i := 4) (lv' := [(4, .ref qx), (0, .ref (B + o0)), (1, .int v1), (2, .int v2), (3, .ref (B + o3))]) E dL_lift_21 (Nat.le_of_ble_eq_true rfl) rfl ?_
      refine tt_iconst (pc := 23) (v := 3) E dL_lift_23 ic_3 ?_
      exact tt_iret (pc := 24) E hr hlk dL_lift_24 (Nat.le_of_ble_eq_true rfl) (Nat.le_of_ble_eq_true rfl) hf
    have hf := ine x_2 hf
    exact absurd hf (fun h => by cases h)
  subst hx_6
  have hf := xc_l hf
  refine tt_i2l (pc := 8) E dL_lift_8 ?_
  obtain ⟨g_8, hf⟩ := gd_some hf
  refine tt_last (pc := 9) E h3 g_8 dL_lift_9 (tt_nmM hf (fun m_9 hf => ?_))
  refine tt_goto (pc := 10) (tgt := 25) E dL_lift_10 rfl ?_
  refine tt_iconst (pc := 25) (v := 0) E dL_lift_25 ic_0 ?_
  exact tt_iret (pc := 26) E hr hlk dL_lift_26 (Nat.le_of_ble_eq_true rfl) (Nat.le_of_ble_eq_true rfl) hf
set_option maxHeartbeats 4000000 in
theorem cL_extra_ok {l : Launch} {B : Nat} {D : va_G} {cT : Nat → ClassId} {n : Nat} {adK adV : Nat → Nat} {o0 : Nat} {v1 : Int32} {o2 : Nat} (hl0 : l.stackTraces = false) {μ : Mem} {res : Int32 × Mem} (h0 : isK n o0 8) (h2 : isK n o2 12) (hf : fL_extra o0 v1 o2 μ = some res) : MIw l yL_extra cL_extra 4 (some .int) hhL_extra rmL_extra B D cT (XW B adK adV) n [.ref (B + o0), .int v1, .ref (B + o2)] μ res := by
  refine tt_ofWL mtL_extra (Nat.le_of_ble_eq_true rfl) rfl ?_
  intro p e s m below meth c E0 hr hlk htab
  have E : EE p s m _ c cL_extra 4 RL B D cT (XW B adK adV) := E0
  unfold fL_extra at hf
  refine tt_aload_n (pc := 0) (i := 2) (j := 2) E dL_extra_0 rfl rfl ?_
  refine tt_iconst (pc := 1) (v := 0) E dL_extra_1 ic_0 ?_
  refine tt_aload_n (pc := 2) (i := 0) (j := 0) E dL_extra_2 rfl rfl ?_
  refine tt_iload_n (pc := 3) (i := 1) (j := 1) E dL_extra_3 rfl rfl ?_
  obtain ⟨r_1, hr_2, hf⟩ := bd_some hf
  have hc_3 := cX11_extra_ok (l := l) (B := B) (D := D) (cT := cT) (n := n) (adK := adK) (adV := adV) hl0 h0 hr_2
  refine tx_cZ (pc := 4) (tx_vi E lmL_94 mtX11_extra hc_3 h0 rfl rfl (Nat.le_of_ble_eq_true rfl) ⟨(Nat.le_of_ble_eq_true rfl), (Nat.le_of_ble_eq_true rfl)⟩ ⟨(Nat.le_of_ble_eq_true rfl), (Nat.le_of_ble_eq_true rfl)⟩ dL_extra_4) (fun k_4 m_5 hx_6 => ?_) (fun v_7 m_5 hx_6 => ?_)
  · subst hx_6
    have hf := xc_r hf
    by_cases x_0 : k_4 = 2
    · have hf := ip x_0 hf
      subst x_0
      refine tx_catch (pc := 4) (i := 0) E htab (by decide) rfl (by decide) (gw_mem (mt5 (at_l 68 rfl)) rfl) (fun j hj => absurd hj (by omega)) (fun qx => ?_)
      refine tt_astore_n (pc := 19) (i := 3) (lv' := [(3, .ref qx), (0, .ref (B + o0)), (1, .int v1), (2, .ref (B + o2))]) E dL_extra_19 rfl (Nat.le_of_ble_eq_true rfl) rfl ?_
      refine tt_iconst (pc := 20) (v := 1) E dL_extra_20 ic_1 ?_
      exact tt_iret (pc := 21) E hr hlk dL_extra_21 (Nat.le_of_ble_eq_true rfl) (Nat.le_of_ble_eq_true rfl) hf
    have hf := ine x_0 hf
    by_cases x_1 : k_4 = 1
    · have hf := ip x_1 hf
      subst x_1
      refine tx_catch (pc := 4) (i := 1) E htab (by decide) rfl (by decide) (gw_mem (mt3 (at_l 128 rfl)) rfl) (fun j hj q hq => by
          rcases (show j = 0 by omega) with rfl
          · cases hq; exact ⟨by decide, 2, by decide, by decide, (gw_mem (mt5 (at_l 68 rfl)) rfl)⟩) (fun qx => ?_)
      refine tt_astore_n (pc := 22) (i := 3) (lv' := [(3, .ref qx), (0, .ref (B + o0)), (1, .int v1), (2, .ref (B + o2))]) E dL_extra_22 rfl (Nat.le_of_ble_eq_true rfl) rfl ?_
      refine tt_iconst (pc := 23) (v := 2) E dL_extra_23 ic_2 ?_
      exact tt_iret (pc := 24) E hr hlk dL_extra_24 (Nat.le_of_ble_eq_true rfl) (Nat.le_of_ble_eq_true rfl) hf
    have hf := ine x_1 hf
    exact absurd hf (fun h => by cases h)
  obtain ⟨hx_6, _⟩ := hx_6
  subst hx_6
  have hf := xc_l hf
  refine tt_if_eq (pc := 7) (tgt := 14) E dL_extra_7 rfl (fun c_12 => ?_) (fun c_12 => ?_)
  · have hf := ip c_12 hf
    refine tt_lconst (pc := 14) (v := 0) E dL_extra_14 lc_0 ?_
    obtain ⟨g_8, hf⟩ := gd_some hf
    refine tt_last (pc := 15) E h2 g_8 dL_extra_15 (tt_nmM hf (fun m_9 hf => ?_))
    refine tt_goto (pc := 16) (tgt := 25) E dL_extra_16 rfl ?_
    refine tt_iconst (pc := 25) (v := 0) E dL_extra_25 ic_0 ?_
    exact tt_iret (pc := 26) E hr hlk dL_extra_26 (Nat.le_of_ble_eq_true rfl) (Nat.le_of_ble_eq_true rfl) hf
  · have hf := ine c_12 hf
    refine tt_lconst (pc := 10) (v := 1) E dL_extra_10 lc_1 ?_
    refine tt_goto (pc := 11) (tgt := 15) E dL_extra_11 rfl ?_
    obtain ⟨g_10, hf⟩ := gd_some hf
    refine tt_last (pc := 15) E h2 g_10 dL_extra_15 (tt_nmM hf (fun m_11 hf => ?_))
    refine tt_goto (pc := 16) (tgt := 25) E dL_extra_16 rfl ?_
    refine tt_iconst (pc := 25) (v := 0) E dL_extra_25 ic_0 ?_
    exact tt_iret (pc := 26) E hr hlk dL_extra_26 (Nat.le_of_ble_eq_true rfl) (Nat.le_of_ble_eq_true rfl) hf
set_option maxHeartbeats 4000000 in
theorem cL_setSpeed_ok {l : Launch} {B : Nat} {D : va_G} {cT : Nat → ClassId} {n : Nat} {adK adV : Nat → Nat} {o0 : Nat} {v1 : Int32} {v2 : Int32} {o3 : Nat} (hl0 : l.stackTraces = false) {μ : Mem} {res : Int32 × Mem} (h0 : isK n o0 8) (h3 : isK n o3 12) (hf : fL_setSpeed o0 v1 v2 o3 μ = some res) : MIw l yL_setSpeed cL_setSpeed 5 (some .int) hhL_setSpeed rmL_setSpeed B D cT (XW B adK adV) n [.ref (B + o0), .int v1, .int v2, .ref (B + o3)] μ res := by
  refine tt_ofWL mtL_setSpeed (Nat.le_of_ble_eq_true rfl) rfl ?_
  intro p e s m below meth c E0 hr hlk htab
  have E : EE p s m _ c cL_setSpeed 5 RL B D cT (XW B adK adV) := E0
  unfold fL_setSpeed at hf
  refine tt_aload_n (pc := 0) (i := 3) (j := 3) E dL_setSpeed_0 rfl rfl ?_
  refine tt_iconst (pc := 1) (v := 0) E dL_setSpeed_1 ic_0 ?_
  refine tt_aload_n (pc := 2) (i := 0) (j := 0) E dL_setSpeed_2 rfl rfl ?_
  refine tt_iload_n (pc := 3) (i := 1) (j := 1) E dL_setSpeed_3 rfl rfl ?_
  refine tt_iload_n (pc := 4) (i := 2) (j := 2) E dL_setSpeed_4 rfl rfl ?_
  obtain ⟨r_1, hr_2, hf⟩ := bd_some hf
  have hc_3 := cX11_setSpeed_ok (l := l) (B := B) (D := D) (cT := cT) (n := n) (adK := adK) (adV := adV) hl0 h0 hr_2
  refine tx_cI (pc := 5) (tx_vi E lmL_98 mtX11_setSpeed hc_3 h0 rfl rfl (Nat.le_of_ble_eq_true rfl) ⟨(Nat.le_of_ble_eq_true rfl), (Nat.le_of_ble_eq_true rfl)⟩ ⟨(Nat.le_of_ble_eq_true rfl), (Nat.le_of_ble_eq_true rfl)⟩ dL_setSpeed_5) (fun k_4 m_5 hx_6 => ?_) (fun v_7 m_5 hx_6 => ?_)
  · subst hx_6
    have hf := xc_r hf
    by_cases x_0 : k_4 = 2
    · have hf := ip x_0 hf
      subst x_0
      refine tx_catch (pc := 5) (i := 0) E htab (by decide) rfl (by decide) (gw_mem (mt5 (at_l 68 rfl)) rfl) (fun j hj => absurd hj (by omega)) (fun qx => ?_)
      refine tt_astore (pc := 13) (i := 4) (lv' := [(4, .ref qx), (0, .ref (B + o0)), (1, .int v1), (2, .int v2), (3, .ref (B + o3))]) E dL_setSpeed_13 (Nat.le_of_ble_eq_true rfl) rfl ?_
      refine tt_iconst (pc := 15) (v := 1) E dL_setSpeed_15 ic_1 ?_
      exact tt_iret (pc := 16) E hr hlk dL_setSpeed_16 (Nat.le_of_ble_eq_true rfl) (Nat.le_of_ble_eq_true rfl) hf
    have hf := ine x_0 hf
    by_cases x_1 : k_4 = 0
    · have hf := ip x_1 hf
      subst x_1
      refine tx_catch (pc := 5) (i := 1) E htab (by decide) rfl (by decide) (gw_mem (mt3 (at_l 211 rfl)) rfl) (fun j hj q hq => by
          rcases (show j = 0 by omega) with rfl
          · cases hq; exact ⟨by decide, 2, by decide, by decide, (gw_mem (mt5 (at_l 68 rfl)) rfl)⟩) (fun qx => ?_)
      refine tt_astore (pc := 17) (i := 4) (lv' := [(4, .ref qx), (0, .ref (B + o0)), (1, .int v1), (2, .int v2), (3, .ref (B + o3))]) E dL_setSpeed_17 (Nat.le_of_ble_eq_true rfl) rfl ?_
      refine tt_iconst (pc := 19) (v := 2) E dL_setSpeed_19 ic_2 ?_
      exact tt_iret (pc := 20) E hr hlk dL_setSpeed_20 (Nat.le_of_ble_eq_true rfl) (Nat.le_of_ble_eq_true rfl) hf
    have hf := ine x_1 hf
    exact absurd hf (fun h => by cases h)
  subst hx_6
  have hf := xc_l hf
  refine tt_i2l (pc := 8) E dL_setSpeed_8 ?_
  obtain ⟨g_8, hf⟩ := gd_some hf
  refine tt_last (pc := 9) E h3 g_8 dL_setSpeed_9 (tt_nmM hf (fun m_9 hf => ?_))
  refine tt_goto (pc := 10) (tgt := 21) E dL_setSpeed_10 rfl ?_
  refine tt_iconst (pc := 21) (v := 0) E dL_setSpeed_21 ic_0 ?_
  exact tt_iret (pc := 22) E hr hlk dL_setSpeed_22 (Nat.le_of_ble_eq_true rfl) (Nat.le_of_ble_eq_true rfl) hf
set_option maxHeartbeats 4000000 in
theorem cL_heal_ok {l : Launch} {B : Nat} {D : va_G} {cT : Nat → ClassId} {n : Nat} {adK adV : Nat → Nat} {o0 : Nat} {v1 : Int32} {v2 : Int32} {o3 : Nat} (hl0 : l.stackTraces = false) {μ : Mem} {res : Int32 × Mem} (h0 : isK n o0 8) (h3 : isK n o3 12) (hf : fL_heal o0 v1 v2 o3 μ = some res) : MIw l yL_heal cL_heal 5 (some .int) hhL_heal rmL_heal B D cT (XW B adK adV) n [.ref (B + o0), .int v1, .int v2, .ref (B + o3)] μ res := by
  refine tt_ofWL mtL_heal (Nat.le_of_ble_eq_true rfl) rfl ?_
  intro p e s m below meth c E0 hr hlk htab
  have E : EE p s m _ c cL_heal 5 RL B D cT (XW B adK adV) := E0
  unfold fL_heal at hf
  refine tt_aload_n (pc := 0) (i := 3) (j := 3) E dL_heal_0 rfl rfl ?_
  refine tt_iconst (pc := 1) (v := 0) E dL_heal_1 ic_0 ?_
  refine tt_aload_n (pc := 2) (i := 0) (j := 0) E dL_heal_2 rfl rfl ?_
  refine tt_iload_n (pc := 3) (i := 1) (j := 1) E dL_heal_3 rfl rfl ?_
  refine tt_iload_n (pc := 4) (i := 2) (j := 2) E dL_heal_4 rfl rfl ?_
  obtain ⟨r_1, hr_2, hf⟩ := bd_some hf
  have hc_3 := cX11_heal_ok (l := l) (B := B) (D := D) (cT := cT) (n := n) (adK := adK) (adV := adV) hl0 h0 hr_2
  refine tx_cI (pc := 5) (tx_vi E lmL_101 mtX11_heal hc_3 h0 rfl rfl (Nat.le_of_ble_eq_true rfl) ⟨(Nat.le_of_ble_eq_true rfl), (Nat.le_of_ble_eq_true rfl)⟩ ⟨(Nat.le_of_ble_eq_true rfl), (Nat.le_of_ble_eq_true rfl)⟩ dL_heal_5) (fun k_4 m_5 hx_6 => ?_) (fun v_7 m_5 hx_6 => ?_)
  · subst hx_6
    have hf := xc_r hf
    by_cases x_0 : k_4 = 2
    · have hf := ip x_0 hf
      subst x_0
      refine tx_catch (pc := 5) (i := 0) E htab (by decide) rfl (by decide) (gw_mem (mt5 (at_l 68 rfl)) rfl) (fun j hj => absurd hj (by omega)) (fun qx => ?_)
      refine tt_astore (pc := 13) (i := 4) (lv' := [(4, .ref qx), (0, .ref (B + o0)), (1, .int v1), (2, .int v2), (3, .ref (B + o3))]) E dL_heal_13 (Nat.le_of_ble_eq_true rfl) rfl ?_
      refine tt_iconst (pc := 15) (v := 1) E dL_heal_15 ic_1 ?_
      exact tt_iret (pc := 16) E hr hlk dL_heal_16 (Nat.le_of_ble_eq_true rfl) (Nat.le_of_ble_eq_true rfl) hf
    have hf := ine x_0 hf
    by_cases x_1 : k_4 = 0
    · have hf := ip x_1 hf
      subst x_1
      refine tx_catch (pc := 5) (i := 1) E htab (by decide) rfl (by decide) (gw_mem (mt3 (at_l 211 rfl)) rfl) (fun j hj q hq => by
          rcases (show j = 0 by omega) with rfl
          · cases hq; exact ⟨by decide, 2, by decide, by decide, (gw_mem (mt5 (at_l 68 rfl)) rfl)⟩) (fun qx => ?_)
      refine tt_astore (pc := 17) (i := 4) (lv' := [(4, .ref qx), (0, .ref (B + o0)), (1, .int v1), (2, .int v2), (3, .ref (B + o3))]) E dL_heal_17 (Nat.le_of_ble_eq_true rfl) rfl ?_
      refine tt_iconst (pc := 19) (v := 2) E dL_heal_19 ic_2 ?_
      exact tt_iret (pc := 20) E hr hlk dL_heal_20 (Nat.le_of_ble_eq_true rfl) (Nat.le_of_ble_eq_true rfl) hf
    have hf := ine x_1 hf
    exact absurd hf (fun h => by cases h)
  subst hx_6
  have hf := xc_l hf
  refine tt_i2l (pc := 8) E dL_heal_8 ?_
  obtain ⟨g_8, hf⟩ := gd_some hf
  refine tt_last (pc := 9) E h3 g_8 dL_heal_9 (tt_nmM hf (fun m_9 hf => ?_))
  refine tt_goto (pc := 10) (tgt := 21) E dL_heal_10 rfl ?_
  refine tt_iconst (pc := 21) (v := 0) E dL_heal_21 ic_0 ?_
  exact tt_iret (pc := 22) E hr hlk dL_heal_22 (Nat.le_of_ble_eq_true rfl) (Nat.le_of_ble_eq_true rfl) hf
set_option maxHeartbeats 4000000 in
theorem cL_setWheel_ok {l : Launch} {B : Nat} {D : va_G} {cT : Nat → ClassId} {n : Nat} {adK adV : Nat → Nat} {o0 : Nat} {v1 : Int32} {o2 : Nat} (hl0 : l.stackTraces = false) {μ : Mem} {res : Int32 × Mem} (h0 : isK n o0 8) (h2 : isK n o2 12) (hf : fL_setWheel o0 v1 o2 μ = some res) : MIw l yL_setWheel cL_setWheel 4 (some .int) hhL_setWheel rmL_setWheel B D cT (XW B adK adV) n [.ref (B + o0), .int v1, .ref (B + o2)] μ res := by
  refine tt_ofWL mtL_setWheel (Nat.le_of_ble_eq_true rfl) rfl ?_
  intro p e s m below meth c E0 hr hlk htab
  have E : EE p s m _ c cL_setWheel 4 RL B D cT (XW B adK adV) := E0
  unfold fL_setWheel at hf
  refine tt_aload_n (pc := 0) (i := 2) (j := 2) E dL_setWheel_0 rfl rfl ?_
  refine tt_iconst (pc := 1) (v := 0) E dL_setWheel_1 ic_0 ?_
  refine tt_aload_n (pc := 2) (i := 0) (j := 0) E dL_setWheel_2 rfl rfl ?_
  refine tt_iload_n (pc := 3) (i := 1) (j := 1) E dL_setWheel_3 rfl rfl ?_
  obtain ⟨r_1, hr_2, hf⟩ := bd_some hf
  have hc_3 := cX11_setWheel_ok (l := l) (B := B) (D := D) (cT := cT) (n := n) (adK := adK) (adV := adV) hl0 h0 hr_2
  refine tx_cI (pc := 4) (tx_vi E lmL_104 mtX11_setWheel hc_3 h0 rfl rfl (Nat.le_of_ble_eq_true rfl) ⟨(Nat.le_of_ble_eq_true rfl), (Nat.le_of_ble_eq_true rfl)⟩ ⟨(Nat.le_of_ble_eq_true rfl), (Nat.le_of_ble_eq_true rfl)⟩ dL_setWheel_4) (fun k_4 m_5 hx_6 => ?_) (fun v_7 m_5 hx_6 => ?_)
  · subst hx_6
    have hf := xc_r hf
    by_cases x_0 : k_4 = 0
    · have hf := ip x_0 hf
      subst x_0
      refine tx_catch (pc := 4) (i := 0) E htab (by decide) rfl (by decide) (gw_mem (mt3 (at_l 211 rfl)) rfl) (fun j hj => absurd hj (by omega)) (fun qx => ?_)
      refine tt_astore_n (pc := 12) (i := 3) (lv' := [(3, .ref qx), (0, .ref (B + o0)), (1, .int v1), (2, .ref (B + o2))]) E dL_setWheel_12 rfl (Nat.le_of_ble_eq_true rfl) rfl ?_
      refine tt_iconst (pc := 13) (v := 1) E dL_setWheel_13 ic_1 ?_
      exact tt_iret (pc := 14) E hr hlk dL_setWheel_14 (Nat.le_of_ble_eq_true rfl) (Nat.le_of_ble_eq_true rfl) hf
    have hf := ine x_0 hf
    exact absurd hf (fun h => by cases h)
  subst hx_6
  have hf := xc_l hf
  refine tt_i2l (pc := 7) E dL_setWheel_7 ?_
  obtain ⟨g_8, hf⟩ := gd_some hf
  refine tt_last (pc := 8) E h2 g_8 dL_setWheel_8 (tt_nmM hf (fun m_9 hf => ?_))
  refine tt_goto (pc := 9) (tgt := 15) E dL_setWheel_9 rfl ?_
  refine tt_iconst (pc := 15) (v := 0) E dL_setWheel_15 ic_0 ?_
  exact tt_iret (pc := 16) E hr hlk dL_setWheel_16 (Nat.le_of_ble_eq_true rfl) (Nat.le_of_ble_eq_true rfl) hf
set_option maxHeartbeats 4000000 in
theorem cL_setAct_ok {l : Launch} {B : Nat} {D : va_G} {cT : Nat → ClassId} {n : Nat} {adK adV : Nat → Nat} {o0 : Nat} {v1 : Int32} {v2 : Int32} {v3 : Int32} {v4 : Int32} {o5 : Nat} (hl0 : l.stackTraces = false) {μ : Mem} {res : Int32 × Mem} (h0 : isK n o0 8) (h5 : isK n o5 12) (hf : fL_setAct o0 v1 v2 v3 v4 o5 μ = some res) : MIw l yL_setAct cL_setAct 7 (some .int) hhL_setAct rmL_setAct B D cT (XW B adK adV) n [.ref (B + o0), .int v1, .int v2, .int v3, .int v4, .ref (B + o5)] μ res := by
  refine tt_ofWL mtL_setAct (Nat.le_of_ble_eq_true rfl) rfl ?_
  intro p e s m below meth c E0 hr hlk htab
  have E : EE p s m _ c cL_setAct 7 RL B D cT (XW B adK adV) := E0
  unfold fL_setAct at hf
  refine tt_aload (pc := 0) (i := 5) (j := 5) E dL_setAct_0 rfl ?_
  refine tt_iconst (pc := 2) (v := 0) E dL_setAct_2 ic_0 ?_
  refine tt_aload_n (pc := 3) (i := 0) (j := 0) E dL_setAct_3 rfl rfl ?_
  refine tt_iload_n (pc := 4) (i := 1) (j := 1) E dL_setAct_4 rfl rfl ?_
  refine tt_iload_n (pc := 5) (i := 2) (j := 2) E dL_setAct_5 rfl rfl ?_
  refine tt_iload_n (pc := 6) (i := 3) (j := 3) E dL_setAct_6 rfl rfl ?_
  refine tt_iload (pc := 7) (i := 4) (j := 4) E dL_setAct_7 rfl ?_
  obtain ⟨r_1, hr_2, hf⟩ := bd_some hf
  have hc_3 := cX11_setAct_ok (l := l) (B := B) (D := D) (cT := cT) (n := n) (adK := adK) (adV := adV) hl0 h0 hr_2
  refine tx_cI (pc := 9) (tx_vi E lmL_107 mtX11_setAct hc_3 h0 rfl rfl (Nat.le_of_ble_eq_true rfl) ⟨(Nat.le_of_ble_eq_true rfl), (Nat.le_of_ble_eq_true rfl)⟩ ⟨(Nat.le_of_ble_eq_true rfl), (Nat.le_of_ble_eq_true rfl)⟩ dL_setAct_9) (fun k_4 m_5 hx_6 => ?_) (fun v_7 m_5 hx_6 => ?_)
  · subst hx_6
    have hf := xc_r hf
    by_cases x_0 : k_4 = 2
    · have hf := ip x_0 hf
      subst x_0
      refine tx_catch (pc := 9) (i := 0) E htab (by decide) rfl (by decide) (gw_mem (mt5 (at_l 68 rfl)) rfl) (fun j hj => absurd hj (by omega)) (fun qx => ?_)
      refine tt_astore (pc := 17) (i := 6) (lv' := [(6, .ref qx), (0, .ref (B + o0)), (1, .int v1), (2, .int v2), (3, .int v3), (4, .int v4), (5, .ref (B + o5))]) E dL_setAct_17 (Nat.le_of_ble_eq_true rfl) rfl ?_
      refine tt_iconst (pc := 19) (v := 1) E dL_setAct_19 ic_1 ?_
      exact tt_iret (pc := 20) E hr hlk dL_setAct_20 (Nat.le_of_ble_eq_true rfl) (Nat.le_of_ble_eq_true rfl) hf
    have hf := ine x_0 hf
    by_cases x_1 : k_4 = 0
    · have hf := ip x_1 hf
      subst x_1
      refine tx_catch (pc := 9) (i := 1) E htab (by decide) rfl (by decide) (gw_mem (mt3 (at_l 211 rfl)) rfl) (fun j hj q hq => by
          rcases (show j = 0 by omega) with rfl
          · cases hq; exact ⟨by decide, 2, by decide, by decide, (gw_mem (mt5 (at_l 68 rfl)) rfl)⟩) (fun qx => ?_)
      refine tt_astore (pc := 21) (i := 6) (lv' := [(6, .ref qx), (0, .ref (B + o0)), (1, .int v1), (2, .int v2), (3, .int v3), (4, .int v4), (5, .ref (B + o5))]) E dL_setAct_21 (Nat.le_of_ble_eq_true rfl) rfl ?_
      refine tt_iconst (pc := 23) (v := 2) E dL_setAct_23 ic_2 ?_
      exact tt_iret (pc := 24) E hr hlk dL_setAct_24 (Nat.le_of_ble_eq_true rfl) (Nat.le_of_ble_eq_true rfl) hf
    have hf := ine x_1 hf
    exact absurd hf (fun h => by cases h)
  subst hx_6
  have hf := xc_l hf
  refine tt_i2l (pc := 12) E dL_setAct_12 ?_
  obtain ⟨g_8, hf⟩ := gd_some hf
  refine tt_last (pc := 13) E h5 g_8 dL_setAct_13 (tt_nmM hf (fun m_9 hf => ?_))
  refine tt_goto (pc := 14) (tgt := 25) E dL_setAct_14 rfl ?_
  refine tt_iconst (pc := 25) (v := 0) E dL_setAct_25 ic_0 ?_
  exact tt_iret (pc := 26) E hr hlk dL_setAct_26 (Nat.le_of_ble_eq_true rfl) (Nat.le_of_ble_eq_true rfl) hf
set_option maxHeartbeats 4000000 in
theorem cL_reportByte_ok {l : Launch} {B : Nat} {D : va_G} {cT : Nat → ClassId} {n : Nat} {adK adV : Nat → Nat} {o0 : Nat} {v1 : Int32} {o2 : Nat} (hl0 : l.stackTraces = false) {μ : Mem} {res : Int32 × Mem} (h0 : isK n o0 8) (h2 : isK n o2 12) (hf : fL_reportByte o0 v1 o2 μ = some res) : MIw l yL_reportByte cL_reportByte 4 (some .int) hhL_reportByte rmL_reportByte B D cT (XW B adK adV) n [.ref (B + o0), .int v1, .ref (B + o2)] μ res := by
  refine tt_ofWL mtL_reportByte (Nat.le_of_ble_eq_true rfl) rfl ?_
  intro p e s m below meth c E0 hr hlk htab
  have E : EE p s m _ c cL_reportByte 4 RL B D cT (XW B adK adV) := E0
  unfold fL_reportByte at hf
  refine tt_aload_n (pc := 0) (i := 2) (j := 2) E dL_reportByte_0 rfl rfl ?_
  refine tt_iconst (pc := 1) (v := 0) E dL_reportByte_1 ic_0 ?_
  refine tt_aload_n (pc := 2) (i := 0) (j := 0) E dL_reportByte_2 rfl rfl ?_
  refine tt_iload_n (pc := 3) (i := 1) (j := 1) E dL_reportByte_3 rfl rfl ?_
  obtain ⟨r_1, hr_2, hf⟩ := bd_some hf
  have hc_3 := cX11_reportByte_ok (l := l) (B := B) (D := D) (cT := cT) (n := n) (adK := adK) (adV := adV) hl0 h0 hr_2
  refine tx_cI (pc := 4) (tx_vi E lmL_111 mtX11_reportByte hc_3 h0 rfl rfl (Nat.le_of_ble_eq_true rfl) ⟨(Nat.le_of_ble_eq_true rfl), (Nat.le_of_ble_eq_true rfl)⟩ ⟨(Nat.le_of_ble_eq_true rfl), (Nat.le_of_ble_eq_true rfl)⟩ dL_reportByte_4) (fun k_4 m_5 hx_6 => ?_) (fun v_7 m_5 hx_6 => ?_)
  · subst hx_6
    have hf := xc_r hf
    by_cases x_0 : k_4 = 2
    · have hf := ip x_0 hf
      subst x_0
      refine tx_catch (pc := 4) (i := 0) E htab (by decide) rfl (by decide) (gw_mem (mt5 (at_l 68 rfl)) rfl) (fun j hj => absurd hj (by omega)) (fun qx => ?_)
      refine tt_astore_n (pc := 12) (i := 3) (lv' := [(3, .ref qx), (0, .ref (B + o0)), (1, .int v1), (2, .ref (B + o2))]) E dL_reportByte_12 rfl (Nat.le_of_ble_eq_true rfl) rfl ?_
      refine tt_iconst (pc := 13) (v := 1) E dL_reportByte_13 ic_1 ?_
      exact tt_iret (pc := 14) E hr hlk dL_reportByte_14 (Nat.le_of_ble_eq_true rfl) (Nat.le_of_ble_eq_true rfl) hf
    have hf := ine x_0 hf
    exact absurd hf (fun h => by cases h)
  subst hx_6
  have hf := xc_l hf
  refine tt_i2l (pc := 7) E dL_reportByte_7 ?_
  obtain ⟨g_8, hf⟩ := gd_some hf
  refine tt_last (pc := 8) E h2 g_8 dL_reportByte_8 (tt_nmM hf (fun m_9 hf => ?_))
  refine tt_goto (pc := 9) (tgt := 15) E dL_reportByte_9 rfl ?_
  refine tt_iconst (pc := 15) (v := 0) E dL_reportByte_15 ic_0 ?_
  exact tt_iret (pc := 16) E hr hlk dL_reportByte_16 (Nat.le_of_ble_eq_true rfl) (Nat.le_of_ble_eq_true rfl) hf
set_option maxHeartbeats 4000000 in
theorem cL_restore_ok {l : Launch} {B : Nat} {D : va_G} {cT : Nat → ClassId} {n : Nat} {adK adV : Nat → Nat} {o0 : Nat} {o1 : Nat} (hl0 : l.stackTraces = false) {μ : Mem} {res : Int32 × Mem} (h0 : isK n o0 8) (h1 : isK n o1 12) (hf : fL_restore o0 o1 μ = some res) : MIw l yL_restore cL_restore 3 (some .int) hhL_restore rmL_restore B D cT (XW B adK adV) n [.ref (B + o0), .ref (B + o1)] μ res := by
  refine tt_ofWL mtL_restore (Nat.le_of_ble_eq_true rfl) rfl ?_
  intro p e s m below meth c E0 hr hlk htab
  have E : EE p s m _ c cL_restore 3 RL B D cT (XW B adK adV) := E0
  unfold fL_restore at hf
  refine tt_aload_n (pc := 0) (i := 1) (j := 1) E dL_restore_0 rfl rfl ?_
  refine tt_iconst (pc := 1) (v := 0) E dL_restore_1 ic_0 ?_
  refine tt_aload_n (pc := 2) (i := 0) (j := 0) E dL_restore_2 rfl rfl ?_
  obtain ⟨r_1, hr_2, hf⟩ := bd_some hf
  have hc_3 := cX11_restore_ok (l := l) (B := B) (D := D) (cT := cT) (n := n) (adK := adK) (adV := adV) hl0 h0 hr_2
  refine tx_cI (pc := 3) (tx_vi E lmL_114 mtX11_restore hc_3 h0 rfl rfl (Nat.le_of_ble_eq_true rfl) ⟨(Nat.le_of_ble_eq_true rfl), (Nat.le_of_ble_eq_true rfl)⟩ ⟨(Nat.le_of_ble_eq_true rfl), (Nat.le_of_ble_eq_true rfl)⟩ dL_restore_3) (fun k_4 m_5 hx_6 => ?_) (fun v_7 m_5 hx_6 => ?_)
  · subst hx_6
    have hf := xc_r hf
    by_cases x_0 : k_4 = 1
    · have hf := ip x_0 hf
      subst x_0
      refine tx_catch (pc := 3) (i := 0) E htab (by decide) rfl (by decide) (gw_mem (mt3 (at_l 128 rfl)) rfl) (fun j hj => absurd hj (by omega)) (fun qx => ?_)
      refine tt_astore_n (pc := 11) (i := 2) (lv' := [(2, .ref qx), (0, .ref (B + o0)), (1, .ref (B + o1))]) E dL_restore_11 rfl (Nat.le_of_ble_eq_true rfl) rfl ?_
      refine tt_iconst (pc := 12) (v := 1) E dL_restore_12 ic_1 ?_
      exact tt_iret (pc := 13) E hr hlk dL_restore_13 (Nat.le_of_ble_eq_true rfl) (Nat.le_of_ble_eq_true rfl) hf
    have hf := ine x_0 hf
    exact absurd hf (fun h => by cases h)
  subst hx_6
  have hf := xc_l hf
  refine tt_i2l (pc := 6) E dL_restore_6 ?_
  obtain ⟨g_8, hf⟩ := gd_some hf
  refine tt_last (pc := 7) E h1 g_8 dL_restore_7 (tt_nmM hf (fun m_9 hf => ?_))
  refine tt_goto (pc := 8) (tgt := 14) E dL_restore_8 rfl ?_
  refine tt_iconst (pc := 14) (v := 0) E dL_restore_14 ic_0 ?_
  exact tt_iret (pc := 15) E hr hlk dL_restore_15 (Nat.le_of_ble_eq_true rfl) (Nat.le_of_ble_eq_true rfl) hf
