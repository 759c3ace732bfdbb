/-! the law's loop -/
set_option maxHeartbeats 4000000 in
theorem tL_law {p : Program} {l : Launch} {e : Env} {s : State} {m : MethodId} {below : List Frame} {meth : Method} {c : Code} {B : Nat} {D : va_G} {cT : Nat → ClassId} {n : Nat} {adK adV : Nat → Nat} {b L : Nat} {xs : Nat → Int32} {res : Mem} (E : EE p s m #[Value.ref b] c cL_law 9 RL B D cT (XW B adK adV)) (hr : meth.sig.returnType = ret) (hlk : meth.locks = false) (hl0 : l.stackTraces = false) (hX : va_X b L xs s s.heap) (hbB : b < B) (hbl : b < s.heap.size) (hBs : s.heap.size ≤ B) {o1 o2 o3 : Nat} (h1 : isK n o1 8) (h2 : isK n o2 9) (h3 : isK n o3 12) : ∀ (fu : Nat) (v4 : Int32) (μ : Mem) (kc ks : Nat), kc + fu ≤ 601024 → ks + 6 * fu ≤ 7293034 → zl2 (gL_law L xs o1 o2 o3) fu v4 μ = some (1, res) → TT p l e room_1 s m #[Value.ref b] below meth c (lw_Z below #[Value.ref b] s) 9 B D cT n kc ks μ 23 [(0, .ref b), (1, .ref (B + o1)), (2, .ref (B + o2)), (3, .ref (B + o3)), (4, .int v4)] [] := by
  intro fu
  induction fu with
  | zero => intro v4 μ kc ks _ _ hf; exact absurd hf (fun h => by cases h)
  | succ fu ih =>
    intro v4 μ kc ks hkf hsf hf
    have hk1 : kc + 1 ≤ 601024 := by omega
    have hs1 : ks + 6 ≤ 7293034 := by omega
    have hk0 : kc ≤ 601024 := by omega
    have hs0 : ks ≤ 7293034 := by omega
    have hf : gL_law L xs o1 o2 o3 (zl2 (gL_law L xs o1 o2 o3) fu) v4 μ = some (1, res) := hf
    unfold gL_law at hf
    refine tt_iload (pc := 23) (i := 4) (j := 4) E dL_law_23 rfl ?_
    refine tt_aload_n (pc := 25) (i := 0) (j := 0) E dL_law_25 rfl rfl ?_
    refine tt_scL (pc := 26) E hX hbB hbl dL_law_26 ?_
    refine tt_bipush (pc := 27) (v := 6) E dL_law_27 bc_6 ?_
    refine tt_isub (pc := 29) E dL_law_29 ?_
    refine tt_icmp_gt (pc := 30) (tgt := 2455) E dL_law_30 rfl (fun c_2 => ?_) (fun c_2 => ?_)
    · have hf := ip c_2 hf
      refine tt_iconst (pc := 2455) (v := 1) E dL_law_2455 ic_1 ?_
      exact tl_ret (pc := 2456) E hr hlk hBs hk0 hs0 dL_law_2456
    · have hf := ine c_2 hf
      refine tt_aload_n (pc := 33) (i := 0) (j := 0) E dL_law_33 rfl rfl ?_
      refine tt_iload (pc := 34) (i := 4) (j := 4) E dL_law_34 rfl ?_
      obtain ⟨g_1, hf⟩ := gd_some hf
      refine tt_scA (pc := 36) E hX hbB hbl g_1 dL_law_36 ?_
      refine tt_bipush (pc := 37) (v := 63) E dL_law_37 bc_63 ?_
      refine tt_iand (pc := 39) E dL_law_39 ?_
      refine tt_nmI hf (fun vsw hf => ?_)
      by_cases s_0 : vsw = 0
      · have hf := ip s_0 hf
        refine tt_swIn (pc := 40) (tgt := 232) E dL_law_40 (sw1 s_0 (by decide)) (sw2 s_0 (by decide)) (sw3 s_0 rfl) rfl ?_
        refine tt_sub [0, 1, 2, 3, 4] (lv' := [(0, .ref b), (1, .ref (B + o1)), (2, .ref (B + o2)), (3, .ref (B + o3)), (4, .int v4)]) rfl ?_
        exact tL_law_232 E hr hlk hl0 hX hbB hbl hBs h1 h2 h3 hk1 hs1 (fun v4 μ hf => ih v4 μ (kc + 1) (ks + 6) (by omega) (by omega) hf) hf
      have hf := ine s_0 hf
      by_cases s_1 : vsw = 1
      · have hf := ip s_1 hf
        refine tt_swIn (pc := 40) (tgt := 336) E dL_law_40 (sw1 s_1 (by decide)) (sw2 s_1 (by decide)) (sw3 s_1 rfl) rfl ?_
        refine tt_sub [0, 1, 2, 3, 4] (lv' := [(0, .ref b), (1, .ref (B + o1)), (2, .ref (B + o2)), (3, .ref (B + o3)), (4, .int v4)]) rfl ?_
        exact tL_law_336 E hr hlk hl0 hX hbB hbl hBs h1 h2 h3 hk1 hs1 (fun v4 μ hf => ih v4 μ (kc + 1) (ks + 6) (by omega) (by omega) hf) hf
      have hf := ine s_1 hf
      by_cases s_2 : vsw = 2
      · have hf := ip s_2 hf
        refine tt_swIn (pc := 40) (tgt := 392) E dL_law_40 (sw1 s_2 (by decide)) (sw2 s_2 (by decide)) (sw3 s_2 rfl) rfl ?_
        refine tt_sub [0, 1, 2, 3, 4] (lv' := [(0, .ref b), (1, .ref (B + o1)), (2, .ref (B + o2)), (3, .ref (B + o3)), (4, .int v4)]) rfl ?_
        exact tL_law_392 E hr hlk hl0 hX hbB hbl hBs h1 h2 h3 hk1 hs1 (fun v4 μ hf => ih v4 μ (kc + 1) (ks + 6) (by omega) (by omega) hf) hf
      have hf := ine s_2 hf
      by_cases s_3 : vsw = 3
      · have hf := ip s_3 hf
        refine tt_swIn (pc := 40) (tgt := 436) E dL_law_40 (sw1 s_3 (by decide)) (sw2 s_3 (by decide)) (sw3 s_3 rfl) rfl ?_
        refine tt_sub [0, 1, 2, 3, 4] (lv' := [(0, .ref b), (1, .ref (B + o1)), (2, .ref (B + o2)), (3, .ref (B + o3)), (4, .int v4)]) rfl ?_
        exact tL_law_436 E hr hlk hl0 hX hbB hbl hBs h1 h2 h3 hk1 hs1 (fun v4 μ hf => ih v4 μ (kc + 1) (ks + 6) (by omega) (by omega) hf) hf
      have hf := ine s_3 hf
      by_cases s_4 : vsw = 4
      · have hf := ip s_4 hf
        refine tt_swIn (pc := 40) (tgt := 480) E dL_law_40 (sw1 s_4 (by decide)) (sw2 s_4 (by decide)) (sw3 s_4 rfl) rfl ?_
        refine tt_sub [0, 1, 2, 3, 4] (lv' := [(0, .ref b), (1, .ref (B + o1)), (2, .ref (B + o2)), (3, .ref (B + o3)), (4, .int v4)]) rfl ?_
        exact tL_law_480 E hr hlk hl0 hX hbB hbl hBs h1 h2 h3 hk1 hs1 (fun v4 μ hf => ih v4 μ (kc + 1) (ks + 6) (by omega) (by omega) hf) hf
      have hf := ine s_4 hf
      by_cases s_5 : vsw = 5
      · have hf := ip s_5 hf
        refine tt_swIn (pc := 40) (tgt := 493) E dL_law_40 (sw1 s_5 (by decide)) (sw2 s_5 (by decide)) (sw3 s_5 rfl) rfl ?_
        refine tt_sub [0, 1, 2, 3, 4] (lv' := [(0, .ref b), (1, .ref (B + o1)), (2, .ref (B + o2)), (3, .ref (B + o3)), (4, .int v4)]) rfl ?_
        exact tL_law_493 E hr hlk hl0 hX hbB hbl hBs h1 h2 h3 hk1 hs1 (fun v4 μ hf => ih v4 μ (kc + 1) (ks + 6) (by omega) (by omega) hf) hf
      have hf := ine s_5 hf
      by_cases s_6 : vsw = 6
      · have hf := ip s_6 hf
        refine tt_swIn (pc := 40) (tgt := 506) E dL_law_40 (sw1 s_6 (by decide)) (sw2 s_6 (by decide)) (sw3 s_6 rfl) rfl ?_
        refine tt_sub [0, 1, 2, 3, 4] (lv' := [(0, .ref b), (1, .ref (B + o1)), (2, .ref (B + o2)), (3, .ref (B + o3)), (4, .int v4)]) rfl ?_
        exact tL_law_506 E hr hlk hl0 hX hbB hbl hBs h1 h2 h3 hk1 hs1 (fun v4 μ hf => ih v4 μ (kc + 1) (ks + 6) (by omega) (by omega) hf) hf
      have hf := ine s_6 hf
      by_cases s_7 : vsw = 7
      · have hf := ip s_7 hf
        refine tt_swIn (pc := 40) (tgt := 562) E dL_law_40 (sw1 s_7 (by decide)) (sw2 s_7 (by decide)) (sw3 s_7 rfl) rfl ?_
        refine tt_sub [0, 1, 2, 3, 4] (lv' := [(0, .ref b), (1, .ref (B + o1)), (2, .ref (B + o2)), (3, .ref (B + o3)), (4, .int v4)]) rfl ?_
        exact tL_law_562 E hr hlk hl0 hX hbB hbl hBs h1 h2 h3 hk1 hs1 (fun v4 μ hf => ih v4 μ (kc + 1) (ks + 6) (by omega) (by omega) hf) hf
      have hf := ine s_7 hf
      by_cases s_8 : vsw = 8
      · have hf := ip s_8 hf
        refine tt_swIn (pc := 40) (tgt := 630) E dL_law_40 (sw1 s_8 (by decide)) (sw2 s_8 (by decide)) (sw3 s_8 rfl) rfl ?_
        refine tt_sub [0, 1, 2, 3, 4] (lv' := [(0, .ref b), (1, .ref (B + o1)), (2, .ref (B + o2)), (3, .ref (B + o3)), (4, .int v4)]) rfl ?_
        exact tL_law_630 E hr hlk hl0 hX hbB hbl hBs h1 h2 h3 hk1 hs1 (fun v4 μ hf => ih v4 μ (kc + 1) (ks + 6) (by omega) (by omega) hf) hf
      have hf := ine s_8 hf
      by_cases s_9 : vsw = 9
      · have hf := ip s_9 hf
        refine tt_swIn (pc := 40) (tgt := 698) E dL_law_40 (sw1 s_9 (by decide)) (sw2 s_9 (by decide)) (sw3 s_9 rfl) rfl ?_
        refine tt_sub [0, 1, 2, 3, 4] (lv' := [(0, .ref b), (1, .ref (B + o1)), (2, .ref (B + o2)), (3, .ref (B + o3)), (4, .int v4)]) rfl ?_
        exact tL_law_698 E hr hlk hl0 hX hbB hbl hBs h1 h2 h3 hk1 hs1 (fun v4 μ hf => ih v4 μ (kc + 1) (ks + 6) (by omega) (by omega) hf) hf
      have hf := ine s_9 hf
      by_cases s_10 : vsw = 10
      · have hf := ip s_10 hf
        refine tt_swIn (pc := 40) (tgt := 766) E dL_law_40 (sw1 s_10 (by decide)) (sw2 s_10 (by decide)) (sw3 s_10 rfl) rfl ?_
        refine tt_sub [0, 1, 2, 3, 4] (lv' := [(0, .ref b), (1, .ref (B + o1)), (2, .ref (B + o2)), (3, .ref (B + o3)), (4, .int v4)]) rfl ?_
        exact tL_law_766 E hr hlk hl0 hX hbB hbl hBs h1 h2 h3 hk1 hs1 (fun v4 μ hf => ih v4 μ (kc + 1) (ks + 6) (by omega) (by omega) hf) hf
      have hf := ine s_10 hf
      by_cases s_11 : vsw = 11
      · have hf := ip s_11 hf
        refine tt_swIn (pc := 40) (tgt := 834) E dL_law_40 (sw1 s_11 (by decide)) (sw2 s_11 (by decide)) (sw3 s_11 rfl) rfl ?_
        refine tt_sub [0, 1, 2, 3, 4] (lv' := [(0, .ref b), (1, .ref (B + o1)), (2, .ref (B + o2)), (3, .ref (B + o3)), (4, .int v4)]) rfl ?_
        exact tL_law_834 E hr hlk hl0 hX hbB hbl hBs h1 h2 h3 hk1 hs1 (fun v4 μ hf => ih v4 μ (kc + 1) (ks + 6) (by omega) (by omega) hf) hf
      have hf := ine s_11 hf
      by_cases s_12 : vsw = 12
      · have hf := ip s_12 hf
        refine tt_swIn (pc := 40) (tgt := 890) E dL_law_40 (sw1 s_12 (by decide)) (sw2 s_12 (by decide)) (sw3 s_12 rfl) rfl ?_
        refine tt_sub [0, 1, 2, 3, 4] (lv' := [(0, .ref b), (1, .ref (B + o1)), (2, .ref (B + o2)), (3, .ref (B + o3)), (4, .int v4)]) rfl ?_
        exact tL_law_890 E hr hlk hl0 hX hbB hbl hBs h1 h2 h3 hk1 hs1 (fun v4 μ hf => ih v4 μ (kc + 1) (ks + 6) (by omega) (by omega) hf) hf
      have hf := ine s_12 hf
      by_cases s_13 : vsw = 13
      · have hf := ip s_13 hf
        refine tt_swIn (pc := 40) (tgt := 915) E dL_law_40 (sw1 s_13 (by decide)) (sw2 s_13 (by decide)) (sw3 s_13 rfl) rfl ?_
        refine tt_sub [0, 1, 2, 3, 4] (lv' := [(0, .ref b), (1, .ref (B + o1)), (2, .ref (B + o2)), (3, .ref (B + o3)), (4, .int v4)]) rfl ?_
        exact tL_law_915 E hr hlk hl0 hX hbB hbl hBs h1 h2 h3 hk1 hs1 (fun v4 μ hf => ih v4 μ (kc + 1) (ks + 6) (by omega) (by omega) hf) hf
      have hf := ine s_13 hf
      by_cases s_14 : vsw = 14
      · have hf := ip s_14 hf
        refine tt_swIn (pc := 40) (tgt := 956) E dL_law_40 (sw1 s_14 (by decide)) (sw2 s_14 (by decide)) (sw3 s_14 rfl) rfl ?_
        refine tt_sub [0, 1, 2, 3, 4] (lv' := [(0, .ref b), (1, .ref (B + o1)), (2, .ref (B + o2)), (3, .ref (B + o3)), (4, .int v4)]) rfl ?_
        exact tL_law_956 E hr hlk hl0 hX hbB hbl hBs h1 h2 h3 hk1 hs1 (fun v4 μ hf => ih v4 μ (kc + 1) (ks + 6) (by omega) (by omega) hf) hf
      have hf := ine s_14 hf
      by_cases s_15 : vsw = 15
      · have hf := ip s_15 hf
        refine tt_swIn (pc := 40) (tgt := 999) E dL_law_40 (sw1 s_15 (by decide)) (sw2 s_15 (by decide)) (sw3 s_15 rfl) rfl ?_
        refine tt_sub [0, 1, 2, 3, 4] (lv' := [(0, .ref b), (1, .ref (B + o1)), (2, .ref (B + o2)), (3, .ref (B + o3)), (4, .int v4)]) rfl ?_
        exact tL_law_999 E hr hlk hl0 hX hbB hbl hBs h1 h2 h3 hk1 hs1 (fun v4 μ hf => ih v4 μ (kc + 1) (ks + 6) (by omega) (by omega) hf) hf
      have hf := ine s_15 hf
      by_cases s_16 : vsw = 16
      · have hf := ip s_16 hf
        refine tt_swIn (pc := 40) (tgt := 1055) E dL_law_40 (sw1 s_16 (by decide)) (sw2 s_16 (by decide)) (sw3 s_16 rfl) rfl ?_
        refine tt_sub [0, 1, 2, 3, 4] (lv' := [(0, .ref b), (1, .ref (B + o1)), (2, .ref (B + o2)), (3, .ref (B + o3)), (4, .int v4)]) rfl ?_
        exact tL_law_1055 E hr hlk hl0 hX hbB hbl hBs h1 h2 h3 hk1 hs1 (fun v4 μ hf => ih v4 μ (kc + 1) (ks + 6) (by omega) (by omega) hf) hf
      have hf := ine s_16 hf
      by_cases s_17 : vsw = 17
      · have hf := ip s_17 hf
        refine tt_swIn (pc := 40) (tgt := 1111) E dL_law_40 (sw1 s_17 (by decide)) (sw2 s_17 (by decide)) (sw3 s_17 rfl) rfl ?_
        refine tt_sub [0, 1, 2, 3, 4] (lv' := [(0, .ref b), (1, .ref (B + o1)), (2, .ref (B + o2)), (3, .ref (B + o3)), (4, .int v4)]) rfl ?_
        exact tL_law_1111 E hr hlk hl0 hX hbB hbl hBs h1 h2 h3 hk1 hs1 (fun v4 μ hf => ih v4 μ (kc + 1) (ks + 6) (by omega) (by omega) hf) hf
      have hf := ine s_17 hf
      by_cases s_18 : vsw = 18
      · have hf := ip s_18 hf
        refine tt_swIn (pc := 40) (tgt := 1167) E dL_law_40 (sw1 s_18 (by decide)) (sw2 s_18 (by decide)) (sw3 s_18 rfl) rfl ?_
        refine tt_sub [0, 1, 2, 3, 4] (lv' := [(0, .ref b), (1, .ref (B + o1)), (2, .ref (B + o2)), (3, .ref (B + o3)), (4, .int v4)]) rfl ?_
        exact tL_law_1167 E hr hlk hl0 hX hbB hbl hBs h1 h2 h3 hk1 hs1 (fun v4 μ hf => ih v4 μ (kc + 1) (ks + 6) (by omega) (by omega) hf) hf
      have hf := ine s_18 hf
      by_cases s_19 : vsw = 19
      · have hf := ip s_19 hf
        refine tt_swIn (pc := 40) (tgt := 1235) E dL_law_40 (sw1 s_19 (by decide)) (sw2 s_19 (by decide)) (sw3 s_19 rfl) rfl ?_
        refine tt_sub [0, 1, 2, 3, 4] (lv' := [(0, .ref b), (1, .ref (B + o1)), (2, .ref (B + o2)), (3, .ref (B + o3)), (4, .int v4)]) rfl ?_
        exact tL_law_1235 E hr hlk hl0 hX hbB hbl hBs h1 h2 h3 hk1 hs1 (fun v4 μ hf => ih v4 μ (kc + 1) (ks + 6) (by omega) (by omega) hf) hf
      have hf := ine s_19 hf
      by_cases s_20 : vsw = 20
      · have hf := ip s_20 hf
        refine tt_swIn (pc := 40) (tgt := 1303) E dL_law_40 (sw1 s_20 (by decide)) (sw2 s_20 (by decide)) (sw3 s_20 rfl) rfl ?_
        refine tt_sub [0, 1, 2, 3, 4] (lv' := [(0, .ref b), (1, .ref (B + o1)), (2, .ref (B + o2)), (3, .ref (B + o3)), (4, .int v4)]) rfl ?_
        exact tL_law_1303 E hr hlk hl0 hX hbB hbl hBs h1 h2 h3 hk1 hs1 (fun v4 μ hf => ih v4 μ (kc + 1) (ks + 6) (by omega) (by omega) hf) hf
      have hf := ine s_20 hf
      by_cases s_21 : vsw = 21
      · have hf := ip s_21 hf
        refine tt_swIn (pc := 40) (tgt := 1371) E dL_law_40 (sw1 s_21 (by decide)) (sw2 s_21 (by decide)) (sw3 s_21 rfl) rfl ?_
        refine tt_sub [0, 1, 2, 3, 4] (lv' := [(0, .ref b), (1, .ref (B + o1)), (2, .ref (B + o2)), (3, .ref (B + o3)), (4, .int v4)]) rfl ?_
        exact tL_law_1371 E hr hlk hl0 hX hbB hbl hBs h1 h2 h3 hk1 hs1 (fun v4 μ hf => ih v4 μ (kc + 1) (ks + 6) (by omega) (by omega) hf) hf
      have hf := ine s_21 hf
      by_cases s_22 : vsw = 22
      · have hf := ip s_22 hf
        refine tt_swIn (pc := 40) (tgt := 1427) E dL_law_40 (sw1 s_22 (by decide)) (sw2 s_22 (by decide)) (sw3 s_22 rfl) rfl ?_
        refine tt_sub [0, 1, 2, 3, 4] (lv' := [(0, .ref b), (1, .ref (B + o1)), (2, .ref (B + o2)), (3, .ref (B + o3)), (4, .int v4)]) rfl ?_
        exact tL_law_1427 E hr hlk hl0 hX hbB hbl hBs h1 h2 h3 hk1 hs1 (fun v4 μ hf => ih v4 μ (kc + 1) (ks + 6) (by omega) (by omega) hf) hf
      have hf := ine s_22 hf
      by_cases s_23 : vsw = 23
      · have hf := ip s_23 hf
        refine tt_swIn (pc := 40) (tgt := 1440) E dL_law_40 (sw1 s_23 (by decide)) (sw2 s_23 (by decide)) (sw3 s_23 rfl) rfl ?_
        refine tt_sub [0, 1, 2, 3, 4] (lv' := [(0, .ref b), (1, .ref (B + o1)), (2, .ref (B + o2)), (3, .ref (B + o3)), (4, .int v4)]) rfl ?_
        exact tL_law_1440 E hr hlk hl0 hX hbB hbl hBs h1 h2 h3 hk1 hs1 (fun v4 μ hf => ih v4 μ (kc + 1) (ks + 6) (by omega) (by omega) hf) hf
      have hf := ine s_23 hf
      by_cases s_24 : vsw = 24
      · have hf := ip s_24 hf
        refine tt_swIn (pc := 40) (tgt := 1453) E dL_law_40 (sw1 s_24 (by decide)) (sw2 s_24 (by decide)) (sw3 s_24 rfl) rfl ?_
        refine tt_sub [0, 1, 2, 3, 4] (lv' := [(0, .ref b), (1, .ref (B + o1)), (2, .ref (B + o2)), (3, .ref (B + o3)), (4, .int v4)]) rfl ?_
        exact tL_law_1453 E hr hlk hl0 hX hbB hbl hBs h1 h2 h3 hk1 hs1 (fun v4 μ hf => ih v4 μ (kc + 1) (ks + 6) (by omega) (by omega) hf) hf
      have hf := ine s_24 hf
      by_cases s_25 : vsw = 25
      · have hf := ip s_25 hf
        refine tt_swIn (pc := 40) (tgt := 1509) E dL_law_40 (sw1 s_25 (by decide)) (sw2 s_25 (by decide)) (sw3 s_25 rfl) rfl ?_
        refine tt_sub [0, 1, 2, 3, 4] (lv' := [(0, .ref b), (1, .ref (B + o1)), (2, .ref (B + o2)), (3, .ref (B + o3)), (4, .int v4)]) rfl ?_
        exact tL_law_1509 E hr hlk hl0 hX hbB hbl hBs h1 h2 h3 hk1 hs1 (fun v4 μ hf => ih v4 μ (kc + 1) (ks + 6) (by omega) (by omega) hf) hf
      have hf := ine s_25 hf
      by_cases s_26 : vsw = 26
      · have hf := ip s_26 hf
        refine tt_swIn (pc := 40) (tgt := 1522) E dL_law_40 (sw1 s_26 (by decide)) (sw2 s_26 (by decide)) (sw3 s_26 rfl) rfl ?_
        refine tt_sub [0, 1, 2, 3, 4] (lv' := [(0, .ref b), (1, .ref (B + o1)), (2, .ref (B + o2)), (3, .ref (B + o3)), (4, .int v4)]) rfl ?_
        exact tL_law_1522 E hr hlk hl0 hX hbB hbl hBs h1 h2 h3 hk1 hs1 (fun v4 μ hf => ih v4 μ (kc + 1) (ks + 6) (by omega) (by omega) hf) hf
      have hf := ine s_26 hf
      by_cases s_27 : vsw = 27
      · have hf := ip s_27 hf
        refine tt_swIn (pc := 40) (tgt := 1535) E dL_law_40 (sw1 s_27 (by decide)) (sw2 s_27 (by decide)) (sw3 s_27 rfl) rfl ?_
        refine tt_sub [0, 1, 2, 3, 4] (lv' := [(0, .ref b), (1, .ref (B + o1)), (2, .ref (B + o2)), (3, .ref (B + o3)), (4, .int v4)]) rfl ?_
        exact tL_law_1535 E hr hlk hl0 hX hbB hbl hBs h1 h2 h3 hk1 hs1 (fun v4 μ hf => ih v4 μ (kc + 1) (ks + 6) (by omega) (by omega) hf) hf
      have hf := ine s_27 hf
      by_cases s_28 : vsw = 28
      · have hf := ip s_28 hf
        refine tt_swIn (pc := 40) (tgt := 1591) E dL_law_40 (sw1 s_28 (by decide)) (sw2 s_28 (by decide)) (sw3 s_28 rfl) rfl ?_
        refine tt_sub [0, 1, 2, 3, 4] (lv' := [(0, .ref b), (1, .ref (B + o1)), (2, .ref (B + o2)), (3, .ref (B + o3)), (4, .int v4)]) rfl ?_
        exact tL_law_1591 E hr hlk hl0 hX hbB hbl hBs h1 h2 h3 hk1 hs1 (fun v4 μ hf => ih v4 μ (kc + 1) (ks + 6) (by omega) (by omega) hf) hf
      have hf := ine s_28 hf
      by_cases s_29 : vsw = 29
      · have hf := ip s_29 hf
        refine tt_swIn (pc := 40) (tgt := 1659) E dL_law_40 (sw1 s_29 (by decide)) (sw2 s_29 (by decide)) (sw3 s_29 rfl) rfl ?_
        refine tt_sub [0, 1, 2, 3, 4] (lv' := [(0, .ref b), (1, .ref (B + o1)), (2, .ref (B + o2)), (3, .ref (B + o3)), (4, .int v4)]) rfl ?_
        exact tL_law_1659 E hr hlk hl0 hX hbB hbl hBs h1 h2 h3 hk1 hs1 (fun v4 μ hf => ih v4 μ (kc + 1) (ks + 6) (by omega) (by omega) hf) hf
      have hf := ine s_29 hf
      by_cases s_30 : vsw = 30
      · have hf := ip s_30 hf
        refine tt_swIn (pc := 40) (tgt := 1715) E dL_law_40 (sw1 s_30 (by decide)) (sw2 s_30 (by decide)) (sw3 s_30 rfl) rfl ?_
        refine tt_sub [0, 1, 2, 3, 4] (lv' := [(0, .ref b), (1, .ref (B + o1)), (2, .ref (B + o2)), (3, .ref (B + o3)), (4, .int v4)]) rfl ?_
        exact tL_law_1715 E hr hlk hl0 hX hbB hbl hBs h1 h2 h3 hk1 hs1 (fun v4 μ hf => ih v4 μ (kc + 1) (ks + 6) (by omega) (by omega) hf) hf
      have hf := ine s_30 hf
      by_cases s_31 : vsw = 31
      · have hf := ip s_31 hf
        refine tt_swIn (pc := 40) (tgt := 1771) E dL_law_40 (sw1 s_31 (by decide)) (sw2 s_31 (by decide)) (sw3 s_31 rfl) rfl ?_
        refine tt_sub [0, 1, 2, 3, 4] (lv' := [(0, .ref b), (1, .ref (B + o1)), (2, .ref (B + o2)), (3, .ref (B + o3)), (4, .int v4)]) rfl ?_
        exact tL_law_1771 E hr hlk hl0 hX hbB hbl hBs h1 h2 h3 hk1 hs1 (fun v4 μ hf => ih v4 μ (kc + 1) (ks + 6) (by omega) (by omega) hf) hf
      have hf := ine s_31 hf
      by_cases s_32 : vsw = 32
      · have hf := ip s_32 hf
        refine tt_swIn (pc := 40) (tgt := 1827) E dL_law_40 (sw1 s_32 (by decide)) (sw2 s_32 (by decide)) (sw3 s_32 rfl) rfl ?_
        refine tt_sub [0, 1, 2, 3, 4] (lv' := [(0, .ref b), (1, .ref (B + o1)), (2, .ref (B + o2)), (3, .ref (B + o3)), (4, .int v4)]) rfl ?_
        exact tL_law_1827 E hr hlk hl0 hX hbB hbl hBs h1 h2 h3 hk1 hs1 (fun v4 μ hf => ih v4 μ (kc + 1) (ks + 6) (by omega) (by omega) hf) hf
      have hf := ine s_32 hf
      by_cases s_33 : vsw = 33
      · have hf := ip s_33 hf
        refine tt_swIn (pc := 40) (tgt := 1895) E dL_law_40 (sw1 s_33 (by decide)) (sw2 s_33 (by decide)) (sw3 s_33 rfl) rfl ?_
        refine tt_sub [0, 1, 2, 3, 4] (lv' := [(0, .ref b), (1, .ref (B + o1)), (2, .ref (B + o2)), (3, .ref (B + o3)), (4, .int v4)]) rfl ?_
        exact tL_law_1895 E hr hlk hl0 hX hbB hbl hBs h1 h2 h3 hk1 hs1 (fun v4 μ hf => ih v4 μ (kc + 1) (ks + 6) (by omega) (by omega) hf) hf
      have hf := ine s_33 hf
      by_cases s_34 : vsw = 34
      · have hf := ip s_34 hf
        refine tt_swIn (pc := 40) (tgt := 1963) E dL_law_40 (sw1 s_34 (by decide)) (sw2 s_34 (by decide)) (sw3 s_34 rfl) rfl ?_
        refine tt_sub [0, 1, 2, 3, 4] (lv' := [(0, .ref b), (1, .ref (B + o1)), (2, .ref (B + o2)), (3, .ref (B + o3)), (4, .int v4)]) rfl ?_
        exact tL_law_1963 E hr hlk hl0 hX hbB hbl hBs h1 h2 h3 hk1 hs1 (fun v4 μ hf => ih v4 μ (kc + 1) (ks + 6) (by omega) (by omega) hf) hf
      have hf := ine s_34 hf
      by_cases s_35 : vsw = 35
      · have hf := ip s_35 hf
        refine tt_swIn (pc := 40) (tgt := 2026) E dL_law_40 (sw1 s_35 (by decide)) (sw2 s_35 (by decide)) (sw3 s_35 rfl) rfl ?_
        refine tt_sub [0, 1, 2, 3, 4] (lv' := [(0, .ref b), (1, .ref (B + o1)), (2, .ref (B + o2)), (3, .ref (B + o3)), (4, .int v4)]) rfl ?_
        exact tL_law_2026 E hr hlk hl0 hX hbB hbl hBs h1 h2 h3 hk1 hs1 (fun v4 μ hf => ih v4 μ (kc + 1) (ks + 6) (by omega) (by omega) hf) hf
      have hf := ine s_35 hf
      by_cases s_36 : vsw = 36
      · have hf := ip s_36 hf
        refine tt_swIn (pc := 40) (tgt := 2094) E dL_law_40 (sw1 s_36 (by decide)) (sw2 s_36 (by decide)) (sw3 s_36 rfl) rfl ?_
        refine tt_sub [0, 1, 2, 3, 4] (lv' := [(0, .ref b), (1, .ref (B + o1)), (2, .ref (B + o2)), (3, .ref (B + o3)), (4, .int v4)]) rfl ?_
        exact tL_law_2094 E hr hlk hl0 hX hbB hbl hBs h1 h2 h3 hk1 hs1 (fun v4 μ hf => ih v4 μ (kc + 1) (ks + 6) (by omega) (by omega) hf) hf
      have hf := ine s_36 hf
      by_cases s_37 : vsw = 37
      · have hf := ip s_37 hf
        refine tt_swIn (pc := 40) (tgt := 2162) E dL_law_40 (sw1 s_37 (by decide)) (sw2 s_37 (by decide)) (sw3 s_37 rfl) rfl ?_
        refine tt_sub [0, 1, 2, 3, 4] (lv' := [(0, .ref b), (1, .ref (B + o1)), (2, .ref (B + o2)), (3, .ref (B + o3)), (4, .int v4)]) rfl ?_
        exact tL_law_2162 E hr hlk hl0 hX hbB hbl hBs h1 h2 h3 hk1 hs1 (fun v4 μ hf => ih v4 μ (kc + 1) (ks + 6) (by omega) (by omega) hf) hf
      have hf := ine s_37 hf
      by_cases s_38 : vsw = 38
      · have hf := ip s_38 hf
        refine tt_swIn (pc := 40) (tgt := 2218) E dL_law_40 (sw1 s_38 (by decide)) (sw2 s_38 (by decide)) (sw3 s_38 rfl) rfl ?_
        refine tt_sub [0, 1, 2, 3, 4] (lv' := [(0, .ref b), (1, .ref (B + o1)), (2, .ref (B + o2)), (3, .ref (B + o3)), (4, .int v4)]) rfl ?_
        exact tL_law_2218 E hr hlk hl0 hX hbB hbl hBs h1 h2 h3 hk1 hs1 (fun v4 μ hf => ih v4 μ (kc + 1) (ks + 6) (by omega) (by omega) hf) hf
      have hf := ine s_38 hf
      by_cases s_39 : vsw = 39
      · have hf := ip s_39 hf
        refine tt_swIn (pc := 40) (tgt := 2310) E dL_law_40 (sw1 s_39 (by decide)) (sw2 s_39 (by decide)) (sw3 s_39 rfl) rfl ?_
        refine tt_sub [0, 1, 2, 3, 4] (lv' := [(0, .ref b), (1, .ref (B + o1)), (2, .ref (B + o2)), (3, .ref (B + o3)), (4, .int v4)]) rfl ?_
        exact tL_law_2310 E hr hlk hl0 hX hbB hbl hBs h1 h2 h3 hk1 hs1 (fun v4 μ hf => ih v4 μ (kc + 1) (ks + 6) (by omega) (by omega) hf) hf
      have hf := ine s_39 hf
      by_cases s_40 : vsw = 40
      · have hf := ip s_40 hf
        refine tt_swIn (pc := 40) (tgt := 2323) E dL_law_40 (sw1 s_40 (by decide)) (sw2 s_40 (by decide)) (sw3 s_40 rfl) rfl ?_
        refine tt_sub [0, 1, 2, 3, 4] (lv' := [(0, .ref b), (1, .ref (B + o1)), (2, .ref (B + o2)), (3, .ref (B + o3)), (4, .int v4)]) rfl ?_
        exact tL_law_2323 E hr hlk hl0 hX hbB hbl hBs h1 h2 h3 hk1 hs1 (fun v4 μ hf => ih v4 μ (kc + 1) (ks + 6) (by omega) (by omega) hf) hf
      have hf := ine s_40 hf
      by_cases s_41 : vsw = 41
      · have hf := ip s_41 hf
        refine tt_swIn (pc := 40) (tgt := 2379) E dL_law_40 (sw1 s_41 (by decide)) (sw2 s_41 (by decide)) (sw3 s_41 rfl) rfl ?_
        refine tt_sub [0, 1, 2, 3, 4] (lv' := [(0, .ref b), (1, .ref (B + o1)), (2, .ref (B + o2)), (3, .ref (B + o3)), (4, .int v4)]) rfl ?_
        exact tL_law_2379 E hr hlk hl0 hX hbB hbl hBs h1 h2 h3 hk1 hs1 (fun v4 μ hf => ih v4 μ (kc + 1) (ks + 6) (by omega) (by omega) hf) hf
      have hf := ine s_41 hf
      by_cases s_42 : vsw = 42
      · have hf := ip s_42 hf
        refine tt_swIn (pc := 40) (tgt := 2392) E dL_law_40 (sw1 s_42 (by decide)) (sw2 s_42 (by decide)) (sw3 s_42 rfl) rfl ?_
        refine tt_sub [0, 1, 2, 3, 4] (lv' := [(0, .ref b), (1, .ref (B + o1)), (2, .ref (B + o2)), (3, .ref (B + o3)), (4, .int v4)]) rfl ?_
        exact tL_law_2392 E hr hlk hl0 hX hbB hbl hBs h1 h2 h3 hk1 hs1 (fun v4 μ hf => ih v4 μ (kc + 1) (ks + 6) (by omega) (by omega) hf) hf
      have hf := ine s_42 hf
      by_cases s_43 : vsw = 43
      · have hf := ip s_43 hf
        refine tt_swIn (pc := 40) (tgt := 2405) E dL_law_40 (sw1 s_43 (by decide)) (sw2 s_43 (by decide)) (sw3 s_43 rfl) rfl ?_
        refine tt_sub [0, 1, 2, 3, 4] (lv' := [(0, .ref b), (1, .ref (B + o1)), (2, .ref (B + o2)), (3, .ref (B + o3)), (4, .int v4)]) rfl ?_
        exact tL_law_2405 E hr hlk hl0 hX hbB hbl hBs h1 h2 h3 hk1 hs1 (fun v4 μ hf => ih v4 μ (kc + 1) (ks + 6) (by omega) (by omega) hf) hf
      have hf := ine s_43 hf
      refine tt_swOut (pc := 40) (tgt := 2449) E dL_law_40 (sw_out (N := 44) (fun j hj => by
          match j, hj with
          | 0, _ => exact s_0
          | 1, _ => exact s_1
          | 2, _ => exact s_2
          | 3, _ => exact s_3
          | 4, _ => exact s_4
          | 5, _ => exact s_5
          | 6, _ => exact s_6
          | 7, _ => exact s_7
          | 8, _ => exact s_8
          | 9, _ => exact s_9
          | 10, _ => exact s_10
          | 11, _ => exact s_11
          | 12, _ => exact s_12
          | 13, _ => exact s_13
          | 14, _ => exact s_14
          | 15, _ => exact s_15
          | 16, _ => exact s_16
          | 17, _ => exact s_17
          | 18, _ => exact s_18
          | 19, _ => exact s_19
          | 20, _ => exact s_20
          | 21, _ => exact s_21
          | 22, _ => exact s_22
          | 23, _ => exact s_23
          | 24, _ => exact s_24
          | 25, _ => exact s_25
          | 26, _ => exact s_26
          | 27, _ => exact s_27
          | 28, _ => exact s_28
          | 29, _ => exact s_29
          | 30, _ => exact s_30
          | 31, _ => exact s_31
          | 32, _ => exact s_32
          | 33, _ => exact s_33
          | 34, _ => exact s_34
          | 35, _ => exact s_35
          | 36, _ => exact s_36
          | 37, _ => exact s_37
          | 38, _ => exact s_38
          | 39, _ => exact s_39
          | 40, _ => exact s_40
          | 41, _ => exact s_41
          | 42, _ => exact s_42
          | 43, _ => exact s_43
          | j + 44, hj => exact absurd hj (by omega))) rfl ?_
      refine tt_sub [0, 1, 2, 3, 4] (lv' := [(0, .ref b), (1, .ref (B + o1)), (2, .ref (B + o2)), (3, .ref (B + o3)), (4, .int v4)]) rfl ?_
      exact tL_law_2449 E hr hlk hl0 hX hbB hbl hBs h1 h2 h3 hk1 hs1 (fun v4 μ hf => ih v4 μ (kc + 1) (ks + 6) (by omega) (by omega) hf) hf
