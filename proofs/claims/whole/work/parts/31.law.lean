/-! the law's body, case by case -/
theorem tl_ret {p : Program} {l : Launch} {e : Env} {s : State} {m : MethodId} {below : List Frame} {meth : Method} {c : Code} {B : Nat} {D : va_G} {cT : Nat → ClassId} {n kc ks : Nat} {adK adV : Nat → Nat} {b : Nat} {μ : Mem} {pc : Nat} {lv : List (Nat × Value)} (E : EE p s m #[Value.ref b] c cL_law 9 RL B D cT (XW B adK adV)) (hr : meth.sig.returnType = ret) (hlk : meth.locks = false) (hBs : s.heap.size ≤ B) (h1 : kc ≤ 601024) (h2 : ks ≤ 7293034) (hdg : decode cL_law pc = .ok (.ireturn, 1)) : TT p l e room_1 s m #[Value.ref b] below meth c (lw_Z below #[Value.ref b] s) 9 B D cT n kc ks μ pc lv [.int 1] := by
  intro H locs ls hP hW hS hl
  refine va_forget (fun q hq => Nat.le_trans hBs (hS.2.2 q hq)) ?_
  refine W.widen (k := 601024) (n := 7293034) h1 h2 ?_
  exact lw_ret (d0 := s.drawn) (Drawn.sameBut.refl s.drawn lw_cs) E.1.1 E.1.2.1 hr hlk hdg
set_option maxHeartbeats 4000000 in
theorem tL_law_232 {p : Program} {l : Launch} {e : Env} {s : State} {m : MethodId} {below : List Frame} {meth : Method} {c : Code} {B : Nat} {D : va_G} {cT : Nat → ClassId} {n : Nat} {adK adV : Nat → Nat} {b L : Nat} {xs : Nat → Int32} {res : Mem} (E : EE p s m #[Value.ref b] c cL_law 9 RL B D cT (XW B adK adV)) (hr : meth.sig.returnType = ret) (hlk : meth.locks = false) (hl0 : l.stackTraces = false) (hX : va_X b L xs s s.heap) (hbB : b < B) (hbl : b < s.heap.size) (hBs : s.heap.size ≤ B) {o1 o2 o3 : Nat} (h1 : isK n o1 8) (h2 : isK n o2 9) (h3 : isK n o3 12) {kc ks : Nat} (hk1 : kc + 1 ≤ 601024) (hs1 : ks + 6 ≤ 7293034) {kb : Int32 → Mem → Option (Int32 × Mem)} (hk : ∀ (v4 : Int32) (μ : Mem), kb v4 μ = some (1, res) → TT p l e room_1 s m #[Value.ref b] below meth c (lw_Z below #[Value.ref b] s) 9 B D cT n (kc + 1) (ks + 6) μ 23 [(0, .ref b), (1, .ref (B + o1)), (2, .ref (B + o2)), (3, .ref (B + o3)), (4, .int v4)] []) {v4 : Int32} {μ : Mem} (hf : fL_law_232 L xs o1 o2 o3 kb v4 μ = some (1, res)) : TT p l e room_1 s m #[Value.ref b] below meth c (lw_Z below #[Value.ref b] s) 9 B D cT n kc ks μ 232 [(0, .ref b), (1, .ref (B + o1)), (2, .ref (B + o2)), (3, .ref (B + o3)), (4, .int v4)] [] := by
  have hk0 : kc ≤ 601024 := by omega
  have hs0 : ks ≤ 7293034 := by omega
  unfold fL_law_232 at hf
  refine tt_aload_n (pc := 232) (i := 1) (j := 1) E dL_law_232 rfl rfl ?_
  refine tt_aload_n (pc := 233) (i := 0) (j := 0) E dL_law_233 rfl rfl ?_
  refine tt_iload (pc := 234) (i := 4) (j := 4) E dL_law_234 rfl ?_
  refine tt_iconst (pc := 236) (v := 1) E dL_law_236 ic_1 ?_
  refine tt_iadd (pc := 237) E dL_law_237 ?_
  obtain ⟨g_1, hf⟩ := gd_some hf
  refine tt_scA (pc := 238) E hX hbB hbl g_1 dL_law_238 ?_
  refine tt_aload_n (pc := 239) (i := 0) (j := 0) E dL_law_239 rfl rfl ?_
  refine tt_iload (pc := 240) (i := 4) (j := 4) E dL_law_240 rfl ?_
  refine tt_iconst (pc := 242) (v := 2) E dL_law_242 ic_2 ?_
  refine tt_iadd (pc := 243) E dL_law_243 ?_
  obtain ⟨g_2, hf⟩ := gd_some hf
  refine tt_scA (pc := 244) E hX hbB hbl g_2 dL_law_244 ?_
  refine tt_aload_n (pc := 245) (i := 0) (j := 0) E dL_law_245 rfl rfl ?_
  refine tt_iload (pc := 246) (i := 4) (j := 4) E dL_law_246 rfl ?_
  refine tt_iconst (pc := 248) (v := 3) E dL_law_248 ic_3 ?_
  refine tt_iadd (pc := 249) E dL_law_249 ?_
  obtain ⟨g_3, hf⟩ := gd_some hf
  refine tt_scA (pc := 250) E hX hbB hbl g_3 dL_law_250 ?_
  refine tt_aload_n (pc := 251) (i := 0) (j := 0) E dL_law_251 rfl rfl ?_
  refine tt_iload (pc := 252) (i := 4) (j := 4) E dL_law_252 rfl ?_
  refine tt_iconst (pc := 254) (v := 4) E dL_law_254 ic_4 ?_
  refine tt_iadd (pc := 255) E dL_law_255 ?_
  obtain ⟨g_4, hf⟩ := gd_some hf
  refine tt_scA (pc := 256) E hX hbB hbl g_4 dL_law_256 ?_
  refine tt_aload_n (pc := 257) (i := 0) (j := 0) E dL_law_257 rfl rfl ?_
  refine tt_iload (pc := 258) (i := 4) (j := 4) E dL_law_258 rfl ?_
  refine tt_iconst (pc := 260) (v := 5) E dL_law_260 ic_5 ?_
  refine tt_iadd (pc := 261) E dL_law_261 ?_
  obtain ⟨g_5, hf⟩ := gd_some hf
  refine tt_scA (pc := 262) E hX hbB hbl g_5 dL_law_262 ?_
  refine tt_aload_n (pc := 263) (i := 3) (j := 3) E dL_law_263 rfl rfl ?_
  obtain ⟨r_6, hr_7, hf⟩ := bd_some hf
  have hc_8 := cL_feed_ok (l := l) (B := B) (D := D) (cT := cT) (n := n) (adK := adK) (adV := adV) hl0 h1 h3 hr_7
  refine tt_cI (pc := 264) (tt_siW E lmL_121 mtL_feed hc_8 rfl rfl (Nat.le_of_ble_eq_true rfl) ⟨(Nat.le_of_ble_eq_true rfl), (Nat.le_of_ble_eq_true rfl)⟩ ⟨hk1, hs1⟩ dL_law_264) ?_
  refine tt_istore (pc := 267) (i := 5) (lv' := [(5, .int r_6.1), (0, .ref b), (1, .ref (B + o1)), (2, .ref (B + o2)), (3, .ref (B + o3)), (4, .int v4)]) E dL_law_267 (Nat.le_of_ble_eq_true rfl) rfl ?_
  refine tt_aload_n (pc := 269) (i := 2) (j := 3) E dL_law_269 rfl rfl ?_
  refine tt_aload_n (pc := 270) (i := 0) (j := 1) E dL_law_270 rfl rfl ?_
  refine tt_iload (pc := 271) (i := 4) (j := 5) E dL_law_271 rfl ?_
  refine tt_iconst (pc := 273) (v := 1) E dL_law_273 ic_1 ?_
  refine tt_iadd (pc := 274) E dL_law_274 ?_
  obtain ⟨g_9, hf⟩ := gd_some hf
  refine tt_scA (pc := 275) E hX hbB hbl g_9 dL_law_275 ?_
  refine tt_aload_n (pc := 276) (i := 0) (j := 1) E dL_law_276 rfl rfl ?_
  refine tt_iload (pc := 277) (i := 4) (j := 5) E dL_law_277 rfl ?_
  refine tt_iconst (pc := 279) (v := 2) E dL_law_279 ic_2 ?_
  refine tt_iadd (pc := 280) E dL_law_280 ?_
  obtain ⟨g_10, hf⟩ := gd_some hf
  refine tt_scA (pc := 281) E hX hbB hbl g_10 dL_law_281 ?_
  refine tt_aload_n (pc := 282) (i := 0) (j := 1) E dL_law_282 rfl rfl ?_
  refine tt_iload (pc := 283) (i := 4) (j := 5) E dL_law_283 rfl ?_
  refine tt_iconst (pc := 285) (v := 3) E dL_law_285 ic_3 ?_
  refine tt_iadd (pc := 286) E dL_law_286 ?_
  obtain ⟨g_11, hf⟩ := gd_some hf
  refine tt_scA (pc := 287) E hX hbB hbl g_11 dL_law_287 ?_
  refine tt_aload_n (pc := 288) (i := 0) (j := 1) E dL_law_288 rfl rfl ?_
  refine tt_iload (pc := 289) (i := 4) (j := 5) E dL_law_289 rfl ?_
  refine tt_iconst (pc := 291) (v := 4) E dL_law_291 ic_4 ?_
  refine tt_iadd (pc := 292) E dL_law_292 ?_
  obtain ⟨g_12, hf⟩ := gd_some hf
  refine tt_scA (pc := 293) E hX hbB hbl g_12 dL_law_293 ?_
  refine tt_aload_n (pc := 294) (i := 0) (j := 1) E dL_law_294 rfl rfl ?_
  refine tt_iload (pc := 295) (i := 4) (j := 5) E dL_law_295 rfl ?_
  refine tt_iconst (pc := 297) (v := 5) E dL_law_297 ic_5 ?_
  refine tt_iadd (pc := 298) E dL_law_298 ?_
  obtain ⟨g_13, hf⟩ := gd_some hf
  refine tt_scA (pc := 299) E hX hbB hbl g_13 dL_law_299 ?_
  obtain ⟨r_14, hr_15, hf⟩ := bd_some hf
  have hc_16 := cX12_feed_ok (l := l) (B := B) (D := D) (cT := cT) (n := n) (adK := adK) (adV := adV) h2 hr_15
  refine tt_cI (pc := 300) (tt_vi E lmL_126 mtX12_feed hc_16 h2 rfl rfl (Nat.le_of_ble_eq_true rfl) ⟨(Nat.le_of_ble_eq_true rfl), (Nat.le_of_ble_eq_true rfl)⟩ ⟨hk1, hs1⟩ dL_law_300) ?_
  refine tt_istore (pc := 303) (i := 6) (lv' := [(6, .int r_14.1), (5, .int r_6.1), (0, .ref b), (1, .ref (B + o1)), (2, .ref (B + o2)), (3, .ref (B + o3)), (4, .int v4)]) E dL_law_303 (Nat.le_of_ble_eq_true rfl) rfl ?_
  refine tt_aload_n (pc := 305) (i := 2) (j := 4) E dL_law_305 rfl rfl ?_
  obtain ⟨r_17, hr_18, hf⟩ := bd_some hf
  have hc_19 := cX12_thrown_ok (l := l) (B := B) (D := D) (cT := cT) (n := n) (adK := adK) (adV := adV) h2 hr_18
  refine tt_cI (pc := 306) (tt_vi E lmL_127 mtX12_thrown hc_19 h2 rfl rfl (Nat.le_of_ble_eq_true rfl) ⟨(Nat.le_of_ble_eq_true rfl), (Nat.le_of_ble_eq_true rfl)⟩ ⟨hk1, hs1⟩ dL_law_306) ?_
  refine tt_iload (pc := 309) (i := 5) (j := 1) E dL_law_309 rfl ?_
  refine tt_icmp_eq (pc := 311) (tgt := 316) E dL_law_311 rfl (fun c_25 => ?_) (fun c_25 => ?_)
  · have hf := ip c_25 hf
    refine tt_iload (pc := 316) (i := 5) (j := 1) E dL_law_316 rfl ?_
    refine tt_if_ne (pc := 318) (tgt := 333) E dL_law_318 rfl (fun c_24 => ?_) (fun c_24 => ?_)
    · have hf := ine c_24 hf
      refine tt_goto (pc := 333) (tgt := 2449) E dL_law_333 rfl ?_
      obtain ⟨v_20, ev_20, hf⟩ := nm_ex hf
      refine tt_iinc (pc := 2449) (i := 4) (j := 6) (lv' := [(4, .int v_20), (6, .int r_14.1), (5, .int r_6.1), (0, .ref b), (1, .ref (B + o1)), (2, .ref (B + o2)), (3, .ref (B + o3))]) E dL_law_2449 rfl (ev_20).symm (Nat.le_of_ble_eq_true rfl) rfl ?_
      refine tt_goto (pc := 2452) (tgt := 23) E dL_law_2452 rfl ?_
      refine tt_sub [3, 4, 5, 6, 0] (lv' := [(0, .ref b), (1, .ref (B + o1)), (2, .ref (B + o2)), (3, .ref (B + o3)), (4, .int v_20)]) rfl ?_
      exact hk v_20 r_14.2 hf
    · have hf := ip c_24 hf
      refine tt_aload_n (pc := 321) (i := 3) (j := 5) E dL_law_321 rfl rfl ?_
      refine tt_iconst (pc := 322) (v := 0) E dL_law_322 ic_0 ?_
      obtain ⟨g_21, hf⟩ := gd_some hf
      refine tt_lald (pc := 323) E h3 g_21 dL_law_323 ?_
      refine tt_iload (pc := 324) (i := 6) (j := 0) E dL_law_324 rfl ?_
      refine tt_i2l (pc := 326) E dL_law_326 ?_
      refine tt_lcmp (pc := 327) E dL_law_327 ?_
      refine tt_if_eq (pc := 328) (tgt := 333) E dL_law_328 rfl (fun c_23 => ?_) (fun c_23 => ?_)
      · have hf := ip c_23 hf
        refine tt_goto (pc := 333) (tgt := 2449) E dL_law_333 rfl ?_
        obtain ⟨v_22, ev_22, hf⟩ := nm_ex hf
        refine tt_iinc (pc := 2449) (i := 4) (j := 6) (lv' := [(4, .int v_22), (6, .int r_14.1), (5, .int r_6.1), (0, .ref b), (1, .ref (B + o1)), (2, .ref (B + o2)), (3, .ref (B + o3))]) E dL_law_2449 rfl (ev_22).symm (Nat.le_of_ble_eq_true rfl) rfl ?_
        refine tt_goto (pc := 2452) (tgt := 23) E dL_law_2452 rfl ?_
        refine tt_sub [3, 4, 5, 6, 0] (lv' := [(0, .ref b), (1, .ref (B + o1)), (2, .ref (B + o2)), (3, .ref (B + o3)), (4, .int v_22)]) rfl ?_
        exact hk v_22 r_14.2 hf
      · have hf := ine c_23 hf
        refine tt_iconst (pc := 331) (v := 0) E dL_law_331 ic_0 ?_
        exact absurd hf ret0
  · have hf := ine c_25 hf
    refine tt_iconst (pc := 314) (v := 0) E dL_law_314 ic_0 ?_
    exact absurd hf ret0
set_option maxHeartbeats 4000000 in
theorem tL_law_336 {p : Program} {l : Launch} {e : Env} {s : State} {m : MethodId} {below : List Frame} {meth : Method} {c : Code} {B : Nat} {D : va_G} {cT : Nat → ClassId} {n : Nat} {adK adV : Nat → Nat} {b L : Nat} {xs : Nat → Int32} {res : Mem} (E : EE p s m #[Value.ref b] c cL_law 9 RL B D cT (XW B adK adV)) (hr : meth.sig.returnType = ret) (hlk : meth.locks = false) (hl0 : l.stackTraces = false) (hX : va_X b L xs s s.heap) (hbB : b < B) (hbl : b < s.heap.size) (hBs : s.heap.size ≤ B) {o1 o2 o3 : Nat} (h1 : isK n o1 8) (h2 : isK n o2 9) (h3 : isK n o3 12) {kc ks : Nat} (hk1 : kc + 1 ≤ 601024) (hs1 : ks + 6 ≤ 7293034) {kb : Int32 → Mem → Option (Int32 × Mem)} (hk : ∀ (v4 : Int32) (μ : Mem), kb v4 μ = some (1, res) → TT p l e room_1 s m #[Value.ref b] below meth c (lw_Z below #[Value.ref b] s) 9 B D cT n (kc + 1) (ks + 6) μ 23 [(0, .ref b), (1, .ref (B + o1)), (2, .ref (B + o2)), (3, .ref (B + o3)), (4, .int v4)] []) {v4 : Int32} {μ : Mem} (hf : fL_law_336 L xs o1 o2 o3 kb v4 μ = some (1, res)) : TT p l e room_1 s m #[Value.ref b] below meth c (lw_Z below #[Value.ref b] s) 9 B D cT n kc ks μ 336 [(0, .ref b), (1, .ref (B + o1)), (2, .ref (B + o2)), (3, .ref (B + o3)), (4, .int v4)] [] := by
  have hk0 : kc ≤ 601024 := by omega
  have hs0 : ks ≤ 7293034 := by omega
  unfold fL_law_336 at hf
  refine tt_aload_n (pc := 336) (i := 1) (j := 1) E dL_law_336 rfl rfl ?_
  refine tt_aload_n (pc := 337) (i := 0) (j := 0) E dL_law_337 rfl rfl ?_
  refine tt_iload (pc := 338) (i := 4) (j := 4) E dL_law_338 rfl ?_
  refine tt_iconst (pc := 340) (v := 1) E dL_law_340 ic_1 ?_
  refine tt_iadd (pc := 341) E dL_law_341 ?_
  obtain ⟨g_1, hf⟩ := gd_some hf
  refine tt_scA (pc := 342) E hX hbB hbl g_1 dL_law_342 ?_
  refine tt_aload_n (pc := 343) (i := 3) (j := 3) E dL_law_343 rfl rfl ?_
  obtain ⟨r_2, hr_3, hf⟩ := bd_some hf
  have hc_4 := cL_truncate_ok (l := l) (B := B) (D := D) (cT := cT) (n := n) (adK := adK) (adV := adV) hl0 h1 h3 hr_3
  refine tt_cI (pc := 344) (tt_siW E lmL_130 mtL_truncate hc_4 rfl rfl (Nat.le_of_ble_eq_true rfl) ⟨(Nat.le_of_ble_eq_true rfl), (Nat.le_of_ble_eq_true rfl)⟩ ⟨hk1, hs1⟩ dL_law_344) ?_
  refine tt_istore (pc := 347) (i := 5) (lv' := [(5, .int r_2.1), (0, .ref b), (1, .ref (B + o1)), (2, .ref (B + o2)), (3, .ref (B + o3)), (4, .int v4)]) E dL_law_347 (Nat.le_of_ble_eq_true rfl) rfl ?_
  refine tt_aload_n (pc := 349) (i := 2) (j := 3) E dL_law_349 rfl rfl ?_
  refine tt_aload_n (pc := 350) (i := 0) (j := 1) E dL_law_350 rfl rfl ?_
  refine tt_iload (pc := 351) (i := 4) (j := 5) E dL_law_351 rfl ?_
  refine tt_iconst (pc := 353) (v := 1) E dL_law_353 ic_1 ?_
  refine tt_iadd (pc := 354) E dL_law_354 ?_
  obtain ⟨g_5, hf⟩ := gd_some hf
  refine tt_scA (pc := 355) E hX hbB hbl g_5 dL_law_355 ?_
  obtain ⟨r_6, hr_7, hf⟩ := bd_some hf
  have hc_8 := cX12_truncate_ok (l := l) (B := B) (D := D) (cT := cT) (n := n) (adK := adK) (adV := adV) h2 hr_7
  refine tt_cI (pc := 356) (tt_vi E lmL_133 mtX12_truncate hc_8 h2 rfl rfl (Nat.le_of_ble_eq_true rfl) ⟨(Nat.le_of_ble_eq_true rfl), (Nat.le_of_ble_eq_true rfl)⟩ ⟨hk1, hs1⟩ dL_law_356) ?_
  refine tt_istore (pc := 359) (i := 6) (lv' := [(6, .int r_6.1), (5, .int r_2.1), (0, .ref b), (1, .ref (B + o1)), (2, .ref (B + o2)), (3, .ref (B + o3)), (4, .int v4)]) E dL_law_359 (Nat.le_of_ble_eq_true rfl) rfl ?_
  refine tt_aload_n (pc := 361) (i := 2) (j := 4) E dL_law_361 rfl rfl ?_
  obtain ⟨r_9, hr_10, hf⟩ := bd_some hf
  have hc_11 := cX12_thrown_ok (l := l) (B := B) (D := D) (cT := cT) (n := n) (adK := adK) (adV := adV) h2 hr_10
  refine tt_cI (pc := 362) (tt_vi E lmL_127 mtX12_thrown hc_11 h2 rfl rfl (Nat.le_of_ble_eq_true rfl) ⟨(Nat.le_of_ble_eq_true rfl), (Nat.le_of_ble_eq_true rfl)⟩ ⟨hk1, hs1⟩ dL_law_362) ?_
  refine tt_iload (pc := 365) (i := 5) (j := 1) E dL_law_365 rfl ?_
  refine tt_icmp_eq (pc := 367) (tgt := 372) E dL_law_367 rfl (fun c_17 => ?_) (fun c_17 => ?_)
  · have hf := ip c_17 hf
    refine tt_iload (pc := 372) (i := 5) (j := 1) E dL_law_372 rfl ?_
    refine tt_if_ne (pc := 374) (tgt := 389) E dL_law_374 rfl (fun c_16 => ?_) (fun c_16 => ?_)
    · have hf := ine c_16 hf
      refine tt_goto (pc := 389) (tgt := 2449) E dL_law_389 rfl ?_
      obtain ⟨v_12, ev_12, hf⟩ := nm_ex hf
      refine tt_iinc (pc := 2449) (i := 4) (j := 6) (lv' := [(4, .int v_12), (6, .int r_6.1), (5, .int r_2.1), (0, .ref b), (1, .ref (B + o1)), (2, .ref (B + o2)), (3, .ref (B + o3))]) E dL_law_2449 rfl (ev_12).symm (Nat.le_of_ble_eq_true rfl) rfl ?_
      refine tt_goto (pc := 2452) (tgt := 23) E dL_law_2452 rfl ?_
      refine tt_sub [3, 4, 5, 6, 0] (lv' := [(0, .ref b), (1, .ref (B + o1)), (2, .ref (B + o2)), (3, .ref (B + o3)), (4, .int v_12)]) rfl ?_
      exact hk v_12 r_6.2 hf
    · have hf := ip c_16 hf
      refine tt_aload_n (pc := 377) (i := 3) (j := 5) E dL_law_377 rfl rfl ?_
      refine tt_iconst (pc := 378) (v := 0) E dL_law_378 ic_0 ?_
      obtain ⟨g_13, hf⟩ := gd_some hf
      refine tt_lald (pc := 379) E h3 g_13 dL_law_379 ?_
      refine tt_iload (pc := 380) (i := 6) (j := 0) E dL_law_380 rfl ?_
      refine tt_i2l (pc := 382) E dL_law_382 ?_
      refine tt_lcmp (pc := 383) E dL_law_383 ?_
      refine tt_if_eq (pc := 384) (tgt := 389) E dL_law_384 rfl (fun c_15 => ?_) (fun c_15 => ?_)
      · have hf := ip c_15 hf
        refine tt_goto (pc := 389) (tgt := 2449) E dL_law_389 rfl ?_
        obtain ⟨v_14, ev_14, hf⟩ := nm_ex hf
        refine tt_iinc (pc := 2449) (i := 4) (j := 6) (lv' := [(4, .int v_14), (6, .int r_6.1), (5, .int r_2.1), (0, .ref b), (1, .ref (B + o1)), (2, .ref (B + o2)), (3, .ref (B + o3))]) E dL_law_2449 rfl (ev_14).symm (Nat.le_of_ble_eq_true rfl) rfl ?_
        refine tt_goto (pc := 2452) (tgt := 23) E dL_law_2452 rfl ?_
        refine tt_sub [3, 4, 5, 6, 0] (lv' := [(0, .ref b), (1, .ref (B + o1)), (2, .ref (B + o2)), (3, .ref (B + o3)), (4, .int v_14)]) rfl ?_
        exact hk v_14 r_6.2 hf
      · have hf := ine c_15 hf
        refine tt_iconst (pc := 387) (v := 0) E dL_law_387 ic_0 ?_
        exact absurd hf ret0
  · have hf := ine c_17 hf
    refine tt_iconst (pc := 370) (v := 0) E dL_law_370 ic_0 ?_
    exact absurd hf ret0
set_option maxHeartbeats 4000000 in
theorem tL_law_392 {p : Program} {l : Launch} {e : Env} {s : State} {m : MethodId} {below : List Frame} {meth : Method} {c : Code} {B : Nat} {D : va_G} {cT : Nat → ClassId} {n : Nat} {adK adV : Nat → Nat} {b L : Nat} {xs : Nat → Int32} {res : Mem} (E : EE p s m #[Value.ref b] c cL_law 9 RL B D cT (XW B adK adV)) (hr : meth.sig.returnType = ret) (hlk : meth.locks = false) (hl0 : l.stackTraces = false) (hX : va_X b L xs s s.heap) (hbB : b < B) (hbl : b < s.heap.size) (hBs : s.heap.size ≤ B) {o1 o2 o3 : Nat} (h1 : isK n o1 8) (h2 : isK n o2 9) (h3 : isK n o3 12) {kc ks : Nat} (hk1 : kc + 1 ≤ 601024) (hs1 : ks + 6 ≤ 7293034) {kb : Int32 → Mem → Option (Int32 × Mem)} (hk : ∀ (v4 : Int32) (μ : Mem), kb v4 μ = some (1, res) → TT p l e room_1 s m #[Value.ref b] below meth c (lw_Z below #[Value.ref b] s) 9 B D cT n (kc + 1) (ks + 6) μ 23 [(0, .ref b), (1, .ref (B + o1)), (2, .ref (B + o2)), (3, .ref (B + o3)), (4, .int v4)] []) {v4 : Int32} {μ : Mem} (hf : fL_law_392 L xs o1 o2 o3 kb v4 μ = some (1, res)) : TT p l e room_1 s m #[Value.ref b] below meth c (lw_Z below #[Value.ref b] s) 9 B D cT n kc ks μ 392 [(0, .ref b), (1, .ref (B + o1)), (2, .ref (B + o2)), (3, .ref (B + o3)), (4, .int v4)] [] := by
  have hk0 : kc ≤ 601024 := by omega
  have hs0 : ks ≤ 7293034 := by omega
  unfold fL_law_392 at hf
  refine tt_aload_n (pc := 392) (i := 1) (j := 1) E dL_law_392 rfl rfl ?_
  refine tt_aload_n (pc := 393) (i := 3) (j := 3) E dL_law_393 rfl rfl ?_
  obtain ⟨r_1, hr_2, hf⟩ := bd_some hf
  have hc_3 := cL_readText_ok (l := l) (B := B) (D := D) (cT := cT) (n := n) (adK := adK) (adV := adV) hl0 h1 h3 hr_2
  refine tt_cI (pc := 394) (tt_siW E lmL_134 mtL_readText hc_3 rfl rfl (Nat.le_of_ble_eq_true rfl) ⟨(Nat.le_of_ble_eq_true rfl), (Nat.le_of_ble_eq_true rfl)⟩ ⟨hk1, hs1⟩ dL_law_394) ?_
  refine tt_istore (pc := 397) (i := 5) (lv' := [(5, .int r_1.1), (0, .ref b), (1, .ref (B + o1)), (2, .ref (B + o2)), (3, .ref (B + o3)), (4, .int v4)]) E dL_law_397 (Nat.le_of_ble_eq_true rfl) rfl ?_
  refine tt_aload_n (pc := 399) (i := 2) (j := 3) E dL_law_399 rfl rfl ?_
  obtain ⟨r_4, hr_5, hf⟩ := bd_some hf
  have hc_6 := cX12_readText_ok (l := l) (B := B) (D := D) (cT := cT) (n := n) (adK := adK) (adV := adV) h2 hr_5
  refine tt_cI (pc := 400) (tt_vi E lmL_137 mtX12_readText hc_6 h2 rfl rfl (Nat.le_of_ble_eq_true rfl) ⟨(Nat.le_of_ble_eq_true rfl), (Nat.le_of_ble_eq_true rfl)⟩ ⟨hk1, hs1⟩ dL_law_400) ?_
  refine tt_istore (pc := 403) (i := 6) (lv' := [(6, .int r_4.1), (5, .int r_1.1), (0, .ref b), (1, .ref (B + o1)), (2, .ref (B + o2)), (3, .ref (B + o3)), (4, .int v4)]) E dL_law_403 (Nat.le_of_ble_eq_true rfl) rfl ?_
  refine tt_aload_n (pc := 405) (i := 2) (j := 4) E dL_law_405 rfl rfl ?_
  obtain ⟨r_7, hr_8, hf⟩ := bd_some hf
  have hc_9 := cX12_thrown_ok (l := l) (B := B) (D := D) (cT := cT) (n := n) (adK := adK) (adV := adV) h2 hr_8
  refine tt_cI (pc := 406) (tt_vi E lmL_127 mtX12_thrown hc_9 h2 rfl rfl (Nat.le_of_ble_eq_true rfl) ⟨(Nat.le_of_ble_eq_true rfl), (Nat.le_of_ble_eq_true rfl)⟩ ⟨hk1, hs1⟩ dL_law_406) ?_
  refine tt_iload (pc := 409) (i := 5) (j := 1) E dL_law_409 rfl ?_
  refine tt_icmp_eq (pc := 411) (tgt := 416) E dL_law_411 rfl (fun c_15 => ?_) (fun c_15 => ?_)
  · have hf := ip c_15 hf
    refine tt_iload (pc := 416) (i := 5) (j := 1) E dL_law_416 rfl ?_
    refine tt_if_ne (pc := 418) (tgt := 433) E dL_law_418 rfl (fun c_14 => ?_) (fun c_14 => ?_)
    · have hf := ine c_14 hf
      refine tt_goto (pc := 433) (tgt := 2449) E dL_law_433 rfl ?_
      obtain ⟨v_10, ev_10, hf⟩ := nm_ex hf
      refine tt_iinc (pc := 2449) (i := 4) (j := 6) (lv' := [(4, .int v_10), (6, .int r_4.1), (5, .int r_1.1), (0, .ref b), (1, .ref (B + o1)), (2, .ref (B + o2)), (3, .ref (B + o3))]) E dL_law_2449 rfl (ev_10).symm (Nat.le_of_ble_eq_true rfl) rfl ?_
      refine tt_goto (pc := 2452) (tgt := 23) E dL_law_2452 rfl ?_
      refine tt_sub [3, 4, 5, 6, 0] (lv' := [(0, .ref b), (1, .ref (B + o1)), (2, .ref (B + o2)), (3, .ref (B + o3)), (4, .int v_10)]) rfl ?_
      exact hk v_10 r_4.2 hf
    · have hf := ip c_14 hf
      refine tt_aload_n (pc := 421) (i := 3) (j := 5) E dL_law_421 rfl rfl ?_
      refine tt_iconst (pc := 422) (v := 0) E dL_law_422 ic_0 ?_
      obtain ⟨g_11, hf⟩ := gd_some hf
      refine tt_lald (pc := 423) E h3 g_11 dL_law_423 ?_
      refine tt_iload (pc := 424) (i := 6) (j := 0) E dL_law_424 rfl ?_
      refine tt_i2l (pc := 426) E dL_law_426 ?_
      refine tt_lcmp (pc := 427) E dL_law_427 ?_
      refine tt_if_eq (pc := 428) (tgt := 433) E dL_law_428 rfl (fun c_13 => ?_) (fun c_13 => ?_)
      · have hf := ip c_13 hf
        refine tt_goto (pc := 433) (tgt := 2449) E dL_law_433 rfl ?_
        obtain ⟨v_12, ev_12, hf⟩ := nm_ex hf
        refine tt_iinc (pc := 2449) (i := 4) (j := 6) (lv' := [(4, .int v_12), (6, .int r_4.1), (5, .int r_1.1), (0, .ref b), (1, .ref (B + o1)), (2, .ref (B + o2)), (3, .ref (B + o3))]) E dL_law_2449 rfl (ev_12).symm (Nat.le_of_ble_eq_true rfl) rfl ?_
        refine tt_goto (pc := 2452) (tgt := 23) E dL_law_2452 rfl ?_
        refine tt_sub [3, 4, 5, 6, 0] (lv' := [(0, .ref b), (1, .ref (B + o1)), (2, .ref (B + o2)), (3, .ref (B + o3)), (4, .int v_12)]) rfl ?_
        exact hk v_12 r_4.2 hf
      · have hf := ine c_13 hf
        refine tt_iconst (pc := 431) (v := 0) E dL_law_431 ic_0 ?_
        exact absurd hf ret0
  · have hf := ine c_15 hf
    refine tt_iconst (pc := 414) (v := 0) E dL_law_414 ic_0 ?_
    exact absurd hf ret0
set_option maxHeartbeats 4000000 in
theorem tL_law_436 {p : Program} {l : Launch} {e : Env} {s : State} {m : MethodId} {below : List Frame} {meth : Method} {c : Code} {B : Nat} {D : va_G} {cT : Nat → ClassId} {n : Nat} {adK adV : Nat → Nat} {b L : Nat} {xs : Nat → Int32} {res : Mem} (E : EE p s m #[Value.ref b] c cL_law 9 RL B D cT (XW B adK adV)) (hr : meth.sig.returnType = ret) (hlk : meth.locks = false) (hl0 : l.stackTraces = false) (hX : va_X b L xs s s.heap) (hbB : b < B) (hbl : b < s.heap.size) (hBs : s.heap.size ≤ B) {o1 o2 o3 : Nat} (h1 : isK n o1 8) (h2 : isK n o2 9) (h3 : isK n o3 12) {kc ks : Nat} (hk1 : kc + 1 ≤ 601024) (hs1 : ks + 6 ≤ 7293034) {kb : Int32 → Mem → Option (Int32 × Mem)} (hk : ∀ (v4 : Int32) (μ : Mem), kb v4 μ = some (1, res) → TT p l e room_1 s m #[Value.ref b] below meth c (lw_Z below #[Value.ref b] s) 9 B D cT n (kc + 1) (ks + 6) μ 23 [(0, .ref b), (1, .ref (B + o1)), (2, .ref (B + o2)), (3, .ref (B + o3)), (4, .int v4)] []) {v4 : Int32} {μ : Mem} (hf : fL_law_436 L xs o1 o2 o3 kb v4 μ = some (1, res)) : TT p l e room_1 s m #[Value.ref b] below meth c (lw_Z below #[Value.ref b] s) 9 B D cT n kc ks μ 436 [(0, .ref b), (1, .ref (B + o1)), (2, .ref (B + o2)), (3, .ref (B + o3)), (4, .int v4)] [] := by
  have hk0 : kc ≤ 601024 := by omega
  have hs0 : ks ≤ 7293034 := by omega
  unfold fL_law_436 at hf
  refine tt_aload_n (pc := 436) (i := 1) (j := 1) E dL_law_436 rfl rfl ?_
  refine tt_aload_n (pc := 437) (i := 3) (j := 3) E dL_law_437 rfl rfl ?_
  obtain ⟨r_1, hr_2, hf⟩ := bd_some hf
  have hc_3 := cL_runScript_ok (l := l) (B := B) (D := D) (cT := cT) (n := n) (adK := adK) (adV := adV) hl0 h1 h3 hr_2
  refine tt_cI (pc := 438) (tt_siW E lmL_138 mtL_runScript hc_3 rfl rfl (Nat.le_of_ble_eq_true rfl) ⟨(Nat.le_of_ble_eq_true rfl), (Nat.le_of_ble_eq_true rfl)⟩ ⟨hk1, hs1⟩ dL_law_438) ?_
  refine tt_istore (pc := 441) (i := 5) (lv' := [(5, .int r_1.1), (0, .ref b), (1, .ref (B + o1)), (2, .ref (B + o2)), (3, .ref (B + o3)), (4, .int v4)]) E dL_law_441 (Nat.le_of_ble_eq_true rfl) rfl ?_
  refine tt_aload_n (pc := 443) (i := 2) (j := 3) E dL_law_443 rfl rfl ?_
  obtain ⟨r_4, hr_5, hf⟩ := bd_some hf
  have hc_6 := cX12_runScript_ok (l := l) (B := B) (D := D) (cT := cT) (n := n) (adK := adK) (adV := adV) h2 hr_5
  refine tt_cI (pc := 444) (tt_vi E lmL_140 mtX12_runScript hc_6 h2 rfl rfl (Nat.le_of_ble_eq_true rfl) ⟨(Nat.le_of_ble_eq_true rfl), (Nat.le_of_ble_eq_true rfl)⟩ ⟨hk1, hs1⟩ dL_law_444) ?_
  refine tt_istore (pc := 447) (i := 6) (lv' := [(6, .int r_4.1), (5, .int r_1.1), (0, .ref b), (1, .ref (B + o1)), (2, .ref (B + o2)), (3, .ref (B + o3)), (4, .int v4)]) E dL_law_447 (Nat.le_of_ble_eq_true rfl) rfl ?_
  refine tt_aload_n (pc := 449) (i := 2) (j := 4) E dL_law_449 rfl rfl ?_
  obtain ⟨r_7, hr_8, hf⟩ := bd_some hf
  have hc_9 := cX12_thrown_ok (l := l) (B := B) (D := D) (cT := cT) (n := n) (adK := adK) (adV := adV) h2 hr_8
  refine tt_cI (pc := 450) (tt_vi E lmL_127 mtX12_thrown hc_9 h2 rfl rfl (Nat.le_of_ble_eq_true rfl) ⟨(Nat.le_of_ble_eq_true rfl), (Nat.le_of_ble_eq_true rfl)⟩ ⟨hk1, hs1⟩ dL_law_450) ?_
  refine tt_iload (pc := 453) (i := 5) (j := 1) E dL_law_453 rfl ?_
  refine tt_icmp_eq (pc := 455) (tgt := 460) E dL_law_455 rfl (fun c_15 => ?_) (fun c_15 => ?_)
  · have hf := ip c_15 hf
    refine tt_iload (pc := 460) (i := 5) (j := 1) E dL_law_460 rfl ?_
    refine tt_if_ne (pc := 462) (tgt := 477) E dL_law_462 rfl (fun c_14 => ?_) (fun c_14 => ?_)
    · have hf := ine c_14 hf
      refine tt_goto (pc := 477) (tgt := 2449) E dL_law_477 rfl ?_
      obtain ⟨v_10, ev_10, hf⟩ := nm_ex hf
      refine tt_iinc (pc := 2449) (i := 4) (j := 6) (lv' := [(4, .int v_10), (6, .int r_4.1), (5, .int r_1.1), (0, .ref b), (1, .ref (B + o1)), (2, .ref (B + o2)), (3, .ref (B + o3))]) E dL_law_2449 rfl (ev_10).symm (Nat.le_of_ble_eq_true rfl) rfl ?_
      refine tt_goto (pc := 2452) (tgt := 23) E dL_law_2452 rfl ?_
      refine tt_sub [3, 4, 5, 6, 0] (lv' := [(0, .ref b), (1, .ref (B + o1)), (2, .ref (B + o2)), (3, .ref (B + o3)), (4, .int v_10)]) rfl ?_
      exact hk v_10 r_4.2 hf
    · have hf := ip c_14 hf
      refine tt_aload_n (pc := 465) (i := 3) (j := 5) E dL_law_465 rfl rfl ?_
      refine tt_iconst (pc := 466) (v := 0) E dL_law_466 ic_0 ?_
      obtain ⟨g_11, hf⟩ := gd_some hf
      refine tt_lald (pc := 467) E h3 g_11 dL_law_467 ?_
      refine tt_iload (pc := 468) (i := 6) (j := 0) E dL_law_468 rfl ?_
      refine tt_i2l (pc := 470) E dL_law_470 ?_
      refine tt_lcmp (pc := 471) E dL_law_471 ?_
      refine tt_if_eq (pc := 472) (tgt := 477) E dL_law_472 rfl (fun c_13 => ?_) (fun c_13 => ?_)
      · have hf := ip c_13 hf
        refine tt_goto (pc := 477) (tgt := 2449) E dL_law_477 rfl ?_
        obtain ⟨v_12, ev_12, hf⟩ := nm_ex hf
        refine tt_iinc (pc := 2449) (i := 4) (j := 6) (lv' := [(4, .int v_12), (6, .int r_4.1), (5, .int r_1.1), (0, .ref b), (1, .ref (B + o1)), (2, .ref (B + o2)), (3, .ref (B + o3))]) E dL_law_2449 rfl (ev_12).symm (Nat.le_of_ble_eq_true rfl) rfl ?_
        refine tt_goto (pc := 2452) (tgt := 23) E dL_law_2452 rfl ?_
        refine tt_sub [3, 4, 5, 6, 0] (lv' := [(0, .ref b), (1, .ref (B + o1)), (2, .ref (B + o2)), (3, .ref (B + o3)), (4, .int v_12)]) rfl ?_
        exact hk v_12 r_4.2 hf
      · have hf := ine c_13 hf
        refine tt_iconst (pc := 475) (v := 0) E dL_law_475 ic_0 ?_
        exact absurd hf ret0
  · have hf := ine c_15 hf
    refine tt_iconst (pc := 458) (v := 0) E dL_law_458 ic_0 ?_
    exact absurd hf ret0
set_option maxHeartbeats 4000000 in
theorem tL_law_480 {p : Program} {l : Launch} {e : Env} {s : State} {m : MethodId} {below : List Frame} {meth : Method} {c : Code} {B : Nat} {D : va_G} {cT : Nat → ClassId} {n : Nat} {adK adV : Nat → Nat} {b L : Nat} {xs : Nat → Int32} {res : Mem} (E : EE p s m #[Value.ref b] c cL_law 9 RL B D cT (XW B adK adV)) (hr : meth.sig.returnType = ret) (hlk : meth.locks = false) (hl0 : l.stackTraces = false) (hX : va_X b L xs s s.heap) (hbB : b < B) (hbl : b < s.heap.size) (hBs : s.heap.size ≤ B) {o1 o2 o3 : Nat} (h1 : isK n o1 8) (h2 : isK n o2 9) (h3 : isK n o3 12) {kc ks : Nat} (hk1 : kc + 1 ≤ 601024) (hs1 : ks + 6 ≤ 7293034) {kb : Int32 → Mem → Option (Int32 × Mem)} (hk : ∀ (v4 : Int32) (μ : Mem), kb v4 μ = some (1, res) → TT p l e room_1 s m #[Value.ref b] below meth c (lw_Z below #[Value.ref b] s) 9 B D cT n (kc + 1) (ks + 6) μ 23 [(0, .ref b), (1, .ref (B + o1)), (2, .ref (B + o2)), (3, .ref (B + o3)), (4, .int v4)] []) {v4 : Int32} {μ : Mem} (hf : fL_law_480 L xs o1 o2 o3 kb v4 μ = some (1, res)) : TT p l e room_1 s m #[Value.ref b] below meth c (lw_Z below #[Value.ref b] s) 9 B D cT n kc ks μ 480 [(0, .ref b), (1, .ref (B + o1)), (2, .ref (B + o2)), (3, .ref (B + o3)), (4, .int v4)] [] := by
  have hk0 : kc ≤ 601024 := by omega
  have hs0 : ks ≤ 7293034 := by omega
  unfold fL_law_480 at hf
  refine tt_aload_n (pc := 480) (i := 1) (j := 1) E dL_law_480 rfl rfl ?_
  obtain ⟨r_1, hr_2, hf⟩ := bd_some hf
  have hc_3 := cX11_errorCode_ok (l := l) (B := B) (D := D) (cT := cT) (n := n) (adK := adK) (adV := adV) h1 hr_2
  refine tt_cI (pc := 481) (tt_vi E lmL_141 mtX11_errorCode hc_3 h1 rfl rfl (Nat.le_of_ble_eq_true rfl) ⟨(Nat.le_of_ble_eq_true rfl), (Nat.le_of_ble_eq_true rfl)⟩ ⟨hk0, hs0⟩ dL_law_481) ?_
  refine tt_aload_n (pc := 484) (i := 2) (j := 2) E dL_law_484 rfl rfl ?_
  obtain ⟨r_4, hr_5, hf⟩ := bd_some hf
  have hc_6 := cX12_errorCode_ok (l := l) (B := B) (D := D) (cT := cT) (n := n) (adK := adK) (adV := adV) h2 hr_5
  refine tt_cI (pc := 485) (tt_vi E lmL_144 mtX12_errorCode hc_6 h2 rfl rfl (Nat.le_of_ble_eq_true rfl) ⟨(Nat.le_of_ble_eq_true rfl), (Nat.le_of_ble_eq_true rfl)⟩ ⟨hk0, hs0⟩ dL_law_485) ?_
  refine tt_icmp_eq (pc := 488) (tgt := 2449) E dL_law_488 rfl (fun c_8 => ?_) (fun c_8 => ?_)
  · have hf := ip c_8 hf
    obtain ⟨v_7, ev_7, hf⟩ := nm_ex hf
    refine tt_iinc (pc := 2449) (i := 4) (j := 4) (lv' := [(4, .int v_7), (0, .ref b), (1, .ref (B + o1)), (2, .ref (B + o2)), (3, .ref (B + o3))]) E dL_law_2449 rfl (ev_7).symm (Nat.le_of_ble_eq_true rfl) rfl ?_
    refine tt_goto (pc := 2452) (tgt := 23) E dL_law_2452 rfl ?_
    refine tt_sub [1, 2, 3, 4, 0] (lv' := [(0, .ref b), (1, .ref (B + o1)), (2, .ref (B + o2)), (3, .ref (B + o3)), (4, .int v_7)]) rfl ?_
    refine tt_wide (kc' := kc + 1) (ks' := ks + 6) (Nat.le_succ kc) (Nat.le_add_right ks 6) ?_
    exact hk v_7 r_4.2 hf
  · have hf := ine c_8 hf
    refine tt_iconst (pc := 491) (v := 0) E dL_law_491 ic_0 ?_
    exact absurd hf ret0
set_option maxHeartbeats 4000000 in
theorem tL_law_493 {p : Program} {l : Launch} {e : Env} {s : State} {m : MethodId} {below : List Frame} {meth : Method} {c : Code} {B : Nat} {D : va_G} {cT : Nat → ClassId} {n : Nat} {adK adV : Nat → Nat} {b L : Nat} {xs : Nat → Int32} {res : Mem} (E : EE p s m #[Value.ref b] c cL_law 9 RL B D cT (XW B adK adV)) (hr : meth.sig.returnType = ret) (hlk : meth.locks = false) (hl0 : l.stackTraces = false) (hX : va_X b L xs s s.heap) (hbB : b < B) (hbl : b < s.heap.size) (hBs : s.heap.size ≤ B) {o1 o2 o3 : Nat} (h1 : isK n o1 8) (h2 : isK n o2 9) (h3 : isK n o3 12) {kc ks : Nat} (hk1 : kc + 1 ≤ 601024) (hs1 : ks + 6 ≤ 7293034) {kb : Int32 → Mem → Option (Int32 × Mem)} (hk : ∀ (v4 : Int32) (μ : Mem), kb v4 μ = some (1, res) → TT p l e room_1 s m #[Value.ref b] below meth c (lw_Z below #[Value.ref b] s) 9 B D cT n (kc + 1) (ks + 6) μ 23 [(0, .ref b), (1, .ref (B + o1)), (2, .ref (B + o2)), (3, .ref (B + o3)), (4, .int v4)] []) {v4 : Int32} {μ : Mem} (hf : fL_law_493 L xs o1 o2 o3 kb v4 μ = some (1, res)) : TT p l e room_1 s m #[Value.ref b] below meth c (lw_Z below #[Value.ref b] s) 9 B D cT n kc ks μ 493 [(0, .ref b), (1, .ref (B + o1)), (2, .ref (B + o2)), (3, .ref (B + o3)), (4, .int v4)] [] := by
  have hk0 : kc ≤ 601024 := by omega
  have hs0 : ks ≤ 7293034 := by omega
  unfold fL_law_493 at hf
  refine tt_aload_n (pc := 493) (i := 1) (j := 1) E dL_law_493 rfl rfl ?_
  obtain ⟨r_1, hr_2, hf⟩ := bd_some hf
  have hc_3 := cX11_errorPosition_ok (l := l) (B := B) (D := D) (cT := cT) (n := n) (adK := adK) (adV := adV) h1 hr_2
  refine tt_cI (pc := 494) (tt_vi E lmL_145 mtX11_errorPosition hc_3 h1 rfl rfl (Nat.le_of_ble_eq_true rfl) ⟨(Nat.le_of_ble_eq_true rfl), (Nat.le_of_ble_eq_true rfl)⟩ ⟨hk0, hs0⟩ dL_law_494) ?_
  refine tt_aload_n (pc := 497) (i := 2) (j := 2) E dL_law_497 rfl rfl ?_
  obtain ⟨r_4, hr_5, hf⟩ := bd_some hf
  have hc_6 := cX12_errorPosition_ok (l := l) (B := B) (D := D) (cT := cT) (n := n) (adK := adK) (adV := adV) h2 hr_5
  refine tt_cI (pc := 498) (tt_vi E lmL_148 mtX12_errorPosition hc_6 h2 rfl rfl (Nat.le_of_ble_eq_true rfl) ⟨(Nat.le_of_ble_eq_true rfl), (Nat.le_of_ble_eq_true rfl)⟩ ⟨hk0, hs0⟩ dL_law_498) ?_
  refine tt_icmp_eq (pc := 501) (tgt := 2449) E dL_law_501 rfl (fun c_8 => ?_) (fun c_8 => ?_)
  · have hf := ip c_8 hf
    obtain ⟨v_7, ev_7, hf⟩ := nm_ex hf
    refine tt_iinc (pc := 2449) (i := 4) (j := 4) (lv' := [(4, .int v_7), (0, .ref b), (1, .ref (B + o1)), (2, .ref (B + o2)), (3, .ref (B + o3))]) E dL_law_2449 rfl (ev_7).symm (Nat.le_of_ble_eq_true rfl) rfl ?_
    refine tt_goto (pc := 2452) (tgt := 23) E dL_law_2452 rfl ?_
    refine tt_sub [1, 2, 3, 4, 0] (lv' := [(0, .ref b), (1, .ref (B + o1)), (2, .ref (B + o2)), (3, .ref (B + o3)), (4, .int v_7)]) rfl ?_
    refine tt_wide (kc' := kc + 1) (ks' := ks + 6) (Nat.le_succ kc) (Nat.le_add_right ks 6) ?_
    exact hk v_7 r_4.2 hf
  · have hf := ine c_8 hf
    refine tt_iconst (pc := 504) (v := 0) E dL_law_504 ic_0 ?_
    exact absurd hf ret0
set_option maxHeartbeats 4000000 in
theorem tL_law_506 {p : Program} {l : Launch} {e : Env} {s : State} {m : MethodId} {below : List Frame} {meth : Method} {c : Code} {B : Nat} {D : va_G} {cT : Nat → ClassId} {n : Nat} {adK adV : Nat → Nat} {b L : Nat} {xs : Nat → Int32} {res : Mem} (E : EE p s m #[Value.ref b] c cL_law 9 RL B D cT (XW B adK adV)) (hr : meth.sig.returnType = ret) (hlk : meth.locks = false) (hl0 : l.stackTraces = false) (hX : va_X b L xs s s.heap) (hbB : b < B) (hbl : b < s.heap.size) (hBs : s.heap.size ≤ B) {o1 o2 o3 : Nat} (h1 : isK n o1 8) (h2 : isK n o2 9) (h3 : isK n o3 12) {kc ks : Nat} (hk1 : kc + 1 ≤ 601024) (hs1 : ks + 6 ≤ 7293034) {kb : Int32 → Mem → Option (Int32 × Mem)} (hk : ∀ (v4 : Int32) (μ : Mem), kb v4 μ = some (1, res) → TT p l e room_1 s m #[Value.ref b] below meth c (lw_Z below #[Value.ref b] s) 9 B D cT n (kc + 1) (ks + 6) μ 23 [(0, .ref b), (1, .ref (B + o1)), (2, .ref (B + o2)), (3, .ref (B + o3)), (4, .int v4)] []) {v4 : Int32} {μ : Mem} (hf : fL_law_506 L xs o1 o2 o3 kb v4 μ = some (1, res)) : TT p l e room_1 s m #[Value.ref b] below meth c (lw_Z below #[Value.ref b] s) 9 B D cT n kc ks μ 506 [(0, .ref b), (1, .ref (B + o1)), (2, .ref (B + o2)), (3, .ref (B + o3)), (4, .int v4)] [] := by
  have hk0 : kc ≤ 601024 := by omega
  have hs0 : ks ≤ 7293034 := by omega
  unfold fL_law_506 at hf
  refine tt_aload_n (pc := 506) (i := 1) (j := 1) E dL_law_506 rfl rfl ?_
  refine tt_aload_n (pc := 507) (i := 0) (j := 0) E dL_law_507 rfl rfl ?_
  refine tt_iload (pc := 508) (i := 4) (j := 4) E dL_law_508 rfl ?_
  refine tt_iconst (pc := 510) (v := 1) E dL_law_510 ic_1 ?_
  refine tt_iadd (pc := 511) E dL_law_511 ?_
  obtain ⟨g_1, hf⟩ := gd_some hf
  refine tt_scA (pc := 512) E hX hbB hbl g_1 dL_law_512 ?_
  refine tt_aload_n (pc := 513) (i := 3) (j := 3) E dL_law_513 rfl rfl ?_
  obtain ⟨r_2, hr_3, hf⟩ := bd_some hf
  have hc_4 := cL_setting_ok (l := l) (B := B) (D := D) (cT := cT) (n := n) (adK := adK) (adV := adV) hl0 h1 h3 hr_3
  refine tt_cI (pc := 514) (tt_siW E lmL_149 mtL_setting hc_4 rfl rfl (Nat.le_of_ble_eq_true rfl) ⟨(Nat.le_of_ble_eq_true rfl), (Nat.le_of_ble_eq_true rfl)⟩ ⟨hk1, hs1⟩ dL_law_514) ?_
  refine tt_istore (pc := 517) (i := 5) (lv' := [(5, .int r_2.1), (0, .ref b), (1, .ref (B + o1)), (2, .ref (B + o2)), (3, .ref (B + o3)), (4, .int v4)]) E dL_law_517 (Nat.le_of_ble_eq_true rfl) rfl ?_
  refine tt_aload_n (pc := 519) (i := 2) (j := 3) E dL_law_519 rfl rfl ?_
  refine tt_aload_n (pc := 520) (i := 0) (j := 1) E dL_law_520 rfl rfl ?_
  refine tt_iload (pc := 521) (i := 4) (j := 5) E dL_law_521 rfl ?_
  refine tt_iconst (pc := 523) (v := 1) E dL_law_523 ic_1 ?_
  refine tt_iadd (pc := 524) E dL_law_524 ?_
  obtain ⟨g_5, hf⟩ := gd_some hf
  refine tt_scA (pc := 525) E hX hbB hbl g_5 dL_law_525 ?_
  obtain ⟨r_6, hr_7, hf⟩ := bd_some hf
  have hc_8 := cX12_setting_ok (l := l) (B := B) (D := D) (cT := cT) (n := n) (adK := adK) (adV := adV) h2 hr_7
  refine tt_cI (pc := 526) (tt_vi E lmL_151 mtX12_setting hc_8 h2 rfl rfl (Nat.le_of_ble_eq_true rfl) ⟨(Nat.le_of_ble_eq_true rfl), (Nat.le_of_ble_eq_true rfl)⟩ ⟨hk1, hs1⟩ dL_law_526) ?_
  refine tt_istore (pc := 529) (i := 6) (lv' := [(6, .int r_6.1), (5, .int r_2.1), (0, .ref b), (1, .ref (B + o1)), (2, .ref (B + o2)), (3, .ref (B + o3)), (4, .int v4)]) E dL_law_529 (Nat.le_of_ble_eq_true rfl) rfl ?_
  refine tt_aload_n (pc := 531) (i := 2) (j := 4) E dL_law_531 rfl rfl ?_
  obtain ⟨r_9, hr_10, hf⟩ := bd_some hf
  have hc_11 := cX12_thrown_ok (l := l) (B := B) (D := D) (cT := cT) (n := n) (adK := adK) (adV := adV) h2 hr_10
  refine tt_cI (pc := 532) (tt_vi E lmL_127 mtX12_thrown hc_11 h2 rfl rfl (Nat.le_of_ble_eq_true rfl) ⟨(Nat.le_of_ble_eq_true rfl), (Nat.le_of_ble_eq_true rfl)⟩ ⟨hk1, hs1⟩ dL_law_532) ?_
  refine tt_iload (pc := 535) (i := 5) (j := 1) E dL_law_535 rfl ?_
  refine tt_icmp_eq (pc := 537) (tgt := 542) E dL_law_537 rfl (fun c_17 => ?_) (fun c_17 => ?_)
  · have hf := ip c_17 hf
    refine tt_iload (pc := 542) (i := 5) (j := 1) E dL_law_542 rfl ?_
    refine tt_if_ne (pc := 544) (tgt := 559) E dL_law_544 rfl (fun c_16 => ?_) (fun c_16 => ?_)
    · have hf := ine c_16 hf
      refine tt_goto (pc := 559) (tgt := 2449) E dL_law_559 rfl ?_
      obtain ⟨v_12, ev_12, hf⟩ := nm_ex hf
      refine tt_iinc (pc := 2449) (i := 4) (j := 6) (lv' := [(4, .int v_12), (6, .int r_6.1), (5, .int r_2.1), (0, .ref b), (1, .ref (B + o1)), (2, .ref (B + o2)), (3, .ref (B + o3))]) E dL_law_2449 rfl (ev_12).symm (Nat.le_of_ble_eq_true rfl) rfl ?_
      refine tt_goto (pc := 2452) (tgt := 23) E dL_law_2452 rfl ?_
      refine tt_sub [3, 4, 5, 6, 0] (lv' := [(0, .ref b), (1, .ref (B + o1)), (2, .ref (B + o2)), (3, .ref (B + o3)), (4, .int v_12)]) rfl ?_
      exact hk v_12 r_6.2 hf
    · have hf := ip c_16 hf
      refine tt_aload_n (pc := 547) (i := 3) (j := 5) E dL_law_547 rfl rfl ?_
      refine tt_iconst (pc := 548) (v := 0) E dL_law_548 ic_0 ?_
      obtain ⟨g_13, hf⟩ := gd_some hf
      refine tt_lald (pc := 549) E h3 g_13 dL_law_549 ?_
      refine tt_iload (pc := 550) (i := 6) (j := 0) E dL_law_550 rfl ?_
      refine tt_i2l (pc := 552) E dL_law_552 ?_
      refine tt_lcmp (pc := 553) E dL_law_553 ?_
      refine tt_if_eq (pc := 554) (tgt := 559) E dL_law_554 rfl (fun c_15 => ?_) (fun c_15 => ?_)
      · have hf := ip c_15 hf
        refine tt_goto (pc := 559) (tgt := 2449) E dL_law_559 rfl ?_
        obtain ⟨v_14, ev_14, hf⟩ := nm_ex hf
        refine tt_iinc (pc := 2449) (i := 4) (j := 6) (lv' := [(4, .int v_14), (6, .int r_6.1), (5, .int r_2.1), (0, .ref b), (1, .ref (B + o1)), (2, .ref (B + o2)), (3, .ref (B + o3))]) E dL_law_2449 rfl (ev_14).symm (Nat.le_of_ble_eq_true rfl) rfl ?_
        refine tt_goto (pc := 2452) (tgt := 23) E dL_law_2452 rfl ?_
        refine tt_sub [3, 4, 5, 6, 0] (lv' := [(0, .ref b), (1, .ref (B + o1)), (2, .ref (B + o2)), (3, .ref (B + o3)), (4, .int v_14)]) rfl ?_
        exact hk v_14 r_6.2 hf
      · have hf := ine c_15 hf
        refine tt_iconst (pc := 557) (v := 0) E dL_law_557 ic_0 ?_
        exact absurd hf ret0
  · have hf := ine c_17 hf
    refine tt_iconst (pc := 540) (v := 0) E dL_law_540 ic_0 ?_
    exact absurd hf ret0
set_option maxHeartbeats 4000000 in
theorem tL_law_562 {p : Program} {l : Launch} {e : Env} {s : State} {m : MethodId} {below : List Frame} {meth : Method} {c : Code} {B : Nat} {D : va_G} {cT : Nat → ClassId} {n : Nat} {adK adV : Nat → Nat} {b L : Nat} {xs : Nat → Int32} {res : Mem} (E : EE p s m #[Value.ref b] c cL_law 9 RL B D cT (XW B adK adV)) (hr : meth.sig.returnType = ret) (hlk : meth.locks = false) (hl0 : l.stackTraces = false) (hX : va_X b L xs s s.heap) (hbB : b < B) (hbl : b < s.heap.size) (hBs : s.heap.size ≤ B) {o1 o2 o3 : Nat} (h1 : isK n o1 8) (h2 : isK n o2 9) (h3 : isK n o3 12) {kc ks : Nat} (hk1 : kc + 1 ≤ 601024) (hs1 : ks + 6 ≤ 7293034) {kb : Int32 → Mem → Option (Int32 × Mem)} (hk : ∀ (v4 : Int32) (μ : Mem), kb v4 μ = some (1, res) → TT p l e room_1 s m #[Value.ref b] below meth c (lw_Z below #[Value.ref b] s) 9 B D cT n (kc + 1) (ks + 6) μ 23 [(0, .ref b), (1, .ref (B + o1)), (2, .ref (B + o2)), (3, .ref (B + o3)), (4, .int v4)] []) {v4 : Int32} {μ : Mem} (hf : fL_law_562 L xs o1 o2 o3 kb v4 μ = some (1, res)) : TT p l e room_1 s m #[Value.ref b] below meth c (lw_Z below #[Value.ref b] s) 9 B D cT n kc ks μ 562 [(0, .ref b), (1, .ref (B + o1)), (2, .ref (B + o2)), (3, .ref (B + o3)), (4, .int v4)] [] := by
  have hk0 : kc ≤ 601024 := by omega
  have hs0 : ks ≤ 7293034 := by omega
  unfold fL_law_562 at hf
  refine tt_aload_n (pc := 562) (i := 1) (j := 1) E dL_law_562 rfl rfl ?_
  refine tt_aload_n (pc := 563) (i := 0) (j := 0) E dL_law_563 rfl rfl ?_
  refine tt_iload (pc := 564) (i := 4) (j := 4) E dL_law_564 rfl ?_
  refine tt_iconst (pc := 566) (v := 1) E dL_law_566 ic_1 ?_
  refine tt_iadd (pc := 567) E dL_law_567 ?_
  obtain ⟨g_1, hf⟩ := gd_some hf
  refine tt_scA (pc := 568) E hX hbB hbl g_1 dL_law_568 ?_
  refine tt_aload_n (pc := 569) (i := 0) (j := 0) E dL_law_569 rfl rfl ?_
  refine tt_iload (pc := 570) (i := 4) (j := 4) E dL_law_570 rfl ?_
  refine tt_iconst (pc := 572) (v := 2) E dL_law_572 ic_2 ?_
  refine tt_iadd (pc := 573) E dL_law_573 ?_
  obtain ⟨g_2, hf⟩ := gd_some hf
  refine tt_scA (pc := 574) E hX hbB hbl g_2 dL_law_574 ?_
  refine tt_aload_n (pc := 575) (i := 3) (j := 3) E dL_law_575 rfl rfl ?_
  obtain ⟨r_3, hr_4, hf⟩ := bd_some hf
  have hc_5 := cL_fighter_ok (l := l) (B := B) (D := D) (cT := cT) (n := n) (adK := adK) (adV := adV) hl0 h1 h3 hr_4
  refine tt_cI (pc := 576) (tt_siW E lmL_152 mtL_fighter hc_5 rfl rfl (Nat.le_of_ble_eq_true rfl) ⟨(Nat.le_of_ble_eq_true rfl), (Nat.le_of_ble_eq_true rfl)⟩ ⟨hk1, hs1⟩ dL_law_576) ?_
  refine tt_istore (pc := 579) (i := 5) (lv' := [(5, .int r_3.1), (0, .ref b), (1, .ref (B + o1)), (2, .ref (B + o2)), (3, .ref (B + o3)), (4, .int v4)]) E dL_law_579 (Nat.le_of_ble_eq_true rfl) rfl ?_
  refine tt_aload_n (pc := 581) (i := 2) (j := 3) E dL_law_581 rfl rfl ?_
  refine tt_aload_n (pc := 582) (i := 0) (j := 1) E dL_law_582 rfl rfl ?_
  refine tt_iload (pc := 583) (i := 4) (j := 5) E dL_law_583 rfl ?_
  refine tt_iconst (pc := 585) (v := 1) E dL_law_585 ic_1 ?_
  refine tt_iadd (pc := 586) E dL_law_586 ?_
  obtain ⟨g_6, hf⟩ := gd_some hf
  refine tt_scA (pc := 587) E hX hbB hbl g_6 dL_law_587 ?_
  refine tt_aload_n (pc := 588) (i := 0) (j := 1) E dL_law_588 rfl rfl ?_
  refine tt_iload (pc := 589) (i := 4) (j := 5) E dL_law_589 rfl ?_
  refine tt_iconst (pc := 591) (v := 2) E dL_law_591 ic_2 ?_
  refine tt_iadd (pc := 592) E dL_law_592 ?_
  obtain ⟨g_7, hf⟩ := gd_some hf
  refine tt_scA (pc := 593) E hX hbB hbl g_7 dL_law_593 ?_
  obtain ⟨r_8, hr_9, hf⟩ := bd_some hf
  have hc_10 := cX12_fighter_ok (l := l) (B := B) (D := D) (cT := cT) (n := n) (adK := adK) (adV := adV) h2 hr_9
  refine tt_cI (pc := 594) (tt_vi E lmL_155 mtX12_fighter hc_10 h2 rfl rfl (Nat.le_of_ble_eq_true rfl) ⟨(Nat.le_of_ble_eq_true rfl), (Nat.le_of_ble_eq_true rfl)⟩ ⟨hk1, hs1⟩ dL_law_594) ?_
  refine tt_istore (pc := 597) (i := 6) (lv' := [(6, .int r_8.1), (5, .int r_3.1), (0, .ref b), (1, .ref (B + o1)), (2, .ref (B + o2)), (3, .ref (B + o3)), (4, .int v4)]) E dL_law_597 (Nat.le_of_ble_eq_true rfl) rfl ?_
  refine tt_aload_n (pc := 599) (i := 2) (j := 4) E dL_law_599 rfl rfl ?_
  obtain ⟨r_11, hr_12, hf⟩ := bd_some hf
  have hc_13 := cX12_thrown_ok (l := l) (B := B) (D := D) (cT := cT) (n := n) (adK := adK) (adV := adV) h2 hr_12
  refine tt_cI (pc := 600) (tt_vi E lmL_127 mtX12_thrown hc_13 h2 rfl rfl (Nat.le_of_ble_eq_true rfl) ⟨(Nat.le_of_ble_eq_true rfl), (Nat.le_of_ble_eq_true rfl)⟩ ⟨hk1, hs1⟩ dL_law_600) ?_
  refine tt_iload (pc := 603) (i := 5) (j := 1) E dL_law_603 rfl ?_
  refine tt_icmp_eq (pc := 605) (tgt := 610) E dL_law_605 rfl (fun c_19 => ?_) (fun c_19 => ?_)
  · have hf := ip c_19 hf
    refine tt_iload (pc := 610) (i := 5) (j := 1) E dL_law_610 rfl ?_
    refine tt_if_ne (pc := 612) (tgt := 627) E dL_law_612 rfl (fun c_18 => ?_) (fun c_18 => ?_)
    · have hf := ine c_18 hf
      refine tt_goto (pc := 627) (tgt := 2449) E dL_law_627 rfl ?_
      obtain ⟨v_14, ev_14, hf⟩ := nm_ex hf
      refine tt_iinc (pc := 2449) (i := 4) (j := 6) (lv' := [(4, .int v_14), (6, .int r_8.1), (5, .int r_3.1), (0, .ref b), (1, .ref (B + o1)), (2, .ref (B + o2)), (3, .ref (B + o3))]) E dL_law_2449 rfl (ev_14).symm (Nat.le_of_ble_eq_true rfl) rfl ?_
      refine tt_goto (pc := 2452) (tgt := 23) E dL_law_2452 rfl ?_
      refine tt_sub [3, 4, 5, 6, 0] (lv' := [(0, .ref b), (1, .ref (B + o1)), (2, .ref (B + o2)), (3, .ref (B + o3)), (4, .int v_14)]) rfl ?_
      exact hk v_14 r_8.2 hf
    · have hf := ip c_18 hf
      refine tt_aload_n (pc := 615) (i := 3) (j := 5) E dL_law_615 rfl rfl ?_
      refine tt_iconst (pc := 616) (v := 0) E dL_law_616 ic_0 ?_
      obtain ⟨g_15, hf⟩ := gd_some hf
      refine tt_lald (pc := 617) E h3 g_15 dL_law_617 ?_
      refine tt_iload (pc := 618) (i := 6) (j := 0) E dL_law_618 rfl ?_
      refine tt_i2l (pc := 620) E dL_law_620 ?_
      refine tt_lcmp (pc := 621) E dL_law_621 ?_
      refine tt_if_eq (pc := 622) (tgt := 627) E dL_law_622 rfl (fun c_17 => ?_) (fun c_17 => ?_)
      · have hf := ip c_17 hf
        refine tt_goto (pc := 627) (tgt := 2449) E dL_law_627 rfl ?_
        obtain ⟨v_16, ev_16, hf⟩ := nm_ex hf
        refine tt_iinc (pc := 2449) (i := 4) (j := 6) (lv' := [(4, .int v_16), (6, .int r_8.1), (5, .int r_3.1), (0, .ref b), (1, .ref (B + o1)), (2, .ref (B + o2)), (3, .ref (B + o3))]) E dL_law_2449 rfl (ev_16).symm (Nat.le_of_ble_eq_true rfl) rfl ?_
        refine tt_goto (pc := 2452) (tgt := 23) E dL_law_2452 rfl ?_
        refine tt_sub [3, 4, 5, 6, 0] (lv' := [(0, .ref b), (1, .ref (B + o1)), (2, .ref (B + o2)), (3, .ref (B + o3)), (4, .int v_16)]) rfl ?_
        exact hk v_16 r_8.2 hf
      · have hf := ine c_17 hf
        refine tt_iconst (pc := 625) (v := 0) E dL_law_625 ic_0 ?_
        exact absurd hf ret0
  · have hf := ine c_19 hf
    refine tt_iconst (pc := 608) (v := 0) E dL_law_608 ic_0 ?_
    exact absurd hf ret0
set_option maxHeartbeats 4000000 in
theorem tL_law_630 {p : Program} {l : Launch} {e : Env} {s : State} {m : MethodId} {below : List Frame} {meth : Method} {c : Code} {B : Nat} {D : va_G} {cT : Nat → ClassId} {n : Nat} {adK adV : Nat → Nat} {b L : Nat} {xs : Nat → Int32} {res : Mem} (E : EE p s m #[Value.ref b] c cL_law 9 RL B D cT (XW B adK adV)) (hr : meth.sig.returnType = ret) (hlk : meth.locks = false) (hl0 : l.stackTraces = false) (hX : va_X b L xs s s.heap) (hbB : b < B) (hbl : b < s.heap.size) (hBs : s.heap.size ≤ B) {o1 o2 o3 : Nat} (h1 : isK n o1 8) (h2 : isK n o2 9) (h3 : isK n o3 12) {kc ks : Nat} (hk1 : kc + 1 ≤ 601024) (hs1 : ks + 6 ≤ 7293034) {kb : Int32 → Mem → Option (Int32 × Mem)} (hk : ∀ (v4 : Int32) (μ : Mem), kb v4 μ = some (1, res) → TT p l e room_1 s m #[Value.ref b] below meth c (lw_Z below #[Value.ref b] s) 9 B D cT n (kc + 1) (ks + 6) μ 23 [(0, .ref b), (1, .ref (B + o1)), (2, .ref (B + o2)), (3, .ref (B + o3)), (4, .int v4)] []) {v4 : Int32} {μ : Mem} (hf : fL_law_630 L xs o1 o2 o3 kb v4 μ = some (1, res)) : TT p l e room_1 s m #[Value.ref b] below meth c (lw_Z below #[Value.ref b] s) 9 B D cT n kc ks μ 630 [(0, .ref b), (1, .ref (B + o1)), (2, .ref (B + o2)), (3, .ref (B + o3)), (4, .int v4)] [] := by
  have hk0 : kc ≤ 601024 := by omega
  have hs0 : ks ≤ 7293034 := by omega
  unfold fL_law_630 at hf
  refine tt_aload_n (pc := 630) (i := 1) (j := 1) E dL_law_630 rfl rfl ?_
  refine tt_aload_n (pc := 631) (i := 0) (j := 0) E dL_law_631 rfl rfl ?_
  refine tt_iload (pc := 632) (i := 4) (j := 4) E dL_law_632 rfl ?_
  refine tt_iconst (pc := 634) (v := 1) E dL_law_634 ic_1 ?_
  refine tt_iadd (pc := 635) E dL_law_635 ?_
  obtain ⟨g_1, hf⟩ := gd_some hf
  refine tt_scA (pc := 636) E hX hbB hbl g_1 dL_law_636 ?_
  refine tt_aload_n (pc := 637) (i := 0) (j := 0) E dL_law_637 rfl rfl ?_
  refine tt_iload (pc := 638) (i := 4) (j := 4) E dL_law_638 rfl ?_
  refine tt_iconst (pc := 640) (v := 2) E dL_law_640 ic_2 ?_
  refine tt_iadd (pc := 641) E dL_law_641 ?_
  obtain ⟨g_2, hf⟩ := gd_some hf
  refine tt_scA (pc := 642) E hX hbB hbl g_2 dL_law_642 ?_
  refine tt_aload_n (pc := 643) (i := 3) (j := 3) E dL_law_643 rfl rfl ?_
  obtain ⟨r_3, hr_4, hf⟩ := bd_some hf
  have hc_5 := cL_actKind_ok (l := l) (B := B) (D := D) (cT := cT) (n := n) (adK := adK) (adV := adV) hl0 h1 h3 hr_4
  refine tt_cI (pc := 644) (tt_siW E lmL_156 mtL_actKind hc_5 rfl rfl (Nat.le_of_ble_eq_true rfl) ⟨(Nat.le_of_ble_eq_true rfl), (Nat.le_of_ble_eq_true rfl)⟩ ⟨hk1, hs1⟩ dL_law_644) ?_
  refine tt_istore (pc := 647) (i := 5) (lv' := [(5, .int r_3.1), (0, .ref b), (1, .ref (B + o1)), (2, .ref (B + o2)), (3, .ref (B + o3)), (4, .int v4)]) E dL_law_647 (Nat.le_of_ble_eq_true rfl) rfl ?_
  refine tt_aload_n (pc := 649) (i := 2) (j := 3) E dL_law_649 rfl rfl ?_
  refine tt_aload_n (pc := 650) (i := 0) (j := 1) E dL_law_650 rfl rfl ?_
  refine tt_iload (pc := 651) (i := 4) (j := 5) E dL_law_651 rfl ?_
  refine tt_iconst (pc := 653) (v := 1) E dL_law_653 ic_1 ?_
  refine tt_iadd (pc := 654) E dL_law_654 ?_
  obtain ⟨g_6, hf⟩ := gd_some hf
  refine tt_scA (pc := 655) E hX hbB hbl g_6 dL_law_655 ?_
  refine tt_aload_n (pc := 656) (i := 0) (j := 1) E dL_law_656 rfl rfl ?_
  refine tt_iload (pc := 657) (i := 4) (j := 5) E dL_law_657 rfl ?_
  refine tt_iconst (pc := 659) (v := 2) E dL_law_659 ic_2 ?_
  refine tt_iadd (pc := 660) E dL_law_660 ?_
  obtain ⟨g_7, hf⟩ := gd_some hf
  refine tt_scA (pc := 661) E hX hbB hbl g_7 dL_law_661 ?_
  obtain ⟨r_8, hr_9, hf⟩ := bd_some hf
  have hc_10 := cX12_actKind_ok (l := l) (B := B) (D := D) (cT := cT) (n := n) (adK := adK) (adV := adV) h2 hr_9
  refine tt_cI (pc := 662) (tt_vi E lmL_158 mtX12_actKind hc_10 h2 rfl rfl (Nat.le_of_ble_eq_true rfl) ⟨(Nat.le_of_ble_eq_true rfl), (Nat.le_of_ble_eq_true rfl)⟩ ⟨hk1, hs1⟩ dL_law_662) ?_
  refine tt_istore (pc := 665) (i := 6) (lv' := [(6, .int r_8.1), (5, .int r_3.1), (0, .ref b), (1, .ref (B + o1)), (2, .ref (B + o2)), (3, .ref (B + o3)), (4, .int v4)]) E dL_law_665 (Nat.le_of_ble_eq_true rfl) rfl ?_
  refine tt_aload_n (pc := 667) (i := 2) (j := 4) E dL_law_667 rfl rfl ?_
  obtain ⟨r_11, hr_12, hf⟩ := bd_some hf
  have hc_13 := cX12_thrown_ok (l := l) (B := B) (D := D) (cT := cT) (n := n) (adK := adK) (adV := adV) h2 hr_12
  refine tt_cI (pc := 668) (tt_vi E lmL_127 mtX12_thrown hc_13 h2 rfl rfl (Nat.le_of_ble_eq_true rfl) ⟨(Nat.le_of_ble_eq_true rfl), (Nat.le_of_ble_eq_true rfl)⟩ ⟨hk1, hs1⟩ dL_law_668) ?_
  refine tt_iload (pc := 671) (i := 5) (j := 1) E dL_law_671 rfl ?_
  refine tt_icmp_eq (pc := 673) (tgt := 678) E dL_law_673 rfl (fun c_19 => ?_) (fun c_19 => ?_)
  · have hf := ip c_19 hf
    refine tt_iload (pc := 678) (i := 5) (j := 1) E dL_law_678 rfl ?_
    refine tt_if_ne (pc := 680) (tgt := 695) E dL_law_680 rfl (fun c_18 => ?_) (fun c_18 => ?_)
    · have hf := ine c_18 hf
      refine tt_goto (pc := 695) (tgt := 2449) E dL_law_695 rfl ?_
      obtain ⟨v_14, ev_14, hf⟩ := nm_ex hf
      refine tt_iinc (pc := 2449) (i := 4) (j := 6) (lv' := [(4, .int v_14), (6, .int r_8.1), (5, .int r_3.1), (0, .ref b), (1, .ref (B + o1)), (2, .ref (B + o2)), (3, .ref (B + o3))]) E dL_law_2449 rfl (ev_14).symm (Nat.le_of_ble_eq_true rfl) rfl ?_
      refine tt_goto (pc := 2452) (tgt := 23) E dL_law_2452 rfl ?_
      refine tt_sub [3, 4, 5, 6, 0] (lv' := [(0, .ref b), (1, .ref (B + o1)), (2, .ref (B + o2)), (3, .ref (B + o3)), (4, .int v_14)]) rfl ?_
      exact hk v_14 r_8.2 hf
    · have hf := ip c_18 hf
      refine tt_aload_n (pc := 683) (i := 3) (j := 5) E dL_law_683 rfl rfl ?_
      refine tt_iconst (pc := 684) (v := 0) E dL_law_684 ic_0 ?_
      obtain ⟨g_15, hf⟩ := gd_some hf
      refine tt_lald (pc := 685) E h3 g_15 dL_law_685 ?_
      refine tt_iload (pc := 686) (i := 6) (j := 0) E dL_law_686 rfl ?_
      refine tt_i2l (pc := 688) E dL_law_688 ?_
      refine tt_lcmp (pc := 689) E dL_law_689 ?_
      refine tt_if_eq (pc := 690) (tgt := 695) E dL_law_690 rfl (fun c_17 => ?_) (fun c_17 => ?_)
      · have hf := ip c_17 hf
        refine tt_goto (pc := 695) (tgt := 2449) E dL_law_695 rfl ?_
        obtain ⟨v_16, ev_16, hf⟩ := nm_ex hf
        refine tt_iinc (pc := 2449) (i := 4) (j := 6) (lv' := [(4, .int v_16), (6, .int r_8.1), (5, .int r_3.1), (0, .ref b), (1, .ref (B + o1)), (2, .ref (B + o2)), (3, .ref (B + o3))]) E dL_law_2449 rfl (ev_16).symm (Nat.le_of_ble_eq_true rfl) rfl ?_
        refine tt_goto (pc := 2452) (tgt := 23) E dL_law_2452 rfl ?_
        refine tt_sub [3, 4, 5, 6, 0] (lv' := [(0, .ref b), (1, .ref (B + o1)), (2, .ref (B + o2)), (3, .ref (B + o3)), (4, .int v_16)]) rfl ?_
        exact hk v_16 r_8.2 hf
      · have hf := ine c_17 hf
        refine tt_iconst (pc := 693) (v := 0) E dL_law_693 ic_0 ?_
        exact absurd hf ret0
  · have hf := ine c_19 hf
    refine tt_iconst (pc := 676) (v := 0) E dL_law_676 ic_0 ?_
    exact absurd hf ret0
set_option maxHeartbeats 4000000 in
theorem tL_law_698 {p : Program} {l : Launch} {e : Env} {s : State} {m : MethodId} {below : List Frame} {meth : Method} {c : Code} {B : Nat} {D : va_G} {cT : Nat → ClassId} {n : Nat} {adK adV : Nat → Nat} {b L : Nat} {xs : Nat → Int32} {res : Mem} (E : EE p s m #[Value.ref b] c cL_law 9 RL B D cT (XW B adK adV)) (hr : meth.sig.returnType = ret) (hlk : meth.locks = false) (hl0 : l.stackTraces = false) (hX : va_X b L xs s s.heap) (hbB : b < B) (hbl : b < s.heap.size) (hBs : s.heap.size ≤ B) {o1 o2 o3 : Nat} (h1 : isK n o1 8) (h2 : isK n o2 9) (h3 : isK n o3 12) {kc ks : Nat} (hk1 : kc + 1 ≤ 601024) (hs1 : ks + 6 ≤ 7293034) {kb : Int32 → Mem → Option (Int32 × Mem)} (hk : ∀ (v4 : Int32) (μ : Mem), kb v4 μ = some (1, res) → TT p l e room_1 s m #[Value.ref b] below meth c (lw_Z below #[Value.ref b] s) 9 B D cT n (kc + 1) (ks + 6) μ 23 [(0, .ref b), (1, .ref (B + o1)), (2, .ref (B + o2)), (3, .ref (B + o3)), (4, .int v4)] []) {v4 : Int32} {μ : Mem} (hf : fL_law_698 L xs o1 o2 o3 kb v4 μ = some (1, res)) : TT p l e room_1 s m #[Value.ref b] below meth c (lw_Z below #[Value.ref b] s) 9 B D cT n kc ks μ 698 [(0, .ref b), (1, .ref (B + o1)), (2, .ref (B + o2)), (3, .ref (B + o3)), (4, .int v4)] [] := by
  have hk0 : kc ≤ 601024 := by omega
  have hs0 : ks ≤ 7293034 := by omega
  unfold fL_law_698 at hf
  refine tt_aload_n (pc := 698) (i := 1) (j := 1) E dL_law_698 rfl rfl ?_
  refine tt_aload_n (pc := 699) (i := 0) (j := 0) E dL_law_699 rfl rfl ?_
  refine tt_iload (pc := 700) (i := 4) (j := 4) E dL_law_700 rfl ?_
  refine tt_iconst (pc := 702) (v := 1) E dL_law_702 ic_1 ?_
  refine tt_iadd (pc := 703) E dL_law_703 ?_
  obtain ⟨g_1, hf⟩ := gd_some hf
  refine tt_scA (pc := 704) E hX hbB hbl g_1 dL_law_704 ?_
  refine tt_aload_n (pc := 705) (i := 0) (j := 0) E dL_law_705 rfl rfl ?_
  refine tt_iload (pc := 706) (i := 4) (j := 4) E dL_law_706 rfl ?_
  refine tt_iconst (pc := 708) (v := 2) E dL_law_708 ic_2 ?_
  refine tt_iadd (pc := 709) E dL_law_709 ?_
  obtain ⟨g_2, hf⟩ := gd_some hf
  refine tt_scA (pc := 710) E hX hbB hbl g_2 dL_law_710 ?_
  refine tt_aload_n (pc := 711) (i := 3) (j := 3) E dL_law_711 rfl rfl ?_
  obtain ⟨r_3, hr_4, hf⟩ := bd_some hf
  have hc_5 := cL_actNumber_ok (l := l) (B := B) (D := D) (cT := cT) (n := n) (adK := adK) (adV := adV) hl0 h1 h3 hr_4
  refine tt_cI (pc := 712) (tt_siW E lmL_159 mtL_actNumber hc_5 rfl rfl (Nat.le_of_ble_eq_true rfl) ⟨(Nat.le_of_ble_eq_true rfl), (Nat.le_of_ble_eq_true rfl)⟩ ⟨hk1, hs1⟩ dL_law_712) ?_
  refine tt_istore (pc := 715) (i := 5) (lv' := [(5, .int r_3.1), (0, .ref b), (1, .ref (B + o1)), (2, .ref (B + o2)), (3, .ref (B + o3)), (4, .int v4)]) E dL_law_715 (Nat.le_of_ble_eq_true rfl) rfl ?_
  refine tt_aload_n (pc := 717) (i := 2) (j := 3) E dL_law_717 rfl rfl ?_
  refine tt_aload_n (pc := 718) (i := 0) (j := 1) E dL_law_718 rfl rfl ?_
  refine tt_iload (pc := 719) (i := 4) (j := 5) E dL_law_719 rfl ?_
  refine tt_iconst (pc := 721) (v := 1) E dL_law_721 ic_1 ?_
  refine tt_iadd (pc := 722) E dL_law_722 ?_
  obtain ⟨g_6, hf⟩ := gd_some hf
  refine tt_scA (pc := 723) E hX hbB hbl g_6 dL_law_723 ?_
  refine tt_aload_n (pc := 724) (i := 0) (j := 1) E dL_law_724 rfl rfl ?_
  refine tt_iload (pc := 725) (i := 4) (j := 5) E dL_law_725 rfl ?_
  refine tt_iconst (pc := 727) (v := 2) E dL_law_727 ic_2 ?_
  refine tt_iadd (pc := 728) E dL_law_728 ?_
  obtain ⟨g_7, hf⟩ := gd_some hf
  refine tt_scA (pc := 729) E hX hbB hbl g_7 dL_law_729 ?_
  obtain ⟨r_8, hr_9, hf⟩ := bd_some hf
  have hc_10 := cX12_actNumber_ok (l := l) (B := B) (D := D) (cT := cT) (n := n) (adK := adK) (adV := adV) h2 hr_9
  refine tt_cI (pc := 730) (tt_vi E lmL_161 mtX12_actNumber hc_10 h2 rfl rfl (Nat.le_of_ble_eq_true rfl) ⟨(Nat.le_of_ble_eq_true rfl), (Nat.le_of_ble_eq_true rfl)⟩ ⟨hk1, hs1⟩ dL_law_730) ?_
  refine tt_istore (pc := 733) (i := 6) (lv' := [(6, .int r_8.1), (5, .int r_3.1), (0, .ref b), (1, .ref (B + o1)), (2, .ref (B + o2)), (3, .ref (B + o3)), (4, .int v4)]) E dL_law_733 (Nat.le_of_ble_eq_true rfl) rfl ?_
  refine tt_aload_n (pc := 735) (i := 2) (j := 4) E dL_law_735 rfl rfl ?_
  obtain ⟨r_11, hr_12, hf⟩ := bd_some hf
  have hc_13 := cX12_thrown_ok (l := l) (B := B) (D := D) (cT := cT) (n := n) (adK := adK) (adV := adV) h2 hr_12
  refine tt_cI (pc := 736) (tt_vi E lmL_127 mtX12_thrown hc_13 h2 rfl rfl (Nat.le_of_ble_eq_true rfl) ⟨(Nat.le_of_ble_eq_true rfl), (Nat.le_of_ble_eq_true rfl)⟩ ⟨hk1, hs1⟩ dL_law_736) ?_
  refine tt_iload (pc := 739) (i := 5) (j := 1) E dL_law_739 rfl ?_
  refine tt_icmp_eq (pc := 741) (tgt := 746) E dL_law_741 rfl (fun c_19 => ?_) (fun c_19 => ?_)
  · have hf := ip c_19 hf
    refine tt_iload (pc := 746) (i := 5) (j := 1) E dL_law_746 rfl ?_
    refine tt_if_ne (pc := 748) (tgt := 763) E dL_law_748 rfl (fun c_18 => ?_) (fun c_18 => ?_)
    · have hf := ine c_18 hf
      refine tt_goto (pc := 763) (tgt := 2449) E dL_law_763 rfl ?_
      obtain ⟨v_14, ev_14, hf⟩ := nm_ex hf
      refine tt_iinc (pc := 2449) (i := 4) (j := 6) (lv' := [(4, .int v_14), (6, .int r_8.1), (5, .int r_3.1), (0, .ref b), (1, .ref (B + o1)), (2, .ref (B + o2)), (3, .ref (B + o3))]) E dL_law_2449 rfl (ev_14).symm (Nat.le_of_ble_eq_true rfl) rfl ?_
      refine tt_goto (pc := 2452) (tgt := 23) E dL_law_2452 rfl ?_
      refine tt_sub [3, 4, 5, 6, 0] (lv' := [(0, .ref b), (1, .ref (B + o1)), (2, .ref (B + o2)), (3, .ref (B + o3)), (4, .int v_14)]) rfl ?_
      exact hk v_14 r_8.2 hf
    · have hf := ip c_18 hf
      refine tt_aload_n (pc := 751) (i := 3) (j := 5) E dL_law_751 rfl rfl ?_
      refine tt_iconst (pc := 752) (v := 0) E dL_law_752 ic_0 ?_
      obtain ⟨g_15, hf⟩ := gd_some hf
      refine tt_lald (pc := 753) E h3 g_15 dL_law_753 ?_
      refine tt_iload (pc := 754) (i := 6) (j := 0) E dL_law_754 rfl ?_
      refine tt_i2l (pc := 756) E dL_law_756 ?_
      refine tt_lcmp (pc := 757) E dL_law_757 ?_
      refine tt_if_eq (pc := 758) (tgt := 763) E dL_law_758 rfl (fun c_17 => ?_) (fun c_17 => ?_)
      · have hf := ip c_17 hf
        refine tt_goto (pc := 763) (tgt := 2449) E dL_law_763 rfl ?_
        obtain ⟨v_16, ev_16, hf⟩ := nm_ex hf
        refine tt_iinc (pc := 2449) (i := 4) (j := 6) (lv' := [(4, .int v_16), (6, .int r_8.1), (5, .int r_3.1), (0, .ref b), (1, .ref (B + o1)), (2, .ref (B + o2)), (3, .ref (B + o3))]) E dL_law_2449 rfl (ev_16).symm (Nat.le_of_ble_eq_true rfl) rfl ?_
        refine tt_goto (pc := 2452) (tgt := 23) E dL_law_2452 rfl ?_
        refine tt_sub [3, 4, 5, 6, 0] (lv' := [(0, .ref b), (1, .ref (B + o1)), (2, .ref (B + o2)), (3, .ref (B + o3)), (4, .int v_16)]) rfl ?_
        exact hk v_16 r_8.2 hf
      · have hf := ine c_17 hf
        refine tt_iconst (pc := 761) (v := 0) E dL_law_761 ic_0 ?_
        exact absurd hf ret0
  · have hf := ine c_19 hf
    refine tt_iconst (pc := 744) (v := 0) E dL_law_744 ic_0 ?_
    exact absurd hf ret0
set_option maxHeartbeats 4000000 in
theorem tL_law_766 {p : Program} {l : Launch} {e : Env} {s : State} {m : MethodId} {below : List Frame} {meth : Method} {c : Code} {B : Nat} {D : va_G} {cT : Nat → ClassId} {n : Nat} {adK adV : Nat → Nat} {b L : Nat} {xs : Nat → Int32} {res : Mem} (E : EE p s m #[Value.ref b] c cL_law 9 RL B D cT (XW B adK adV)) (hr : meth.sig.returnType = ret) (hlk : meth.locks = false) (hl0 : l.stackTraces = false) (hX : va_X b L xs s s.heap) (hbB : b < B) (hbl : b < s.heap.size) (hBs : s.heap.size ≤ B) {o1 o2 o3 : Nat} (h1 : isK n o1 8) (h2 : isK n o2 9) (h3 : isK n o3 12) {kc ks : Nat} (hk1 : kc + 1 ≤ 601024) (hs1 : ks + 6 ≤ 7293034) {kb : Int32 → Mem → Option (Int32 × Mem)} (hk : ∀ (v4 : Int32) (μ : Mem), kb v4 μ = some (1, res) → TT p l e room_1 s m #[Value.ref b] below meth c (lw_Z below #[Value.ref b] s) 9 B D cT n (kc + 1) (ks + 6) μ 23 [(0, .ref b), (1, .ref (B + o1)), (2, .ref (B + o2)), (3, .ref (B + o3)), (4, .int v4)] []) {v4 : Int32} {μ : Mem} (hf : fL_law_766 L xs o1 o2 o3 kb v4 μ = some (1, res)) : TT p l e room_1 s m #[Value.ref b] below meth c (lw_Z below #[Value.ref b] s) 9 B D cT n kc ks μ 766 [(0, .ref b), (1, .ref (B + o1)), (2, .ref (B + o2)), (3, .ref (B + o3)), (4, .int v4)] [] := by
  have hk0 : kc ≤ 601024 := by omega
  have hs0 : ks ≤ 7293034 := by omega
  unfold fL_law_766 at hf
  refine tt_aload_n (pc := 766) (i := 1) (j := 1) E dL_law_766 rfl rfl ?_
  refine tt_aload_n (pc := 767) (i := 0) (j := 0) E dL_law_767 rfl rfl ?_
  refine tt_iload (pc := 768) (i := 4) (j := 4) E dL_law_768 rfl ?_
  refine tt_iconst (pc := 770) (v := 1) E dL_law_770 ic_1 ?_
  refine tt_iadd (pc := 771) E dL_law_771 ?_
  obtain ⟨g_1, hf⟩ := gd_some hf
  refine tt_scA (pc := 772) E hX hbB hbl g_1 dL_law_772 ?_
  refine tt_aload_n (pc := 773) (i := 0) (j := 0) E dL_law_773 rfl rfl ?_
  refine tt_iload (pc := 774) (i := 4) (j := 4) E dL_law_774 rfl ?_
  refine tt_iconst (pc := 776) (v := 2) E dL_law_776 ic_2 ?_
  refine tt_iadd (pc := 777) E dL_law_777 ?_
  obtain ⟨g_2, hf⟩ := gd_some hf
  refine tt_scA (pc := 778) E hX hbB hbl g_2 dL_law_778 ?_
  refine tt_aload_n (pc := 779) (i := 3) (j := 3) E dL_law_779 rfl rfl ?_
  obtain ⟨r_3, hr_4, hf⟩ := bd_some hf
  have hc_5 := cL_letter_ok (l := l) (B := B) (D := D) (cT := cT) (n := n) (adK := adK) (adV := adV) hl0 h1 h3 hr_4
  refine tt_cI (pc := 780) (tt_siW E lmL_162 mtL_letter hc_5 rfl rfl (Nat.le_of_ble_eq_true rfl) ⟨(Nat.le_of_ble_eq_true rfl), (Nat.le_of_ble_eq_true rfl)⟩ ⟨hk1, hs1⟩ dL_law_780) ?_
  refine tt_istore (pc := 783) (i := 5) (lv' := [(5, .int r_3.1), (0, .ref b), (1, .ref (B + o1)), (2, .ref (B + o2)), (3, .ref (B + o3)), (4, .int v4)]) E dL_law_783 (Nat.le_of_ble_eq_true rfl) rfl ?_
  refine tt_aload_n (pc := 785) (i := 2) (j := 3) E dL_law_785 rfl rfl ?_
  refine tt_aload_n (pc := 786) (i := 0) (j := 1) E dL_law_786 rfl rfl ?_
  refine tt_iload (pc := 787) (i := 4) (j := 5) E dL_law_787 rfl ?_
  refine tt_iconst (pc := 789) (v := 1) E dL_law_789 ic_1 ?_
  refine tt_iadd (pc := 790) E dL_law_790 ?_
  obtain ⟨g_6, hf⟩ := gd_some hf
  refine tt_scA (pc := 791) E hX hbB hbl g_6 dL_law_791 ?_
  refine tt_aload_n (pc := 792) (i := 0) (j := 1) E dL_law_792 rfl rfl ?_
  refine tt_iload (pc := 793) (i := 4) (j := 5) E dL_law_793 rfl ?_
  refine tt_iconst (pc := 795) (v := 2) E dL_law_795 ic_2 ?_
  refine tt_iadd (pc := 796) E dL_law_796 ?_
  obtain ⟨g_7, hf⟩ := gd_some hf
  refine tt_scA (pc := 797) E hX hbB hbl g_7 dL_law_797 ?_
  obtain ⟨r_8, hr_9, hf⟩ := bd_some hf
  have hc_10 := cX12_letter_ok (l := l) (B := B) (D := D) (cT := cT) (n := n) (adK := adK) (adV := adV) h2 hr_9
  refine tt_cI (pc := 798) (tt_vi E lmL_164 mtX12_letter hc_10 h2 rfl rfl (Nat.le_of_ble_eq_true rfl) ⟨(Nat.le_of_ble_eq_true rfl), (Nat.le_of_ble_eq_true rfl)⟩ ⟨hk1, hs1⟩ dL_law_798) ?_
  refine tt_istore (pc := 801) (i := 6) (lv' := [(6, .int r_8.1), (5, .int r_3.1), (0, .ref b), (1, .ref (B + o1)), (2, .ref (B + o2)), (3, .ref (B + o3)), (4, .int v4)]) E dL_law_801 (Nat.le_of_ble_eq_true rfl) rfl ?_
  refine tt_aload_n (pc := 803) (i := 2) (j := 4) E dL_law_803 rfl rfl ?_
  obtain ⟨r_11, hr_12, hf⟩ := bd_some hf
  have hc_13 := cX12_thrown_ok (l := l) (B := B) (D := D) (cT := cT) (n := n) (adK := adK) (adV := adV) h2 hr_12
  refine tt_cI (pc := 804) (tt_vi E lmL_127 mtX12_thrown hc_13 h2 rfl rfl (Nat.le_of_ble_eq_true rfl) ⟨(Nat.le_of_ble_eq_true rfl), (Nat.le_of_ble_eq_true rfl)⟩ ⟨hk1, hs1⟩ dL_law_804) ?_
  refine tt_iload (pc := 807) (i := 5) (j := 1) E dL_law_807 rfl ?_
  refine tt_icmp_eq (pc := 809) (tgt := 814) E dL_law_809 rfl (fun c_19 => ?_) (fun c_19 => ?_)
  · have hf := ip c_19 hf
    refine tt_iload (pc := 814) (i := 5) (j := 1) E dL_law_814 rfl ?_
    refine tt_if_ne (pc := 816) (tgt := 831) E dL_law_816 rfl (fun c_18 => ?_) (fun c_18 => ?_)
    · have hf := ine c_18 hf
      refine tt_goto (pc := 831) (tgt := 2449) E dL_law_831 rfl ?_
      obtain ⟨v_14, ev_14, hf⟩ := nm_ex hf
      refine tt_iinc (pc := 2449) (i := 4) (j := 6) (lv' := [(4, .int v_14), (6, .int r_8.1), (5, .int r_3.1), (0, .ref b), (1, .ref (B + o1)), (2, .ref (B + o2)), (3, .ref (B + o3))]) E dL_law_2449 rfl (ev_14).symm (Nat.le_of_ble_eq_true rfl) rfl ?_
      refine tt_goto (pc := 2452) (tgt := 23) E dL_law_2452 rfl ?_
      refine tt_sub [3, 4, 5, 6, 0] (lv' := [(0, .ref b), (1, .ref (B + o1)), (2, .ref (B + o2)), (3, .ref (B + o3)), (4, .int v_14)]) rfl ?_
      exact hk v_14 r_8.2 hf
    · have hf := ip c_18 hf
      refine tt_aload_n (pc := 819) (i := 3) (j := 5) E dL_law_819 rfl rfl ?_
      refine tt_iconst (pc := 820) (v := 0) E dL_law_820 ic_0 ?_
      obtain ⟨g_15, hf⟩ := gd_some hf
      refine tt_lald (pc := 821) E h3 g_15 dL_law_821 ?_
      refine tt_iload (pc := 822) (i := 6) (j := 0) E dL_law_822 rfl ?_
      refine tt_i2l (pc := 824) E dL_law_824 ?_
      refine tt_lcmp (pc := 825) E dL_law_825 ?_
      refine tt_if_eq (pc := 826) (tgt := 831) E dL_law_826 rfl (fun c_17 => ?_) (fun c_17 => ?_)
      · have hf := ip c_17 hf
        refine tt_goto (pc := 831) (tgt := 2449) E dL_law_831 rfl ?_
        obtain ⟨v_16, ev_16, hf⟩ := nm_ex hf
        refine tt_iinc (pc := 2449) (i := 4) (j := 6) (lv' := [(4, .int v_16), (6, .int r_8.1), (5, .int r_3.1), (0, .ref b), (1, .ref (B + o1)), (2, .ref (B + o2)), (3, .ref (B + o3))]) E dL_law_2449 rfl (ev_16).symm (Nat.le_of_ble_eq_true rfl) rfl ?_
        refine tt_goto (pc := 2452) (tgt := 23) E dL_law_2452 rfl ?_
        refine tt_sub [3, 4, 5, 6, 0] (lv' := [(0, .ref b), (1, .ref (B + o1)), (2, .ref (B + o2)), (3, .ref (B + o3)), (4, .int v_16)]) rfl ?_
        exact hk v_16 r_8.2 hf
      · have hf := ine c_17 hf
        refine tt_iconst (pc := 829) (v := 0) E dL_law_829 ic_0 ?_
        exact absurd hf ret0
  · have hf := ine c_19 hf
    refine tt_iconst (pc := 812) (v := 0) E dL_law_812 ic_0 ?_
    exact absurd hf ret0
set_option maxHeartbeats 4000000 in
theorem tL_law_834 {p : Program} {l : Launch} {e : Env} {s : State} {m : MethodId} {below : List Frame} {meth : Method} {c : Code} {B : Nat} {D : va_G} {cT : Nat → ClassId} {n : Nat} {adK adV : Nat → Nat} {b L : Nat} {xs : Nat → Int32} {res : Mem} (E : EE p s m #[Value.ref b] c cL_law 9 RL B D cT (XW B adK adV)) (hr : meth.sig.returnType = ret) (hlk : meth.locks = false) (hl0 : l.stackTraces = false) (hX : va_X b L xs s s.heap) (hbB : b < B) (hbl : b < s.heap.size) (hBs : s.heap.size ≤ B) {o1 o2 o3 : Nat} (h1 : isK n o1 8) (h2 : isK n o2 9) (h3 : isK n o3 12) {kc ks : Nat} (hk1 : kc + 1 ≤ 601024) (hs1 : ks + 6 ≤ 7293034) {kb : Int32 → Mem → Option (Int32 × Mem)} (hk : ∀ (v4 : Int32) (μ : Mem), kb v4 μ = some (1, res) → TT p l e room_1 s m #[Value.ref b] below meth c (lw_Z below #[Value.ref b] s) 9 B D cT n (kc + 1) (ks + 6) μ 23 [(0, .ref b), (1, .ref (B + o1)), (2, .ref (B + o2)), (3, .ref (B + o3)), (4, .int v4)] []) {v4 : Int32} {μ : Mem} (hf : fL_law_834 L xs o1 o2 o3 kb v4 μ = some (1, res)) : TT p l e room_1 s m #[Value.ref b] below meth c (lw_Z below #[Value.ref b] s) 9 B D cT n kc ks μ 834 [(0, .ref b), (1, .ref (B + o1)), (2, .ref (B + o2)), (3, .ref (B + o3)), (4, .int v4)] [] := by
  have hk0 : kc ≤ 601024 := by omega
  have hs0 : ks ≤ 7293034 := by omega
  unfold fL_law_834 at hf
  refine tt_aload_n (pc := 834) (i := 1) (j := 1) E dL_law_834 rfl rfl ?_
  refine tt_aload_n (pc := 835) (i := 0) (j := 0) E dL_law_835 rfl rfl ?_
  refine tt_iload (pc := 836) (i := 4) (j := 4) E dL_law_836 rfl ?_
  refine tt_iconst (pc := 838) (v := 1) E dL_law_838 ic_1 ?_
  refine tt_iadd (pc := 839) E dL_law_839 ?_
  obtain ⟨g_1, hf⟩ := gd_some hf
  refine tt_scA (pc := 840) E hX hbB hbl g_1 dL_law_840 ?_
  refine tt_aload_n (pc := 841) (i := 3) (j := 3) E dL_law_841 rfl rfl ?_
  obtain ⟨r_2, hr_3, hf⟩ := bd_some hf
  have hc_4 := cL_ticksTo_ok (l := l) (B := B) (D := D) (cT := cT) (n := n) (adK := adK) (adV := adV) hl0 h1 h3 hr_3
  refine tt_cI (pc := 842) (tt_siW E lmL_165 mtL_ticksTo hc_4 rfl rfl (Nat.le_of_ble_eq_true rfl) ⟨(Nat.le_of_ble_eq_true rfl), (Nat.le_of_ble_eq_true rfl)⟩ ⟨hk1, hs1⟩ dL_law_842) ?_
  refine tt_istore (pc := 845) (i := 5) (lv' := [(5, .int r_2.1), (0, .ref b), (1, .ref (B + o1)), (2, .ref (B + o2)), (3, .ref (B + o3)), (4, .int v4)]) E dL_law_845 (Nat.le_of_ble_eq_true rfl) rfl ?_
  refine tt_aload_n (pc := 847) (i := 2) (j := 3) E dL_law_847 rfl rfl ?_
  refine tt_aload_n (pc := 848) (i := 0) (j := 1) E dL_law_848 rfl rfl ?_
  refine tt_iload (pc := 849) (i := 4) (j := 5) E dL_law_849 rfl ?_
  refine tt_iconst (pc := 851) (v := 1) E dL_law_851 ic_1 ?_
  refine tt_iadd (pc := 852) E dL_law_852 ?_
  obtain ⟨g_5, hf⟩ := gd_some hf
  refine tt_scA (pc := 853) E hX hbB hbl g_5 dL_law_853 ?_
  obtain ⟨r_6, hr_7, hf⟩ := bd_some hf
  have hc_8 := cX12_ticksTo_ok (l := l) (B := B) (D := D) (cT := cT) (n := n) (adK := adK) (adV := adV) h2 hr_7
  refine tt_cI (pc := 854) (tt_vi E lmL_167 mtX12_ticksTo hc_8 h2 rfl rfl (Nat.le_of_ble_eq_true rfl) ⟨(Nat.le_of_ble_eq_true rfl), (Nat.le_of_ble_eq_true rfl)⟩ ⟨hk1, hs1⟩ dL_law_854) ?_
  refine tt_istore (pc := 857) (i := 6) (lv' := [(6, .int r_6.1), (5, .int r_2.1), (0, .ref b), (1, .ref (B + o1)), (2, .ref (B + o2)), (3, .ref (B + o3)), (4, .int v4)]) E dL_law_857 (Nat.le_of_ble_eq_true rfl) rfl ?_
  refine tt_aload_n (pc := 859) (i := 2) (j := 4) E dL_law_859 rfl rfl ?_
  obtain ⟨r_9, hr_10, hf⟩ := bd_some hf
  have hc_11 := cX12_thrown_ok (l := l) (B := B) (D := D) (cT := cT) (n := n) (adK := adK) (adV := adV) h2 hr_10
  refine tt_cI (pc := 860) (tt_vi E lmL_127 mtX12_thrown hc_11 h2 rfl rfl (Nat.le_of_ble_eq_true rfl) ⟨(Nat.le_of_ble_eq_true rfl), (Nat.le_of_ble_eq_true rfl)⟩ ⟨hk1, hs1⟩ dL_law_860) ?_
  refine tt_iload (pc := 863) (i := 5) (j := 1) E dL_law_863 rfl ?_
  refine tt_icmp_eq (pc := 865) (tgt := 870) E dL_law_865 rfl (fun c_17 => ?_) (fun c_17 => ?_)
  · have hf := ip c_17 hf
    refine tt_iload (pc := 870) (i := 5) (j := 1) E dL_law_870 rfl ?_
    refine tt_if_ne (pc := 872) (tgt := 887) E dL_law_872 rfl (fun c_16 => ?_) (fun c_16 => ?_)
    · have hf := ine c_16 hf
      refine tt_goto (pc := 887) (tgt := 2449) E dL_law_887 rfl ?_
      obtain ⟨v_12, ev_12, hf⟩ := nm_ex hf
      refine tt_iinc (pc := 2449) (i := 4) (j := 6) (lv' := [(4, .int v_12), (6, .int r_6.1), (5, .int r_2.1), (0, .ref b), (1, .ref (B + o1)), (2, .ref (B + o2)), (3, .ref (B + o3))]) E dL_law_2449 rfl (ev_12).symm (Nat.le_of_ble_eq_true rfl) rfl ?_
      refine tt_goto (pc := 2452) (tgt := 23) E dL_law_2452 rfl ?_
      refine tt_sub [3, 4, 5, 6, 0] (lv' := [(0, .ref b), (1, .ref (B + o1)), (2, .ref (B + o2)), (3, .ref (B + o3)), (4, .int v_12)]) rfl ?_
      exact hk v_12 r_6.2 hf
    · have hf := ip c_16 hf
      refine tt_aload_n (pc := 875) (i := 3) (j := 5) E dL_law_875 rfl rfl ?_
      refine tt_iconst (pc := 876) (v := 0) E dL_law_876 ic_0 ?_
      obtain ⟨g_13, hf⟩ := gd_some hf
      refine tt_lald (pc := 877) E h3 g_13 dL_law_877 ?_
      refine tt_iload (pc := 878) (i := 6) (j := 0) E dL_law_878 rfl ?_
      refine tt_i2l (pc := 880) E dL_law_880 ?_
      refine tt_lcmp (pc := 881) E dL_law_881 ?_
      refine tt_if_eq (pc := 882) (tgt := 887) E dL_law_882 rfl (fun c_15 => ?_) (fun c_15 => ?_)
      · have hf := ip c_15 hf
        refine tt_goto (pc := 887) (tgt := 2449) E dL_law_887 rfl ?_
        obtain ⟨v_14, ev_14, hf⟩ := nm_ex hf
        refine tt_iinc (pc := 2449) (i := 4) (j := 6) (lv' := [(4, .int v_14), (6, .int r_6.1), (5, .int r_2.1), (0, .ref b), (1, .ref (B + o1)), (2, .ref (B + o2)), (3, .ref (B + o3))]) E dL_law_2449 rfl (ev_14).symm (Nat.le_of_ble_eq_true rfl) rfl ?_
        refine tt_goto (pc := 2452) (tgt := 23) E dL_law_2452 rfl ?_
        refine tt_sub [3, 4, 5, 6, 0] (lv' := [(0, .ref b), (1, .ref (B + o1)), (2, .ref (B + o2)), (3, .ref (B + o3)), (4, .int v_14)]) rfl ?_
        exact hk v_14 r_6.2 hf
      · have hf := ine c_15 hf
        refine tt_iconst (pc := 885) (v := 0) E dL_law_885 ic_0 ?_
        exact absurd hf ret0
  · have hf := ine c_17 hf
    refine tt_iconst (pc := 868) (v := 0) E dL_law_868 ic_0 ?_
    exact absurd hf ret0
set_option maxHeartbeats 4000000 in
theorem tL_law_890 {p : Program} {l : Launch} {e : Env} {s : State} {m : MethodId} {below : List Frame} {meth : Method} {c : Code} {B : Nat} {D : va_G} {cT : Nat → ClassId} {n : Nat} {adK adV : Nat → Nat} {b L : Nat} {xs : Nat → Int32} {res : Mem} (E : EE p s m #[Value.ref b] c cL_law 9 RL B D cT (XW B adK adV)) (hr : meth.sig.returnType = ret) (hlk : meth.locks = false) (hl0 : l.stackTraces = false) (hX : va_X b L xs s s.heap) (hbB : b < B) (hbl : b < s.heap.size) (hBs : s.heap.size ≤ B) {o1 o2 o3 : Nat} (h1 : isK n o1 8) (h2 : isK n o2 9) (h3 : isK n o3 12) {kc ks : Nat} (hk1 : kc + 1 ≤ 601024) (hs1 : ks + 6 ≤ 7293034) {kb : Int32 → Mem → Option (Int32 × Mem)} (hk : ∀ (v4 : Int32) (μ : Mem), kb v4 μ = some (1, res) → TT p l e room_1 s m #[Value.ref b] below meth c (lw_Z below #[Value.ref b] s) 9 B D cT n (kc + 1) (ks + 6) μ 23 [(0, .ref b), (1, .ref (B + o1)), (2, .ref (B + o2)), (3, .ref (B + o3)), (4, .int v4)] []) {v4 : Int32} {μ : Mem} (hf : fL_law_890 L xs o1 o2 o3 kb v4 μ = some (1, res)) : TT p l e room_1 s m #[Value.ref b] below meth c (lw_Z below #[Value.ref b] s) 9 B D cT n kc ks μ 890 [(0, .ref b), (1, .ref (B + o1)), (2, .ref (B + o2)), (3, .ref (B + o3)), (4, .int v4)] [] := by
  have hk0 : kc ≤ 601024 := by omega
  have hs0 : ks ≤ 7293034 := by omega
  unfold fL_law_890 at hf
  refine tt_aload_n (pc := 890) (i := 1) (j := 1) E dL_law_890 rfl rfl ?_
  refine tt_aload_n (pc := 891) (i := 0) (j := 0) E dL_law_891 rfl rfl ?_
  refine tt_iload (pc := 892) (i := 4) (j := 4) E dL_law_892 rfl ?_
  refine tt_iconst (pc := 894) (v := 1) E dL_law_894 ic_1 ?_
  refine tt_iadd (pc := 895) E dL_law_895 ?_
  obtain ⟨g_1, hf⟩ := gd_some hf
  refine tt_scA (pc := 896) E hX hbB hbl g_1 dL_law_896 ?_
  obtain ⟨r_2, hr_3, hf⟩ := bd_some hf
  have hc_4 := cX11_row_ok (l := l) (B := B) (D := D) (cT := cT) (n := n) (adK := adK) (adV := adV) h1 hr_3
  refine tt_cI (pc := 897) (tt_vi E lmL_168 mtX11_row hc_4 h1 rfl rfl (Nat.le_of_ble_eq_true rfl) ⟨(Nat.le_of_ble_eq_true rfl), (Nat.le_of_ble_eq_true rfl)⟩ ⟨hk0, hs0⟩ dL_law_897) ?_
  refine tt_aload_n (pc := 900) (i := 2) (j := 2) E dL_law_900 rfl rfl ?_
  refine tt_aload_n (pc := 901) (i := 0) (j := 0) E dL_law_901 rfl rfl ?_
  refine tt_iload (pc := 902) (i := 4) (j := 4) E dL_law_902 rfl ?_
  refine tt_iconst (pc := 904) (v := 1) E dL_law_904 ic_1 ?_
  refine tt_iadd (pc := 905) E dL_law_905 ?_
  obtain ⟨g_5, hf⟩ := gd_some hf
  refine tt_scA (pc := 906) E hX hbB hbl g_5 dL_law_906 ?_
  obtain ⟨r_6, hr_7, hf⟩ := bd_some hf
  have hc_8 := cX12_row_ok (l := l) (B := B) (D := D) (cT := cT) (n := n) (adK := adK) (adV := adV) h2 hr_7
  refine tt_cI (pc := 907) (tt_vi E lmL_171 mtX12_row hc_8 h2 rfl rfl (Nat.le_of_ble_eq_true rfl) ⟨(Nat.le_of_ble_eq_true rfl), (Nat.le_of_ble_eq_true rfl)⟩ ⟨hk0, hs0⟩ dL_law_907) ?_
  refine tt_icmp_eq (pc := 910) (tgt := 2449) E dL_law_910 rfl (fun c_10 => ?_) (fun c_10 => ?_)
  · have hf := ip c_10 hf
    obtain ⟨v_9, ev_9, hf⟩ := nm_ex hf
    refine tt_iinc (pc := 2449) (i := 4) (j := 4) (lv' := [(4, .int v_9), (0, .ref b), (1, .ref (B + o1)), (2, .ref (B + o2)), (3, .ref (B + o3))]) E dL_law_2449 rfl (ev_9).symm (Nat.le_of_ble_eq_true rfl) rfl ?_
    refine tt_goto (pc := 2452) (tgt := 23) E dL_law_2452 rfl ?_
    refine tt_sub [1, 2, 3, 4, 0] (lv' := [(0, .ref b), (1, .ref (B + o1)), (2, .ref (B + o2)), (3, .ref (B + o3)), (4, .int v_9)]) rfl ?_
    refine tt_wide (kc' := kc + 1) (ks' := ks + 6) (Nat.le_succ kc) (Nat.le_add_right ks 6) ?_
    exact hk v_9 r_6.2 hf
  · have hf := ine c_10 hf
    refine tt_iconst (pc := 913) (v := 0) E dL_law_913 ic_0 ?_
    exact absurd hf ret0
set_option maxHeartbeats 4000000 in
theorem tL_law_915 {p : Program} {l : Launch} {e : Env} {s : State} {m : MethodId} {below : List Frame} {meth : Method} {c : Code} {B : Nat} {D : va_G} {cT : Nat → ClassId} {n : Nat} {adK adV : Nat → Nat} {b L : Nat} {xs : Nat → Int32} {res : Mem} (E : EE p s m #[Value.ref b] c cL_law 9 RL B D cT (XW B adK adV)) (hr : meth.sig.returnType = ret) (hlk : meth.locks = false) (hl0 : l.stackTraces = false) (hX : va_X b L xs s s.heap) (hbB : b < B) (hbl : b < s.heap.size) (hBs : s.heap.size ≤ B) {o1 o2 o3 : Nat} (h1 : isK n o1 8) (h2 : isK n o2 9) (h3 : isK n o3 12) {kc ks : Nat} (hk1 : kc + 1 ≤ 601024) (hs1 : ks + 6 ≤ 7293034) {kb : Int32 → Mem → Option (Int32 × Mem)} (hk : ∀ (v4 : Int32) (μ : Mem), kb v4 μ = some (1, res) → TT p l e room_1 s m #[Value.ref b] below meth c (lw_Z below #[Value.ref b] s) 9 B D cT n (kc + 1) (ks + 6) μ 23 [(0, .ref b), (1, .ref (B + o1)), (2, .ref (B + o2)), (3, .ref (B + o3)), (4, .int v4)] []) {v4 : Int32} {μ : Mem} (hf : fL_law_915 L xs o1 o2 o3 kb v4 μ = some (1, res)) : TT p l e room_1 s m #[Value.ref b] below meth c (lw_Z below #[Value.ref b] s) 9 B D cT n kc ks μ 915 [(0, .ref b), (1, .ref (B + o1)), (2, .ref (B + o2)), (3, .ref (B + o3)), (4, .int v4)] [] := by
  have hk0 : kc ≤ 601024 := by omega
  have hs0 : ks ≤ 7293034 := by omega
  unfold fL_law_915 at hf
  refine tt_aload_n (pc := 915) (i := 1) (j := 1) E dL_law_915 rfl rfl ?_
  obtain ⟨r_1, hr_2, hf⟩ := bd_some hf
  have hc_3 := cX11_meanSpeed_ok (l := l) (B := B) (D := D) (cT := cT) (n := n) (adK := adK) (adV := adV) h1 hr_2
  refine tt_cD (pc := 916) (tt_vi E lmL_172 mtX11_meanSpeed hc_3 h1 rfl rfl (Nat.le_of_ble_eq_true rfl) ⟨(Nat.le_of_ble_eq_true rfl), (Nat.le_of_ble_eq_true rfl)⟩ ⟨hk0, hs0⟩ dL_law_916) ?_
  refine tt_dstore (pc := 919) (i := 5) (lv' := [(5, .double r_1), (0, .ref b), (1, .ref (B + o1)), (2, .ref (B + o2)), (3, .ref (B + o3)), (4, .int v4)]) E dL_law_919 (Nat.le_of_ble_eq_true rfl) rfl ?_
  refine tt_aload_n (pc := 921) (i := 2) (j := 3) E dL_law_921 rfl rfl ?_
  obtain ⟨r_4, hr_5, hf⟩ := bd_some hf
  have hc_6 := cX12_meanSpeed_ok (l := l) (B := B) (D := D) (cT := cT) (n := n) (adK := adK) (adV := adV) h2 hr_5
  refine tt_cD (pc := 922) (tt_vi E lmL_176 mtX12_meanSpeed hc_6 h2 rfl rfl (Nat.le_of_ble_eq_true rfl) ⟨(Nat.le_of_ble_eq_true rfl), (Nat.le_of_ble_eq_true rfl)⟩ ⟨hk0, hs0⟩ dL_law_922) ?_
  refine tt_dstore (pc := 925) (i := 7) (lv' := [(7, .double r_4.1), (5, .double r_1), (0, .ref b), (1, .ref (B + o1)), (2, .ref (B + o2)), (3, .ref (B + o3)), (4, .int v4)]) E dL_law_925 (Nat.le_of_ble_eq_true rfl) rfl ?_
  refine tt_dload (pc := 927) (i := 5) (j := 1) E dL_law_927 rfl ?_
  refine tt_dload (pc := 929) (i := 7) (j := 0) E dL_law_929 rfl ?_
  refine tt_dcmp (pc := 931) E dL_law_931 ?_
  refine tt_if_eq (pc := 932) (tgt := 953) E dL_law_932 rfl (fun c_11 => ?_) (fun c_11 => ?_)
  · have hf := ip c_11 hf
    refine tt_goto (pc := 953) (tgt := 2449) E dL_law_953 rfl ?_
    obtain ⟨v_7, ev_7, hf⟩ := nm_ex hf
    refine tt_iinc (pc := 2449) (i := 4) (j := 6) (lv' := [(4, .int v_7), (7, .double r_4.1), (5, .double r_1), (0, .ref b), (1, .ref (B + o1)), (2, .ref (B + o2)), (3, .ref (B + o3))]) E dL_law_2449 rfl (ev_7).symm (Nat.le_of_ble_eq_true rfl) rfl ?_
    refine tt_goto (pc := 2452) (tgt := 23) E dL_law_2452 rfl ?_
    refine tt_sub [3, 4, 5, 6, 0] (lv' := [(0, .ref b), (1, .ref (B + o1)), (2, .ref (B + o2)), (3, .ref (B + o3)), (4, .int v_7)]) rfl ?_
    refine tt_wide (kc' := kc + 1) (ks' := ks + 6) (Nat.le_succ kc) (Nat.le_add_right ks 6) ?_
    exact hk v_7 r_4.2 hf
  · have hf := ine c_11 hf
    refine tt_dload (pc := 935) (i := 5) (j := 1) E dL_law_935 rfl ?_
    refine tt_dload (pc := 937) (i := 5) (j := 1) E dL_law_937 rfl ?_
    refine tt_dcmp (pc := 939) E dL_law_939 ?_
    refine tt_if_eq (pc := 940) (tgt := 951) E dL_law_940 rfl (fun c_10 => ?_) (fun c_10 => ?_)
    · have hf := ip c_10 hf
      refine tt_iconst (pc := 951) (v := 0) E dL_law_951 ic_0 ?_
      exact absurd hf ret0
    · have hf := ine c_10 hf
      refine tt_dload (pc := 943) (i := 7) (j := 0) E dL_law_943 rfl ?_
      refine tt_dload (pc := 945) (i := 7) (j := 0) E dL_law_945 rfl ?_
      refine tt_dcmp (pc := 947) E dL_law_947 ?_
      refine tt_if_ne (pc := 948) (tgt := 953) E dL_law_948 rfl (fun c_9 => ?_) (fun c_9 => ?_)
      · have hf := ine c_9 hf
        refine tt_goto (pc := 953) (tgt := 2449) E dL_law_953 rfl ?_
        obtain ⟨v_8, ev_8, hf⟩ := nm_ex hf
        refine tt_iinc (pc := 2449) (i := 4) (j := 6) (lv' := [(4, .int v_8), (7, .double r_4.1), (5, .double r_1), (0, .ref b), (1, .ref (B + o1)), (2, .ref (B + o2)), (3, .ref (B + o3))]) E dL_law_2449 rfl (ev_8).symm (Nat.le_of_ble_eq_true rfl) rfl ?_
        refine tt_goto (pc := 2452) (tgt := 23) E dL_law_2452 rfl ?_
        refine tt_sub [3, 4, 5, 6, 0] (lv' := [(0, .ref b), (1, .ref (B + o1)), (2, .ref (B + o2)), (3, .ref (B + o3)), (4, .int v_8)]) rfl ?_
        refine tt_wide (kc' := kc + 1) (ks' := ks + 6) (Nat.le_succ kc) (Nat.le_add_right ks 6) ?_
        exact hk v_8 r_4.2 hf
      · have hf := ip c_9 hf
        refine tt_iconst (pc := 951) (v := 0) E dL_law_951 ic_0 ?_
        exact absurd hf ret0
set_option maxHeartbeats 4000000 in
theorem tL_law_956 {p : Program} {l : Launch} {e : Env} {s : State} {m : MethodId} {below : List Frame} {meth : Method} {c : Code} {B : Nat} {D : va_G} {cT : Nat → ClassId} {n : Nat} {adK adV : Nat → Nat} {b L : Nat} {xs : Nat → Int32} {res : Mem} (E : EE p s m #[Value.ref b] c cL_law 9 RL B D cT (XW B adK adV)) (hr : meth.sig.returnType = ret) (hlk : meth.locks = false) (hl0 : l.stackTraces = false) (hX : va_X b L xs s s.heap) (hbB : b < B) (hbl : b < s.heap.size) (hBs : s.heap.size ≤ B) {o1 o2 o3 : Nat} (h1 : isK n o1 8) (h2 : isK n o2 9) (h3 : isK n o3 12) {kc ks : Nat} (hk1 : kc + 1 ≤ 601024) (hs1 : ks + 6 ≤ 7293034) {kb : Int32 → Mem → Option (Int32 × Mem)} (hk : ∀ (v4 : Int32) (μ : Mem), kb v4 μ = some (1, res) → TT p l e room_1 s m #[Value.ref b] below meth c (lw_Z below #[Value.ref b] s) 9 B D cT n (kc + 1) (ks + 6) μ 23 [(0, .ref b), (1, .ref (B + o1)), (2, .ref (B + o2)), (3, .ref (B + o3)), (4, .int v4)] []) {v4 : Int32} {μ : Mem} (hf : fL_law_956 L xs o1 o2 o3 kb v4 μ = some (1, res)) : TT p l e room_1 s m #[Value.ref b] below meth c (lw_Z below #[Value.ref b] s) 9 B D cT n kc ks μ 956 [(0, .ref b), (1, .ref (B + o1)), (2, .ref (B + o2)), (3, .ref (B + o3)), (4, .int v4)] [] := by
  have hk0 : kc ≤ 601024 := by omega
  have hs0 : ks ≤ 7293034 := by omega
  unfold fL_law_956 at hf
  refine tt_aload_n (pc := 956) (i := 1) (j := 1) E dL_law_956 rfl rfl ?_
  obtain ⟨r_1, hr_2, hf⟩ := bd_some hf
  have hc_3 := cX11_share_ok (l := l) (B := B) (D := D) (cT := cT) (n := n) (adK := adK) (adV := adV) h1 hr_2
  refine tt_cF (pc := 957) (tt_vi E lmL_177 mtX11_share hc_3 h1 rfl rfl (Nat.le_of_ble_eq_true rfl) ⟨(Nat.le_of_ble_eq_true rfl), (Nat.le_of_ble_eq_true rfl)⟩ ⟨hk0, hs0⟩ dL_law_957) ?_
  obtain ⟨g_4, hf⟩ := gd_some hf
  refine tt_f2d (pc := 960) E dL_law_960 (nn64_ok g_4) ?_
  refine tt_nmD hf (fun v_5 hf => ?_)
  refine tt_dstore (pc := 961) (i := 5) (lv' := [(5, .double v_5), (0, .ref b), (1, .ref (B + o1)), (2, .ref (B + o2)), (3, .ref (B + o3)), (4, .int v4)]) E dL_law_961 (Nat.le_of_ble_eq_true rfl) rfl ?_
  refine tt_aload_n (pc := 963) (i := 2) (j := 3) E dL_law_963 rfl rfl ?_
  obtain ⟨r_6, hr_7, hf⟩ := bd_some hf
  have hc_8 := cX12_share_ok (l := l) (B := B) (D := D) (cT := cT) (n := n) (adK := adK) (adV := adV) h2 hr_7
  refine tt_cF (pc := 964) (tt_vi E lmL_181 mtX12_share hc_8 h2 rfl rfl (Nat.le_of_ble_eq_true rfl) ⟨(Nat.le_of_ble_eq_true rfl), (Nat.le_of_ble_eq_true rfl)⟩ ⟨hk0, hs0⟩ dL_law_964) ?_
  obtain ⟨g_9, hf⟩ := gd_some hf
  refine tt_f2d (pc := 967) E dL_law_967 (nn64_ok g_9) ?_
  refine tt_nmD hf (fun v_10 hf => ?_)
  refine tt_dstore (pc := 968) (i := 7) (lv' := [(7, .double v_10), (5, .double v_5), (0, .ref b), (1, .ref (B + o1)), (2, .ref (B + o2)), (3, .ref (B + o3)), (4, .int v4)]) E dL_law_968 (Nat.le_of_ble_eq_true rfl) rfl ?_
  refine tt_dload (pc := 970) (i := 5) (j := 1) E dL_law_970 rfl ?_
  refine tt_dload (pc := 972) (i := 7) (j := 0) E dL_law_972 rfl ?_
  refine tt_dcmp (pc := 974) E dL_law_974 ?_
  refine tt_if_eq (pc := 975) (tgt := 996) E dL_law_975 rfl (fun c_15 => ?_) (fun c_15 => ?_)
  · have hf := ip c_15 hf
    refine tt_goto (pc := 996) (tgt := 2449) E dL_law_996 rfl ?_
    obtain ⟨v_11, ev_11, hf⟩ := nm_ex hf
    refine tt_iinc (pc := 2449) (i := 4) (j := 6) (lv' := [(4, .int v_11), (7, .double v_10), (5, .double v_5), (0, .ref b), (1, .ref (B + o1)), (2, .ref (B + o2)), (3, .ref (B + o3))]) E dL_law_2449 rfl (ev_11).symm (Nat.le_of_ble_eq_true rfl) rfl ?_
    refine tt_goto (pc := 2452) (tgt := 23) E dL_law_2452 rfl ?_
    refine tt_sub [3, 4, 5, 6, 0] (lv' := [(0, .ref b), (1, .ref (B + o1)), (2, .ref (B + o2)), (3, .ref (B + o3)), (4, .int v_11)]) rfl ?_
    refine tt_wide (kc' := kc + 1) (ks' := ks + 6) (Nat.le_succ kc) (Nat.le_add_right ks 6) ?_
    exact hk v_11 r_6.2 hf
  · have hf := ine c_15 hf
    refine tt_dload (pc := 978) (i := 5) (j := 1) E dL_law_978 rfl ?_
    refine tt_dload (pc := 980) (i := 5) (j := 1) E dL_law_980 rfl ?_
    refine tt_dcmp (pc := 982) E dL_law_982 ?_
    refine tt_if_eq (pc := 983) (tgt := 994) E dL_law_983 rfl (fun c_14 => ?_) (fun c_14 => ?_)
    · have hf := ip c_14 hf
      refine tt_iconst (pc := 994) (v := 0) E dL_law_994 ic_0 ?_
      exact absurd hf ret0
    · have hf := ine c_14 hf
      refine tt_dload (pc := 986) (i := 7) (j := 0) E dL_law_986 rfl ?_
      refine tt_dload (pc := 988) (i := 7) (j := 0) E dL_law_988 rfl ?_
      refine tt_dcmp (pc := 990) E dL_law_990 ?_
      refine tt_if_ne (pc := 991) (tgt := 996) E dL_law_991 rfl (fun c_13 => ?_) (fun c_13 => ?_)
      · have hf := ine c_13 hf
        refine tt_goto (pc := 996) (tgt := 2449) E dL_law_996 rfl ?_
        obtain ⟨v_12, ev_12, hf⟩ := nm_ex hf
        refine tt_iinc (pc := 2449) (i := 4) (j := 6) (lv' := [(4, .int v_12), (7, .double v_10), (5, .double v_5), (0, .ref b), (1, .ref (B + o1)), (2, .ref (B + o2)), (3, .ref (B + o3))]) E dL_law_2449 rfl (ev_12).symm (Nat.le_of_ble_eq_true rfl) rfl ?_
        refine tt_goto (pc := 2452) (tgt := 23) E dL_law_2452 rfl ?_
        refine tt_sub [3, 4, 5, 6, 0] (lv' := [(0, .ref b), (1, .ref (B + o1)), (2, .ref (B + o2)), (3, .ref (B + o3)), (4, .int v_12)]) rfl ?_
        refine tt_wide (kc' := kc + 1) (ks' := ks + 6) (Nat.le_succ kc) (Nat.le_add_right ks 6) ?_
        exact hk v_12 r_6.2 hf
      · have hf := ip c_13 hf
        refine tt_iconst (pc := 994) (v := 0) E dL_law_994 ic_0 ?_
        exact absurd hf ret0
set_option maxHeartbeats 4000000 in
theorem tL_law_999 {p : Program} {l : Launch} {e : Env} {s : State} {m : MethodId} {below : List Frame} {meth : Method} {c : Code} {B : Nat} {D : va_G} {cT : Nat → ClassId} {n : Nat} {adK adV : Nat → Nat} {b L : Nat} {xs : Nat → Int32} {res : Mem} (E : EE p s m #[Value.ref b] c cL_law 9 RL B D cT (XW B adK adV)) (hr : meth.sig.returnType = ret) (hlk : meth.locks = false) (hl0 : l.stackTraces = false) (hX : va_X b L xs s s.heap) (hbB : b < B) (hbl : b < s.heap.size) (hBs : s.heap.size ≤ B) {o1 o2 o3 : Nat} (h1 : isK n o1 8) (h2 : isK n o2 9) (h3 : isK n o3 12) {kc ks : Nat} (hk1 : kc + 1 ≤ 601024) (hs1 : ks + 6 ≤ 7293034) {kb : Int32 → Mem → Option (Int32 × Mem)} (hk : ∀ (v4 : Int32) (μ : Mem), kb v4 μ = some (1, res) → TT p l e room_1 s m #[Value.ref b] below meth c (lw_Z below #[Value.ref b] s) 9 B D cT n (kc + 1) (ks + 6) μ 23 [(0, .ref b), (1, .ref (B + o1)), (2, .ref (B + o2)), (3, .ref (B + o3)), (4, .int v4)] []) {v4 : Int32} {μ : Mem} (hf : fL_law_999 L xs o1 o2 o3 kb v4 μ = some (1, res)) : TT p l e room_1 s m #[Value.ref b] below meth c (lw_Z below #[Value.ref b] s) 9 B D cT n kc ks μ 999 [(0, .ref b), (1, .ref (B + o1)), (2, .ref (B + o2)), (3, .ref (B + o3)), (4, .int v4)] [] := by
  have hk0 : kc ≤ 601024 := by omega
  have hs0 : ks ≤ 7293034 := by omega
  unfold fL_law_999 at hf
  refine tt_aload_n (pc := 999) (i := 1) (j := 1) E dL_law_999 rfl rfl ?_
  refine tt_aload_n (pc := 1000) (i := 0) (j := 0) E dL_law_1000 rfl rfl ?_
  refine tt_iload (pc := 1001) (i := 4) (j := 4) E dL_law_1001 rfl ?_
  refine tt_iconst (pc := 1003) (v := 1) E dL_law_1003 ic_1 ?_
  refine tt_iadd (pc := 1004) E dL_law_1004 ?_
  obtain ⟨g_1, hf⟩ := gd_some hf
  refine tt_scA (pc := 1005) E hX hbB hbl g_1 dL_law_1005 ?_
  refine tt_aload_n (pc := 1006) (i := 3) (j := 3) E dL_law_1006 rfl rfl ?_
  obtain ⟨r_2, hr_3, hf⟩ := bd_some hf
  have hc_4 := cL_turn_ok (l := l) (B := B) (D := D) (cT := cT) (n := n) (adK := adK) (adV := adV) hl0 h1 h3 hr_3
  refine tt_cI (pc := 1007) (tt_siW E lmL_182 mtL_turn hc_4 rfl rfl (Nat.le_of_ble_eq_true rfl) ⟨(Nat.le_of_ble_eq_true rfl), (Nat.le_of_ble_eq_true rfl)⟩ ⟨hk1, hs1⟩ dL_law_1007) ?_
  refine tt_istore (pc := 1010) (i := 5) (lv' := [(5, .int r_2.1), (0, .ref b), (1, .ref (B + o1)), (2, .ref (B + o2)), (3, .ref (B + o3)), (4, .int v4)]) E dL_law_1010 (Nat.le_of_ble_eq_true rfl) rfl ?_
  refine tt_aload_n (pc := 1012) (i := 2) (j := 3) E dL_law_1012 rfl rfl ?_
  refine tt_aload_n (pc := 1013) (i := 0) (j := 1) E dL_law_1013 rfl rfl ?_
  refine tt_iload (pc := 1014) (i := 4) (j := 5) E dL_law_1014 rfl ?_
  refine tt_iconst (pc := 1016) (v := 1) E dL_law_1016 ic_1 ?_
  refine tt_iadd (pc := 1017) E dL_law_1017 ?_
  obtain ⟨g_5, hf⟩ := gd_some hf
  refine tt_scA (pc := 1018) E hX hbB hbl g_5 dL_law_1018 ?_
  obtain ⟨r_6, hr_7, hf⟩ := bd_some hf
  have hc_8 := cX12_turn_ok (l := l) (B := B) (D := D) (cT := cT) (n := n) (adK := adK) (adV := adV) h2 hr_7
  refine tt_cI (pc := 1019) (tt_vi E lmL_184 mtX12_turn hc_8 h2 rfl rfl (Nat.le_of_ble_eq_true rfl) ⟨(Nat.le_of_ble_eq_true rfl), (Nat.le_of_ble_eq_true rfl)⟩ ⟨hk1, hs1⟩ dL_law_1019) ?_
  refine tt_istore (pc := 1022) (i := 6) (lv' := [(6, .int r_6.1), (5, .int r_2.1), (0, .ref b), (1, .ref (B + o1)), (2, .ref (B + o2)), (3, .ref (B + o3)), (4, .int v4)]) E dL_law_1022 (Nat.le_of_ble_eq_true rfl) rfl ?_
  refine tt_aload_n (pc := 1024) (i := 2) (j := 4) E dL_law_1024 rfl rfl ?_
  obtain ⟨r_9, hr_10, hf⟩ := bd_some hf
  have hc_11 := cX12_thrown_ok (l := l) (B := B) (D := D) (cT := cT) (n := n) (adK := adK) (adV := adV) h2 hr_10
  refine tt_cI (pc := 1025) (tt_vi E lmL_127 mtX12_thrown hc_11 h2 rfl rfl (Nat.le_of_ble_eq_true rfl) ⟨(Nat.le_of_ble_eq_true rfl), (Nat.le_of_ble_eq_true rfl)⟩ ⟨hk1, hs1⟩ dL_law_1025) ?_
  refine tt_iload (pc := 1028) (i := 5) (j := 1) E dL_law_1028 rfl ?_
  refine tt_icmp_eq (pc := 1030) (tgt := 1035) E dL_law_1030 rfl (fun c_17 => ?_) (fun c_17 => ?_)
  · have hf := ip c_17 hf
    refine tt_iload (pc := 1035) (i := 5) (j := 1) E dL_law_1035 rfl ?_
    refine tt_if_ne (pc := 1037) (tgt := 1052) E dL_law_1037 rfl (fun c_16 => ?_) (fun c_16 => ?_)
    · have hf := ine c_16 hf
      refine tt_goto (pc := 1052) (tgt := 2449) E dL_law_1052 rfl ?_
      obtain ⟨v_12, ev_12, hf⟩ := nm_ex hf
      refine tt_iinc (pc := 2449) (i := 4) (j := 6) (lv' := [(4, .int v_12), (6, .int r_6.1), (5, .int r_2.1), (0, .ref b), (1, .ref (B + o1)), (2, .ref (B + o2)), (3, .ref (B + o3))]) E dL_law_2449 rfl (ev_12).symm (Nat.le_of_ble_eq_true rfl) rfl ?_
      refine tt_goto (pc := 2452) (tgt := 23) E dL_law_2452 rfl ?_
      refine tt_sub [3, 4, 5, 6, 0] (lv' := [(0, .ref b), (1, .ref (B + o1)), (2, .ref (B + o2)), (3, .ref (B + o3)), (4, .int v_12)]) rfl ?_
      exact hk v_12 r_6.2 hf
    · have hf := ip c_16 hf
      refine tt_aload_n (pc := 1040) (i := 3) (j := 5) E dL_law_1040 rfl rfl ?_
      refine tt_iconst (pc := 1041) (v := 0) E dL_law_1041 ic_0 ?_
      obtain ⟨g_13, hf⟩ := gd_some hf
      refine tt_lald (pc := 1042) E h3 g_13 dL_law_1042 ?_
      refine tt_iload (pc := 1043) (i := 6) (j := 0) E dL_law_1043 rfl ?_
      refine tt_i2l (pc := 1045) E dL_law_1045 ?_
      refine tt_lcmp (pc := 1046) E dL_law_1046 ?_
      refine tt_if_eq (pc := 1047) (tgt := 1052) E dL_law_1047 rfl (fun c_15 => ?_) (fun c_15 => ?_)
      · have hf := ip c_15 hf
        refine tt_goto (pc := 1052) (tgt := 2449) E dL_law_1052 rfl ?_
        obtain ⟨v_14, ev_14, hf⟩ := nm_ex hf
        refine tt_iinc (pc := 2449) (i := 4) (j := 6) (lv' := [(4, .int v_14), (6, .int r_6.1), (5, .int r_2.1), (0, .ref b), (1, .ref (B + o1)), (2, .ref (B + o2)), (3, .ref (B + o3))]) E dL_law_2449 rfl (ev_14).symm (Nat.le_of_ble_eq_true rfl) rfl ?_
        refine tt_goto (pc := 2452) (tgt := 23) E dL_law_2452 rfl ?_
        refine tt_sub [3, 4, 5, 6, 0] (lv' := [(0, .ref b), (1, .ref (B + o1)), (2, .ref (B + o2)), (3, .ref (B + o3)), (4, .int v_14)]) rfl ?_
        exact hk v_14 r_6.2 hf
      · have hf := ine c_15 hf
        refine tt_iconst (pc := 1050) (v := 0) E dL_law_1050 ic_0 ?_
        exact absurd hf ret0
  · have hf := ine c_17 hf
    refine tt_iconst (pc := 1033) (v := 0) E dL_law_1033 ic_0 ?_
    exact absurd hf ret0
set_option maxHeartbeats 4000000 in
theorem tL_law_1055 {p : Program} {l : Launch} {e : Env} {s : State} {m : MethodId} {below : List Frame} {meth : Method} {c : Code} {B : Nat} {D : va_G} {cT : Nat → ClassId} {n : Nat} {adK adV : Nat → Nat} {b L : Nat} {xs : Nat → Int32} {res : Mem} (E : EE p s m #[Value.ref b] c cL_law 9 RL B D cT (XW B adK adV)) (hr : meth.sig.returnType = ret) (hlk : meth.locks = false) (hl0 : l.stackTraces = false) (hX : va_X b L xs s s.heap) (hbB : b < B) (hbl : b < s.heap.size) (hBs : s.heap.size ≤ B) {o1 o2 o3 : Nat} (h1 : isK n o1 8) (h2 : isK n o2 9) (h3 : isK n o3 12) {kc ks : Nat} (hk1 : kc + 1 ≤ 601024) (hs1 : ks + 6 ≤ 7293034) {kb : Int32 → Mem → Option (Int32 × Mem)} (hk : ∀ (v4 : Int32) (μ : Mem), kb v4 μ = some (1, res) → TT p l e room_1 s m #[Value.ref b] below meth c (lw_Z below #[Value.ref b] s) 9 B D cT n (kc + 1) (ks + 6) μ 23 [(0, .ref b), (1, .ref (B + o1)), (2, .ref (B + o2)), (3, .ref (B + o3)), (4, .int v4)] []) {v4 : Int32} {μ : Mem} (hf : fL_law_1055 L xs o1 o2 o3 kb v4 μ = some (1, res)) : TT p l e room_1 s m #[Value.ref b] below meth c (lw_Z below #[Value.ref b] s) 9 B D cT n kc ks μ 1055 [(0, .ref b), (1, .ref (B + o1)), (2, .ref (B + o2)), (3, .ref (B + o3)), (4, .int v4)] [] := by
  have hk0 : kc ≤ 601024 := by omega
  have hs0 : ks ≤ 7293034 := by omega
  unfold fL_law_1055 at hf
  refine tt_aload_n (pc := 1055) (i := 1) (j := 1) E dL_law_1055 rfl rfl ?_
  refine tt_aload_n (pc := 1056) (i := 0) (j := 0) E dL_law_1056 rfl rfl ?_
  refine tt_iload (pc := 1057) (i := 4) (j := 4) E dL_law_1057 rfl ?_
  refine tt_iconst (pc := 1059) (v := 1) E dL_law_1059 ic_1 ?_
  refine tt_iadd (pc := 1060) E dL_law_1060 ?_
  obtain ⟨g_1, hf⟩ := gd_some hf
  refine tt_scA (pc := 1061) E hX hbB hbl g_1 dL_law_1061 ?_
  refine tt_aload_n (pc := 1062) (i := 3) (j := 3) E dL_law_1062 rfl rfl ?_
  obtain ⟨r_2, hr_3, hf⟩ := bd_some hf
  have hc_4 := cL_turnTime_ok (l := l) (B := B) (D := D) (cT := cT) (n := n) (adK := adK) (adV := adV) hl0 h1 h3 hr_3
  refine tt_cI (pc := 1063) (tt_siW E lmL_185 mtL_turnTime hc_4 rfl rfl (Nat.le_of_ble_eq_true rfl) ⟨(Nat.le_of_ble_eq_true rfl), (Nat.le_of_ble_eq_true rfl)⟩ ⟨hk1, hs1⟩ dL_law_1063) ?_
  refine tt_istore (pc := 1066) (i := 5) (lv' := [(5, .int r_2.1), (0, .ref b), (1, .ref (B + o1)), (2, .ref (B + o2)), (3, .ref (B + o3)), (4, .int v4)]) E dL_law_1066 (Nat.le_of_ble_eq_true rfl) rfl ?_
  refine tt_aload_n (pc := 1068) (i := 2) (j := 3) E dL_law_1068 rfl rfl ?_
  refine tt_aload_n (pc := 1069) (i := 0) (j := 1) E dL_law_1069 rfl rfl ?_
  refine tt_iload (pc := 1070) (i := 4) (j := 5) E dL_law_1070 rfl ?_
  refine tt_iconst (pc := 1072) (v := 1) E dL_law_1072 ic_1 ?_
  refine tt_iadd (pc := 1073) E dL_law_1073 ?_
  obtain ⟨g_5, hf⟩ := gd_some hf
  refine tt_scA (pc := 1074) E hX hbB hbl g_5 dL_law_1074 ?_
  obtain ⟨r_6, hr_7, hf⟩ := bd_some hf
  have hc_8 := cX12_turnTime_ok (l := l) (B := B) (D := D) (cT := cT) (n := n) (adK := adK) (adV := adV) h2 hr_7
  refine tt_cI (pc := 1075) (tt_vi E lmL_187 mtX12_turnTime hc_8 h2 rfl rfl (Nat.le_of_ble_eq_true rfl) ⟨(Nat.le_of_ble_eq_true rfl), (Nat.le_of_ble_eq_true rfl)⟩ ⟨hk1, hs1⟩ dL_law_1075) ?_
  refine tt_istore (pc := 1078) (i := 6) (lv' := [(6, .int r_6.1), (5, .int r_2.1), (0, .ref b), (1, .ref (B + o1)), (2, .ref (B + o2)), (3, .ref (B + o3)), (4, .int v4)]) E dL_law_1078 (Nat.le_of_ble_eq_true rfl) rfl ?_
  refine tt_aload_n (pc := 1080) (i := 2) (j := 4) E dL_law_1080 rfl rfl ?_
  obtain ⟨r_9, hr_10, hf⟩ := bd_some hf
  have hc_11 := cX12_thrown_ok (l := l) (B := B) (D := D) (cT := cT) (n := n) (adK := adK) (adV := adV) h2 hr_10
  refine tt_cI (pc := 1081) (tt_vi E lmL_127 mtX12_thrown hc_11 h2 rfl rfl (Nat.le_of_ble_eq_true rfl) ⟨(Nat.le_of_ble_eq_true rfl), (Nat.le_of_ble_eq_true rfl)⟩ ⟨hk1, hs1⟩ dL_law_1081) ?_
  refine tt_iload (pc := 1084) (i := 5) (j := 1) E dL_law_1084 rfl ?_
  refine tt_icmp_eq (pc := 1086) (tgt := 1091) E dL_law_1086 rfl (fun c_17 => ?_) (fun c_17 => ?_)
  · have hf := ip c_17 hf
    refine tt_iload (pc := 1091) (i := 5) (j := 1) E dL_law_1091 rfl ?_
    refine tt_if_ne (pc := 1093) (tgt := 1108) E dL_law_1093 rfl (fun c_16 => ?_) (fun c_16 => ?_)
    · have hf := ine c_16 hf
      refine tt_goto (pc := 1108) (tgt := 2449) E dL_law_1108 rfl ?_
      obtain ⟨v_12, ev_12, hf⟩ := nm_ex hf
      refine tt_iinc (pc := 2449) (i := 4) (j := 6) (lv' := [(4, .int v_12), (6, .int r_6.1), (5, .int r_2.1), (0, .ref b), (1, .ref (B + o1)), (2, .ref (B + o2)), (3, .ref (B + o3))]) E dL_law_2449 rfl (ev_12).symm (Nat.le_of_ble_eq_true rfl) rfl ?_
      refine tt_goto (pc := 2452) (tgt := 23) E dL_law_2452 rfl ?_
      refine tt_sub [3, 4, 5, 6, 0] (lv' := [(0, .ref b), (1, .ref (B + o1)), (2, .ref (B + o2)), (3, .ref (B + o3)), (4, .int v_12)]) rfl ?_
      exact hk v_12 r_6.2 hf
    · have hf := ip c_16 hf
      refine tt_aload_n (pc := 1096) (i := 3) (j := 5) E dL_law_1096 rfl rfl ?_
      refine tt_iconst (pc := 1097) (v := 0) E dL_law_1097 ic_0 ?_
      obtain ⟨g_13, hf⟩ := gd_some hf
      refine tt_lald (pc := 1098) E h3 g_13 dL_law_1098 ?_
      refine tt_iload (pc := 1099) (i := 6) (j := 0) E dL_law_1099 rfl ?_
      refine tt_i2l (pc := 1101) E dL_law_1101 ?_
      refine tt_lcmp (pc := 1102) E dL_law_1102 ?_
      refine tt_if_eq (pc := 1103) (tgt := 1108) E dL_law_1103 rfl (fun c_15 => ?_) (fun c_15 => ?_)
      · have hf := ip c_15 hf
        refine tt_goto (pc := 1108) (tgt := 2449) E dL_law_1108 rfl ?_
        obtain ⟨v_14, ev_14, hf⟩ := nm_ex hf
        refine tt_iinc (pc := 2449) (i := 4) (j := 6) (lv' := [(4, .int v_14), (6, .int r_6.1), (5, .int r_2.1), (0, .ref b), (1, .ref (B + o1)), (2, .ref (B + o2)), (3, .ref (B + o3))]) E dL_law_2449 rfl (ev_14).symm (Nat.le_of_ble_eq_true rfl) rfl ?_
        refine tt_goto (pc := 2452) (tgt := 23) E dL_law_2452 rfl ?_
        refine tt_sub [3, 4, 5, 6, 0] (lv' := [(0, .ref b), (1, .ref (B + o1)), (2, .ref (B + o2)), (3, .ref (B + o3)), (4, .int v_14)]) rfl ?_
        exact hk v_14 r_6.2 hf
      · have hf := ine c_15 hf
        refine tt_iconst (pc := 1106) (v := 0) E dL_law_1106 ic_0 ?_
        exact absurd hf ret0
  · have hf := ine c_17 hf
    refine tt_iconst (pc := 1089) (v := 0) E dL_law_1089 ic_0 ?_
    exact absurd hf ret0
set_option maxHeartbeats 4000000 in
theorem tL_law_1111 {p : Program} {l : Launch} {e : Env} {s : State} {m : MethodId} {below : List Frame} {meth : Method} {c : Code} {B : Nat} {D : va_G} {cT : Nat → ClassId} {n : Nat} {adK adV : Nat → Nat} {b L : Nat} {xs : Nat → Int32} {res : Mem} (E : EE p s m #[Value.ref b] c cL_law 9 RL B D cT (XW B adK adV)) (hr : meth.sig.returnType = ret) (hlk : meth.locks = false) (hl0 : l.stackTraces = false) (hX : va_X b L xs s s.heap) (hbB : b < B) (hbl : b < s.heap.size) (hBs : s.heap.size ≤ B) {o1 o2 o3 : Nat} (h1 : isK n o1 8) (h2 : isK n o2 9) (h3 : isK n o3 12) {kc ks : Nat} (hk1 : kc + 1 ≤ 601024) (hs1 : ks + 6 ≤ 7293034) {kb : Int32 → Mem → Option (Int32 × Mem)} (hk : ∀ (v4 : Int32) (μ : Mem), kb v4 μ = some (1, res) → TT p l e room_1 s m #[Value.ref b] below meth c (lw_Z below #[Value.ref b] s) 9 B D cT n (kc + 1) (ks + 6) μ 23 [(0, .ref b), (1, .ref (B + o1)), (2, .ref (B + o2)), (3, .ref (B + o3)), (4, .int v4)] []) {v4 : Int32} {μ : Mem} (hf : fL_law_1111 L xs o1 o2 o3 kb v4 μ = some (1, res)) : TT p l e room_1 s m #[Value.ref b] below meth c (lw_Z below #[Value.ref b] s) 9 B D cT n kc ks μ 1111 [(0, .ref b), (1, .ref (B + o1)), (2, .ref (B + o2)), (3, .ref (B + o3)), (4, .int v4)] [] := by
  have hk0 : kc ≤ 601024 := by omega
  have hs0 : ks ≤ 7293034 := by omega
  unfold fL_law_1111 at hf
  refine tt_aload_n (pc := 1111) (i := 1) (j := 1) E dL_law_1111 rfl rfl ?_
  refine tt_aload_n (pc := 1112) (i := 0) (j := 0) E dL_law_1112 rfl rfl ?_
  refine tt_iload (pc := 1113) (i := 4) (j := 4) E dL_law_1113 rfl ?_
  refine tt_iconst (pc := 1115) (v := 1) E dL_law_1115 ic_1 ?_
  refine tt_iadd (pc := 1116) E dL_law_1116 ?_
  obtain ⟨g_1, hf⟩ := gd_some hf
  refine tt_scA (pc := 1117) E hX hbB hbl g_1 dL_law_1117 ?_
  refine tt_aload_n (pc := 1118) (i := 3) (j := 3) E dL_law_1118 rfl rfl ?_
  obtain ⟨r_2, hr_3, hf⟩ := bd_some hf
  have hc_4 := cL_turnKind_ok (l := l) (B := B) (D := D) (cT := cT) (n := n) (adK := adK) (adV := adV) hl0 h1 h3 hr_3
  refine tt_cI (pc := 1119) (tt_siW E lmL_188 mtL_turnKind hc_4 rfl rfl (Nat.le_of_ble_eq_true rfl) ⟨(Nat.le_of_ble_eq_true rfl), (Nat.le_of_ble_eq_true rfl)⟩ ⟨hk1, hs1⟩ dL_law_1119) ?_
  refine tt_istore (pc := 1122) (i := 5) (lv' := [(5, .int r_2.1), (0, .ref b), (1, .ref (B + o1)), (2, .ref (B + o2)), (3, .ref (B + o3)), (4, .int v4)]) E dL_law_1122 (Nat.le_of_ble_eq_true rfl) rfl ?_
  refine tt_aload_n (pc := 1124) (i := 2) (j := 3) E dL_law_1124 rfl rfl ?_
  refine tt_aload_n (pc := 1125) (i := 0) (j := 1) E dL_law_1125 rfl rfl ?_
  refine tt_iload (pc := 1126) (i := 4) (j := 5) E dL_law_1126 rfl ?_
  refine tt_iconst (pc := 1128) (v := 1) E dL_law_1128 ic_1 ?_
  refine tt_iadd (pc := 1129) E dL_law_1129 ?_
  obtain ⟨g_5, hf⟩ := gd_some hf
  refine tt_scA (pc := 1130) E hX hbB hbl g_5 dL_law_1130 ?_
  obtain ⟨r_6, hr_7, hf⟩ := bd_some hf
  have hc_8 := cX12_turnKind_ok (l := l) (B := B) (D := D) (cT := cT) (n := n) (adK := adK) (adV := adV) h2 hr_7
  refine tt_cI (pc := 1131) (tt_vi E lmL_190 mtX12_turnKind hc_8 h2 rfl rfl (Nat.le_of_ble_eq_true rfl) ⟨(Nat.le_of_ble_eq_true rfl), (Nat.le_of_ble_eq_true rfl)⟩ ⟨hk1, hs1⟩ dL_law_1131) ?_
  refine tt_istore (pc := 1134) (i := 6) (lv' := [(6, .int r_6.1), (5, .int r_2.1), (0, .ref b), (1, .ref (B + o1)), (2, .ref (B + o2)), (3, .ref (B + o3)), (4, .int v4)]) E dL_law_1134 (Nat.le_of_ble_eq_true rfl) rfl ?_
  refine tt_aload_n (pc := 1136) (i := 2) (j := 4) E dL_law_1136 rfl rfl ?_
  obtain ⟨r_9, hr_10, hf⟩ := bd_some hf
  have hc_11 := cX12_thrown_ok (l := l) (B := B) (D := D) (cT := cT) (n := n) (adK := adK) (adV := adV) h2 hr_10
  refine tt_cI (pc := 1137) (tt_vi E lmL_127 mtX12_thrown hc_11 h2 rfl rfl (Nat.le_of_ble_eq_true rfl) ⟨(Nat.le_of_ble_eq_true rfl), (Nat.le_of_ble_eq_true rfl)⟩ ⟨hk1, hs1⟩ dL_law_1137) ?_
  refine tt_iload (pc := 1140) (i := 5) (j := 1) E dL_law_1140 rfl ?_
  refine tt_icmp_eq (pc := 1142) (tgt := 1147) E dL_law_1142 rfl (fun c_17 => ?_) (fun c_17 => ?_)
  · have hf := ip c_17 hf
    refine tt_iload (pc := 1147) (i := 5) (j := 1) E dL_law_1147 rfl ?_
    refine tt_if_ne (pc := 1149) (tgt := 1164) E dL_law_1149 rfl (fun c_16 => ?_) (fun c_16 => ?_)
    · have hf := ine c_16 hf
      refine tt_goto (pc := 1164) (tgt := 2449) E dL_law_1164 rfl ?_
      obtain ⟨v_12, ev_12, hf⟩ := nm_ex hf
      refine tt_iinc (pc := 2449) (i := 4) (j := 6) (lv' := [(4, .int v_12), (6, .int r_6.1), (5, .int r_2.1), (0, .ref b), (1, .ref (B + o1)), (2, .ref (B + o2)), (3, .ref (B + o3))]) E dL_law_2449 rfl (ev_12).symm (Nat.le_of_ble_eq_true rfl) rfl ?_
      refine tt_goto (pc := 2452) (tgt := 23) E dL_law_2452 rfl ?_
      refine tt_sub [3, 4, 5, 6, 0] (lv' := [(0, .ref b), (1, .ref (B + o1)), (2, .ref (B + o2)), (3, .ref (B + o3)), (4, .int v_12)]) rfl ?_
      exact hk v_12 r_6.2 hf
    · have hf := ip c_16 hf
      refine tt_aload_n (pc := 1152) (i := 3) (j := 5) E dL_law_1152 rfl rfl ?_
      refine tt_iconst (pc := 1153) (v := 0) E dL_law_1153 ic_0 ?_
      obtain ⟨g_13, hf⟩ := gd_some hf
      refine tt_lald (pc := 1154) E h3 g_13 dL_law_1154 ?_
      refine tt_iload (pc := 1155) (i := 6) (j := 0) E dL_law_1155 rfl ?_
      refine tt_i2l (pc := 1157) E dL_law_1157 ?_
      refine tt_lcmp (pc := 1158) E dL_law_1158 ?_
      refine tt_if_eq (pc := 1159) (tgt := 1164) E dL_law_1159 rfl (fun c_15 => ?_) (fun c_15 => ?_)
      · have hf := ip c_15 hf
        refine tt_goto (pc := 1164) (tgt := 2449) E dL_law_1164 rfl ?_
        obtain ⟨v_14, ev_14, hf⟩ := nm_ex hf
        refine tt_iinc (pc := 2449) (i := 4) (j := 6) (lv' := [(4, .int v_14), (6, .int r_6.1), (5, .int r_2.1), (0, .ref b), (1, .ref (B + o1)), (2, .ref (B + o2)), (3, .ref (B + o3))]) E dL_law_2449 rfl (ev_14).symm (Nat.le_of_ble_eq_true rfl) rfl ?_
        refine tt_goto (pc := 2452) (tgt := 23) E dL_law_2452 rfl ?_
        refine tt_sub [3, 4, 5, 6, 0] (lv' := [(0, .ref b), (1, .ref (B + o1)), (2, .ref (B + o2)), (3, .ref (B + o3)), (4, .int v_14)]) rfl ?_
        exact hk v_14 r_6.2 hf
      · have hf := ine c_15 hf
        refine tt_iconst (pc := 1162) (v := 0) E dL_law_1162 ic_0 ?_
        exact absurd hf ret0
  · have hf := ine c_17 hf
    refine tt_iconst (pc := 1145) (v := 0) E dL_law_1145 ic_0 ?_
    exact absurd hf ret0
set_option maxHeartbeats 4000000 in
theorem tL_law_1167 {p : Program} {l : Launch} {e : Env} {s : State} {m : MethodId} {below : List Frame} {meth : Method} {c : Code} {B : Nat} {D : va_G} {cT : Nat → ClassId} {n : Nat} {adK adV : Nat → Nat} {b L : Nat} {xs : Nat → Int32} {res : Mem} (E : EE p s m #[Value.ref b] c cL_law 9 RL B D cT (XW B adK adV)) (hr : meth.sig.returnType = ret) (hlk : meth.locks = false) (hl0 : l.stackTraces = false) (hX : va_X b L xs s s.heap) (hbB : b < B) (hbl : b < s.heap.size) (hBs : s.heap.size ≤ B) {o1 o2 o3 : Nat} (h1 : isK n o1 8) (h2 : isK n o2 9) (h3 : isK n o3 12) {kc ks : Nat} (hk1 : kc + 1 ≤ 601024) (hs1 : ks + 6 ≤ 7293034) {kb : Int32 → Mem → Option (Int32 × Mem)} (hk : ∀ (v4 : Int32) (μ : Mem), kb v4 μ = some (1, res) → TT p l e room_1 s m #[Value.ref b] below meth c (lw_Z below #[Value.ref b] s) 9 B D cT n (kc + 1) (ks + 6) μ 23 [(0, .ref b), (1, .ref (B + o1)), (2, .ref (B + o2)), (3, .ref (B + o3)), (4, .int v4)] []) {v4 : Int32} {μ : Mem} (hf : fL_law_1167 L xs o1 o2 o3 kb v4 μ = some (1, res)) : TT p l e room_1 s m #[Value.ref b] below meth c (lw_Z below #[Value.ref b] s) 9 B D cT n kc ks μ 1167 [(0, .ref b), (1, .ref (B + o1)), (2, .ref (B + o2)), (3, .ref (B + o3)), (4, .int v4)] [] := by
  have hk0 : kc ≤ 601024 := by omega
  have hs0 : ks ≤ 7293034 := by omega
  unfold fL_law_1167 at hf
  refine tt_aload_n (pc := 1167) (i := 1) (j := 1) E dL_law_1167 rfl rfl ?_
  refine tt_aload_n (pc := 1168) (i := 0) (j := 0) E dL_law_1168 rfl rfl ?_
  refine tt_iload (pc := 1169) (i := 4) (j := 4) E dL_law_1169 rfl ?_
  refine tt_iconst (pc := 1171) (v := 1) E dL_law_1171 ic_1 ?_
  refine tt_iadd (pc := 1172) E dL_law_1172 ?_
  obtain ⟨g_1, hf⟩ := gd_some hf
  refine tt_scA (pc := 1173) E hX hbB hbl g_1 dL_law_1173 ?_
  refine tt_aload_n (pc := 1174) (i := 0) (j := 0) E dL_law_1174 rfl rfl ?_
  refine tt_iload (pc := 1175) (i := 4) (j := 4) E dL_law_1175 rfl ?_
  refine tt_iconst (pc := 1177) (v := 2) E dL_law_1177 ic_2 ?_
  refine tt_iadd (pc := 1178) E dL_law_1178 ?_
  obtain ⟨g_2, hf⟩ := gd_some hf
  refine tt_scA (pc := 1179) E hX hbB hbl g_2 dL_law_1179 ?_
  refine tt_aload_n (pc := 1180) (i := 3) (j := 3) E dL_law_1180 rfl rfl ?_
  obtain ⟨r_3, hr_4, hf⟩ := bd_some hf
  have hc_5 := cL_lifeIn_ok (l := l) (B := B) (D := D) (cT := cT) (n := n) (adK := adK) (adV := adV) hl0 h1 h3 hr_4
  refine tt_cI (pc := 1181) (tt_siW E lmL_191 mtL_lifeIn hc_5 rfl rfl (Nat.le_of_ble_eq_true rfl) ⟨(Nat.le_of_ble_eq_true rfl), (Nat.le_of_ble_eq_true rfl)⟩ ⟨hk1, hs1⟩ dL_law_1181) ?_
  refine tt_istore (pc := 1184) (i := 5) (lv' := [(5, .int r_3.1), (0, .ref b), (1, .ref (B + o1)), (2, .ref (B + o2)), (3, .ref (B + o3)), (4, .int v4)]) E dL_law_1184 (Nat.le_of_ble_eq_true rfl) rfl ?_
  refine tt_aload_n (pc := 1186) (i := 2) (j := 3) E dL_law_1186 rfl rfl ?_
  refine tt_aload_n (pc := 1187) (i := 0) (j := 1) E dL_law_1187 rfl rfl ?_
  refine tt_iload (pc := 1188) (i := 4) (j := 5) E dL_law_1188 rfl ?_
  refine tt_iconst (pc := 1190) (v := 1) E dL_law_1190 ic_1 ?_
  refine tt_iadd (pc := 1191) E dL_law_1191 ?_
  obtain ⟨g_6, hf⟩ := gd_some hf
  refine tt_scA (pc := 1192) E hX hbB hbl g_6 dL_law_1192 ?_
  refine tt_aload_n (pc := 1193) (i := 0) (j := 1) E dL_law_1193 rfl rfl ?_
  refine tt_iload (pc := 1194) (i := 4) (j := 5) E dL_law_1194 rfl ?_
  refine tt_iconst (pc := 1196) (v := 2) E dL_law_1196 ic_2 ?_
  refine tt_iadd (pc := 1197) E dL_law_1197 ?_
  obtain ⟨g_7, hf⟩ := gd_some hf
  refine tt_scA (pc := 1198) E hX hbB hbl g_7 dL_law_1198 ?_
  obtain ⟨r_8, hr_9, hf⟩ := bd_some hf
  have hc_10 := cX12_lifeIn_ok (l := l) (B := B) (D := D) (cT := cT) (n := n) (adK := adK) (adV := adV) h2 hr_9
  refine tt_cI (pc := 1199) (tt_vi E lmL_193 mtX12_lifeIn hc_10 h2 rfl rfl (Nat.le_of_ble_eq_true rfl) ⟨(Nat.le_of_ble_eq_true rfl), (Nat.le_of_ble_eq_true rfl)⟩ ⟨hk1, hs1⟩ dL_law_1199) ?_
  refine tt_istore (pc := 1202) (i := 6) (lv' := [(6, .int r_8.1), (5, .int r_3.1), (0, .ref b), (1, .ref (B + o1)), (2, .ref (B + o2)), (3, .ref (B + o3)), (4, .int v4)]) E dL_law_1202 (Nat.le_of_ble_eq_true rfl) rfl ?_
  refine tt_aload_n (pc := 1204) (i := 2) (j := 4) E dL_law_1204 rfl rfl ?_
  obtain ⟨r_11, hr_12, hf⟩ := bd_some hf
  have hc_13 := cX12_thrown_ok (l := l) (B := B) (D := D) (cT := cT) (n := n) (adK := adK) (adV := adV) h2 hr_12
  refine tt_cI (pc := 1205) (tt_vi E lmL_127 mtX12_thrown hc_13 h2 rfl rfl (Nat.le_of_ble_eq_true rfl) ⟨(Nat.le_of_ble_eq_true rfl), (Nat.le_of_ble_eq_true rfl)⟩ ⟨hk1, hs1⟩ dL_law_1205) ?_
  refine tt_iload (pc := 1208) (i := 5) (j := 1) E dL_law_1208 rfl ?_
  refine tt_icmp_eq (pc := 1210) (tgt := 1215) E dL_law_1210 rfl (fun c_19 => ?_) (fun c_19 => ?_)
  · have hf := ip c_19 hf
    refine tt_iload (pc := 1215) (i := 5) (j := 1) E dL_law_1215 rfl ?_
    refine tt_if_ne (pc := 1217) (tgt := 1232) E dL_law_1217 rfl (fun c_18 => ?_) (fun c_18 => ?_)
    · have hf := ine c_18 hf
      refine tt_goto (pc := 1232) (tgt := 2449) E dL_law_1232 rfl ?_
      obtain ⟨v_14, ev_14, hf⟩ := nm_ex hf
      refine tt_iinc (pc := 2449) (i := 4) (j := 6) (lv' := [(4, .int v_14), (6, .int r_8.1), (5, .int r_3.1), (0, .ref b), (1, .ref (B + o1)), (2, .ref (B + o2)), (3, .ref (B + o3))]) E dL_law_2449 rfl (ev_14).symm (Nat.le_of_ble_eq_true rfl) rfl ?_
      refine tt_goto (pc := 2452) (tgt := 23) E dL_law_2452 rfl ?_
      refine tt_sub [3, 4, 5, 6, 0] (lv' := [(0, .ref b), (1, .ref (B + o1)), (2, .ref (B + o2)), (3, .ref (B + o3)), (4, .int v_14)]) rfl ?_
      exact hk v_14 r_8.2 hf
    · have hf := ip c_18 hf
      refine tt_aload_n (pc := 1220) (i := 3) (j := 5) E dL_law_1220 rfl rfl ?_
      refine tt_iconst (pc := 1221) (v := 0) E dL_law_1221 ic_0 ?_
      obtain ⟨g_15, hf⟩ := gd_some hf
      refine tt_lald (pc := 1222) E h3 g_15 dL_law_1222 ?_
      refine tt_iload (pc := 1223) (i := 6) (j := 0) E dL_law_1223 rfl ?_
      refine tt_i2l (pc := 1225) E dL_law_1225 ?_
      refine tt_lcmp (pc := 1226) E dL_law_1226 ?_
      refine tt_if_eq (pc := 1227) (tgt := 1232) E dL_law_1227 rfl (fun c_17 => ?_) (fun c_17 => ?_)
      · have hf := ip c_17 hf
        refine tt_goto (pc := 1232) (tgt := 2449) E dL_law_1232 rfl ?_
        obtain ⟨v_16, ev_16, hf⟩ := nm_ex hf
        refine tt_iinc (pc := 2449) (i := 4) (j := 6) (lv' := [(4, .int v_16), (6, .int r_8.1), (5, .int r_3.1), (0, .ref b), (1, .ref (B + o1)), (2, .ref (B + o2)), (3, .ref (B + o3))]) E dL_law_2449 rfl (ev_16).symm (Nat.le_of_ble_eq_true rfl) rfl ?_
        refine tt_goto (pc := 2452) (tgt := 23) E dL_law_2452 rfl ?_
        refine tt_sub [3, 4, 5, 6, 0] (lv' := [(0, .ref b), (1, .ref (B + o1)), (2, .ref (B + o2)), (3, .ref (B + o3)), (4, .int v_16)]) rfl ?_
        exact hk v_16 r_8.2 hf
      · have hf := ine c_17 hf
        refine tt_iconst (pc := 1230) (v := 0) E dL_law_1230 ic_0 ?_
        exact absurd hf ret0
  · have hf := ine c_19 hf
    refine tt_iconst (pc := 1213) (v := 0) E dL_law_1213 ic_0 ?_
    exact absurd hf ret0
set_option maxHeartbeats 4000000 in
theorem tL_law_1235 {p : Program} {l : Launch} {e : Env} {s : State} {m : MethodId} {below : List Frame} {meth : Method} {c : Code} {B : Nat} {D : va_G} {cT : Nat → ClassId} {n : Nat} {adK adV : Nat → Nat} {b L : Nat} {xs : Nat → Int32} {res : Mem} (E : EE p s m #[Value.ref b] c cL_law 9 RL B D cT (XW B adK adV)) (hr : meth.sig.returnType = ret) (hlk : meth.locks = false) (hl0 : l.stackTraces = false) (hX : va_X b L xs s s.heap) (hbB : b < B) (hbl : b < s.heap.size) (hBs : s.heap.size ≤ B) {o1 o2 o3 : Nat} (h1 : isK n o1 8) (h2 : isK n o2 9) (h3 : isK n o3 12) {kc ks : Nat} (hk1 : kc + 1 ≤ 601024) (hs1 : ks + 6 ≤ 7293034) {kb : Int32 → Mem → Option (Int32 × Mem)} (hk : ∀ (v4 : Int32) (μ : Mem), kb v4 μ = some (1, res) → TT p l e room_1 s m #[Value.ref b] below meth c (lw_Z below #[Value.ref b] s) 9 B D cT n (kc + 1) (ks + 6) μ 23 [(0, .ref b), (1, .ref (B + o1)), (2, .ref (B + o2)), (3, .ref (B + o3)), (4, .int v4)] []) {v4 : Int32} {μ : Mem} (hf : fL_law_1235 L xs o1 o2 o3 kb v4 μ = some (1, res)) : TT p l e room_1 s m #[Value.ref b] below meth c (lw_Z below #[Value.ref b] s) 9 B D cT n kc ks μ 1235 [(0, .ref b), (1, .ref (B + o1)), (2, .ref (B + o2)), (3, .ref (B + o3)), (4, .int v4)] [] := by
  have hk0 : kc ≤ 601024 := by omega
  have hs0 : ks ≤ 7293034 := by omega
  unfold fL_law_1235 at hf
  refine tt_aload_n (pc := 1235) (i := 1) (j := 1) E dL_law_1235 rfl rfl ?_
  refine tt_aload_n (pc := 1236) (i := 0) (j := 0) E dL_law_1236 rfl rfl ?_
  refine tt_iload (pc := 1237) (i := 4) (j := 4) E dL_law_1237 rfl ?_
  refine tt_iconst (pc := 1239) (v := 1) E dL_law_1239 ic_1 ?_
  refine tt_iadd (pc := 1240) E dL_law_1240 ?_
  obtain ⟨g_1, hf⟩ := gd_some hf
  refine tt_scA (pc := 1241) E hX hbB hbl g_1 dL_law_1241 ?_
  refine tt_aload_n (pc := 1242) (i := 0) (j := 0) E dL_law_1242 rfl rfl ?_
  refine tt_iload (pc := 1243) (i := 4) (j := 4) E dL_law_1243 rfl ?_
  refine tt_iconst (pc := 1245) (v := 2) E dL_law_1245 ic_2 ?_
  refine tt_iadd (pc := 1246) E dL_law_1246 ?_
  obtain ⟨g_2, hf⟩ := gd_some hf
  refine tt_scA (pc := 1247) E hX hbB hbl g_2 dL_law_1247 ?_
  refine tt_aload_n (pc := 1248) (i := 3) (j := 3) E dL_law_1248 rfl rfl ?_
  obtain ⟨r_3, hr_4, hf⟩ := bd_some hf
  have hc_5 := cL_gaugeIn_ok (l := l) (B := B) (D := D) (cT := cT) (n := n) (adK := adK) (adV := adV) hl0 h1 h3 hr_4
  refine tt_cI (pc := 1249) (tt_siW E lmL_194 mtL_gaugeIn hc_5 rfl rfl (Nat.le_of_ble_eq_true rfl) ⟨(Nat.le_of_ble_eq_true rfl), (Nat.le_of_ble_eq_true rfl)⟩ ⟨hk1, hs1⟩ dL_law_1249) ?_
  refine tt_istore (pc := 1252) (i := 5) (lv' := [(5, .int r_3.1), (0, .ref b), (1, .ref (B + o1)), (2, .ref (B + o2)), (3, .ref (B + o3)), (4, .int v4)]) E dL_law_1252 (Nat.le_of_ble_eq_true rfl) rfl ?_
  refine tt_aload_n (pc := 1254) (i := 2) (j := 3) E dL_law_1254 rfl rfl ?_
  refine tt_aload_n (pc := 1255) (i := 0) (j := 1) E dL_law_1255 rfl rfl ?_
  refine tt_iload (pc := 1256) (i := 4) (j := 5) E dL_law_1256 rfl ?_
  refine tt_iconst (pc := 1258) (v := 1) E dL_law_1258 ic_1 ?_
  refine tt_iadd (pc := 1259) E dL_law_1259 ?_
  obtain ⟨g_6, hf⟩ := gd_some hf
  refine tt_scA (pc := 1260) E hX hbB hbl g_6 dL_law_1260 ?_
  refine tt_aload_n (pc := 1261) (i := 0) (j := 1) E dL_law_1261 rfl rfl ?_
  refine tt_iload (pc := 1262) (i := 4) (j := 5) E dL_law_1262 rfl ?_
  refine tt_iconst (pc := 1264) (v := 2) E dL_law_1264 ic_2 ?_
  refine tt_iadd (pc := 1265) E dL_law_1265 ?_
  obtain ⟨g_7, hf⟩ := gd_some hf
  refine tt_scA (pc := 1266) E hX hbB hbl g_7 dL_law_1266 ?_
  obtain ⟨r_8, hr_9, hf⟩ := bd_some hf
  have hc_10 := cX12_gaugeIn_ok (l := l) (B := B) (D := D) (cT := cT) (n := n) (adK := adK) (adV := adV) h2 hr_9
  refine tt_cI (pc := 1267) (tt_vi E lmL_196 mtX12_gaugeIn hc_10 h2 rfl rfl (Nat.le_of_ble_eq_true rfl) ⟨(Nat.le_of_ble_eq_true rfl), (Nat.le_of_ble_eq_true rfl)⟩ ⟨hk1, hs1⟩ dL_law_1267) ?_
  refine tt_istore (pc := 1270) (i := 6) (lv' := [(6, .int r_8.1), (5, .int r_3.1), (0, .ref b), (1, .ref (B + o1)), (2, .ref (B + o2)), (3, .ref (B + o3)), (4, .int v4)]) E dL_law_1270 (Nat.le_of_ble_eq_true rfl) rfl ?_
  refine tt_aload_n (pc := 1272) (i := 2) (j := 4) E dL_law_1272 rfl rfl ?_
  obtain ⟨r_11, hr_12, hf⟩ := bd_some hf
  have hc_13 := cX12_thrown_ok (l := l) (B := B) (D := D) (cT := cT) (n := n) (adK := adK) (adV := adV) h2 hr_12
  refine tt_cI (pc := 1273) (tt_vi E lmL_127 mtX12_thrown hc_13 h2 rfl rfl (Nat.le_of_ble_eq_true rfl) ⟨(Nat.le_of_ble_eq_true rfl), (Nat.le_of_ble_eq_true rfl)⟩ ⟨hk1, hs1⟩ dL_law_1273) ?_
  refine tt_iload (pc := 1276) (i := 5) (j := 1) E dL_law_1276 rfl ?_
  refine tt_icmp_eq (pc := 1278) (tgt := 1283) E dL_law_1278 rfl (fun c_19 => ?_) (fun c_19 => ?_)
  · have hf := ip c_19 hf
    refine tt_iload (pc := 1283) (i := 5) (j := 1) E dL_law_1283 rfl ?_
    refine tt_if_ne (pc := 1285) (tgt := 1300) E dL_law_1285 rfl (fun c_18 => ?_) (fun c_18 => ?_)
    · have hf := ine c_18 hf
      refine tt_goto (pc := 1300) (tgt := 2449) E dL_law_1300 rfl ?_
      obtain ⟨v_14, ev_14, hf⟩ := nm_ex hf
      refine tt_iinc (pc := 2449) (i := 4) (j := 6) (lv' := [(4, .int v_14), (6, .int r_8.1), (5, .int r_3.1), (0, .ref b), (1, .ref (B + o1)), (2, .ref (B + o2)), (3, .ref (B + o3))]) E dL_law_2449 rfl (ev_14).symm (Nat.le_of_ble_eq_true rfl) rfl ?_
      refine tt_goto (pc := 2452) (tgt := 23) E dL_law_2452 rfl ?_
      refine tt_sub [3, 4, 5, 6, 0] (lv' := [(0, .ref b), (1, .ref (B + o1)), (2, .ref (B + o2)), (3, .ref (B + o3)), (4, .int v_14)]) rfl ?_
      exact hk v_14 r_8.2 hf
    · have hf := ip c_18 hf
      refine tt_aload_n (pc := 1288) (i := 3) (j := 5) E dL_law_1288 rfl rfl ?_
      refine tt_iconst (pc := 1289) (v := 0) E dL_law_1289 ic_0 ?_
      obtain ⟨g_15, hf⟩ := gd_some hf
      refine tt_lald (pc := 1290) E h3 g_15 dL_law_1290 ?_
      refine tt_iload (pc := 1291) (i := 6) (j := 0) E dL_law_1291 rfl ?_
      refine tt_i2l (pc := 1293) E dL_law_1293 ?_
      refine tt_lcmp (pc := 1294) E dL_law_1294 ?_
      refine tt_if_eq (pc := 1295) (tgt := 1300) E dL_law_1295 rfl (fun c_17 => ?_) (fun c_17 => ?_)
      · have hf := ip c_17 hf
        refine tt_goto (pc := 1300) (tgt := 2449) E dL_law_1300 rfl ?_
        obtain ⟨v_16, ev_16, hf⟩ := nm_ex hf
        refine tt_iinc (pc := 2449) (i := 4) (j := 6) (lv' := [(4, .int v_16), (6, .int r_8.1), (5, .int r_3.1), (0, .ref b), (1, .ref (B + o1)), (2, .ref (B + o2)), (3, .ref (B + o3))]) E dL_law_2449 rfl (ev_16).symm (Nat.le_of_ble_eq_true rfl) rfl ?_
        refine tt_goto (pc := 2452) (tgt := 23) E dL_law_2452 rfl ?_
        refine tt_sub [3, 4, 5, 6, 0] (lv' := [(0, .ref b), (1, .ref (B + o1)), (2, .ref (B + o2)), (3, .ref (B + o3)), (4, .int v_16)]) rfl ?_
        exact hk v_16 r_8.2 hf
      · have hf := ine c_17 hf
        refine tt_iconst (pc := 1298) (v := 0) E dL_law_1298 ic_0 ?_
        exact absurd hf ret0
  · have hf := ine c_19 hf
    refine tt_iconst (pc := 1281) (v := 0) E dL_law_1281 ic_0 ?_
    exact absurd hf ret0
set_option maxHeartbeats 4000000 in
theorem tL_law_1303 {p : Program} {l : Launch} {e : Env} {s : State} {m : MethodId} {below : List Frame} {meth : Method} {c : Code} {B : Nat} {D : va_G} {cT : Nat → ClassId} {n : Nat} {adK adV : Nat → Nat} {b L : Nat} {xs : Nat → Int32} {res : Mem} (E : EE p s m #[Value.ref b] c cL_law 9 RL B D cT (XW B adK adV)) (hr : meth.sig.returnType = ret) (hlk : meth.locks = false) (hl0 : l.stackTraces = false) (hX : va_X b L xs s s.heap) (hbB : b < B) (hbl : b < s.heap.size) (hBs : s.heap.size ≤ B) {o1 o2 o3 : Nat} (h1 : isK n o1 8) (h2 : isK n o2 9) (h3 : isK n o3 12) {kc ks : Nat} (hk1 : kc + 1 ≤ 601024) (hs1 : ks + 6 ≤ 7293034) {kb : Int32 → Mem → Option (Int32 × Mem)} (hk : ∀ (v4 : Int32) (μ : Mem), kb v4 μ = some (1, res) → TT p l e room_1 s m #[Value.ref b] below meth c (lw_Z below #[Value.ref b] s) 9 B D cT n (kc + 1) (ks + 6) μ 23 [(0, .ref b), (1, .ref (B + o1)), (2, .ref (B + o2)), (3, .ref (B + o3)), (4, .int v4)] []) {v4 : Int32} {μ : Mem} (hf : fL_law_1303 L xs o1 o2 o3 kb v4 μ = some (1, res)) : TT p l e room_1 s m #[Value.ref b] below meth c (lw_Z below #[Value.ref b] s) 9 B D cT n kc ks μ 1303 [(0, .ref b), (1, .ref (B + o1)), (2, .ref (B + o2)), (3, .ref (B + o3)), (4, .int v4)] [] := by
  have hk0 : kc ≤ 601024 := by omega
  have hs0 : ks ≤ 7293034 := by omega
  unfold fL_law_1303 at hf
  refine tt_aload_n (pc := 1303) (i := 1) (j := 1) E dL_law_1303 rfl rfl ?_
  refine tt_aload_n (pc := 1304) (i := 0) (j := 0) E dL_law_1304 rfl rfl ?_
  refine tt_iload (pc := 1305) (i := 4) (j := 4) E dL_law_1305 rfl ?_
  refine tt_iconst (pc := 1307) (v := 1) E dL_law_1307 ic_1 ?_
  refine tt_iadd (pc := 1308) E dL_law_1308 ?_
  obtain ⟨g_1, hf⟩ := gd_some hf
  refine tt_scA (pc := 1309) E hX hbB hbl g_1 dL_law_1309 ?_
  refine tt_aload_n (pc := 1310) (i := 0) (j := 0) E dL_law_1310 rfl rfl ?_
  refine tt_iload (pc := 1311) (i := 4) (j := 4) E dL_law_1311 rfl ?_
  refine tt_iconst (pc := 1313) (v := 2) E dL_law_1313 ic_2 ?_
  refine tt_iadd (pc := 1314) E dL_law_1314 ?_
  obtain ⟨g_2, hf⟩ := gd_some hf
  refine tt_scA (pc := 1315) E hX hbB hbl g_2 dL_law_1315 ?_
  refine tt_aload_n (pc := 1316) (i := 3) (j := 3) E dL_law_1316 rfl rfl ?_
  obtain ⟨r_3, hr_4, hf⟩ := bd_some hf
  have hc_5 := cL_turnsOf_ok (l := l) (B := B) (D := D) (cT := cT) (n := n) (adK := adK) (adV := adV) hl0 h1 h3 hr_4
  refine tt_cI (pc := 1317) (tt_siW E lmL_197 mtL_turnsOf hc_5 rfl rfl (Nat.le_of_ble_eq_true rfl) ⟨(Nat.le_of_ble_eq_true rfl), (Nat.le_of_ble_eq_true rfl)⟩ ⟨hk1, hs1⟩ dL_law_1317) ?_
  refine tt_istore (pc := 1320) (i := 5) (lv' := [(5, .int r_3.1), (0, .ref b), (1, .ref (B + o1)), (2, .ref (B + o2)), (3, .ref (B + o3)), (4, .int v4)]) E dL_law_1320 (Nat.le_of_ble_eq_true rfl) rfl ?_
  refine tt_aload_n (pc := 1322) (i := 2) (j := 3) E dL_law_1322 rfl rfl ?_
  refine tt_aload_n (pc := 1323) (i := 0) (j := 1) E dL_law_1323 rfl rfl ?_
  refine tt_iload (pc := 1324) (i := 4) (j := 5) E dL_law_1324 rfl ?_
  refine tt_iconst (pc := 1326) (v := 1) E dL_law_1326 ic_1 ?_
  refine tt_iadd (pc := 1327) E dL_law_1327 ?_
  obtain ⟨g_6, hf⟩ := gd_some hf
  refine tt_scA (pc := 1328) E hX hbB hbl g_6 dL_law_1328 ?_
  refine tt_aload_n (pc := 1329) (i := 0) (j := 1) E dL_law_1329 rfl rfl ?_
  refine tt_iload (pc := 1330) (i := 4) (j := 5) E dL_law_1330 rfl ?_
  refine tt_iconst (pc := 1332) (v := 2) E dL_law_1332 ic_2 ?_
  refine tt_iadd (pc := 1333) E dL_law_1333 ?_
  obtain ⟨g_7, hf⟩ := gd_some hf
  refine tt_scA (pc := 1334) E hX hbB hbl g_7 dL_law_1334 ?_
  obtain ⟨r_8, hr_9, hf⟩ := bd_some hf
  have hc_10 := cX12_turnsOf_ok (l := l) (B := B) (D := D) (cT := cT) (n := n) (adK := adK) (adV := adV) h2 hr_9
  refine tt_cI (pc := 1335) (tt_vi E lmL_199 mtX12_turnsOf hc_10 h2 rfl rfl (Nat.le_of_ble_eq_true rfl) ⟨(Nat.le_of_ble_eq_true rfl), (Nat.le_of_ble_eq_true rfl)⟩ ⟨hk1, hs1⟩ dL_law_1335) ?_
  refine tt_istore (pc := 1338) (i := 6) (lv' := [(6, .int r_8.1), (5, .int r_3.1), (0, .ref b), (1, .ref (B + o1)), (2, .ref (B + o2)), (3, .ref (B + o3)), (4, .int v4)]) E dL_law_1338 (Nat.le_of_ble_eq_true rfl) rfl ?_
  refine tt_aload_n (pc := 1340) (i := 2) (j := 4) E dL_law_1340 rfl rfl ?_
  obtain ⟨r_11, hr_12, hf⟩ := bd_some hf
  have hc_13 := cX12_thrown_ok (l := l) (B := B) (D := D) (cT := cT) (n := n) (adK := adK) (adV := adV) h2 hr_12
  refine tt_cI (pc := 1341) (tt_vi E lmL_127 mtX12_thrown hc_13 h2 rfl rfl (Nat.le_of_ble_eq_true rfl) ⟨(Nat.le_of_ble_eq_true rfl), (Nat.le_of_ble_eq_true rfl)⟩ ⟨hk1, hs1⟩ dL_law_1341) ?_
  refine tt_iload (pc := 1344) (i := 5) (j := 1) E dL_law_1344 rfl ?_
  refine tt_icmp_eq (pc := 1346) (tgt := 1351) E dL_law_1346 rfl (fun c_19 => ?_) (fun c_19 => ?_)
  · have hf := ip c_19 hf
    refine tt_iload (pc := 1351) (i := 5) (j := 1) E dL_law_1351 rfl ?_
    refine tt_if_ne (pc := 1353) (tgt := 1368) E dL_law_1353 rfl (fun c_18 => ?_) (fun c_18 => ?_)
    · have hf := ine c_18 hf
      refine tt_goto (pc := 1368) (tgt := 2449) E dL_law_1368 rfl ?_
      obtain ⟨v_14, ev_14, hf⟩ := nm_ex hf
      refine tt_iinc (pc := 2449) (i := 4) (j := 6) (lv' := [(4, .int v_14), (6, .int r_8.1), (5, .int r_3.1), (0, .ref b), (1, .ref (B + o1)), (2, .ref (B + o2)), (3, .ref (B + o3))]) E dL_law_2449 rfl (ev_14).symm (Nat.le_of_ble_eq_true rfl) rfl ?_
      refine tt_goto (pc := 2452) (tgt := 23) E dL_law_2452 rfl ?_
      refine tt_sub [3, 4, 5, 6, 0] (lv' := [(0, .ref b), (1, .ref (B + o1)), (2, .ref (B + o2)), (3, .ref (B + o3)), (4, .int v_14)]) rfl ?_
      exact hk v_14 r_8.2 hf
    · have hf := ip c_18 hf
      refine tt_aload_n (pc := 1356) (i := 3) (j := 5) E dL_law_1356 rfl rfl ?_
      refine tt_iconst (pc := 1357) (v := 0) E dL_law_1357 ic_0 ?_
      obtain ⟨g_15, hf⟩ := gd_some hf
      refine tt_lald (pc := 1358) E h3 g_15 dL_law_1358 ?_
      refine tt_iload (pc := 1359) (i := 6) (j := 0) E dL_law_1359 rfl ?_
      refine tt_i2l (pc := 1361) E dL_law_1361 ?_
      refine tt_lcmp (pc := 1362) E dL_law_1362 ?_
      refine tt_if_eq (pc := 1363) (tgt := 1368) E dL_law_1363 rfl (fun c_17 => ?_) (fun c_17 => ?_)
      · have hf := ip c_17 hf
        refine tt_goto (pc := 1368) (tgt := 2449) E dL_law_1368 rfl ?_
        obtain ⟨v_16, ev_16, hf⟩ := nm_ex hf
        refine tt_iinc (pc := 2449) (i := 4) (j := 6) (lv' := [(4, .int v_16), (6, .int r_8.1), (5, .int r_3.1), (0, .ref b), (1, .ref (B + o1)), (2, .ref (B + o2)), (3, .ref (B + o3))]) E dL_law_2449 rfl (ev_16).symm (Nat.le_of_ble_eq_true rfl) rfl ?_
        refine tt_goto (pc := 2452) (tgt := 23) E dL_law_2452 rfl ?_
        refine tt_sub [3, 4, 5, 6, 0] (lv' := [(0, .ref b), (1, .ref (B + o1)), (2, .ref (B + o2)), (3, .ref (B + o3)), (4, .int v_16)]) rfl ?_
        exact hk v_16 r_8.2 hf
      · have hf := ine c_17 hf
        refine tt_iconst (pc := 1366) (v := 0) E dL_law_1366 ic_0 ?_
        exact absurd hf ret0
  · have hf := ine c_19 hf
    refine tt_iconst (pc := 1349) (v := 0) E dL_law_1349 ic_0 ?_
    exact absurd hf ret0
set_option maxHeartbeats 4000000 in
theorem tL_law_1371 {p : Program} {l : Launch} {e : Env} {s : State} {m : MethodId} {below : List Frame} {meth : Method} {c : Code} {B : Nat} {D : va_G} {cT : Nat → ClassId} {n : Nat} {adK adV : Nat → Nat} {b L : Nat} {xs : Nat → Int32} {res : Mem} (E : EE p s m #[Value.ref b] c cL_law 9 RL B D cT (XW B adK adV)) (hr : meth.sig.returnType = ret) (hlk : meth.locks = false) (hl0 : l.stackTraces = false) (hX : va_X b L xs s s.heap) (hbB : b < B) (hbl : b < s.heap.size) (hBs : s.heap.size ≤ B) {o1 o2 o3 : Nat} (h1 : isK n o1 8) (h2 : isK n o2 9) (h3 : isK n o3 12) {kc ks : Nat} (hk1 : kc + 1 ≤ 601024) (hs1 : ks + 6 ≤ 7293034) {kb : Int32 → Mem → Option (Int32 × Mem)} (hk : ∀ (v4 : Int32) (μ : Mem), kb v4 μ = some (1, res) → TT p l e room_1 s m #[Value.ref b] below meth c (lw_Z below #[Value.ref b] s) 9 B D cT n (kc + 1) (ks + 6) μ 23 [(0, .ref b), (1, .ref (B + o1)), (2, .ref (B + o2)), (3, .ref (B + o3)), (4, .int v4)] []) {v4 : Int32} {μ : Mem} (hf : fL_law_1371 L xs o1 o2 o3 kb v4 μ = some (1, res)) : TT p l e room_1 s m #[Value.ref b] below meth c (lw_Z below #[Value.ref b] s) 9 B D cT n kc ks μ 1371 [(0, .ref b), (1, .ref (B + o1)), (2, .ref (B + o2)), (3, .ref (B + o3)), (4, .int v4)] [] := by
  have hk0 : kc ≤ 601024 := by omega
  have hs0 : ks ≤ 7293034 := by omega
  unfold fL_law_1371 at hf
  refine tt_aload_n (pc := 1371) (i := 1) (j := 1) E dL_law_1371 rfl rfl ?_
  refine tt_aload_n (pc := 1372) (i := 0) (j := 0) E dL_law_1372 rfl rfl ?_
  refine tt_iload (pc := 1373) (i := 4) (j := 4) E dL_law_1373 rfl ?_
  refine tt_iconst (pc := 1375) (v := 1) E dL_law_1375 ic_1 ?_
  refine tt_iadd (pc := 1376) E dL_law_1376 ?_
  obtain ⟨g_1, hf⟩ := gd_some hf
  refine tt_scA (pc := 1377) E hX hbB hbl g_1 dL_law_1377 ?_
  refine tt_aload_n (pc := 1378) (i := 3) (j := 3) E dL_law_1378 rfl rfl ?_
  obtain ⟨r_2, hr_3, hf⟩ := bd_some hf
  have hc_4 := cL_longestRun_ok (l := l) (B := B) (D := D) (cT := cT) (n := n) (adK := adK) (adV := adV) hl0 h1 h3 hr_3
  refine tt_cI (pc := 1379) (tt_siW E lmL_200 mtL_longestRun hc_4 rfl rfl (Nat.le_of_ble_eq_true rfl) ⟨(Nat.le_of_ble_eq_true rfl), (Nat.le_of_ble_eq_true rfl)⟩ ⟨hk1, hs1⟩ dL_law_1379) ?_
  refine tt_istore (pc := 1382) (i := 5) (lv' := [(5, .int r_2.1), (0, .ref b), (1, .ref (B + o1)), (2, .ref (B + o2)), (3, .ref (B + o3)), (4, .int v4)]) E dL_law_1382 (Nat.le_of_ble_eq_true rfl) rfl ?_
  refine tt_aload_n (pc := 1384) (i := 2) (j := 3) E dL_law_1384 rfl rfl ?_
  refine tt_aload_n (pc := 1385) (i := 0) (j := 1) E dL_law_1385 rfl rfl ?_
  refine tt_iload (pc := 1386) (i := 4) (j := 5) E dL_law_1386 rfl ?_
  refine tt_iconst (pc := 1388) (v := 1) E dL_law_1388 ic_1 ?_
  refine tt_iadd (pc := 1389) E dL_law_1389 ?_
  obtain ⟨g_5, hf⟩ := gd_some hf
  refine tt_scA (pc := 1390) E hX hbB hbl g_5 dL_law_1390 ?_
  obtain ⟨r_6, hr_7, hf⟩ := bd_some hf
  have hc_8 := cX12_longestRun_ok (l := l) (B := B) (D := D) (cT := cT) (n := n) (adK := adK) (adV := adV) h2 hr_7
  refine tt_cI (pc := 1391) (tt_vi E lmL_202 mtX12_longestRun hc_8 h2 rfl rfl (Nat.le_of_ble_eq_true rfl) ⟨(Nat.le_of_ble_eq_true rfl), (Nat.le_of_ble_eq_true rfl)⟩ ⟨hk1, hs1⟩ dL_law_1391) ?_
  refine tt_istore (pc := 1394) (i := 6) (lv' := [(6, .int r_6.1), (5, .int r_2.1), (0, .ref b), (1, .ref (B + o1)), (2, .ref (B + o2)), (3, .ref (B + o3)), (4, .int v4)]) E dL_law_1394 (Nat.le_of_ble_eq_true rfl) rfl ?_
  refine tt_aload_n (pc := 1396) (i := 2) (j := 4) E dL_law_1396 rfl rfl ?_
  obtain ⟨r_9, hr_10, hf⟩ := bd_some hf
  have hc_11 := cX12_thrown_ok (l := l) (B := B) (D := D) (cT := cT) (n := n) (adK := adK) (adV := adV) h2 hr_10
  refine tt_cI (pc := 1397) (tt_vi E lmL_127 mtX12_thrown hc_11 h2 rfl rfl (Nat.le_of_ble_eq_true rfl) ⟨(Nat.le_of_ble_eq_true rfl), (Nat.le_of_ble_eq_true rfl)⟩ ⟨hk1, hs1⟩ dL_law_1397) ?_
  refine tt_iload (pc := 1400) (i := 5) (j := 1) E dL_law_1400 rfl ?_
  refine tt_icmp_eq (pc := 1402) (tgt := 1407) E dL_law_1402 rfl (fun c_17 => ?_) (fun c_17 => ?_)
  · have hf := ip c_17 hf
    refine tt_iload (pc := 1407) (i := 5) (j := 1) E dL_law_1407 rfl ?_
    refine tt_if_ne (pc := 1409) (tgt := 1424) E dL_law_1409 rfl (fun c_16 => ?_) (fun c_16 => ?_)
    · have hf := ine c_16 hf
      refine tt_goto (pc := 1424) (tgt := 2449) E dL_law_1424 rfl ?_
      obtain ⟨v_12, ev_12, hf⟩ := nm_ex hf
      refine tt_iinc (pc := 2449) (i := 4) (j := 6) (lv' := [(4, .int v_12), (6, .int r_6.1), (5, .int r_2.1), (0, .ref b), (1, .ref (B + o1)), (2, .ref (B + o2)), (3, .ref (B + o3))]) E dL_law_2449 rfl (ev_12).symm (Nat.le_of_ble_eq_true rfl) rfl ?_
      refine tt_goto (pc := 2452) (tgt := 23) E dL_law_2452 rfl ?_
      refine tt_sub [3, 4, 5, 6, 0] (lv' := [(0, .ref b), (1, .ref (B + o1)), (2, .ref (B + o2)), (3, .ref (B + o3)), (4, .int v_12)]) rfl ?_
      exact hk v_12 r_6.2 hf
    · have hf := ip c_16 hf
      refine tt_aload_n (pc := 1412) (i := 3) (j := 5) E dL_law_1412 rfl rfl ?_
      refine tt_iconst (pc := 1413) (v := 0) E dL_law_1413 ic_0 ?_
      obtain ⟨g_13, hf⟩ := gd_some hf
      refine tt_lald (pc := 1414) E h3 g_13 dL_law_1414 ?_
      refine tt_iload (pc := 1415) (i := 6) (j := 0) E dL_law_1415 rfl ?_
      refine tt_i2l (pc := 1417) E dL_law_1417 ?_
      refine tt_lcmp (pc := 1418) E dL_law_1418 ?_
      refine tt_if_eq (pc := 1419) (tgt := 1424) E dL_law_1419 rfl (fun c_15 => ?_) (fun c_15 => ?_)
      · have hf := ip c_15 hf
        refine tt_goto (pc := 1424) (tgt := 2449) E dL_law_1424 rfl ?_
        obtain ⟨v_14, ev_14, hf⟩ := nm_ex hf
        refine tt_iinc (pc := 2449) (i := 4) (j := 6) (lv' := [(4, .int v_14), (6, .int r_6.1), (5, .int r_2.1), (0, .ref b), (1, .ref (B + o1)), (2, .ref (B + o2)), (3, .ref (B + o3))]) E dL_law_2449 rfl (ev_14).symm (Nat.le_of_ble_eq_true rfl) rfl ?_
        refine tt_goto (pc := 2452) (tgt := 23) E dL_law_2452 rfl ?_
        refine tt_sub [3, 4, 5, 6, 0] (lv' := [(0, .ref b), (1, .ref (B + o1)), (2, .ref (B + o2)), (3, .ref (B + o3)), (4, .int v_14)]) rfl ?_
        exact hk v_14 r_6.2 hf
      · have hf := ine c_15 hf
        refine tt_iconst (pc := 1422) (v := 0) E dL_law_1422 ic_0 ?_
        exact absurd hf ret0
  · have hf := ine c_17 hf
    refine tt_iconst (pc := 1405) (v := 0) E dL_law_1405 ic_0 ?_
    exact absurd hf ret0
set_option maxHeartbeats 4000000 in
theorem tL_law_1427 {p : Program} {l : Launch} {e : Env} {s : State} {m : MethodId} {below : List Frame} {meth : Method} {c : Code} {B : Nat} {D : va_G} {cT : Nat → ClassId} {n : Nat} {adK adV : Nat → Nat} {b L : Nat} {xs : Nat → Int32} {res : Mem} (E : EE p s m #[Value.ref b] c cL_law 9 RL B D cT (XW B adK adV)) (hr : meth.sig.returnType = ret) (hlk : meth.locks = false) (hl0 : l.stackTraces = false) (hX : va_X b L xs s s.heap) (hbB : b < B) (hbl : b < s.heap.size) (hBs : s.heap.size ≤ B) {o1 o2 o3 : Nat} (h1 : isK n o1 8) (h2 : isK n o2 9) (h3 : isK n o3 12) {kc ks : Nat} (hk1 : kc + 1 ≤ 601024) (hs1 : ks + 6 ≤ 7293034) {kb : Int32 → Mem → Option (Int32 × Mem)} (hk : ∀ (v4 : Int32) (μ : Mem), kb v4 μ = some (1, res) → TT p l e room_1 s m #[Value.ref b] below meth c (lw_Z below #[Value.ref b] s) 9 B D cT n (kc + 1) (ks + 6) μ 23 [(0, .ref b), (1, .ref (B + o1)), (2, .ref (B + o2)), (3, .ref (B + o3)), (4, .int v4)] []) {v4 : Int32} {μ : Mem} (hf : fL_law_1427 L xs o1 o2 o3 kb v4 μ = some (1, res)) : TT p l e room_1 s m #[Value.ref b] below meth c (lw_Z below #[Value.ref b] s) 9 B D cT n kc ks μ 1427 [(0, .ref b), (1, .ref (B + o1)), (2, .ref (B + o2)), (3, .ref (B + o3)), (4, .int v4)] [] := by
  have hk0 : kc ≤ 601024 := by omega
  have hs0 : ks ≤ 7293034 := by omega
  unfold fL_law_1427 at hf
  refine tt_aload_n (pc := 1427) (i := 1) (j := 1) E dL_law_1427 rfl rfl ?_
  obtain ⟨r_1, hr_2, hf⟩ := bd_some hf
  have hc_3 := cX11_endsIn_ok (l := l) (B := B) (D := D) (cT := cT) (n := n) (adK := adK) (adV := adV) h1 hr_2
  refine tt_cI (pc := 1428) (tt_vi E lmL_203 mtX11_endsIn hc_3 h1 rfl rfl (Nat.le_of_ble_eq_true rfl) ⟨(Nat.le_of_ble_eq_true rfl), (Nat.le_of_ble_eq_true rfl)⟩ ⟨hk0, hs0⟩ dL_law_1428) ?_
  refine tt_aload_n (pc := 1431) (i := 2) (j := 2) E dL_law_1431 rfl rfl ?_
  obtain ⟨r_4, hr_5, hf⟩ := bd_some hf
  have hc_6 := cX12_endsIn_ok (l := l) (B := B) (D := D) (cT := cT) (n := n) (adK := adK) (adV := adV) h2 hr_5
  refine tt_cI (pc := 1432) (tt_vi E lmL_206 mtX12_endsIn hc_6 h2 rfl rfl (Nat.le_of_ble_eq_true rfl) ⟨(Nat.le_of_ble_eq_true rfl), (Nat.le_of_ble_eq_true rfl)⟩ ⟨hk0, hs0⟩ dL_law_1432) ?_
  refine tt_icmp_eq (pc := 1435) (tgt := 2449) E dL_law_1435 rfl (fun c_8 => ?_) (fun c_8 => ?_)
  · have hf := ip c_8 hf
    obtain ⟨v_7, ev_7, hf⟩ := nm_ex hf
    refine tt_iinc (pc := 2449) (i := 4) (j := 4) (lv' := [(4, .int v_7), (0, .ref b), (1, .ref (B + o1)), (2, .ref (B + o2)), (3, .ref (B + o3))]) E dL_law_2449 rfl (ev_7).symm (Nat.le_of_ble_eq_true rfl) rfl ?_
    refine tt_goto (pc := 2452) (tgt := 23) E dL_law_2452 rfl ?_
    refine tt_sub [1, 2, 3, 4, 0] (lv' := [(0, .ref b), (1, .ref (B + o1)), (2, .ref (B + o2)), (3, .ref (B + o3)), (4, .int v_7)]) rfl ?_
    refine tt_wide (kc' := kc + 1) (ks' := ks + 6) (Nat.le_succ kc) (Nat.le_add_right ks 6) ?_
    exact hk v_7 r_4.2 hf
  · have hf := ine c_8 hf
    refine tt_iconst (pc := 1438) (v := 0) E dL_law_1438 ic_0 ?_
    exact absurd hf ret0
set_option maxHeartbeats 4000000 in
theorem tL_law_1440 {p : Program} {l : Launch} {e : Env} {s : State} {m : MethodId} {below : List Frame} {meth : Method} {c : Code} {B : Nat} {D : va_G} {cT : Nat → ClassId} {n : Nat} {adK adV : Nat → Nat} {b L : Nat} {xs : Nat → Int32} {res : Mem} (E : EE p s m #[Value.ref b] c cL_law 9 RL B D cT (XW B adK adV)) (hr : meth.sig.returnType = ret) (hlk : meth.locks = false) (hl0 : l.stackTraces = false) (hX : va_X b L xs s s.heap) (hbB : b < B) (hbl : b < s.heap.size) (hBs : s.heap.size ≤ B) {o1 o2 o3 : Nat} (h1 : isK n o1 8) (h2 : isK n o2 9) (h3 : isK n o3 12) {kc ks : Nat} (hk1 : kc + 1 ≤ 601024) (hs1 : ks + 6 ≤ 7293034) {kb : Int32 → Mem → Option (Int32 × Mem)} (hk : ∀ (v4 : Int32) (μ : Mem), kb v4 μ = some (1, res) → TT p l e room_1 s m #[Value.ref b] below meth c (lw_Z below #[Value.ref b] s) 9 B D cT n (kc + 1) (ks + 6) μ 23 [(0, .ref b), (1, .ref (B + o1)), (2, .ref (B + o2)), (3, .ref (B + o3)), (4, .int v4)] []) {v4 : Int32} {μ : Mem} (hf : fL_law_1440 L xs o1 o2 o3 kb v4 μ = some (1, res)) : TT p l e room_1 s m #[Value.ref b] below meth c (lw_Z below #[Value.ref b] s) 9 B D cT n kc ks μ 1440 [(0, .ref b), (1, .ref (B + o1)), (2, .ref (B + o2)), (3, .ref (B + o3)), (4, .int v4)] [] := by
  have hk0 : kc ≤ 601024 := by omega
  have hs0 : ks ≤ 7293034 := by omega
  unfold fL_law_1440 at hf
  refine tt_aload_n (pc := 1440) (i := 1) (j := 1) E dL_law_1440 rfl rfl ?_
  obtain ⟨r_1, hr_2, hf⟩ := bd_some hf
  have hc_3 := cX11_winner_ok (l := l) (B := B) (D := D) (cT := cT) (n := n) (adK := adK) (adV := adV) h1 hr_2
  refine tt_cI (pc := 1441) (tt_vi E lmL_207 mtX11_winner hc_3 h1 rfl rfl (Nat.le_of_ble_eq_true rfl) ⟨(Nat.le_of_ble_eq_true rfl), (Nat.le_of_ble_eq_true rfl)⟩ ⟨hk0, hs0⟩ dL_law_1441) ?_
  refine tt_aload_n (pc := 1444) (i := 2) (j := 2) E dL_law_1444 rfl rfl ?_
  obtain ⟨r_4, hr_5, hf⟩ := bd_some hf
  have hc_6 := cX12_winner_ok (l := l) (B := B) (D := D) (cT := cT) (n := n) (adK := adK) (adV := adV) h2 hr_5
  refine tt_cI (pc := 1445) (tt_vi E lmL_210 mtX12_winner hc_6 h2 rfl rfl (Nat.le_of_ble_eq_true rfl) ⟨(Nat.le_of_ble_eq_true rfl), (Nat.le_of_ble_eq_true rfl)⟩ ⟨hk0, hs0⟩ dL_law_1445) ?_
  refine tt_icmp_eq (pc := 1448) (tgt := 2449) E dL_law_1448 rfl (fun c_8 => ?_) (fun c_8 => ?_)
  · have hf := ip c_8 hf
    obtain ⟨v_7, ev_7, hf⟩ := nm_ex hf
    refine tt_iinc (pc := 2449) (i := 4) (j := 4) (lv' := [(4, .int v_7), (0, .ref b), (1, .ref (B + o1)), (2, .ref (B + o2)), (3, .ref (B + o3))]) E dL_law_2449 rfl (ev_7).symm (Nat.le_of_ble_eq_true rfl) rfl ?_
    refine tt_goto (pc := 2452) (tgt := 23) E dL_law_2452 rfl ?_
    refine tt_sub [1, 2, 3, 4, 0] (lv' := [(0, .ref b), (1, .ref (B + o1)), (2, .ref (B + o2)), (3, .ref (B + o3)), (4, .int v_7)]) rfl ?_
    refine tt_wide (kc' := kc + 1) (ks' := ks + 6) (Nat.le_succ kc) (Nat.le_add_right ks 6) ?_
    exact hk v_7 r_4.2 hf
  · have hf := ine c_8 hf
    refine tt_iconst (pc := 1451) (v := 0) E dL_law_1451 ic_0 ?_
    exact absurd hf ret0
set_option maxHeartbeats 4000000 in
theorem tL_law_1453 {p : Program} {l : Launch} {e : Env} {s : State} {m : MethodId} {below : List Frame} {meth : Method} {c : Code} {B : Nat} {D : va_G} {cT : Nat → ClassId} {n : Nat} {adK adV : Nat → Nat} {b L : Nat} {xs : Nat → Int32} {res : Mem} (E : EE p s m #[Value.ref b] c cL_law 9 RL B D cT (XW B adK adV)) (hr : meth.sig.returnType = ret) (hlk : meth.locks = false) (hl0 : l.stackTraces = false) (hX : va_X b L xs s s.heap) (hbB : b < B) (hbl : b < s.heap.size) (hBs : s.heap.size ≤ B) {o1 o2 o3 : Nat} (h1 : isK n o1 8) (h2 : isK n o2 9) (h3 : isK n o3 12) {kc ks : Nat} (hk1 : kc + 1 ≤ 601024) (hs1 : ks + 6 ≤ 7293034) {kb : Int32 → Mem → Option (Int32 × Mem)} (hk : ∀ (v4 : Int32) (μ : Mem), kb v4 μ = some (1, res) → TT p l e room_1 s m #[Value.ref b] below meth c (lw_Z below #[Value.ref b] s) 9 B D cT n (kc + 1) (ks + 6) μ 23 [(0, .ref b), (1, .ref (B + o1)), (2, .ref (B + o2)), (3, .ref (B + o3)), (4, .int v4)] []) {v4 : Int32} {μ : Mem} (hf : fL_law_1453 L xs o1 o2 o3 kb v4 μ = some (1, res)) : TT p l e room_1 s m #[Value.ref b] below meth c (lw_Z below #[Value.ref b] s) 9 B D cT n kc ks μ 1453 [(0, .ref b), (1, .ref (B + o1)), (2, .ref (B + o2)), (3, .ref (B + o3)), (4, .int v4)] [] := by
  have hk0 : kc ≤ 601024 := by omega
  have hs0 : ks ≤ 7293034 := by omega
  unfold fL_law_1453 at hf
  refine tt_aload_n (pc := 1453) (i := 1) (j := 1) E dL_law_1453 rfl rfl ?_
  refine tt_aload_n (pc := 1454) (i := 0) (j := 0) E dL_law_1454 rfl rfl ?_
  refine tt_iload (pc := 1455) (i := 4) (j := 4) E dL_law_1455 rfl ?_
  refine tt_iconst (pc := 1457) (v := 1) E dL_law_1457 ic_1 ?_
  refine tt_iadd (pc := 1458) E dL_law_1458 ?_
  obtain ⟨g_1, hf⟩ := gd_some hf
  refine tt_scA (pc := 1459) E hX hbB hbl g_1 dL_law_1459 ?_
  refine tt_aload_n (pc := 1460) (i := 3) (j := 3) E dL_law_1460 rfl rfl ?_
  obtain ⟨r_2, hr_3, hf⟩ := bd_some hf
  have hc_4 := cL_firstLoss_ok (l := l) (B := B) (D := D) (cT := cT) (n := n) (adK := adK) (adV := adV) hl0 h1 h3 hr_3
  refine tt_cI (pc := 1461) (tt_siW E lmL_211 mtL_firstLoss hc_4 rfl rfl (Nat.le_of_ble_eq_true rfl) ⟨(Nat.le_of_ble_eq_true rfl), (Nat.le_of_ble_eq_true rfl)⟩ ⟨hk1, hs1⟩ dL_law_1461) ?_
  refine tt_istore (pc := 1464) (i := 5) (lv' := [(5, .int r_2.1), (0, .ref b), (1, .ref (B + o1)), (2, .ref (B + o2)), (3, .ref (B + o3)), (4, .int v4)]) E dL_law_1464 (Nat.le_of_ble_eq_true rfl) rfl ?_
  refine tt_aload_n (pc := 1466) (i := 2) (j := 3) E dL_law_1466 rfl rfl ?_
  refine tt_aload_n (pc := 1467) (i := 0) (j := 1) E dL_law_1467 rfl rfl ?_
  refine tt_iload (pc := 1468) (i := 4) (j := 5) E dL_law_1468 rfl ?_
  refine tt_iconst (pc := 1470) (v := 1) E dL_law_1470 ic_1 ?_
  refine tt_iadd (pc := 1471) E dL_law_1471 ?_
  obtain ⟨g_5, hf⟩ := gd_some hf
  refine tt_scA (pc := 1472) E hX hbB hbl g_5 dL_law_1472 ?_
  obtain ⟨r_6, hr_7, hf⟩ := bd_some hf
  have hc_8 := cX12_firstLoss_ok (l := l) (B := B) (D := D) (cT := cT) (n := n) (adK := adK) (adV := adV) h2 hr_7
  refine tt_cI (pc := 1473) (tt_vi E lmL_213 mtX12_firstLoss hc_8 h2 rfl rfl (Nat.le_of_ble_eq_true rfl) ⟨(Nat.le_of_ble_eq_true rfl), (Nat.le_of_ble_eq_true rfl)⟩ ⟨hk1, hs1⟩ dL_law_1473) ?_
  refine tt_istore (pc := 1476) (i := 6) (lv' := [(6, .int r_6.1), (5, .int r_2.1), (0, .ref b), (1, .ref (B + o1)), (2, .ref (B + o2)), (3, .ref (B + o3)), (4, .int v4)]) E dL_law_1476 (Nat.le_of_ble_eq_true rfl) rfl ?_
  refine tt_aload_n (pc := 1478) (i := 2) (j := 4) E dL_law_1478 rfl rfl ?_
  obtain ⟨r_9, hr_10, hf⟩ := bd_some hf
  have hc_11 := cX12_thrown_ok (l := l) (B := B) (D := D) (cT := cT) (n := n) (adK := adK) (adV := adV) h2 hr_10
  refine tt_cI (pc := 1479) (tt_vi E lmL_127 mtX12_thrown hc_11 h2 rfl rfl (Nat.le_of_ble_eq_true rfl) ⟨(Nat.le_of_ble_eq_true rfl), (Nat.le_of_ble_eq_true rfl)⟩ ⟨hk1, hs1⟩ dL_law_1479) ?_
  refine tt_iload (pc := 1482) (i := 5) (j := 1) E dL_law_1482 rfl ?_
  refine tt_icmp_eq (pc := 1484) (tgt := 1489) E dL_law_1484 rfl (fun c_17 => ?_) (fun c_17 => ?_)
  · have hf := ip c_17 hf
    refine tt_iload (pc := 1489) (i := 5) (j := 1) E dL_law_1489 rfl ?_
    refine tt_if_ne (pc := 1491) (tgt := 1506) E dL_law_1491 rfl (fun c_16 => ?_) (fun c_16 => ?_)
    · have hf := ine c_16 hf
      refine tt_goto (pc := 1506) (tgt := 2449) E dL_law_1506 rfl ?_
      obtain ⟨v_12, ev_12, hf⟩ := nm_ex hf
      refine tt_iinc (pc := 2449) (i := 4) (j := 6) (lv' := [(4, .int v_12), (6, .int r_6.1), (5, .int r_2.1), (0, .ref b), (1, .ref (B + o1)), (2, .ref (B + o2)), (3, .ref (B + o3))]) E dL_law_2449 rfl (ev_12).symm (Nat.le_of_ble_eq_true rfl) rfl ?_
      refine tt_goto (pc := 2452) (tgt := 23) E dL_law_2452 rfl ?_
      refine tt_sub [3, 4, 5, 6, 0] (lv' := [(0, .ref b), (1, .ref (B + o1)), (2, .ref (B + o2)), (3, .ref (B + o3)), (4, .int v_12)]) rfl ?_
      exact hk v_12 r_6.2 hf
    · have hf := ip c_16 hf
      refine tt_aload_n (pc := 1494) (i := 3) (j := 5) E dL_law_1494 rfl rfl ?_
      refine tt_iconst (pc := 1495) (v := 0) E dL_law_1495 ic_0 ?_
      obtain ⟨g_13, hf⟩ := gd_some hf
      refine tt_lald (pc := 1496) E h3 g_13 dL_law_1496 ?_
      refine tt_iload (pc := 1497) (i := 6) (j := 0) E dL_law_1497 rfl ?_
      refine tt_i2l (pc := 1499) E dL_law_1499 ?_
      refine tt_lcmp (pc := 1500) E dL_law_1500 ?_
      refine tt_if_eq (pc := 1501) (tgt := 1506) E dL_law_1501 rfl (fun c_15 => ?_) (fun c_15 => ?_)
      · have hf := ip c_15 hf
        refine tt_goto (pc := 1506) (tgt := 2449) E dL_law_1506 rfl ?_
        obtain ⟨v_14, ev_14, hf⟩ := nm_ex hf
        refine tt_iinc (pc := 2449) (i := 4) (j := 6) (lv' := [(4, .int v_14), (6, .int r_6.1), (5, .int r_2.1), (0, .ref b), (1, .ref (B + o1)), (2, .ref (B + o2)), (3, .ref (B + o3))]) E dL_law_2449 rfl (ev_14).symm (Nat.le_of_ble_eq_true rfl) rfl ?_
        refine tt_goto (pc := 2452) (tgt := 23) E dL_law_2452 rfl ?_
        refine tt_sub [3, 4, 5, 6, 0] (lv' := [(0, .ref b), (1, .ref (B + o1)), (2, .ref (B + o2)), (3, .ref (B + o3)), (4, .int v_14)]) rfl ?_
        exact hk v_14 r_6.2 hf
      · have hf := ine c_15 hf
        refine tt_iconst (pc := 1504) (v := 0) E dL_law_1504 ic_0 ?_
        exact absurd hf ret0
  · have hf := ine c_17 hf
    refine tt_iconst (pc := 1487) (v := 0) E dL_law_1487 ic_0 ?_
    exact absurd hf ret0
set_option maxHeartbeats 4000000 in
theorem tL_law_1509 {p : Program} {l : Launch} {e : Env} {s : State} {m : MethodId} {below : List Frame} {meth : Method} {c : Code} {B : Nat} {D : va_G} {cT : Nat → ClassId} {n : Nat} {adK adV : Nat → Nat} {b L : Nat} {xs : Nat → Int32} {res : Mem} (E : EE p s m #[Value.ref b] c cL_law 9 RL B D cT (XW B adK adV)) (hr : meth.sig.returnType = ret) (hlk : meth.locks = false) (hl0 : l.stackTraces = false) (hX : va_X b L xs s s.heap) (hbB : b < B) (hbl : b < s.heap.size) (hBs : s.heap.size ≤ B) {o1 o2 o3 : Nat} (h1 : isK n o1 8) (h2 : isK n o2 9) (h3 : isK n o3 12) {kc ks : Nat} (hk1 : kc + 1 ≤ 601024) (hs1 : ks + 6 ≤ 7293034) {kb : Int32 → Mem → Option (Int32 × Mem)} (hk : ∀ (v4 : Int32) (μ : Mem), kb v4 μ = some (1, res) → TT p l e room_1 s m #[Value.ref b] below meth c (lw_Z below #[Value.ref b] s) 9 B D cT n (kc + 1) (ks + 6) μ 23 [(0, .ref b), (1, .ref (B + o1)), (2, .ref (B + o2)), (3, .ref (B + o3)), (4, .int v4)] []) {v4 : Int32} {μ : Mem} (hf : fL_law_1509 L xs o1 o2 o3 kb v4 μ = some (1, res)) : TT p l e room_1 s m #[Value.ref b] below meth c (lw_Z below #[Value.ref b] s) 9 B D cT n kc ks μ 1509 [(0, .ref b), (1, .ref (B + o1)), (2, .ref (B + o2)), (3, .ref (B + o3)), (4, .int v4)] [] := by
  have hk0 : kc ≤ 601024 := by omega
  have hs0 : ks ≤ 7293034 := by omega
  unfold fL_law_1509 at hf
  refine tt_aload_n (pc := 1509) (i := 1) (j := 1) E dL_law_1509 rfl rfl ?_
  obtain ⟨r_1, hr_2, hf⟩ := bd_some hf
  have hc_3 := cX11_repeatIn_ok (l := l) (B := B) (D := D) (cT := cT) (n := n) (adK := adK) (adV := adV) h1 hr_2
  refine tt_cI (pc := 1510) (tt_vi E lmL_214 mtX11_repeatIn hc_3 h1 rfl rfl (Nat.le_of_ble_eq_true rfl) ⟨(Nat.le_of_ble_eq_true rfl), (Nat.le_of_ble_eq_true rfl)⟩ ⟨hk0, hs0⟩ dL_law_1510) ?_
  refine tt_aload_n (pc := 1513) (i := 2) (j := 2) E dL_law_1513 rfl rfl ?_
  obtain ⟨r_4, hr_5, hf⟩ := bd_some hf
  have hc_6 := cX12_repeatIn_ok (l := l) (B := B) (D := D) (cT := cT) (n := n) (adK := adK) (adV := adV) h2 hr_5
  refine tt_cI (pc := 1514) (tt_vi E lmL_217 mtX12_repeatIn hc_6 h2 rfl rfl (Nat.le_of_ble_eq_true rfl) ⟨(Nat.le_of_ble_eq_true rfl), (Nat.le_of_ble_eq_true rfl)⟩ ⟨hk0, hs0⟩ dL_law_1514) ?_
  refine tt_icmp_eq (pc := 1517) (tgt := 2449) E dL_law_1517 rfl (fun c_8 => ?_) (fun c_8 => ?_)
  · have hf := ip c_8 hf
    obtain ⟨v_7, ev_7, hf⟩ := nm_ex hf
    refine tt_iinc (pc := 2449) (i := 4) (j := 4) (lv' := [(4, .int v_7), (0, .ref b), (1, .ref (B + o1)), (2, .ref (B + o2)), (3, .ref (B + o3))]) E dL_law_2449 rfl (ev_7).symm (Nat.le_of_ble_eq_true rfl) rfl ?_
    refine tt_goto (pc := 2452) (tgt := 23) E dL_law_2452 rfl ?_
    refine tt_sub [1, 2, 3, 4, 0] (lv' := [(0, .ref b), (1, .ref (B + o1)), (2, .ref (B + o2)), (3, .ref (B + o3)), (4, .int v_7)]) rfl ?_
    refine tt_wide (kc' := kc + 1) (ks' := ks + 6) (Nat.le_succ kc) (Nat.le_add_right ks 6) ?_
    exact hk v_7 r_4.2 hf
  · have hf := ine c_8 hf
    refine tt_iconst (pc := 1520) (v := 0) E dL_law_1520 ic_0 ?_
    exact absurd hf ret0
set_option maxHeartbeats 4000000 in
theorem tL_law_1522 {p : Program} {l : Launch} {e : Env} {s : State} {m : MethodId} {below : List Frame} {meth : Method} {c : Code} {B : Nat} {D : va_G} {cT : Nat → ClassId} {n : Nat} {adK adV : Nat → Nat} {b L : Nat} {xs : Nat → Int32} {res : Mem} (E : EE p s m #[Value.ref b] c cL_law 9 RL B D cT (XW B adK adV)) (hr : meth.sig.returnType = ret) (hlk : meth.locks = false) (hl0 : l.stackTraces = false) (hX : va_X b L xs s s.heap) (hbB : b < B) (hbl : b < s.heap.size) (hBs : s.heap.size ≤ B) {o1 o2 o3 : Nat} (h1 : isK n o1 8) (h2 : isK n o2 9) (h3 : isK n o3 12) {kc ks : Nat} (hk1 : kc + 1 ≤ 601024) (hs1 : ks + 6 ≤ 7293034) {kb : Int32 → Mem → Option (Int32 × Mem)} (hk : ∀ (v4 : Int32) (μ : Mem), kb v4 μ = some (1, res) → TT p l e room_1 s m #[Value.ref b] below meth c (lw_Z below #[Value.ref b] s) 9 B D cT n (kc + 1) (ks + 6) μ 23 [(0, .ref b), (1, .ref (B + o1)), (2, .ref (B + o2)), (3, .ref (B + o3)), (4, .int v4)] []) {v4 : Int32} {μ : Mem} (hf : fL_law_1522 L xs o1 o2 o3 kb v4 μ = some (1, res)) : TT p l e room_1 s m #[Value.ref b] below meth c (lw_Z below #[Value.ref b] s) 9 B D cT n kc ks μ 1522 [(0, .ref b), (1, .ref (B + o1)), (2, .ref (B + o2)), (3, .ref (B + o3)), (4, .int v4)] [] := by
  have hk0 : kc ≤ 601024 := by omega
  have hs0 : ks ≤ 7293034 := by omega
  unfold fL_law_1522 at hf
  refine tt_aload_n (pc := 1522) (i := 1) (j := 1) E dL_law_1522 rfl rfl ?_
  obtain ⟨r_1, hr_2, hf⟩ := bd_some hf
  have hc_3 := cX11_cycle_ok (l := l) (B := B) (D := D) (cT := cT) (n := n) (adK := adK) (adV := adV) h1 hr_2
  refine tt_cI (pc := 1523) (tt_vi E lmL_218 mtX11_cycle hc_3 h1 rfl rfl (Nat.le_of_ble_eq_true rfl) ⟨(Nat.le_of_ble_eq_true rfl), (Nat.le_of_ble_eq_true rfl)⟩ ⟨hk0, hs0⟩ dL_law_1523) ?_
  refine tt_aload_n (pc := 1526) (i := 2) (j := 2) E dL_law_1526 rfl rfl ?_
  obtain ⟨r_4, hr_5, hf⟩ := bd_some hf
  have hc_6 := cX12_cycle_ok (l := l) (B := B) (D := D) (cT := cT) (n := n) (adK := adK) (adV := adV) h2 hr_5
  refine tt_cI (pc := 1527) (tt_vi E lmL_221 mtX12_cycle hc_6 h2 rfl rfl (Nat.le_of_ble_eq_true rfl) ⟨(Nat.le_of_ble_eq_true rfl), (Nat.le_of_ble_eq_true rfl)⟩ ⟨hk0, hs0⟩ dL_law_1527) ?_
  refine tt_icmp_eq (pc := 1530) (tgt := 2449) E dL_law_1530 rfl (fun c_8 => ?_) (fun c_8 => ?_)
  · have hf := ip c_8 hf
    obtain ⟨v_7, ev_7, hf⟩ := nm_ex hf
    refine tt_iinc (pc := 2449) (i := 4) (j := 4) (lv' := [(4, .int v_7), (0, .ref b), (1, .ref (B + o1)), (2, .ref (B + o2)), (3, .ref (B + o3))]) E dL_law_2449 rfl (ev_7).symm (Nat.le_of_ble_eq_true rfl) rfl ?_
    refine tt_goto (pc := 2452) (tgt := 23) E dL_law_2452 rfl ?_
    refine tt_sub [1, 2, 3, 4, 0] (lv' := [(0, .ref b), (1, .ref (B + o1)), (2, .ref (B + o2)), (3, .ref (B + o3)), (4, .int v_7)]) rfl ?_
    refine tt_wide (kc' := kc + 1) (ks' := ks + 6) (Nat.le_succ kc) (Nat.le_add_right ks 6) ?_
    exact hk v_7 r_4.2 hf
  · have hf := ine c_8 hf
    refine tt_iconst (pc := 1533) (v := 0) E dL_law_1533 ic_0 ?_
    exact absurd hf ret0
set_option maxHeartbeats 4000000 in
theorem tL_law_1535 {p : Program} {l : Launch} {e : Env} {s : State} {m : MethodId} {below : List Frame} {meth : Method} {c : Code} {B : Nat} {D : va_G} {cT : Nat → ClassId} {n : Nat} {adK adV : Nat → Nat} {b L : Nat} {xs : Nat → Int32} {res : Mem} (E : EE p s m #[Value.ref b] c cL_law 9 RL B D cT (XW B adK adV)) (hr : meth.sig.returnType = ret) (hlk : meth.locks = false) (hl0 : l.stackTraces = false) (hX : va_X b L xs s s.heap) (hbB : b < B) (hbl : b < s.heap.size) (hBs : s.heap.size ≤ B) {o1 o2 o3 : Nat} (h1 : isK n o1 8) (h2 : isK n o2 9) (h3 : isK n o3 12) {kc ks : Nat} (hk1 : kc + 1 ≤ 601024) (hs1 : ks + 6 ≤ 7293034) {kb : Int32 → Mem → Option (Int32 × Mem)} (hk : ∀ (v4 : Int32) (μ : Mem), kb v4 μ = some (1, res) → TT p l e room_1 s m #[Value.ref b] below meth c (lw_Z below #[Value.ref b] s) 9 B D cT n (kc + 1) (ks + 6) μ 23 [(0, .ref b), (1, .ref (B + o1)), (2, .ref (B + o2)), (3, .ref (B + o3)), (4, .int v4)] []) {v4 : Int32} {μ : Mem} (hf : fL_law_1535 L xs o1 o2 o3 kb v4 μ = some (1, res)) : TT p l e room_1 s m #[Value.ref b] below meth c (lw_Z below #[Value.ref b] s) 9 B D cT n kc ks μ 1535 [(0, .ref b), (1, .ref (B + o1)), (2, .ref (B + o2)), (3, .ref (B + o3)), (4, .int v4)] [] := by
  have hk0 : kc ≤ 601024 := by omega
  have hs0 : ks ≤ 7293034 := by omega
  unfold fL_law_1535 at hf
  refine tt_aload_n (pc := 1535) (i := 1) (j := 1) E dL_law_1535 rfl rfl ?_
  refine tt_aload_n (pc := 1536) (i := 0) (j := 0) E dL_law_1536 rfl rfl ?_
  refine tt_iload (pc := 1537) (i := 4) (j := 4) E dL_law_1537 rfl ?_
  refine tt_iconst (pc := 1539) (v := 1) E dL_law_1539 ic_1 ?_
  refine tt_iadd (pc := 1540) E dL_law_1540 ?_
  obtain ⟨g_1, hf⟩ := gd_some hf
  refine tt_scA (pc := 1541) E hX hbB hbl g_1 dL_law_1541 ?_
  refine tt_aload_n (pc := 1542) (i := 3) (j := 3) E dL_law_1542 rfl rfl ?_
  obtain ⟨r_2, hr_3, hf⟩ := bd_some hf
  have hc_4 := cL_leastSpeed_ok (l := l) (B := B) (D := D) (cT := cT) (n := n) (adK := adK) (adV := adV) hl0 h1 h3 hr_3
  refine tt_cI (pc := 1543) (tt_siW E lmL_222 mtL_leastSpeed hc_4 rfl rfl (Nat.le_of_ble_eq_true rfl) ⟨(Nat.le_of_ble_eq_true rfl), (Nat.le_of_ble_eq_true rfl)⟩ ⟨hk1, hs1⟩ dL_law_1543) ?_
  refine tt_istore (pc := 1546) (i := 5) (lv' := [(5, .int r_2.1), (0, .ref b), (1, .ref (B + o1)), (2, .ref (B + o2)), (3, .ref (B + o3)), (4, .int v4)]) E dL_law_1546 (Nat.le_of_ble_eq_true rfl) rfl ?_
  refine tt_aload_n (pc := 1548) (i := 2) (j := 3) E dL_law_1548 rfl rfl ?_
  refine tt_aload_n (pc := 1549) (i := 0) (j := 1) E dL_law_1549 rfl rfl ?_
  refine tt_iload (pc := 1550) (i := 4) (j := 5) E dL_law_1550 rfl ?_
  refine tt_iconst (pc := 1552) (v := 1) E dL_law_1552 ic_1 ?_
  refine tt_iadd (pc := 1553) E dL_law_1553 ?_
  obtain ⟨g_5, hf⟩ := gd_some hf
  refine tt_scA (pc := 1554) E hX hbB hbl g_5 dL_law_1554 ?_
  obtain ⟨r_6, hr_7, hf⟩ := bd_some hf
  have hc_8 := cX12_leastSpeed_ok (l := l) (B := B) (D := D) (cT := cT) (n := n) (adK := adK) (adV := adV) h2 hr_7
  refine tt_cI (pc := 1555) (tt_vi E lmL_224 mtX12_leastSpeed hc_8 h2 rfl rfl (Nat.le_of_ble_eq_true rfl) ⟨(Nat.le_of_ble_eq_true rfl), (Nat.le_of_ble_eq_true rfl)⟩ ⟨hk1, hs1⟩ dL_law_1555) ?_
  refine tt_istore (pc := 1558) (i := 6) (lv' := [(6, .int r_6.1), (5, .int r_2.1), (0, .ref b), (1, .ref (B + o1)), (2, .ref (B + o2)), (3, .ref (B + o3)), (4, .int v4)]) E dL_law_1558 (Nat.le_of_ble_eq_true rfl) rfl ?_
  refine tt_aload_n (pc := 1560) (i := 2) (j := 4) E dL_law_1560 rfl rfl ?_
  obtain ⟨r_9, hr_10, hf⟩ := bd_some hf
  have hc_11 := cX12_thrown_ok (l := l) (B := B) (D := D) (cT := cT) (n := n) (adK := adK) (adV := adV) h2 hr_10
  refine tt_cI (pc := 1561) (tt_vi E lmL_127 mtX12_thrown hc_11 h2 rfl rfl (Nat.le_of_ble_eq_true rfl) ⟨(Nat.le_of_ble_eq_true rfl), (Nat.le_of_ble_eq_true rfl)⟩ ⟨hk1, hs1⟩ dL_law_1561) ?_
  refine tt_iload (pc := 1564) (i := 5) (j := 1) E dL_law_1564 rfl ?_
  refine tt_icmp_eq (pc := 1566) (tgt := 1571) E dL_law_1566 rfl (fun c_17 => ?_) (fun c_17 => ?_)
  · have hf := ip c_17 hf
    refine tt_iload (pc := 1571) (i := 5) (j := 1) E dL_law_1571 rfl ?_
    refine tt_if_ne (pc := 1573) (tgt := 1588) E dL_law_1573 rfl (fun c_16 => ?_) (fun c_16 => ?_)
    · have hf := ine c_16 hf
      refine tt_goto (pc := 1588) (tgt := 2449) E dL_law_1588 rfl ?_
      obtain ⟨v_12, ev_12, hf⟩ := nm_ex hf
      refine tt_iinc (pc := 2449) (i := 4) (j := 6) (lv' := [(4, .int v_12), (6, .int r_6.1), (5, .int r_2.1), (0, .ref b), (1, .ref (B + o1)), (2, .ref (B + o2)), (3, .ref (B + o3))]) E dL_law_2449 rfl (ev_12).symm (Nat.le_of_ble_eq_true rfl) rfl ?_
      refine tt_goto (pc := 2452) (tgt := 23) E dL_law_2452 rfl ?_
      refine tt_sub [3, 4, 5, 6, 0] (lv' := [(0, .ref b), (1, .ref (B + o1)), (2, .ref (B + o2)), (3, .ref (B + o3)), (4, .int v_12)]) rfl ?_
      exact hk v_12 r_6.2 hf
    · have hf := ip c_16 hf
      refine tt_aload_n (pc := 1576) (i := 3) (j := 5) E dL_law_1576 rfl rfl ?_
      refine tt_iconst (pc := 1577) (v := 0) E dL_law_1577 ic_0 ?_
      obtain ⟨g_13, hf⟩ := gd_some hf
      refine tt_lald (pc := 1578) E h3 g_13 dL_law_1578 ?_
      refine tt_iload (pc := 1579) (i := 6) (j := 0) E dL_law_1579 rfl ?_
      refine tt_i2l (pc := 1581) E dL_law_1581 ?_
      refine tt_lcmp (pc := 1582) E dL_law_1582 ?_
      refine tt_if_eq (pc := 1583) (tgt := 1588) E dL_law_1583 rfl (fun c_15 => ?_) (fun c_15 => ?_)
      · have hf := ip c_15 hf
        refine tt_goto (pc := 1588) (tgt := 2449) E dL_law_1588 rfl ?_
        obtain ⟨v_14, ev_14, hf⟩ := nm_ex hf
        refine tt_iinc (pc := 2449) (i := 4) (j := 6) (lv' := [(4, .int v_14), (6, .int r_6.1), (5, .int r_2.1), (0, .ref b), (1, .ref (B + o1)), (2, .ref (B + o2)), (3, .ref (B + o3))]) E dL_law_2449 rfl (ev_14).symm (Nat.le_of_ble_eq_true rfl) rfl ?_
        refine tt_goto (pc := 2452) (tgt := 23) E dL_law_2452 rfl ?_
        refine tt_sub [3, 4, 5, 6, 0] (lv' := [(0, .ref b), (1, .ref (B + o1)), (2, .ref (B + o2)), (3, .ref (B + o3)), (4, .int v_14)]) rfl ?_
        exact hk v_14 r_6.2 hf
      · have hf := ine c_15 hf
        refine tt_iconst (pc := 1586) (v := 0) E dL_law_1586 ic_0 ?_
        exact absurd hf ret0
  · have hf := ine c_17 hf
    refine tt_iconst (pc := 1569) (v := 0) E dL_law_1569 ic_0 ?_
    exact absurd hf ret0
set_option maxHeartbeats 4000000 in
theorem tL_law_1591 {p : Program} {l : Launch} {e : Env} {s : State} {m : MethodId} {below : List Frame} {meth : Method} {c : Code} {B : Nat} {D : va_G} {cT : Nat → ClassId} {n : Nat} {adK adV : Nat → Nat} {b L : Nat} {xs : Nat → Int32} {res : Mem} (E : EE p s m #[Value.ref b] c cL_law 9 RL B D cT (XW B adK adV)) (hr : meth.sig.returnType = ret) (hlk : meth.locks = false) (hl0 : l.stackTraces = false) (hX : va_X b L xs s s.heap) (hbB : b < B) (hbl : b < s.heap.size) (hBs : s.heap.size ≤ B) {o1 o2 o3 : Nat} (h1 : isK n o1 8) (h2 : isK n o2 9) (h3 : isK n o3 12) {kc ks : Nat} (hk1 : kc + 1 ≤ 601024) (hs1 : ks + 6 ≤ 7293034) {kb : Int32 → Mem → Option (Int32 × Mem)} (hk : ∀ (v4 : Int32) (μ : Mem), kb v4 μ = some (1, res) → TT p l e room_1 s m #[Value.ref b] below meth c (lw_Z below #[Value.ref b] s) 9 B D cT n (kc + 1) (ks + 6) μ 23 [(0, .ref b), (1, .ref (B + o1)), (2, .ref (B + o2)), (3, .ref (B + o3)), (4, .int v4)] []) {v4 : Int32} {μ : Mem} (hf : fL_law_1591 L xs o1 o2 o3 kb v4 μ = some (1, res)) : TT p l e room_1 s m #[Value.ref b] below meth c (lw_Z below #[Value.ref b] s) 9 B D cT n kc ks μ 1591 [(0, .ref b), (1, .ref (B + o1)), (2, .ref (B + o2)), (3, .ref (B + o3)), (4, .int v4)] [] := by
  have hk0 : kc ≤ 601024 := by omega
  have hs0 : ks ≤ 7293034 := by omega
  unfold fL_law_1591 at hf
  refine tt_aload_n (pc := 1591) (i := 1) (j := 1) E dL_law_1591 rfl rfl ?_
  refine tt_aload_n (pc := 1592) (i := 0) (j := 0) E dL_law_1592 rfl rfl ?_
  refine tt_iload (pc := 1593) (i := 4) (j := 4) E dL_law_1593 rfl ?_
  refine tt_iconst (pc := 1595) (v := 1) E dL_law_1595 ic_1 ?_
  refine tt_iadd (pc := 1596) E dL_law_1596 ?_
  obtain ⟨g_1, hf⟩ := gd_some hf
  refine tt_scA (pc := 1597) E hX hbB hbl g_1 dL_law_1597 ?_
  refine tt_aload_n (pc := 1598) (i := 0) (j := 0) E dL_law_1598 rfl rfl ?_
  refine tt_iload (pc := 1599) (i := 4) (j := 4) E dL_law_1599 rfl ?_
  refine tt_iconst (pc := 1601) (v := 2) E dL_law_1601 ic_2 ?_
  refine tt_iadd (pc := 1602) E dL_law_1602 ?_
  obtain ⟨g_2, hf⟩ := gd_some hf
  refine tt_scA (pc := 1603) E hX hbB hbl g_2 dL_law_1603 ?_
  refine tt_aload_n (pc := 1604) (i := 3) (j := 3) E dL_law_1604 rfl rfl ?_
  obtain ⟨r_3, hr_4, hf⟩ := bd_some hf
  have hc_5 := cL_bestPush_ok (l := l) (B := B) (D := D) (cT := cT) (n := n) (adK := adK) (adV := adV) hl0 h1 h3 hr_4
  refine tt_cI (pc := 1605) (tt_siW E lmL_225 mtL_bestPush hc_5 rfl rfl (Nat.le_of_ble_eq_true rfl) ⟨(Nat.le_of_ble_eq_true rfl), (Nat.le_of_ble_eq_true rfl)⟩ ⟨hk1, hs1⟩ dL_law_1605) ?_
  refine tt_istore (pc := 1608) (i := 5) (lv' := [(5, .int r_3.1), (0, .ref b), (1, .ref (B + o1)), (2, .ref (B + o2)), (3, .ref (B + o3)), (4, .int v4)]) E dL_law_1608 (Nat.le_of_ble_eq_true rfl) rfl ?_
  refine tt_aload_n (pc := 1610) (i := 2) (j := 3) E dL_law_1610 rfl rfl ?_
  refine tt_aload_n (pc := 1611) (i := 0) (j := 1) E dL_law_1611 rfl rfl ?_
  refine tt_iload (pc := 1612) (i := 4) (j := 5) E dL_law_1612 rfl ?_
  refine tt_iconst (pc := 1614) (v := 1) E dL_law_1614 ic_1 ?_
  refine tt_iadd (pc := 1615) E dL_law_1615 ?_
  obtain ⟨g_6, hf⟩ := gd_some hf
  refine tt_scA (pc := 1616) E hX hbB hbl g_6 dL_law_1616 ?_
  refine tt_aload_n (pc := 1617) (i := 0) (j := 1) E dL_law_1617 rfl rfl ?_
  refine tt_iload (pc := 1618) (i := 4) (j := 5) E dL_law_1618 rfl ?_
  refine tt_iconst (pc := 1620) (v := 2) E dL_law_1620 ic_2 ?_
  refine tt_iadd (pc := 1621) E dL_law_1621 ?_
  obtain ⟨g_7, hf⟩ := gd_some hf
  refine tt_scA (pc := 1622) E hX hbB hbl g_7 dL_law_1622 ?_
  obtain ⟨r_8, hr_9, hf⟩ := bd_some hf
  have hc_10 := cX12_bestPush_ok (l := l) (B := B) (D := D) (cT := cT) (n := n) (adK := adK) (adV := adV) h2 hr_9
  refine tt_cI (pc := 1623) (tt_vi E lmL_227 mtX12_bestPush hc_10 h2 rfl rfl (Nat.le_of_ble_eq_true rfl) ⟨(Nat.le_of_ble_eq_true rfl), (Nat.le_of_ble_eq_true rfl)⟩ ⟨hk1, hs1⟩ dL_law_1623) ?_
  refine tt_istore (pc := 1626) (i := 6) (lv' := [(6, .int r_8.1), (5, .int r_3.1), (0, .ref b), (1, .ref (B + o1)), (2, .ref (B + o2)), (3, .ref (B + o3)), (4, .int v4)]) E dL_law_1626 (Nat.le_of_ble_eq_true rfl) rfl ?_
  refine tt_aload_n (pc := 1628) (i := 2) (j := 4) E dL_law_1628 rfl rfl ?_
  obtain ⟨r_11, hr_12, hf⟩ := bd_some hf
  have hc_13 := cX12_thrown_ok (l := l) (B := B) (D := D) (cT := cT) (n := n) (adK := adK) (adV := adV) h2 hr_12
  refine tt_cI (pc := 1629) (tt_vi E lmL_127 mtX12_thrown hc_13 h2 rfl rfl (Nat.le_of_ble_eq_true rfl) ⟨(Nat.le_of_ble_eq_true rfl), (Nat.le_of_ble_eq_true rfl)⟩ ⟨hk1, hs1⟩ dL_law_1629) ?_
  refine tt_iload (pc := 1632) (i := 5) (j := 1) E dL_law_1632 rfl ?_
  refine tt_icmp_eq (pc := 1634) (tgt := 1639) E dL_law_1634 rfl (fun c_19 => ?_) (fun c_19 => ?_)
  · have hf := ip c_19 hf
    refine tt_iload (pc := 1639) (i := 5) (j := 1) E dL_law_1639 rfl ?_
    refine tt_if_ne (pc := 1641) (tgt := 1656) E dL_law_1641 rfl (fun c_18 => ?_) (fun c_18 => ?_)
    · have hf := ine c_18 hf
      refine tt_goto (pc := 1656) (tgt := 2449) E dL_law_1656 rfl ?_
      obtain ⟨v_14, ev_14, hf⟩ := nm_ex hf
      refine tt_iinc (pc := 2449) (i := 4) (j := 6) (lv' := [(4, .int v_14), (6, .int r_8.1), (5, .int r_3.1), (0, .ref b), (1, .ref (B + o1)), (2, .ref (B + o2)), (3, .ref (B + o3))]) E dL_law_2449 rfl (ev_14).symm (Nat.le_of_ble_eq_true rfl) rfl ?_
      refine tt_goto (pc := 2452) (tgt := 23) E dL_law_2452 rfl ?_
      refine tt_sub [3, 4, 5, 6, 0] (lv' := [(0, .ref b), (1, .ref (B + o1)), (2, .ref (B + o2)), (3, .ref (B + o3)), (4, .int v_14)]) rfl ?_
      exact hk v_14 r_8.2 hf
    · have hf := ip c_18 hf
      refine tt_aload_n (pc := 1644) (i := 3) (j := 5) E dL_law_1644 rfl rfl ?_
      refine tt_iconst (pc := 1645) (v := 0) E dL_law_1645 ic_0 ?_
      obtain ⟨g_15, hf⟩ := gd_some hf
      refine tt_lald (pc := 1646) E h3 g_15 dL_law_1646 ?_
      refine tt_iload (pc := 1647) (i := 6) (j := 0) E dL_law_1647 rfl ?_
      refine tt_i2l (pc := 1649) E dL_law_1649 ?_
      refine tt_lcmp (pc := 1650) E dL_law_1650 ?_
      refine tt_if_eq (pc := 1651) (tgt := 1656) E dL_law_1651 rfl (fun c_17 => ?_) (fun c_17 => ?_)
      · have hf := ip c_17 hf
        refine tt_goto (pc := 1656) (tgt := 2449) E dL_law_1656 rfl ?_
        obtain ⟨v_16, ev_16, hf⟩ := nm_ex hf
        refine tt_iinc (pc := 2449) (i := 4) (j := 6) (lv' := [(4, .int v_16), (6, .int r_8.1), (5, .int r_3.1), (0, .ref b), (1, .ref (B + o1)), (2, .ref (B + o2)), (3, .ref (B + o3))]) E dL_law_2449 rfl (ev_16).symm (Nat.le_of_ble_eq_true rfl) rfl ?_
        refine tt_goto (pc := 2452) (tgt := 23) E dL_law_2452 rfl ?_
        refine tt_sub [3, 4, 5, 6, 0] (lv' := [(0, .ref b), (1, .ref (B + o1)), (2, .ref (B + o2)), (3, .ref (B + o3)), (4, .int v_16)]) rfl ?_
        exact hk v_16 r_8.2 hf
      · have hf := ine c_17 hf
        refine tt_iconst (pc := 1654) (v := 0) E dL_law_1654 ic_0 ?_
        exact absurd hf ret0
  · have hf := ine c_19 hf
    refine tt_iconst (pc := 1637) (v := 0) E dL_law_1637 ic_0 ?_
    exact absurd hf ret0
set_option maxHeartbeats 4000000 in
theorem tL_law_1659 {p : Program} {l : Launch} {e : Env} {s : State} {m : MethodId} {below : List Frame} {meth : Method} {c : Code} {B : Nat} {D : va_G} {cT : Nat → ClassId} {n : Nat} {adK adV : Nat → Nat} {b L : Nat} {xs : Nat → Int32} {res : Mem} (E : EE p s m #[Value.ref b] c cL_law 9 RL B D cT (XW B adK adV)) (hr : meth.sig.returnType = ret) (hlk : meth.locks = false) (hl0 : l.stackTraces = false) (hX : va_X b L xs s s.heap) (hbB : b < B) (hbl : b < s.heap.size) (hBs : s.heap.size ≤ B) {o1 o2 o3 : Nat} (h1 : isK n o1 8) (h2 : isK n o2 9) (h3 : isK n o3 12) {kc ks : Nat} (hk1 : kc + 1 ≤ 601024) (hs1 : ks + 6 ≤ 7293034) {kb : Int32 → Mem → Option (Int32 × Mem)} (hk : ∀ (v4 : Int32) (μ : Mem), kb v4 μ = some (1, res) → TT p l e room_1 s m #[Value.ref b] below meth c (lw_Z below #[Value.ref b] s) 9 B D cT n (kc + 1) (ks + 6) μ 23 [(0, .ref b), (1, .ref (B + o1)), (2, .ref (B + o2)), (3, .ref (B + o3)), (4, .int v4)] []) {v4 : Int32} {μ : Mem} (hf : fL_law_1659 L xs o1 o2 o3 kb v4 μ = some (1, res)) : TT p l e room_1 s m #[Value.ref b] below meth c (lw_Z below #[Value.ref b] s) 9 B D cT n kc ks μ 1659 [(0, .ref b), (1, .ref (B + o1)), (2, .ref (B + o2)), (3, .ref (B + o3)), (4, .int v4)] [] := by
  have hk0 : kc ≤ 601024 := by omega
  have hs0 : ks ≤ 7293034 := by omega
  unfold fL_law_1659 at hf
  refine tt_aload_n (pc := 1659) (i := 1) (j := 1) E dL_law_1659 rfl rfl ?_
  refine tt_aload_n (pc := 1660) (i := 0) (j := 0) E dL_law_1660 rfl rfl ?_
  refine tt_iload (pc := 1661) (i := 4) (j := 4) E dL_law_1661 rfl ?_
  refine tt_iconst (pc := 1663) (v := 1) E dL_law_1663 ic_1 ?_
  refine tt_iadd (pc := 1664) E dL_law_1664 ?_
  obtain ⟨g_1, hf⟩ := gd_some hf
  refine tt_scA (pc := 1665) E hX hbB hbl g_1 dL_law_1665 ?_
  refine tt_aload_n (pc := 1666) (i := 3) (j := 3) E dL_law_1666 rfl rfl ?_
  obtain ⟨r_2, hr_3, hf⟩ := bd_some hf
  have hc_4 := cL_bestSwap_ok (l := l) (B := B) (D := D) (cT := cT) (n := n) (adK := adK) (adV := adV) hl0 h1 h3 hr_3
  refine tt_cI (pc := 1667) (tt_siW E lmL_228 mtL_bestSwap hc_4 rfl rfl (Nat.le_of_ble_eq_true rfl) ⟨(Nat.le_of_ble_eq_true rfl), (Nat.le_of_ble_eq_true rfl)⟩ ⟨hk1, hs1⟩ dL_law_1667) ?_
  refine tt_istore (pc := 1670) (i := 5) (lv' := [(5, .int r_2.1), (0, .ref b), (1, .ref (B + o1)), (2, .ref (B + o2)), (3, .ref (B + o3)), (4, .int v4)]) E dL_law_1670 (Nat.le_of_ble_eq_true rfl) rfl ?_
  refine tt_aload_n (pc := 1672) (i := 2) (j := 3) E dL_law_1672 rfl rfl ?_
  refine tt_aload_n (pc := 1673) (i := 0) (j := 1) E dL_law_1673 rfl rfl ?_
  refine tt_iload (pc := 1674) (i := 4) (j := 5) E dL_law_1674 rfl ?_
  refine tt_iconst (pc := 1676) (v := 1) E dL_law_1676 ic_1 ?_
  refine tt_iadd (pc := 1677) E dL_law_1677 ?_
  obtain ⟨g_5, hf⟩ := gd_some hf
  refine tt_scA (pc := 1678) E hX hbB hbl g_5 dL_law_1678 ?_
  obtain ⟨r_6, hr_7, hf⟩ := bd_some hf
  have hc_8 := cX12_bestSwap_ok (l := l) (B := B) (D := D) (cT := cT) (n := n) (adK := adK) (adV := adV) h2 hr_7
  refine tt_cI (pc := 1679) (tt_vi E lmL_230 mtX12_bestSwap hc_8 h2 rfl rfl (Nat.le_of_ble_eq_true rfl) ⟨(Nat.le_of_ble_eq_true rfl), (Nat.le_of_ble_eq_true rfl)⟩ ⟨hk1, hs1⟩ dL_law_1679) ?_
  refine tt_istore (pc := 1682) (i := 6) (lv' := [(6, .int r_6.1), (5, .int r_2.1), (0, .ref b), (1, .ref (B + o1)), (2, .ref (B + o2)), (3, .ref (B + o3)), (4, .int v4)]) E dL_law_1682 (Nat.le_of_ble_eq_true rfl) rfl ?_
  refine tt_aload_n (pc := 1684) (i := 2) (j := 4) E dL_law_1684 rfl rfl ?_
  obtain ⟨r_9, hr_10, hf⟩ := bd_some hf
  have hc_11 := cX12_thrown_ok (l := l) (B := B) (D := D) (cT := cT) (n := n) (adK := adK) (adV := adV) h2 hr_10
  refine tt_cI (pc := 1685) (tt_vi E lmL_127 mtX12_thrown hc_11 h2 rfl rfl (Nat.le_of_ble_eq_true rfl) ⟨(Nat.le_of_ble_eq_true rfl), (Nat.le_of_ble_eq_true rfl)⟩ ⟨hk1, hs1⟩ dL_law_1685) ?_
  refine tt_iload (pc := 1688) (i := 5) (j := 1) E dL_law_1688 rfl ?_
  refine tt_icmp_eq (pc := 1690) (tgt := 1695) E dL_law_1690 rfl (fun c_17 => ?_) (fun c_17 => ?_)
  · have hf := ip c_17 hf
    refine tt_iload (pc := 1695) (i := 5) (j := 1) E dL_law_1695 rfl ?_
    refine tt_if_ne (pc := 1697) (tgt := 1712) E dL_law_1697 rfl (fun c_16 => ?_) (fun c_16 => ?_)
    · have hf := ine c_16 hf
      refine tt_goto (pc := 1712) (tgt := 2449) E dL_law_1712 rfl ?_
      obtain ⟨v_12, ev_12, hf⟩ := nm_ex hf
      refine tt_iinc (pc := 2449) (i := 4) (j := 6) (lv' := [(4, .int v_12), (6, .int r_6.1), (5, .int r_2.1), (0, .ref b), (1, .ref (B + o1)), (2, .ref (B + o2)), (3, .ref (B + o3))]) E dL_law_2449 rfl (ev_12).symm (Nat.le_of_ble_eq_true rfl) rfl ?_
      refine tt_goto (pc := 2452) (tgt := 23) E dL_law_2452 rfl ?_
      refine tt_sub [3, 4, 5, 6, 0] (lv' := [(0, .ref b), (1, .ref (B + o1)), (2, .ref (B + o2)), (3, .ref (B + o3)), (4, .int v_12)]) rfl ?_
      exact hk v_12 r_6.2 hf
    · have hf := ip c_16 hf
      refine tt_aload_n (pc := 1700) (i := 3) (j := 5) E dL_law_1700 rfl rfl ?_
      refine tt_iconst (pc := 1701) (v := 0) E dL_law_1701 ic_0 ?_
      obtain ⟨g_13, hf⟩ := gd_some hf
      refine tt_lald (pc := 1702) E h3 g_13 dL_law_1702 ?_
      refine tt_iload (pc := 1703) (i := 6) (j := 0) E dL_law_1703 rfl ?_
      refine tt_i2l (pc := 1705) E dL_law_1705 ?_
      refine tt_lcmp (pc := 1706) E dL_law_1706 ?_
      refine tt_if_eq (pc := 1707) (tgt := 1712) E dL_law_1707 rfl (fun c_15 => ?_) (fun c_15 => ?_)
      · have hf := ip c_15 hf
        refine tt_goto (pc := 1712) (tgt := 2449) E dL_law_1712 rfl ?_
        obtain ⟨v_14, ev_14, hf⟩ := nm_ex hf
        refine tt_iinc (pc := 2449) (i := 4) (j := 6) (lv' := [(4, .int v_14), (6, .int r_6.1), (5, .int r_2.1), (0, .ref b), (1, .ref (B + o1)), (2, .ref (B + o2)), (3, .ref (B + o3))]) E dL_law_2449 rfl (ev_14).symm (Nat.le_of_ble_eq_true rfl) rfl ?_
        refine tt_goto (pc := 2452) (tgt := 23) E dL_law_2452 rfl ?_
        refine tt_sub [3, 4, 5, 6, 0] (lv' := [(0, .ref b), (1, .ref (B + o1)), (2, .ref (B + o2)), (3, .ref (B + o3)), (4, .int v_14)]) rfl ?_
        exact hk v_14 r_6.2 hf
      · have hf := ine c_15 hf
        refine tt_iconst (pc := 1710) (v := 0) E dL_law_1710 ic_0 ?_
        exact absurd hf ret0
  · have hf := ine c_17 hf
    refine tt_iconst (pc := 1693) (v := 0) E dL_law_1693 ic_0 ?_
    exact absurd hf ret0
set_option maxHeartbeats 4000000 in
theorem tL_law_1715 {p : Program} {l : Launch} {e : Env} {s : State} {m : MethodId} {below : List Frame} {meth : Method} {c : Code} {B : Nat} {D : va_G} {cT : Nat → ClassId} {n : Nat} {adK adV : Nat → Nat} {b L : Nat} {xs : Nat → Int32} {res : Mem} (E : EE p s m #[Value.ref b] c cL_law 9 RL B D cT (XW B adK adV)) (hr : meth.sig.returnType = ret) (hlk : meth.locks = false) (hl0 : l.stackTraces = false) (hX : va_X b L xs s s.heap) (hbB : b < B) (hbl : b < s.heap.size) (hBs : s.heap.size ≤ B) {o1 o2 o3 : Nat} (h1 : isK n o1 8) (h2 : isK n o2 9) (h3 : isK n o3 12) {kc ks : Nat} (hk1 : kc + 1 ≤ 601024) (hs1 : ks + 6 ≤ 7293034) {kb : Int32 → Mem → Option (Int32 × Mem)} (hk : ∀ (v4 : Int32) (μ : Mem), kb v4 μ = some (1, res) → TT p l e room_1 s m #[Value.ref b] below meth c (lw_Z below #[Value.ref b] s) 9 B D cT n (kc + 1) (ks + 6) μ 23 [(0, .ref b), (1, .ref (B + o1)), (2, .ref (B + o2)), (3, .ref (B + o3)), (4, .int v4)] []) {v4 : Int32} {μ : Mem} (hf : fL_law_1715 L xs o1 o2 o3 kb v4 μ = some (1, res)) : TT p l e room_1 s m #[Value.ref b] below meth c (lw_Z below #[Value.ref b] s) 9 B D cT n kc ks μ 1715 [(0, .ref b), (1, .ref (B + o1)), (2, .ref (B + o2)), (3, .ref (B + o3)), (4, .int v4)] [] := by
  have hk0 : kc ≤ 601024 := by omega
  have hs0 : ks ≤ 7293034 := by omega
  unfold fL_law_1715 at hf
  refine tt_aload_n (pc := 1715) (i := 1) (j := 1) E dL_law_1715 rfl rfl ?_
  refine tt_aload_n (pc := 1716) (i := 0) (j := 0) E dL_law_1716 rfl rfl ?_
  refine tt_iload (pc := 1717) (i := 4) (j := 4) E dL_law_1717 rfl ?_
  refine tt_iconst (pc := 1719) (v := 1) E dL_law_1719 ic_1 ?_
  refine tt_iadd (pc := 1720) E dL_law_1720 ?_
  obtain ⟨g_1, hf⟩ := gd_some hf
  refine tt_scA (pc := 1721) E hX hbB hbl g_1 dL_law_1721 ?_
  refine tt_aload_n (pc := 1722) (i := 3) (j := 3) E dL_law_1722 rfl rfl ?_
  obtain ⟨r_2, hr_3, hf⟩ := bd_some hf
  have hc_4 := cL_bestPlace_ok (l := l) (B := B) (D := D) (cT := cT) (n := n) (adK := adK) (adV := adV) hl0 h1 h3 hr_3
  refine tt_cI (pc := 1723) (tt_siW E lmL_231 mtL_bestPlace hc_4 rfl rfl (Nat.le_of_ble_eq_true rfl) ⟨(Nat.le_of_ble_eq_true rfl), (Nat.le_of_ble_eq_true rfl)⟩ ⟨hk1, hs1⟩ dL_law_1723) ?_
  refine tt_istore (pc := 1726) (i := 5) (lv' := [(5, .int r_2.1), (0, .ref b), (1, .ref (B + o1)), (2, .ref (B + o2)), (3, .ref (B + o3)), (4, .int v4)]) E dL_law_1726 (Nat.le_of_ble_eq_true rfl) rfl ?_
  refine tt_aload_n (pc := 1728) (i := 2) (j := 3) E dL_law_1728 rfl rfl ?_
  refine tt_aload_n (pc := 1729) (i := 0) (j := 1) E dL_law_1729 rfl rfl ?_
  refine tt_iload (pc := 1730) (i := 4) (j := 5) E dL_law_1730 rfl ?_
  refine tt_iconst (pc := 1732) (v := 1) E dL_law_1732 ic_1 ?_
  refine tt_iadd (pc := 1733) E dL_law_1733 ?_
  obtain ⟨g_5, hf⟩ := gd_some hf
  refine tt_scA (pc := 1734) E hX hbB hbl g_5 dL_law_1734 ?_
  obtain ⟨r_6, hr_7, hf⟩ := bd_some hf
  have hc_8 := cX12_bestPlace_ok (l := l) (B := B) (D := D) (cT := cT) (n := n) (adK := adK) (adV := adV) h2 hr_7
  refine tt_cI (pc := 1735) (tt_vi E lmL_233 mtX12_bestPlace hc_8 h2 rfl rfl (Nat.le_of_ble_eq_true rfl) ⟨(Nat.le_of_ble_eq_true rfl), (Nat.le_of_ble_eq_true rfl)⟩ ⟨hk1, hs1⟩ dL_law_1735) ?_
  refine tt_istore (pc := 1738) (i := 6) (lv' := [(6, .int r_6.1), (5, .int r_2.1), (0, .ref b), (1, .ref (B + o1)), (2, .ref (B + o2)), (3, .ref (B + o3)), (4, .int v4)]) E dL_law_1738 (Nat.le_of_ble_eq_true rfl) rfl ?_
  refine tt_aload_n (pc := 1740) (i := 2) (j := 4) E dL_law_1740 rfl rfl ?_
  obtain ⟨r_9, hr_10, hf⟩ := bd_some hf
  have hc_11 := cX12_thrown_ok (l := l) (B := B) (D := D) (cT := cT) (n := n) (adK := adK) (adV := adV) h2 hr_10
  refine tt_cI (pc := 1741) (tt_vi E lmL_127 mtX12_thrown hc_11 h2 rfl rfl (Nat.le_of_ble_eq_true rfl) ⟨(Nat.le_of_ble_eq_true rfl), (Nat.le_of_ble_eq_true rfl)⟩ ⟨hk1, hs1⟩ dL_law_1741) ?_
  refine tt_iload (pc := 1744) (i := 5) (j := 1) E dL_law_1744 rfl ?_
  refine tt_icmp_eq (pc := 1746) (tgt := 1751) E dL_law_1746 rfl (fun c_17 => ?_) (fun c_17 => ?_)
  · have hf := ip c_17 hf
    refine tt_iload (pc := 1751) (i := 5) (j := 1) E dL_law_1751 rfl ?_
    refine tt_if_ne (pc := 1753) (tgt := 1768) E dL_law_1753 rfl (fun c_16 => ?_) (fun c_16 => ?_)
    · have hf := ine c_16 hf
      refine tt_goto (pc := 1768) (tgt := 2449) E dL_law_1768 rfl ?_
      obtain ⟨v_12, ev_12, hf⟩ := nm_ex hf
      refine tt_iinc (pc := 2449) (i := 4) (j := 6) (lv' := [(4, .int v_12), (6, .int r_6.1), (5, .int r_2.1), (0, .ref b), (1, .ref (B + o1)), (2, .ref (B + o2)), (3, .ref (B + o3))]) E dL_law_2449 rfl (ev_12).symm (Nat.le_of_ble_eq_true rfl) rfl ?_
      refine tt_goto (pc := 2452) (tgt := 23) E dL_law_2452 rfl ?_
      refine tt_sub [3, 4, 5, 6, 0] (lv' := [(0, .ref b), (1, .ref (B + o1)), (2, .ref (B + o2)), (3, .ref (B + o3)), (4, .int v_12)]) rfl ?_
      exact hk v_12 r_6.2 hf
    · have hf := ip c_16 hf
      refine tt_aload_n (pc := 1756) (i := 3) (j := 5) E dL_law_1756 rfl rfl ?_
      refine tt_iconst (pc := 1757) (v := 0) E dL_law_1757 ic_0 ?_
      obtain ⟨g_13, hf⟩ := gd_some hf
      refine tt_lald (pc := 1758) E h3 g_13 dL_law_1758 ?_
      refine tt_iload (pc := 1759) (i := 6) (j := 0) E dL_law_1759 rfl ?_
      refine tt_i2l (pc := 1761) E dL_law_1761 ?_
      refine tt_lcmp (pc := 1762) E dL_law_1762 ?_
      refine tt_if_eq (pc := 1763) (tgt := 1768) E dL_law_1763 rfl (fun c_15 => ?_) (fun c_15 => ?_)
      · have hf := ip c_15 hf
        refine tt_goto (pc := 1768) (tgt := 2449) E dL_law_1768 rfl ?_
        obtain ⟨v_14, ev_14, hf⟩ := nm_ex hf
        refine tt_iinc (pc := 2449) (i := 4) (j := 6) (lv' := [(4, .int v_14), (6, .int r_6.1), (5, .int r_2.1), (0, .ref b), (1, .ref (B + o1)), (2, .ref (B + o2)), (3, .ref (B + o3))]) E dL_law_2449 rfl (ev_14).symm (Nat.le_of_ble_eq_true rfl) rfl ?_
        refine tt_goto (pc := 2452) (tgt := 23) E dL_law_2452 rfl ?_
        refine tt_sub [3, 4, 5, 6, 0] (lv' := [(0, .ref b), (1, .ref (B + o1)), (2, .ref (B + o2)), (3, .ref (B + o3)), (4, .int v_14)]) rfl ?_
        exact hk v_14 r_6.2 hf
      · have hf := ine c_15 hf
        refine tt_iconst (pc := 1766) (v := 0) E dL_law_1766 ic_0 ?_
        exact absurd hf ret0
  · have hf := ine c_17 hf
    refine tt_iconst (pc := 1749) (v := 0) E dL_law_1749 ic_0 ?_
    exact absurd hf ret0
set_option maxHeartbeats 4000000 in
theorem tL_law_1771 {p : Program} {l : Launch} {e : Env} {s : State} {m : MethodId} {below : List Frame} {meth : Method} {c : Code} {B : Nat} {D : va_G} {cT : Nat → ClassId} {n : Nat} {adK adV : Nat → Nat} {b L : Nat} {xs : Nat → Int32} {res : Mem} (E : EE p s m #[Value.ref b] c cL_law 9 RL B D cT (XW B adK adV)) (hr : meth.sig.returnType = ret) (hlk : meth.locks = false) (hl0 : l.stackTraces = false) (hX : va_X b L xs s s.heap) (hbB : b < B) (hbl : b < s.heap.size) (hBs : s.heap.size ≤ B) {o1 o2 o3 : Nat} (h1 : isK n o1 8) (h2 : isK n o2 9) (h3 : isK n o3 12) {kc ks : Nat} (hk1 : kc + 1 ≤ 601024) (hs1 : ks + 6 ≤ 7293034) {kb : Int32 → Mem → Option (Int32 × Mem)} (hk : ∀ (v4 : Int32) (μ : Mem), kb v4 μ = some (1, res) → TT p l e room_1 s m #[Value.ref b] below meth c (lw_Z below #[Value.ref b] s) 9 B D cT n (kc + 1) (ks + 6) μ 23 [(0, .ref b), (1, .ref (B + o1)), (2, .ref (B + o2)), (3, .ref (B + o3)), (4, .int v4)] []) {v4 : Int32} {μ : Mem} (hf : fL_law_1771 L xs o1 o2 o3 kb v4 μ = some (1, res)) : TT p l e room_1 s m #[Value.ref b] below meth c (lw_Z below #[Value.ref b] s) 9 B D cT n kc ks μ 1771 [(0, .ref b), (1, .ref (B + o1)), (2, .ref (B + o2)), (3, .ref (B + o3)), (4, .int v4)] [] := by
  have hk0 : kc ≤ 601024 := by omega
  have hs0 : ks ≤ 7293034 := by omega
  unfold fL_law_1771 at hf
  refine tt_aload_n (pc := 1771) (i := 1) (j := 1) E dL_law_1771 rfl rfl ?_
  refine tt_aload_n (pc := 1772) (i := 0) (j := 0) E dL_law_1772 rfl rfl ?_
  refine tt_iload (pc := 1773) (i := 4) (j := 4) E dL_law_1773 rfl ?_
  refine tt_iconst (pc := 1775) (v := 1) E dL_law_1775 ic_1 ?_
  refine tt_iadd (pc := 1776) E dL_law_1776 ?_
  obtain ⟨g_1, hf⟩ := gd_some hf
  refine tt_scA (pc := 1777) E hX hbB hbl g_1 dL_law_1777 ?_
  refine tt_aload_n (pc := 1778) (i := 3) (j := 3) E dL_law_1778 rfl rfl ?_
  obtain ⟨r_2, hr_3, hf⟩ := bd_some hf
  have hc_4 := cL_play_ok (l := l) (B := B) (D := D) (cT := cT) (n := n) (adK := adK) (adV := adV) hl0 h1 h3 hr_3
  refine tt_cI (pc := 1779) (tt_siW E lmL_234 mtL_play hc_4 rfl rfl (Nat.le_of_ble_eq_true rfl) ⟨(Nat.le_of_ble_eq_true rfl), (Nat.le_of_ble_eq_true rfl)⟩ ⟨hk1, hs1⟩ dL_law_1779) ?_
  refine tt_istore (pc := 1782) (i := 5) (lv' := [(5, .int r_2.1), (0, .ref b), (1, .ref (B + o1)), (2, .ref (B + o2)), (3, .ref (B + o3)), (4, .int v4)]) E dL_law_1782 (Nat.le_of_ble_eq_true rfl) rfl ?_
  refine tt_aload_n (pc := 1784) (i := 2) (j := 3) E dL_law_1784 rfl rfl ?_
  refine tt_aload_n (pc := 1785) (i := 0) (j := 1) E dL_law_1785 rfl rfl ?_
  refine tt_iload (pc := 1786) (i := 4) (j := 5) E dL_law_1786 rfl ?_
  refine tt_iconst (pc := 1788) (v := 1) E dL_law_1788 ic_1 ?_
  refine tt_iadd (pc := 1789) E dL_law_1789 ?_
  obtain ⟨g_5, hf⟩ := gd_some hf
  refine tt_scA (pc := 1790) E hX hbB hbl g_5 dL_law_1790 ?_
  obtain ⟨r_6, hr_7, hf⟩ := bd_some hf
  have hc_8 := cX12_play_ok (l := l) (B := B) (D := D) (cT := cT) (n := n) (adK := adK) (adV := adV) h2 hr_7
  refine tt_cI (pc := 1791) (tt_vi E lmL_236 mtX12_play hc_8 h2 rfl rfl (Nat.le_of_ble_eq_true rfl) ⟨(Nat.le_of_ble_eq_true rfl), (Nat.le_of_ble_eq_true rfl)⟩ ⟨hk1, hs1⟩ dL_law_1791) ?_
  refine tt_istore (pc := 1794) (i := 6) (lv' := [(6, .int r_6.1), (5, .int r_2.1), (0, .ref b), (1, .ref (B + o1)), (2, .ref (B + o2)), (3, .ref (B + o3)), (4, .int v4)]) E dL_law_1794 (Nat.le_of_ble_eq_true rfl) rfl ?_
  refine tt_aload_n (pc := 1796) (i := 2) (j := 4) E dL_law_1796 rfl rfl ?_
  obtain ⟨r_9, hr_10, hf⟩ := bd_some hf
  have hc_11 := cX12_thrown_ok (l := l) (B := B) (D := D) (cT := cT) (n := n) (adK := adK) (adV := adV) h2 hr_10
  refine tt_cI (pc := 1797) (tt_vi E lmL_127 mtX12_thrown hc_11 h2 rfl rfl (Nat.le_of_ble_eq_true rfl) ⟨(Nat.le_of_ble_eq_true rfl), (Nat.le_of_ble_eq_true rfl)⟩ ⟨hk1, hs1⟩ dL_law_1797) ?_
  refine tt_iload (pc := 1800) (i := 5) (j := 1) E dL_law_1800 rfl ?_
  refine tt_icmp_eq (pc := 1802) (tgt := 1807) E dL_law_1802 rfl (fun c_17 => ?_) (fun c_17 => ?_)
  · have hf := ip c_17 hf
    refine tt_iload (pc := 1807) (i := 5) (j := 1) E dL_law_1807 rfl ?_
    refine tt_if_ne (pc := 1809) (tgt := 1824) E dL_law_1809 rfl (fun c_16 => ?_) (fun c_16 => ?_)
    · have hf := ine c_16 hf
      refine tt_goto (pc := 1824) (tgt := 2449) E dL_law_1824 rfl ?_
      obtain ⟨v_12, ev_12, hf⟩ := nm_ex hf
      refine tt_iinc (pc := 2449) (i := 4) (j := 6) (lv' := [(4, .int v_12), (6, .int r_6.1), (5, .int r_2.1), (0, .ref b), (1, .ref (B + o1)), (2, .ref (B + o2)), (3, .ref (B + o3))]) E dL_law_2449 rfl (ev_12).symm (Nat.le_of_ble_eq_true rfl) rfl ?_
      refine tt_goto (pc := 2452) (tgt := 23) E dL_law_2452 rfl ?_
      refine tt_sub [3, 4, 5, 6, 0] (lv' := [(0, .ref b), (1, .ref (B + o1)), (2, .ref (B + o2)), (3, .ref (B + o3)), (4, .int v_12)]) rfl ?_
      exact hk v_12 r_6.2 hf
    · have hf := ip c_16 hf
      refine tt_aload_n (pc := 1812) (i := 3) (j := 5) E dL_law_1812 rfl rfl ?_
      refine tt_iconst (pc := 1813) (v := 0) E dL_law_1813 ic_0 ?_
      obtain ⟨g_13, hf⟩ := gd_some hf
      refine tt_lald (pc := 1814) E h3 g_13 dL_law_1814 ?_
      refine tt_iload (pc := 1815) (i := 6) (j := 0) E dL_law_1815 rfl ?_
      refine tt_i2l (pc := 1817) E dL_law_1817 ?_
      refine tt_lcmp (pc := 1818) E dL_law_1818 ?_
      refine tt_if_eq (pc := 1819) (tgt := 1824) E dL_law_1819 rfl (fun c_15 => ?_) (fun c_15 => ?_)
      · have hf := ip c_15 hf
        refine tt_goto (pc := 1824) (tgt := 2449) E dL_law_1824 rfl ?_
        obtain ⟨v_14, ev_14, hf⟩ := nm_ex hf
        refine tt_iinc (pc := 2449) (i := 4) (j := 6) (lv' := [(4, .int v_14), (6, .int r_6.1), (5, .int r_2.1), (0, .ref b), (1, .ref (B + o1)), (2, .ref (B + o2)), (3, .ref (B + o3))]) E dL_law_2449 rfl (ev_14).symm (Nat.le_of_ble_eq_true rfl) rfl ?_
        refine tt_goto (pc := 2452) (tgt := 23) E dL_law_2452 rfl ?_
        refine tt_sub [3, 4, 5, 6, 0] (lv' := [(0, .ref b), (1, .ref (B + o1)), (2, .ref (B + o2)), (3, .ref (B + o3)), (4, .int v_14)]) rfl ?_
        exact hk v_14 r_6.2 hf
      · have hf := ine c_15 hf
        refine tt_iconst (pc := 1822) (v := 0) E dL_law_1822 ic_0 ?_
        exact absurd hf ret0
  · have hf := ine c_17 hf
    refine tt_iconst (pc := 1805) (v := 0) E dL_law_1805 ic_0 ?_
    exact absurd hf ret0
set_option maxHeartbeats 4000000 in
theorem tL_law_1827 {p : Program} {l : Launch} {e : Env} {s : State} {m : MethodId} {below : List Frame} {meth : Method} {c : Code} {B : Nat} {D : va_G} {cT : Nat → ClassId} {n : Nat} {adK adV : Nat → Nat} {b L : Nat} {xs : Nat → Int32} {res : Mem} (E : EE p s m #[Value.ref b] c cL_law 9 RL B D cT (XW B adK adV)) (hr : meth.sig.returnType = ret) (hlk : meth.locks = false) (hl0 : l.stackTraces = false) (hX : va_X b L xs s s.heap) (hbB : b < B) (hbl : b < s.heap.size) (hBs : s.heap.size ≤ B) {o1 o2 o3 : Nat} (h1 : isK n o1 8) (h2 : isK n o2 9) (h3 : isK n o3 12) {kc ks : Nat} (hk1 : kc + 1 ≤ 601024) (hs1 : ks + 6 ≤ 7293034) {kb : Int32 → Mem → Option (Int32 × Mem)} (hk : ∀ (v4 : Int32) (μ : Mem), kb v4 μ = some (1, res) → TT p l e room_1 s m #[Value.ref b] below meth c (lw_Z below #[Value.ref b] s) 9 B D cT n (kc + 1) (ks + 6) μ 23 [(0, .ref b), (1, .ref (B + o1)), (2, .ref (B + o2)), (3, .ref (B + o3)), (4, .int v4)] []) {v4 : Int32} {μ : Mem} (hf : fL_law_1827 L xs o1 o2 o3 kb v4 μ = some (1, res)) : TT p l e room_1 s m #[Value.ref b] below meth c (lw_Z below #[Value.ref b] s) 9 B D cT n kc ks μ 1827 [(0, .ref b), (1, .ref (B + o1)), (2, .ref (B + o2)), (3, .ref (B + o3)), (4, .int v4)] [] := by
  have hk0 : kc ≤ 601024 := by omega
  have hs0 : ks ≤ 7293034 := by omega
  unfold fL_law_1827 at hf
  refine tt_aload_n (pc := 1827) (i := 1) (j := 1) E dL_law_1827 rfl rfl ?_
  refine tt_aload_n (pc := 1828) (i := 0) (j := 0) E dL_law_1828 rfl rfl ?_
  refine tt_iload (pc := 1829) (i := 4) (j := 4) E dL_law_1829 rfl ?_
  refine tt_iconst (pc := 1831) (v := 1) E dL_law_1831 ic_1 ?_
  refine tt_iadd (pc := 1832) E dL_law_1832 ?_
  obtain ⟨g_1, hf⟩ := gd_some hf
  refine tt_scA (pc := 1833) E hX hbB hbl g_1 dL_law_1833 ?_
  refine tt_aload_n (pc := 1834) (i := 0) (j := 0) E dL_law_1834 rfl rfl ?_
  refine tt_iload (pc := 1835) (i := 4) (j := 4) E dL_law_1835 rfl ?_
  refine tt_iconst (pc := 1837) (v := 2) E dL_law_1837 ic_2 ?_
  refine tt_iadd (pc := 1838) E dL_law_1838 ?_
  obtain ⟨g_2, hf⟩ := gd_some hf
  refine tt_scA (pc := 1839) E hX hbB hbl g_2 dL_law_1839 ?_
  refine tt_aload_n (pc := 1840) (i := 3) (j := 3) E dL_law_1840 rfl rfl ?_
  obtain ⟨r_3, hr_4, hf⟩ := bd_some hf
  have hc_5 := cL_push_ok (l := l) (B := B) (D := D) (cT := cT) (n := n) (adK := adK) (adV := adV) hl0 h1 h3 hr_4
  refine tt_cI (pc := 1841) (tt_siW E lmL_237 mtL_push hc_5 rfl rfl (Nat.le_of_ble_eq_true rfl) ⟨(Nat.le_of_ble_eq_true rfl), (Nat.le_of_ble_eq_true rfl)⟩ ⟨hk1, hs1⟩ dL_law_1841) ?_
  refine tt_istore (pc := 1844) (i := 5) (lv' := [(5, .int r_3.1), (0, .ref b), (1, .ref (B + o1)), (2, .ref (B + o2)), (3, .ref (B + o3)), (4, .int v4)]) E dL_law_1844 (Nat.le_of_ble_eq_true rfl) rfl ?_
  refine tt_aload_n (pc := 1846) (i := 2) (j := 3) E dL_law_1846 rfl rfl ?_
  refine tt_aload_n (pc := 1847) (i := 0) (j := 1) E dL_law_1847 rfl rfl ?_
  refine tt_iload (pc := 1848) (i := 4) (j := 5) E dL_law_1848 rfl ?_
  refine tt_iconst (pc := 1850) (v := 1) E dL_law_1850 ic_1 ?_
  refine tt_iadd (pc := 1851) E dL_law_1851 ?_
  obtain ⟨g_6, hf⟩ := gd_some hf
  refine tt_scA (pc := 1852) E hX hbB hbl g_6 dL_law_1852 ?_
  refine tt_aload_n (pc := 1853) (i := 0) (j := 1) E dL_law_1853 rfl rfl ?_
  refine tt_iload (pc := 1854) (i := 4) (j := 5) E dL_law_1854 rfl ?_
  refine tt_iconst (pc := 1856) (v := 2) E dL_law_1856 ic_2 ?_
  refine tt_iadd (pc := 1857) E dL_law_1857 ?_
  obtain ⟨g_7, hf⟩ := gd_some hf
  refine tt_scA (pc := 1858) E hX hbB hbl g_7 dL_law_1858 ?_
  obtain ⟨r_8, hr_9, hf⟩ := bd_some hf
  have hc_10 := cX12_push_ok (l := l) (B := B) (D := D) (cT := cT) (n := n) (adK := adK) (adV := adV) h2 hr_9
  refine tt_cI (pc := 1859) (tt_vi E lmL_239 mtX12_push hc_10 h2 rfl rfl (Nat.le_of_ble_eq_true rfl) ⟨(Nat.le_of_ble_eq_true rfl), (Nat.le_of_ble_eq_true rfl)⟩ ⟨hk1, hs1⟩ dL_law_1859) ?_
  refine tt_istore (pc := 1862) (i := 6) (lv' := [(6, .int r_8.1), (5, .int r_3.1), (0, .ref b), (1, .ref (B + o1)), (2, .ref (B + o2)), (3, .ref (B + o3)), (4, .int v4)]) E dL_law_1862 (Nat.le_of_ble_eq_true rfl) rfl ?_
  refine tt_aload_n (pc := 1864) (i := 2) (j := 4) E dL_law_1864 rfl rfl ?_
  obtain ⟨r_11, hr_12, hf⟩ := bd_some hf
  have hc_13 := cX12_thrown_ok (l := l) (B := B) (D := D) (cT := cT) (n := n) (adK := adK) (adV := adV) h2 hr_12
  refine tt_cI (pc := 1865) (tt_vi E lmL_127 mtX12_thrown hc_13 h2 rfl rfl (Nat.le_of_ble_eq_true rfl) ⟨(Nat.le_of_ble_eq_true rfl), (Nat.le_of_ble_eq_true rfl)⟩ ⟨hk1, hs1⟩ dL_law_1865) ?_
  refine tt_iload (pc := 1868) (i := 5) (j := 1) E dL_law_1868 rfl ?_
  refine tt_icmp_eq (pc := 1870) (tgt := 1875) E dL_law_1870 rfl (fun c_19 => ?_) (fun c_19 => ?_)
  · have hf := ip c_19 hf
    refine tt_iload (pc := 1875) (i := 5) (j := 1) E dL_law_1875 rfl ?_
    refine tt_if_ne (pc := 1877) (tgt := 1892) E dL_law_1877 rfl (fun c_18 => ?_) (fun c_18 => ?_)
    · have hf := ine c_18 hf
      refine tt_goto (pc := 1892) (tgt := 2449) E dL_law_1892 rfl ?_
      obtain ⟨v_14, ev_14, hf⟩ := nm_ex hf
      refine tt_iinc (pc := 2449) (i := 4) (j := 6) (lv' := [(4, .int v_14), (6, .int r_8.1), (5, .int r_3.1), (0, .ref b), (1, .ref (B + o1)), (2, .ref (B + o2)), (3, .ref (B + o3))]) E dL_law_2449 rfl (ev_14).symm (Nat.le_of_ble_eq_true rfl) rfl ?_
      refine tt_goto (pc := 2452) (tgt := 23) E dL_law_2452 rfl ?_
      refine tt_sub [3, 4, 5, 6, 0] (lv' := [(0, .ref b), (1, .ref (B + o1)), (2, .ref (B + o2)), (3, .ref (B + o3)), (4, .int v_14)]) rfl ?_
      exact hk v_14 r_8.2 hf
    · have hf := ip c_18 hf
      refine tt_aload_n (pc := 1880) (i := 3) (j := 5) E dL_law_1880 rfl rfl ?_
      refine tt_iconst (pc := 1881) (v := 0) E dL_law_1881 ic_0 ?_
      obtain ⟨g_15, hf⟩ := gd_some hf
      refine tt_lald (pc := 1882) E h3 g_15 dL_law_1882 ?_
      refine tt_iload (pc := 1883) (i := 6) (j := 0) E dL_law_1883 rfl ?_
      refine tt_i2l (pc := 1885) E dL_law_1885 ?_
      refine tt_lcmp (pc := 1886) E dL_law_1886 ?_
      refine tt_if_eq (pc := 1887) (tgt := 1892) E dL_law_1887 rfl (fun c_17 => ?_) (fun c_17 => ?_)
      · have hf := ip c_17 hf
        refine tt_goto (pc := 1892) (tgt := 2449) E dL_law_1892 rfl ?_
        obtain ⟨v_16, ev_16, hf⟩ := nm_ex hf
        refine tt_iinc (pc := 2449) (i := 4) (j := 6) (lv' := [(4, .int v_16), (6, .int r_8.1), (5, .int r_3.1), (0, .ref b), (1, .ref (B + o1)), (2, .ref (B + o2)), (3, .ref (B + o3))]) E dL_law_2449 rfl (ev_16).symm (Nat.le_of_ble_eq_true rfl) rfl ?_
        refine tt_goto (pc := 2452) (tgt := 23) E dL_law_2452 rfl ?_
        refine tt_sub [3, 4, 5, 6, 0] (lv' := [(0, .ref b), (1, .ref (B + o1)), (2, .ref (B + o2)), (3, .ref (B + o3)), (4, .int v_16)]) rfl ?_
        exact hk v_16 r_8.2 hf
      · have hf := ine c_17 hf
        refine tt_iconst (pc := 1890) (v := 0) E dL_law_1890 ic_0 ?_
        exact absurd hf ret0
  · have hf := ine c_19 hf
    refine tt_iconst (pc := 1873) (v := 0) E dL_law_1873 ic_0 ?_
    exact absurd hf ret0
set_option maxHeartbeats 4000000 in
theorem tL_law_1895 {p : Program} {l : Launch} {e : Env} {s : State} {m : MethodId} {below : List Frame} {meth : Method} {c : Code} {B : Nat} {D : va_G} {cT : Nat → ClassId} {n : Nat} {adK adV : Nat → Nat} {b L : Nat} {xs : Nat → Int32} {res : Mem} (E : EE p s m #[Value.ref b] c cL_law 9 RL B D cT (XW B adK adV)) (hr : meth.sig.returnType = ret) (hlk : meth.locks = false) (hl0 : l.stackTraces = false) (hX : va_X b L xs s s.heap) (hbB : b < B) (hbl : b < s.heap.size) (hBs : s.heap.size ≤ B) {o1 o2 o3 : Nat} (h1 : isK n o1 8) (h2 : isK n o2 9) (h3 : isK n o3 12) {kc ks : Nat} (hk1 : kc + 1 ≤ 601024) (hs1 : ks + 6 ≤ 7293034) {kb : Int32 → Mem → Option (Int32 × Mem)} (hk : ∀ (v4 : Int32) (μ : Mem), kb v4 μ = some (1, res) → TT p l e room_1 s m #[Value.ref b] below meth c (lw_Z below #[Value.ref b] s) 9 B D cT n (kc + 1) (ks + 6) μ 23 [(0, .ref b), (1, .ref (B + o1)), (2, .ref (B + o2)), (3, .ref (B + o3)), (4, .int v4)] []) {v4 : Int32} {μ : Mem} (hf : fL_law_1895 L xs o1 o2 o3 kb v4 μ = some (1, res)) : TT p l e room_1 s m #[Value.ref b] below meth c (lw_Z below #[Value.ref b] s) 9 B D cT n kc ks μ 1895 [(0, .ref b), (1, .ref (B + o1)), (2, .ref (B + o2)), (3, .ref (B + o3)), (4, .int v4)] [] := by
  have hk0 : kc ≤ 601024 := by omega
  have hs0 : ks ≤ 7293034 := by omega
  unfold fL_law_1895 at hf
  refine tt_aload_n (pc := 1895) (i := 1) (j := 1) E dL_law_1895 rfl rfl ?_
  refine tt_aload_n (pc := 1896) (i := 0) (j := 0) E dL_law_1896 rfl rfl ?_
  refine tt_iload (pc := 1897) (i := 4) (j := 4) E dL_law_1897 rfl ?_
  refine tt_iconst (pc := 1899) (v := 1) E dL_law_1899 ic_1 ?_
  refine tt_iadd (pc := 1900) E dL_law_1900 ?_
  obtain ⟨g_1, hf⟩ := gd_some hf
  refine tt_scA (pc := 1901) E hX hbB hbl g_1 dL_law_1901 ?_
  refine tt_aload_n (pc := 1902) (i := 0) (j := 0) E dL_law_1902 rfl rfl ?_
  refine tt_iload (pc := 1903) (i := 4) (j := 4) E dL_law_1903 rfl ?_
  refine tt_iconst (pc := 1905) (v := 2) E dL_law_1905 ic_2 ?_
  refine tt_iadd (pc := 1906) E dL_law_1906 ?_
  obtain ⟨g_2, hf⟩ := gd_some hf
  refine tt_scA (pc := 1907) E hX hbB hbl g_2 dL_law_1907 ?_
  refine tt_aload_n (pc := 1908) (i := 3) (j := 3) E dL_law_1908 rfl rfl ?_
  obtain ⟨r_3, hr_4, hf⟩ := bd_some hf
  have hc_5 := cL_lift_ok (l := l) (B := B) (D := D) (cT := cT) (n := n) (adK := adK) (adV := adV) hl0 h1 h3 hr_4
  refine tt_cI (pc := 1909) (tt_siW E lmL_240 mtL_lift hc_5 rfl rfl (Nat.le_of_ble_eq_true rfl) ⟨(Nat.le_of_ble_eq_true rfl), (Nat.le_of_ble_eq_true rfl)⟩ ⟨hk1, hs1⟩ dL_law_1909) ?_
  refine tt_istore (pc := 1912) (i := 5) (lv' := [(5, .int r_3.1), (0, .ref b), (1, .ref (B + o1)), (2, .ref (B + o2)), (3, .ref (B + o3)), (4, .int v4)]) E dL_law_1912 (Nat.le_of_ble_eq_true rfl) rfl ?_
  refine tt_aload_n (pc := 1914) (i := 2) (j := 3) E dL_law_1914 rfl rfl ?_
  refine tt_aload_n (pc := 1915) (i := 0) (j := 1) E dL_law_1915 rfl rfl ?_
  refine tt_iload (pc := 1916) (i := 4) (j := 5) E dL_law_1916 rfl ?_
  refine tt_iconst (pc := 1918) (v := 1) E dL_law_1918 ic_1 ?_
  refine tt_iadd (pc := 1919) E dL_law_1919 ?_
  obtain ⟨g_6, hf⟩ := gd_some hf
  refine tt_scA (pc := 1920) E hX hbB hbl g_6 dL_law_1920 ?_
  refine tt_aload_n (pc := 1921) (i := 0) (j := 1) E dL_law_1921 rfl rfl ?_
  refine tt_iload (pc := 1922) (i := 4) (j := 5) E dL_law_1922 rfl ?_
  refine tt_iconst (pc := 1924) (v := 2) E dL_law_1924 ic_2 ?_
  refine tt_iadd (pc := 1925) E dL_law_1925 ?_
  obtain ⟨g_7, hf⟩ := gd_some hf
  refine tt_scA (pc := 1926) E hX hbB hbl g_7 dL_law_1926 ?_
  obtain ⟨r_8, hr_9, hf⟩ := bd_some hf
  have hc_10 := cX12_lift_ok (l := l) (B := B) (D := D) (cT := cT) (n := n) (adK := adK) (adV := adV) h2 hr_9
  refine tt_cI (pc := 1927) (tt_vi E lmL_242 mtX12_lift hc_10 h2 rfl rfl (Nat.le_of_ble_eq_true rfl) ⟨(Nat.le_of_ble_eq_true rfl), (Nat.le_of_ble_eq_true rfl)⟩ ⟨hk1, hs1⟩ dL_law_1927) ?_
  refine tt_istore (pc := 1930) (i := 6) (lv' := [(6, .int r_8.1), (5, .int r_3.1), (0, .ref b), (1, .ref (B + o1)), (2, .ref (B + o2)), (3, .ref (B + o3)), (4, .int v4)]) E dL_law_1930 (Nat.le_of_ble_eq_true rfl) rfl ?_
  refine tt_aload_n (pc := 1932) (i := 2) (j := 4) E dL_law_1932 rfl rfl ?_
  obtain ⟨r_11, hr_12, hf⟩ := bd_some hf
  have hc_13 := cX12_thrown_ok (l := l) (B := B) (D := D) (cT := cT) (n := n) (adK := adK) (adV := adV) h2 hr_12
  refine tt_cI (pc := 1933) (tt_vi E lmL_127 mtX12_thrown hc_13 h2 rfl rfl (Nat.le_of_ble_eq_true rfl) ⟨(Nat.le_of_ble_eq_true rfl), (Nat.le_of_ble_eq_true rfl)⟩ ⟨hk1, hs1⟩ dL_law_1933) ?_
  refine tt_iload (pc := 1936) (i := 5) (j := 1) E dL_law_1936 rfl ?_
  refine tt_icmp_eq (pc := 1938) (tgt := 1943) E dL_law_1938 rfl (fun c_19 => ?_) (fun c_19 => ?_)
  · have hf := ip c_19 hf
    refine tt_iload (pc := 1943) (i := 5) (j := 1) E dL_law_1943 rfl ?_
    refine tt_if_ne (pc := 1945) (tgt := 1960) E dL_law_1945 rfl (fun c_18 => ?_) (fun c_18 => ?_)
    · have hf := ine c_18 hf
      refine tt_goto (pc := 1960) (tgt := 2449) E dL_law_1960 rfl ?_
      obtain ⟨v_14, ev_14, hf⟩ := nm_ex hf
      refine tt_iinc (pc := 2449) (i := 4) (j := 6) (lv' := [(4, .int v_14), (6, .int r_8.1), (5, .int r_3.1), (0, .ref b), (1, .ref (B + o1)), (2, .ref (B + o2)), (3, .ref (B + o3))]) E dL_law_2449 rfl (ev_14).symm (Nat.le_of_ble_eq_true rfl) rfl ?_
      refine tt_goto (pc := 2452) (tgt := 23) E dL_law_2452 rfl ?_
      refine tt_sub [3, 4, 5, 6, 0] (lv' := [(0, .ref b), (1, .ref (B + o1)), (2, .ref (B + o2)), (3, .ref (B + o3)), (4, .int v_14)]) rfl ?_
      exact hk v_14 r_8.2 hf
    · have hf := ip c_18 hf
      refine tt_aload_n (pc := 1948) (i := 3) (j := 5) E dL_law_1948 rfl rfl ?_
      refine tt_iconst (pc := 1949) (v := 0) E dL_law_1949 ic_0 ?_
      obtain ⟨g_15, hf⟩ := gd_some hf
      refine tt_lald (pc := 1950) E h3 g_15 dL_law_1950 ?_
      refine tt_iload (pc := 1951) (i := 6) (j := 0) E dL_law_1951 rfl ?_
      refine tt_i2l (pc := 1953) E dL_law_1953 ?_
      refine tt_lcmp (pc := 1954) E dL_law_1954 ?_
      refine tt_if_eq (pc := 1955) (tgt := 1960) E dL_law_1955 rfl (fun c_17 => ?_) (fun c_17 => ?_)
      · have hf := ip c_17 hf
        refine tt_goto (pc := 1960) (tgt := 2449) E dL_law_1960 rfl ?_
        obtain ⟨v_16, ev_16, hf⟩ := nm_ex hf
        refine tt_iinc (pc := 2449) (i := 4) (j := 6) (lv' := [(4, .int v_16), (6, .int r_8.1), (5, .int r_3.1), (0, .ref b), (1, .ref (B + o1)), (2, .ref (B + o2)), (3, .ref (B + o3))]) E dL_law_2449 rfl (ev_16).symm (Nat.le_of_ble_eq_true rfl) rfl ?_
        refine tt_goto (pc := 2452) (tgt := 23) E dL_law_2452 rfl ?_
        refine tt_sub [3, 4, 5, 6, 0] (lv' := [(0, .ref b), (1, .ref (B + o1)), (2, .ref (B + o2)), (3, .ref (B + o3)), (4, .int v_16)]) rfl ?_
        exact hk v_16 r_8.2 hf
      · have hf := ine c_17 hf
        refine tt_iconst (pc := 1958) (v := 0) E dL_law_1958 ic_0 ?_
        exact absurd hf ret0
  · have hf := ine c_19 hf
    refine tt_iconst (pc := 1941) (v := 0) E dL_law_1941 ic_0 ?_
    exact absurd hf ret0
set_option maxHeartbeats 4000000 in
theorem tL_law_1963 {p : Program} {l : Launch} {e : Env} {s : State} {m : MethodId} {below : List Frame} {meth : Method} {c : Code} {B : Nat} {D : va_G} {cT : Nat → ClassId} {n : Nat} {adK adV : Nat → Nat} {b L : Nat} {xs : Nat → Int32} {res : Mem} (E : EE p s m #[Value.ref b] c cL_law 9 RL B D cT (XW B adK adV)) (hr : meth.sig.returnType = ret) (hlk : meth.locks = false) (hl0 : l.stackTraces = false) (hX : va_X b L xs s s.heap) (hbB : b < B) (hbl : b < s.heap.size) (hBs : s.heap.size ≤ B) {o1 o2 o3 : Nat} (h1 : isK n o1 8) (h2 : isK n o2 9) (h3 : isK n o3 12) {kc ks : Nat} (hk1 : kc + 1 ≤ 601024) (hs1 : ks + 6 ≤ 7293034) {kb : Int32 → Mem → Option (Int32 × Mem)} (hk : ∀ (v4 : Int32) (μ : Mem), kb v4 μ = some (1, res) → TT p l e room_1 s m #[Value.ref b] below meth c (lw_Z below #[Value.ref b] s) 9 B D cT n (kc + 1) (ks + 6) μ 23 [(0, .ref b), (1, .ref (B + o1)), (2, .ref (B + o2)), (3, .ref (B + o3)), (4, .int v4)] []) {v4 : Int32} {μ : Mem} (hf : fL_law_1963 L xs o1 o2 o3 kb v4 μ = some (1, res)) : TT p l e room_1 s m #[Value.ref b] below meth c (lw_Z below #[Value.ref b] s) 9 B D cT n kc ks μ 1963 [(0, .ref b), (1, .ref (B + o1)), (2, .ref (B + o2)), (3, .ref (B + o3)), (4, .int v4)] [] := by
  have hk0 : kc ≤ 601024 := by omega
  have hs0 : ks ≤ 7293034 := by omega
  unfold fL_law_1963 at hf
  refine tt_aload_n (pc := 1963) (i := 1) (j := 1) E dL_law_1963 rfl rfl ?_
  refine tt_aload_n (pc := 1964) (i := 0) (j := 0) E dL_law_1964 rfl rfl ?_
  refine tt_iload (pc := 1965) (i := 4) (j := 4) E dL_law_1965 rfl ?_
  refine tt_iconst (pc := 1967) (v := 1) E dL_law_1967 ic_1 ?_
  refine tt_iadd (pc := 1968) E dL_law_1968 ?_
  obtain ⟨g_1, hf⟩ := gd_some hf
  refine tt_scA (pc := 1969) E hX hbB hbl g_1 dL_law_1969 ?_
  refine tt_aload_n (pc := 1970) (i := 3) (j := 3) E dL_law_1970 rfl rfl ?_
  obtain ⟨r_2, hr_3, hf⟩ := bd_some hf
  have hc_4 := cL_extra_ok (l := l) (B := B) (D := D) (cT := cT) (n := n) (adK := adK) (adV := adV) hl0 h1 h3 hr_3
  refine tt_cI (pc := 1971) (tt_siW E lmL_243 mtL_extra hc_4 rfl rfl (Nat.le_of_ble_eq_true rfl) ⟨(Nat.le_of_ble_eq_true rfl), (Nat.le_of_ble_eq_true rfl)⟩ ⟨hk1, hs1⟩ dL_law_1971) ?_
  refine tt_istore (pc := 1974) (i := 5) (lv' := [(5, .int r_2.1), (0, .ref b), (1, .ref (B + o1)), (2, .ref (B + o2)), (3, .ref (B + o3)), (4, .int v4)]) E dL_law_1974 (Nat.le_of_ble_eq_true rfl) rfl ?_
  refine tt_aload_n (pc := 1976) (i := 2) (j := 3) E dL_law_1976 rfl rfl ?_
  refine tt_aload_n (pc := 1977) (i := 0) (j := 1) E dL_law_1977 rfl rfl ?_
  refine tt_iload (pc := 1978) (i := 4) (j := 5) E dL_law_1978 rfl ?_
  refine tt_iconst (pc := 1980) (v := 1) E dL_law_1980 ic_1 ?_
  refine tt_iadd (pc := 1981) E dL_law_1981 ?_
  obtain ⟨g_5, hf⟩ := gd_some hf
  refine tt_scA (pc := 1982) E hX hbB hbl g_5 dL_law_1982 ?_
  obtain ⟨r_6, hr_7, hf⟩ := bd_some hf
  have hc_8 := cX12_extra_ok (l := l) (B := B) (D := D) (cT := cT) (n := n) (adK := adK) (adV := adV) h2 hr_7
  refine tt_cZ (pc := 1983) (tt_vi E lmL_245 mtX12_extra hc_8 h2 rfl rfl (Nat.le_of_ble_eq_true rfl) ⟨(Nat.le_of_ble_eq_true rfl), (Nat.le_of_ble_eq_true rfl)⟩ ⟨hk1, hs1⟩ dL_law_1983) (fun z_9 => ?_)
  refine tt_istore (pc := 1986) (i := 6) (lv' := [(6, .int r_6.1), (5, .int r_2.1), (0, .ref b), (1, .ref (B + o1)), (2, .ref (B + o2)), (3, .ref (B + o3)), (4, .int v4)]) E dL_law_1986 (Nat.le_of_ble_eq_true rfl) rfl ?_
  refine tt_aload_n (pc := 1988) (i := 2) (j := 4) E dL_law_1988 rfl rfl ?_
  obtain ⟨r_10, hr_11, hf⟩ := bd_some hf
  have hc_12 := cX12_thrown_ok (l := l) (B := B) (D := D) (cT := cT) (n := n) (adK := adK) (adV := adV) h2 hr_11
  refine tt_cI (pc := 1989) (tt_vi E lmL_127 mtX12_thrown hc_12 h2 rfl rfl (Nat.le_of_ble_eq_true rfl) ⟨(Nat.le_of_ble_eq_true rfl), (Nat.le_of_ble_eq_true rfl)⟩ ⟨hk1, hs1⟩ dL_law_1989) ?_
  refine tt_iload (pc := 1992) (i := 5) (j := 1) E dL_law_1992 rfl ?_
  refine tt_icmp_eq (pc := 1994) (tgt := 1999) E dL_law_1994 rfl (fun c_21 => ?_) (fun c_21 => ?_)
  · have hf := ip c_21 hf
    refine tt_iload (pc := 1999) (i := 5) (j := 1) E dL_law_1999 rfl ?_
    refine tt_if_ne (pc := 2001) (tgt := 2023) E dL_law_2001 rfl (fun c_20 => ?_) (fun c_20 => ?_)
    · have hf := ine c_20 hf
      refine tt_goto (pc := 2023) (tgt := 2449) E dL_law_2023 rfl ?_
      obtain ⟨v_13, ev_13, hf⟩ := nm_ex hf
      refine tt_iinc (pc := 2449) (i := 4) (j := 6) (lv' := [(4, .int v_13), (6, .int r_6.1), (5, .int r_2.1), (0, .ref b), (1, .ref (B + o1)), (2, .ref (B + o2)), (3, .ref (B + o3))]) E dL_law_2449 rfl (ev_13).symm (Nat.le_of_ble_eq_true rfl) rfl ?_
      refine tt_goto (pc := 2452) (tgt := 23) E dL_law_2452 rfl ?_
      refine tt_sub [3, 4, 5, 6, 0] (lv' := [(0, .ref b), (1, .ref (B + o1)), (2, .ref (B + o2)), (3, .ref (B + o3)), (4, .int v_13)]) rfl ?_
      exact hk v_13 r_6.2 hf
    · have hf := ip c_20 hf
      refine tt_aload_n (pc := 2004) (i := 3) (j := 5) E dL_law_2004 rfl rfl ?_
      refine tt_iconst (pc := 2005) (v := 0) E dL_law_2005 ic_0 ?_
      obtain ⟨g_14, hf⟩ := gd_some hf
      refine tt_lald (pc := 2006) E h3 g_14 dL_law_2006 ?_
      refine tt_iload (pc := 2007) (i := 6) (j := 0) E dL_law_2007 rfl ?_
      refine tt_if_eq (pc := 2009) (tgt := 2016) E dL_law_2009 rfl (fun c_19 => ?_) (fun c_19 => ?_)
      · have hf := ip c_19 hf
        refine tt_lconst (pc := 2016) (v := 0) E dL_law_2016 lc_0 ?_
        refine tt_lcmp (pc := 2017) E dL_law_2017 ?_
        refine tt_if_eq (pc := 2018) (tgt := 2023) E dL_law_2018 rfl (fun c_16 => ?_) (fun c_16 => ?_)
        · have hf := ip c_16 hf
          refine tt_goto (pc := 2023) (tgt := 2449) E dL_law_2023 rfl ?_
          obtain ⟨v_15, ev_15, hf⟩ := nm_ex hf
          refine tt_iinc (pc := 2449) (i := 4) (j := 6) (lv' := [(4, .int v_15), (6, .int r_6.1), (5, .int r_2.1), (0, .ref b), (1, .ref (B + o1)), (2, .ref (B + o2)), (3, .ref (B + o3))]) E dL_law_2449 rfl (ev_15).symm (Nat.le_of_ble_eq_true rfl) rfl ?_
          refine tt_goto (pc := 2452) (tgt := 23) E dL_law_2452 rfl ?_
          refine tt_sub [3, 4, 5, 6, 0] (lv' := [(0, .ref b), (1, .ref (B + o1)), (2, .ref (B + o2)), (3, .ref (B + o3)), (4, .int v_15)]) rfl ?_
          exact hk v_15 r_6.2 hf
        · have hf := ine c_16 hf
          refine tt_iconst (pc := 2021) (v := 0) E dL_law_2021 ic_0 ?_
          exact absurd hf ret0
      · have hf := ine c_19 hf
        refine tt_lconst (pc := 2012) (v := 1) E dL_law_2012 lc_1 ?_
        refine tt_goto (pc := 2013) (tgt := 2017) E dL_law_2013 rfl ?_
        refine tt_lcmp (pc := 2017) E dL_law_2017 ?_
        refine tt_if_eq (pc := 2018) (tgt := 2023) E dL_law_2018 rfl (fun c_18 => ?_) (fun c_18 => ?_)
        · have hf := ip c_18 hf
          refine tt_goto (pc := 2023) (tgt := 2449) E dL_law_2023 rfl ?_
          obtain ⟨v_17, ev_17, hf⟩ := nm_ex hf
          refine tt_iinc (pc := 2449) (i := 4) (j := 6) (lv' := [(4, .int v_17), (6, .int r_6.1), (5, .int r_2.1), (0, .ref b), (1, .ref (B + o1)), (2, .ref (B + o2)), (3, .ref (B + o3))]) E dL_law_2449 rfl (ev_17).symm (Nat.le_of_ble_eq_true rfl) rfl ?_
          refine tt_goto (pc := 2452) (tgt := 23) E dL_law_2452 rfl ?_
          refine tt_sub [3, 4, 5, 6, 0] (lv' := [(0, .ref b), (1, .ref (B + o1)), (2, .ref (B + o2)), (3, .ref (B + o3)), (4, .int v_17)]) rfl ?_
          exact hk v_17 r_6.2 hf
        · have hf := ine c_18 hf
          refine tt_iconst (pc := 2021) (v := 0) E dL_law_2021 ic_0 ?_
          exact absurd hf ret0
  · have hf := ine c_21 hf
    refine tt_iconst (pc := 1997) (v := 0) E dL_law_1997 ic_0 ?_
    exact absurd hf ret0
set_option maxHeartbeats 4000000 in
theorem tL_law_2026 {p : Program} {l : Launch} {e : Env} {s : State} {m : MethodId} {below : List Frame} {meth : Method} {c : Code} {B : Nat} {D : va_G} {cT : Nat → ClassId} {n : Nat} {adK adV : Nat → Nat} {b L : Nat} {xs : Nat → Int32} {res : Mem} (E : EE p s m #[Value.ref b] c cL_law 9 RL B D cT (XW B adK adV)) (hr : meth.sig.returnType = ret) (hlk : meth.locks = false) (hl0 : l.stackTraces = false) (hX : va_X b L xs s s.heap) (hbB : b < B) (hbl : b < s.heap.size) (hBs : s.heap.size ≤ B) {o1 o2 o3 : Nat} (h1 : isK n o1 8) (h2 : isK n o2 9) (h3 : isK n o3 12) {kc ks : Nat} (hk1 : kc + 1 ≤ 601024) (hs1 : ks + 6 ≤ 7293034) {kb : Int32 → Mem → Option (Int32 × Mem)} (hk : ∀ (v4 : Int32) (μ : Mem), kb v4 μ = some (1, res) → TT p l e room_1 s m #[Value.ref b] below meth c (lw_Z below #[Value.ref b] s) 9 B D cT n (kc + 1) (ks + 6) μ 23 [(0, .ref b), (1, .ref (B + o1)), (2, .ref (B + o2)), (3, .ref (B + o3)), (4, .int v4)] []) {v4 : Int32} {μ : Mem} (hf : fL_law_2026 L xs o1 o2 o3 kb v4 μ = some (1, res)) : TT p l e room_1 s m #[Value.ref b] below meth c (lw_Z below #[Value.ref b] s) 9 B D cT n kc ks μ 2026 [(0, .ref b), (1, .ref (B + o1)), (2, .ref (B + o2)), (3, .ref (B + o3)), (4, .int v4)] [] := by
  have hk0 : kc ≤ 601024 := by omega
  have hs0 : ks ≤ 7293034 := by omega
  unfold fL_law_2026 at hf
  refine tt_aload_n (pc := 2026) (i := 1) (j := 1) E dL_law_2026 rfl rfl ?_
  refine tt_aload_n (pc := 2027) (i := 0) (j := 0) E dL_law_2027 rfl rfl ?_
  refine tt_iload (pc := 2028) (i := 4) (j := 4) E dL_law_2028 rfl ?_
  refine tt_iconst (pc := 2030) (v := 1) E dL_law_2030 ic_1 ?_
  refine tt_iadd (pc := 2031) E dL_law_2031 ?_
  obtain ⟨g_1, hf⟩ := gd_some hf
  refine tt_scA (pc := 2032) E hX hbB hbl g_1 dL_law_2032 ?_
  refine tt_aload_n (pc := 2033) (i := 0) (j := 0) E dL_law_2033 rfl rfl ?_
  refine tt_iload (pc := 2034) (i := 4) (j := 4) E dL_law_2034 rfl ?_
  refine tt_iconst (pc := 2036) (v := 2) E dL_law_2036 ic_2 ?_
  refine tt_iadd (pc := 2037) E dL_law_2037 ?_
  obtain ⟨g_2, hf⟩ := gd_some hf
  refine tt_scA (pc := 2038) E hX hbB hbl g_2 dL_law_2038 ?_
  refine tt_aload_n (pc := 2039) (i := 3) (j := 3) E dL_law_2039 rfl rfl ?_
  obtain ⟨r_3, hr_4, hf⟩ := bd_some hf
  have hc_5 := cL_setSpeed_ok (l := l) (B := B) (D := D) (cT := cT) (n := n) (adK := adK) (adV := adV) hl0 h1 h3 hr_4
  refine tt_cI (pc := 2040) (tt_siW E lmL_246 mtL_setSpeed hc_5 rfl rfl (Nat.le_of_ble_eq_true rfl) ⟨(Nat.le_of_ble_eq_true rfl), (Nat.le_of_ble_eq_true rfl)⟩ ⟨hk1, hs1⟩ dL_law_2040) ?_
  refine tt_istore (pc := 2043) (i := 5) (lv' := [(5, .int r_3.1), (0, .ref b), (1, .ref (B + o1)), (2, .ref (B + o2)), (3, .ref (B + o3)), (4, .int v4)]) E dL_law_2043 (Nat.le_of_ble_eq_true rfl) rfl ?_
  refine tt_aload_n (pc := 2045) (i := 2) (j := 3) E dL_law_2045 rfl rfl ?_
  refine tt_aload_n (pc := 2046) (i := 0) (j := 1) E dL_law_2046 rfl rfl ?_
  refine tt_iload (pc := 2047) (i := 4) (j := 5) E dL_law_2047 rfl ?_
  refine tt_iconst (pc := 2049) (v := 1) E dL_law_2049 ic_1 ?_
  refine tt_iadd (pc := 2050) E dL_law_2050 ?_
  obtain ⟨g_6, hf⟩ := gd_some hf
  refine tt_scA (pc := 2051) E hX hbB hbl g_6 dL_law_2051 ?_
  refine tt_aload_n (pc := 2052) (i := 0) (j := 1) E dL_law_2052 rfl rfl ?_
  refine tt_iload (pc := 2053) (i := 4) (j := 5) E dL_law_2053 rfl ?_
  refine tt_iconst (pc := 2055) (v := 2) E dL_law_2055 ic_2 ?_
  refine tt_iadd (pc := 2056) E dL_law_2056 ?_
  obtain ⟨g_7, hf⟩ := gd_some hf
  refine tt_scA (pc := 2057) E hX hbB hbl g_7 dL_law_2057 ?_
  obtain ⟨r_8, hr_9, hf⟩ := bd_some hf
  have hc_10 := cX12_setSpeed_ok (l := l) (B := B) (D := D) (cT := cT) (n := n) (adK := adK) (adV := adV) h2 hr_9
  refine tt_cI (pc := 2058) (tt_vi E lmL_248 mtX12_setSpeed hc_10 h2 rfl rfl (Nat.le_of_ble_eq_true rfl) ⟨(Nat.le_of_ble_eq_true rfl), (Nat.le_of_ble_eq_true rfl)⟩ ⟨hk1, hs1⟩ dL_law_2058) ?_
  refine tt_istore (pc := 2061) (i := 6) (lv' := [(6, .int r_8.1), (5, .int r_3.1), (0, .ref b), (1, .ref (B + o1)), (2, .ref (B + o2)), (3, .ref (B + o3)), (4, .int v4)]) E dL_law_2061 (Nat.le_of_ble_eq_true rfl) rfl ?_
  refine tt_aload_n (pc := 2063) (i := 2) (j := 4) E dL_law_2063 rfl rfl ?_
  obtain ⟨r_11, hr_12, hf⟩ := bd_some hf
  have hc_13 := cX12_thrown_ok (l := l) (B := B) (D := D) (cT := cT) (n := n) (adK := adK) (adV := adV) h2 hr_12
  refine tt_cI (pc := 2064) (tt_vi E lmL_127 mtX12_thrown hc_13 h2 rfl rfl (Nat.le_of_ble_eq_true rfl) ⟨(Nat.le_of_ble_eq_true rfl), (Nat.le_of_ble_eq_true rfl)⟩ ⟨hk1, hs1⟩ dL_law_2064) ?_
  refine tt_iload (pc := 2067) (i := 5) (j := 1) E dL_law_2067 rfl ?_
  refine tt_icmp_eq (pc := 2069) (tgt := 2074) E dL_law_2069 rfl (fun c_19 => ?_) (fun c_19 => ?_)
  · have hf := ip c_19 hf
    refine tt_iload (pc := 2074) (i := 5) (j := 1) E dL_law_2074 rfl ?_
    refine tt_if_ne (pc := 2076) (tgt := 2091) E dL_law_2076 rfl (fun c_18 => ?_) (fun c_18 => ?_)
    · have hf := ine c_18 hf
      refine tt_goto (pc := 2091) (tgt := 2449) E dL_law_2091 rfl ?_
      obtain ⟨v_14, ev_14, hf⟩ := nm_ex hf
      refine tt_iinc (pc := 2449) (i := 4) (j := 6) (lv' := [(4, .int v_14), (6, .int r_8.1), (5, .int r_3.1), (0, .ref b), (1, .ref (B + o1)), (2, .ref (B + o2)), (3, .ref (B + o3))]) E dL_law_2449 rfl (ev_14).symm (Nat.le_of_ble_eq_true rfl) rfl ?_
      refine tt_goto (pc := 2452) (tgt := 23) E dL_law_2452 rfl ?_
      refine tt_sub [3, 4, 5, 6, 0] (lv' := [(0, .ref b), (1, .ref (B + o1)), (2, .ref (B + o2)), (3, .ref (B + o3)), (4, .int v_14)]) rfl ?_
      exact hk v_14 r_8.2 hf
    · have hf := ip c_18 hf
      refine tt_aload_n (pc := 2079) (i := 3) (j := 5) E dL_law_2079 rfl rfl ?_
      refine tt_iconst (pc := 2080) (v := 0) E dL_law_2080 ic_0 ?_
      obtain ⟨g_15, hf⟩ := gd_some hf
      refine tt_lald (pc := 2081) E h3 g_15 dL_law_2081 ?_
      refine tt_iload (pc := 2082) (i := 6) (j := 0) E dL_law_2082 rfl ?_
      refine tt_i2l (pc := 2084) E dL_law_2084 ?_
      refine tt_lcmp (pc := 2085) E dL_law_2085 ?_
      refine tt_if_eq (pc := 2086) (tgt := 2091) E dL_law_2086 rfl (fun c_17 => ?_) (fun c_17 => ?_)
      · have hf := ip c_17 hf
        refine tt_goto (pc := 2091) (tgt := 2449) E dL_law_2091 rfl ?_
        obtain ⟨v_16, ev_16, hf⟩ := nm_ex hf
        refine tt_iinc (pc := 2449) (i := 4) (j := 6) (lv' := [(4, .int v_16), (6, .int r_8.1), (5, .int r_3.1), (0, .ref b), (1, .ref (B + o1)), (2, .ref (B + o2)), (3, .ref (B + o3))]) E dL_law_2449 rfl (ev_16).symm (Nat.le_of_ble_eq_true rfl) rfl ?_
        refine tt_goto (pc := 2452) (tgt := 23) E dL_law_2452 rfl ?_
        refine tt_sub [3, 4, 5, 6, 0] (lv' := [(0, .ref b), (1, .ref (B + o1)), (2, .ref (B + o2)), (3, .ref (B + o3)), (4, .int v_16)]) rfl ?_
        exact hk v_16 r_8.2 hf
      · have hf := ine c_17 hf
        refine tt_iconst (pc := 2089) (v := 0) E dL_law_2089 ic_0 ?_
        exact absurd hf ret0
  · have hf := ine c_19 hf
    refine tt_iconst (pc := 2072) (v := 0) E dL_law_2072 ic_0 ?_
    exact absurd hf ret0
set_option maxHeartbeats 4000000 in
theorem tL_law_2094 {p : Program} {l : Launch} {e : Env} {s : State} {m : MethodId} {below : List Frame} {meth : Method} {c : Code} {B : Nat} {D : va_G} {cT : Nat → ClassId} {n : Nat} {adK adV : Nat → Nat} {b L : Nat} {xs : Nat → Int32} {res : Mem} (E : EE p s m #[Value.ref b] c cL_law 9 RL B D cT (XW B adK adV)) (hr : meth.sig.returnType = ret) (hlk : meth.locks = false) (hl0 : l.stackTraces = false) (hX : va_X b L xs s s.heap) (hbB : b < B) (hbl : b < s.heap.size) (hBs : s.heap.size ≤ B) {o1 o2 o3 : Nat} (h1 : isK n o1 8) (h2 : isK n o2 9) (h3 : isK n o3 12) {kc ks : Nat} (hk1 : kc + 1 ≤ 601024) (hs1 : ks + 6 ≤ 7293034) {kb : Int32 → Mem → Option (Int32 × Mem)} (hk : ∀ (v4 : Int32) (μ : Mem), kb v4 μ = some (1, res) → TT p l e room_1 s m #[Value.ref b] below meth c (lw_Z below #[Value.ref b] s) 9 B D cT n (kc + 1) (ks + 6) μ 23 [(0, .ref b), (1, .ref (B + o1)), (2, .ref (B + o2)), (3, .ref (B + o3)), (4, .int v4)] []) {v4 : Int32} {μ : Mem} (hf : fL_law_2094 L xs o1 o2 o3 kb v4 μ = some (1, res)) : TT p l e room_1 s m #[Value.ref b] below meth c (lw_Z below #[Value.ref b] s) 9 B D cT n kc ks μ 2094 [(0, .ref b), (1, .ref (B + o1)), (2, .ref (B + o2)), (3, .ref (B + o3)), (4, .int v4)] [] := by
  have hk0 : kc ≤ 601024 := by omega
  have hs0 : ks ≤ 7293034 := by omega
  unfold fL_law_2094 at hf
  refine tt_aload_n (pc := 2094) (i := 1) (j := 1) E dL_law_2094 rfl rfl ?_
  refine tt_aload_n (pc := 2095) (i := 0) (j := 0) E dL_law_2095 rfl rfl ?_
  refine tt_iload (pc := 2096) (i := 4) (j := 4) E dL_law_2096 rfl ?_
  refine tt_iconst (pc := 2098) (v := 1) E dL_law_2098 ic_1 ?_
  refine tt_iadd (pc := 2099) E dL_law_2099 ?_
  obtain ⟨g_1, hf⟩ := gd_some hf
  refine tt_scA (pc := 2100) E hX hbB hbl g_1 dL_law_2100 ?_
  refine tt_aload_n (pc := 2101) (i := 0) (j := 0) E dL_law_2101 rfl rfl ?_
  refine tt_iload (pc := 2102) (i := 4) (j := 4) E dL_law_2102 rfl ?_
  refine tt_iconst (pc := 2104) (v := 2) E dL_law_2104 ic_2 ?_
  refine tt_iadd (pc := 2105) E dL_law_2105 ?_
  obtain ⟨g_2, hf⟩ := gd_some hf
  refine tt_scA (pc := 2106) E hX hbB hbl g_2 dL_law_2106 ?_
  refine tt_aload_n (pc := 2107) (i := 3) (j := 3) E dL_law_2107 rfl rfl ?_
  obtain ⟨r_3, hr_4, hf⟩ := bd_some hf
  have hc_5 := cL_heal_ok (l := l) (B := B) (D := D) (cT := cT) (n := n) (adK := adK) (adV := adV) hl0 h1 h3 hr_4
  refine tt_cI (pc := 2108) (tt_siW E lmL_249 mtL_heal hc_5 rfl rfl (Nat.le_of_ble_eq_true rfl) ⟨(Nat.le_of_ble_eq_true rfl), (Nat.le_of_ble_eq_true rfl)⟩ ⟨hk1, hs1⟩ dL_law_2108) ?_
  refine tt_istore (pc := 2111) (i := 5) (lv' := [(5, .int r_3.1), (0, .ref b), (1, .ref (B + o1)), (2, .ref (B + o2)), (3, .ref (B + o3)), (4, .int v4)]) E dL_law_2111 (Nat.le_of_ble_eq_true rfl) rfl ?_
  refine tt_aload_n (pc := 2113) (i := 2) (j := 3) E dL_law_2113 rfl rfl ?_
  refine tt_aload_n (pc := 2114) (i := 0) (j := 1) E dL_law_2114 rfl rfl ?_
  refine tt_iload (pc := 2115) (i := 4) (j := 5) E dL_law_2115 rfl ?_
  refine tt_iconst (pc := 2117) (v := 1) E dL_law_2117 ic_1 ?_
  refine tt_iadd (pc := 2118) E dL_law_2118 ?_
  obtain ⟨g_6, hf⟩ := gd_some hf
  refine tt_scA (pc := 2119) E hX hbB hbl g_6 dL_law_2119 ?_
  refine tt_aload_n (pc := 2120) (i := 0) (j := 1) E dL_law_2120 rfl rfl ?_
  refine tt_iload (pc := 2121) (i := 4) (j := 5) E dL_law_2121 rfl ?_
  refine tt_iconst (pc := 2123) (v := 2) E dL_law_2123 ic_2 ?_
  refine tt_iadd (pc := 2124) E dL_law_2124 ?_
  obtain ⟨g_7, hf⟩ := gd_some hf
  refine tt_scA (pc := 2125) E hX hbB hbl g_7 dL_law_2125 ?_
  obtain ⟨r_8, hr_9, hf⟩ := bd_some hf
  have hc_10 := cX12_heal_ok (l := l) (B := B) (D := D) (cT := cT) (n := n) (adK := adK) (adV := adV) h2 hr_9
  refine tt_cI (pc := 2126) (tt_vi E lmL_251 mtX12_heal hc_10 h2 rfl rfl (Nat.le_of_ble_eq_true rfl) ⟨(Nat.le_of_ble_eq_true rfl), (Nat.le_of_ble_eq_true rfl)⟩ ⟨hk1, hs1⟩ dL_law_2126) ?_
  refine tt_istore (pc := 2129) (i := 6) (lv' := [(6, .int r_8.1), (5, .int r_3.1), (0, .ref b), (1, .ref (B + o1)), (2, .ref (B + o2)), (3, .ref (B + o3)), (4, .int v4)]) E dL_law_2129 (Nat.le_of_ble_eq_true rfl) rfl ?_
  refine tt_aload_n (pc := 2131) (i := 2) (j := 4) E dL_law_2131 rfl rfl ?_
  obtain ⟨r_11, hr_12, hf⟩ := bd_some hf
  have hc_13 := cX12_thrown_ok (l := l) (B := B) (D := D) (cT := cT) (n := n) (adK := adK) (adV := adV) h2 hr_12
  refine tt_cI (pc := 2132) (tt_vi E lmL_127 mtX12_thrown hc_13 h2 rfl rfl (Nat.le_of_ble_eq_true rfl) ⟨(Nat.le_of_ble_eq_true rfl), (Nat.le_of_ble_eq_true rfl)⟩ ⟨hk1, hs1⟩ dL_law_2132) ?_
  refine tt_iload (pc := 2135) (i := 5) (j := 1) E dL_law_2135 rfl ?_
  refine tt_icmp_eq (pc := 2137) (tgt := 2142) E dL_law_2137 rfl (fun c_19 => ?_) (fun c_19 => ?_)
  · have hf := ip c_19 hf
    refine tt_iload (pc := 2142) (i := 5) (j := 1) E dL_law_2142 rfl ?_
    refine tt_if_ne (pc := 2144) (tgt := 2159) E dL_law_2144 rfl (fun c_18 => ?_) (fun c_18 => ?_)
    · have hf := ine c_18 hf
      refine tt_goto (pc := 2159) (tgt := 2449) E dL_law_2159 rfl ?_
      obtain ⟨v_14, ev_14, hf⟩ := nm_ex hf
      refine tt_iinc (pc := 2449) (i := 4) (j := 6) (lv' := [(4, .int v_14), (6, .int r_8.1), (5, .int r_3.1), (0, .ref b), (1, .ref (B + o1)), (2, .ref (B + o2)), (3, .ref (B + o3))]) E dL_law_2449 rfl (ev_14).symm (Nat.le_of_ble_eq_true rfl) rfl ?_
      refine tt_goto (pc := 2452) (tgt := 23) E dL_law_2452 rfl ?_
      refine tt_sub [3, 4, 5, 6, 0] (lv' := [(0, .ref b), (1, .ref (B + o1)), (2, .ref (B + o2)), (3, .ref (B + o3)), (4, .int v_14)]) rfl ?_
      exact hk v_14 r_8.2 hf
    · have hf := ip c_18 hf
      refine tt_aload_n (pc := 2147) (i := 3) (j := 5) E dL_law_2147 rfl rfl ?_
      refine tt_iconst (pc := 2148) (v := 0) E dL_law_2148 ic_0 ?_
      obtain ⟨g_15, hf⟩ := gd_some hf
      refine tt_lald (pc := 2149) E h3 g_15 dL_law_2149 ?_
      refine tt_iload (pc := 2150) (i := 6) (j := 0) E dL_law_2150 rfl ?_
      refine tt_i2l (pc := 2152) E dL_law_2152 ?_
      refine tt_lcmp (pc := 2153) E dL_law_2153 ?_
      refine tt_if_eq (pc := 2154) (tgt := 2159) E dL_law_2154 rfl (fun c_17 => ?_) (fun c_17 => ?_)
      · have hf := ip c_17 hf
        refine tt_goto (pc := 2159) (tgt := 2449) E dL_law_2159 rfl ?_
        obtain ⟨v_16, ev_16, hf⟩ := nm_ex hf
        refine tt_iinc (pc := 2449) (i := 4) (j := 6) (lv' := [(4, .int v_16), (6, .int r_8.1), (5, .int r_3.1), (0, .ref b), (1, .ref (B + o1)), (2, .ref (B + o2)), (3, .ref (B + o3))]) E dL_law_2449 rfl (ev_16).symm (Nat.le_of_ble_eq_true rfl) rfl ?_
        refine tt_goto (pc := 2452) (tgt := 23) E dL_law_2452 rfl ?_
        refine tt_sub [3, 4, 5, 6, 0] (lv' := [(0, .ref b), (1, .ref (B + o1)), (2, .ref (B + o2)), (3, .ref (B + o3)), (4, .int v_16)]) rfl ?_
        exact hk v_16 r_8.2 hf
      · have hf := ine c_17 hf
        refine tt_iconst (pc := 2157) (v := 0) E dL_law_2157 ic_0 ?_
        exact absurd hf ret0
  · have hf := ine c_19 hf
    refine tt_iconst (pc := 2140) (v := 0) E dL_law_2140 ic_0 ?_
    exact absurd hf ret0
set_option maxHeartbeats 4000000 in
theorem tL_law_2162 {p : Program} {l : Launch} {e : Env} {s : State} {m : MethodId} {below : List Frame} {meth : Method} {c : Code} {B : Nat} {D : va_G} {cT : Nat → ClassId} {n : Nat} {adK adV : Nat → Nat} {b L : Nat} {xs : Nat → Int32} {res : Mem} (E : EE p s m #[Value.ref b] c cL_law 9 RL B D cT (XW B adK adV)) (hr : meth.sig.returnType = ret) (hlk : meth.locks = false) (hl0 : l.stackTraces = false) (hX : va_X b L xs s s.heap) (hbB : b < B) (hbl : b < s.heap.size) (hBs : s.heap.size ≤ B) {o1 o2 o3 : Nat} (h1 : isK n o1 8) (h2 : isK n o2 9) (h3 : isK n o3 12) {kc ks : Nat} (hk1 : kc + 1 ≤ 601024) (hs1 : ks + 6 ≤ 7293034) {kb : Int32 → Mem → Option (Int32 × Mem)} (hk : ∀ (v4 : Int32) (μ : Mem), kb v4 μ = some (1, res) → TT p l e room_1 s m #[Value.ref b] below meth c (lw_Z below #[Value.ref b] s) 9 B D cT n (kc + 1) (ks + 6) μ 23 [(0, .ref b), (1, .ref (B + o1)), (2, .ref (B + o2)), (3, .ref (B + o3)), (4, .int v4)] []) {v4 : Int32} {μ : Mem} (hf : fL_law_2162 L xs o1 o2 o3 kb v4 μ = some (1, res)) : TT p l e room_1 s m #[Value.ref b] below meth c (lw_Z below #[Value.ref b] s) 9 B D cT n kc ks μ 2162 [(0, .ref b), (1, .ref (B + o1)), (2, .ref (B + o2)), (3, .ref (B + o3)), (4, .int v4)] [] := by
  have hk0 : kc ≤ 601024 := by omega
  have hs0 : ks ≤ 7293034 := by omega
  unfold fL_law_2162 at hf
  refine tt_aload_n (pc := 2162) (i := 1) (j := 1) E dL_law_2162 rfl rfl ?_
  refine tt_aload_n (pc := 2163) (i := 0) (j := 0) E dL_law_2163 rfl rfl ?_
  refine tt_iload (pc := 2164) (i := 4) (j := 4) E dL_law_2164 rfl ?_
  refine tt_iconst (pc := 2166) (v := 1) E dL_law_2166 ic_1 ?_
  refine tt_iadd (pc := 2167) E dL_law_2167 ?_
  obtain ⟨g_1, hf⟩ := gd_some hf
  refine tt_scA (pc := 2168) E hX hbB hbl g_1 dL_law_2168 ?_
  refine tt_aload_n (pc := 2169) (i := 3) (j := 3) E dL_law_2169 rfl rfl ?_
  obtain ⟨r_2, hr_3, hf⟩ := bd_some hf
  have hc_4 := cL_setWheel_ok (l := l) (B := B) (D := D) (cT := cT) (n := n) (adK := adK) (adV := adV) hl0 h1 h3 hr_3
  refine tt_cI (pc := 2170) (tt_siW E lmL_252 mtL_setWheel hc_4 rfl rfl (Nat.le_of_ble_eq_true rfl) ⟨(Nat.le_of_ble_eq_true rfl), (Nat.le_of_ble_eq_true rfl)⟩ ⟨hk1, hs1⟩ dL_law_2170) ?_
  refine tt_istore (pc := 2173) (i := 5) (lv' := [(5, .int r_2.1), (0, .ref b), (1, .ref (B + o1)), (2, .ref (B + o2)), (3, .ref (B + o3)), (4, .int v4)]) E dL_law_2173 (Nat.le_of_ble_eq_true rfl) rfl ?_
  refine tt_aload_n (pc := 2175) (i := 2) (j := 3) E dL_law_2175 rfl rfl ?_
  refine tt_aload_n (pc := 2176) (i := 0) (j := 1) E dL_law_2176 rfl rfl ?_
  refine tt_iload (pc := 2177) (i := 4) (j := 5) E dL_law_2177 rfl ?_
  refine tt_iconst (pc := 2179) (v := 1) E dL_law_2179 ic_1 ?_
  refine tt_iadd (pc := 2180) E dL_law_2180 ?_
  obtain ⟨g_5, hf⟩ := gd_some hf
  refine tt_scA (pc := 2181) E hX hbB hbl g_5 dL_law_2181 ?_
  obtain ⟨r_6, hr_7, hf⟩ := bd_some hf
  have hc_8 := cX12_setWheel_ok (l := l) (B := B) (D := D) (cT := cT) (n := n) (adK := adK) (adV := adV) h2 hr_7
  refine tt_cI (pc := 2182) (tt_vi E lmL_254 mtX12_setWheel hc_8 h2 rfl rfl (Nat.le_of_ble_eq_true rfl) ⟨(Nat.le_of_ble_eq_true rfl), (Nat.le_of_ble_eq_true rfl)⟩ ⟨hk1, hs1⟩ dL_law_2182) ?_
  refine tt_istore (pc := 2185) (i := 6) (lv' := [(6, .int r_6.1), (5, .int r_2.1), (0, .ref b), (1, .ref (B + o1)), (2, .ref (B + o2)), (3, .ref (B + o3)), (4, .int v4)]) E dL_law_2185 (Nat.le_of_ble_eq_true rfl) rfl ?_
  refine tt_aload_n (pc := 2187) (i := 2) (j := 4) E dL_law_2187 rfl rfl ?_
  obtain ⟨r_9, hr_10, hf⟩ := bd_some hf
  have hc_11 := cX12_thrown_ok (l := l) (B := B) (D := D) (cT := cT) (n := n) (adK := adK) (adV := adV) h2 hr_10
  refine tt_cI (pc := 2188) (tt_vi E lmL_127 mtX12_thrown hc_11 h2 rfl rfl (Nat.le_of_ble_eq_true rfl) ⟨(Nat.le_of_ble_eq_true rfl), (Nat.le_of_ble_eq_true rfl)⟩ ⟨hk1, hs1⟩ dL_law_2188) ?_
  refine tt_iload (pc := 2191) (i := 5) (j := 1) E dL_law_2191 rfl ?_
  refine tt_icmp_eq (pc := 2193) (tgt := 2198) E dL_law_2193 rfl (fun c_17 => ?_) (fun c_17 => ?_)
  · have hf := ip c_17 hf
    refine tt_iload (pc := 2198) (i := 5) (j := 1) E dL_law_2198 rfl ?_
    refine tt_if_ne (pc := 2200) (tgt := 2215) E dL_law_2200 rfl (fun c_16 => ?_) (fun c_16 => ?_)
    · have hf := ine c_16 hf
      refine tt_goto (pc := 2215) (tgt := 2449) E dL_law_2215 rfl ?_
      obtain ⟨v_12, ev_12, hf⟩ := nm_ex hf
      refine tt_iinc (pc := 2449) (i := 4) (j := 6) (lv' := [(4, .int v_12), (6, .int r_6.1), (5, .int r_2.1), (0, .ref b), (1, .ref (B + o1)), (2, .ref (B + o2)), (3, .ref (B + o3))]) E dL_law_2449 rfl (ev_12).symm (Nat.le_of_ble_eq_true rfl) rfl ?_
      refine tt_goto (pc := 2452) (tgt := 23) E dL_law_2452 rfl ?_
      refine tt_sub [3, 4, 5, 6, 0] (lv' := [(0, .ref b), (1, .ref (B + o1)), (2, .ref (B + o2)), (3, .ref (B + o3)), (4, .int v_12)]) rfl ?_
      exact hk v_12 r_6.2 hf
    · have hf := ip c_16 hf
      refine tt_aload_n (pc := 2203) (i := 3) (j := 5) E dL_law_2203 rfl rfl ?_
      refine tt_iconst (pc := 2204) (v := 0) E dL_law_2204 ic_0 ?_
      obtain ⟨g_13, hf⟩ := gd_some hf
      refine tt_lald (pc := 2205) E h3 g_13 dL_law_2205 ?_
      refine tt_iload (pc := 2206) (i := 6) (j := 0) E dL_law_2206 rfl ?_
      refine tt_i2l (pc := 2208) E dL_law_2208 ?_
      refine tt_lcmp (pc := 2209) E dL_law_2209 ?_
      refine tt_if_eq (pc := 2210) (tgt := 2215) E dL_law_2210 rfl (fun c_15 => ?_) (fun c_15 => ?_)
      · have hf := ip c_15 hf
        refine tt_goto (pc := 2215) (tgt := 2449) E dL_law_2215 rfl ?_
        obtain ⟨v_14, ev_14, hf⟩ := nm_ex hf
        refine tt_iinc (pc := 2449) (i := 4) (j := 6) (lv' := [(4, .int v_14), (6, .int r_6.1), (5, .int r_2.1), (0, .ref b), (1, .ref (B + o1)), (2, .ref (B + o2)), (3, .ref (B + o3))]) E dL_law_2449 rfl (ev_14).symm (Nat.le_of_ble_eq_true rfl) rfl ?_
        refine tt_goto (pc := 2452) (tgt := 23) E dL_law_2452 rfl ?_
        refine tt_sub [3, 4, 5, 6, 0] (lv' := [(0, .ref b), (1, .ref (B + o1)), (2, .ref (B + o2)), (3, .ref (B + o3)), (4, .int v_14)]) rfl ?_
        exact hk v_14 r_6.2 hf
      · have hf := ine c_15 hf
        refine tt_iconst (pc := 2213) (v := 0) E dL_law_2213 ic_0 ?_
        exact absurd hf ret0
  · have hf := ine c_17 hf
    refine tt_iconst (pc := 2196) (v := 0) E dL_law_2196 ic_0 ?_
    exact absurd hf ret0
set_option maxHeartbeats 4000000 in
theorem tL_law_2218 {p : Program} {l : Launch} {e : Env} {s : State} {m : MethodId} {below : List Frame} {meth : Method} {c : Code} {B : Nat} {D : va_G} {cT : Nat → ClassId} {n : Nat} {adK adV : Nat → Nat} {b L : Nat} {xs : Nat → Int32} {res : Mem} (E : EE p s m #[Value.ref b] c cL_law 9 RL B D cT (XW B adK adV)) (hr : meth.sig.returnType = ret) (hlk : meth.locks = false) (hl0 : l.stackTraces = false) (hX : va_X b L xs s s.heap) (hbB : b < B) (hbl : b < s.heap.size) (hBs : s.heap.size ≤ B) {o1 o2 o3 : Nat} (h1 : isK n o1 8) (h2 : isK n o2 9) (h3 : isK n o3 12) {kc ks : Nat} (hk1 : kc + 1 ≤ 601024) (hs1 : ks + 6 ≤ 7293034) {kb : Int32 → Mem → Option (Int32 × Mem)} (hk : ∀ (v4 : Int32) (μ : Mem), kb v4 μ = some (1, res) → TT p l e room_1 s m #[Value.ref b] below meth c (lw_Z below #[Value.ref b] s) 9 B D cT n (kc + 1) (ks + 6) μ 23 [(0, .ref b), (1, .ref (B + o1)), (2, .ref (B + o2)), (3, .ref (B + o3)), (4, .int v4)] []) {v4 : Int32} {μ : Mem} (hf : fL_law_2218 L xs o1 o2 o3 kb v4 μ = some (1, res)) : TT p l e room_1 s m #[Value.ref b] below meth c (lw_Z below #[Value.ref b] s) 9 B D cT n kc ks μ 2218 [(0, .ref b), (1, .ref (B + o1)), (2, .ref (B + o2)), (3, .ref (B + o3)), (4, .int v4)] [] := by
  have hk0 : kc ≤ 601024 := by omega
  have hs0 : ks ≤ 7293034 := by omega
  unfold fL_law_2218 at hf
  refine tt_aload_n (pc := 2218) (i := 1) (j := 1) E dL_law_2218 rfl rfl ?_
  refine tt_aload_n (pc := 2219) (i := 0) (j := 0) E dL_law_2219 rfl rfl ?_
  refine tt_iload (pc := 2220) (i := 4) (j := 4) E dL_law_2220 rfl ?_
  refine tt_iconst (pc := 2222) (v := 1) E dL_law_2222 ic_1 ?_
  refine tt_iadd (pc := 2223) E dL_law_2223 ?_
  obtain ⟨g_1, hf⟩ := gd_some hf
  refine tt_scA (pc := 2224) E hX hbB hbl g_1 dL_law_2224 ?_
  refine tt_aload_n (pc := 2225) (i := 0) (j := 0) E dL_law_2225 rfl rfl ?_
  refine tt_iload (pc := 2226) (i := 4) (j := 4) E dL_law_2226 rfl ?_
  refine tt_iconst (pc := 2228) (v := 2) E dL_law_2228 ic_2 ?_
  refine tt_iadd (pc := 2229) E dL_law_2229 ?_
  obtain ⟨g_2, hf⟩ := gd_some hf
  refine tt_scA (pc := 2230) E hX hbB hbl g_2 dL_law_2230 ?_
  refine tt_aload_n (pc := 2231) (i := 0) (j := 0) E dL_law_2231 rfl rfl ?_
  refine tt_iload (pc := 2232) (i := 4) (j := 4) E dL_law_2232 rfl ?_
  refine tt_iconst (pc := 2234) (v := 3) E dL_law_2234 ic_3 ?_
  refine tt_iadd (pc := 2235) E dL_law_2235 ?_
  obtain ⟨g_3, hf⟩ := gd_some hf
  refine tt_scA (pc := 2236) E hX hbB hbl g_3 dL_law_2236 ?_
  refine tt_aload_n (pc := 2237) (i := 0) (j := 0) E dL_law_2237 rfl rfl ?_
  refine tt_iload (pc := 2238) (i := 4) (j := 4) E dL_law_2238 rfl ?_
  refine tt_iconst (pc := 2240) (v := 4) E dL_law_2240 ic_4 ?_
  refine tt_iadd (pc := 2241) E dL_law_2241 ?_
  obtain ⟨g_4, hf⟩ := gd_some hf
  refine tt_scA (pc := 2242) E hX hbB hbl g_4 dL_law_2242 ?_
  refine tt_aload_n (pc := 2243) (i := 3) (j := 3) E dL_law_2243 rfl rfl ?_
  obtain ⟨r_5, hr_6, hf⟩ := bd_some hf
  have hc_7 := cL_setAct_ok (l := l) (B := B) (D := D) (cT := cT) (n := n) (adK := adK) (adV := adV) hl0 h1 h3 hr_6
  refine tt_cI (pc := 2244) (tt_siW E lmL_255 mtL_setAct hc_7 rfl rfl (Nat.le_of_ble_eq_true rfl) ⟨(Nat.le_of_ble_eq_true rfl), (Nat.le_of_ble_eq_true rfl)⟩ ⟨hk1, hs1⟩ dL_law_2244) ?_
  refine tt_istore (pc := 2247) (i := 5) (lv' := [(5, .int r_5.1), (0, .ref b), (1, .ref (B + o1)), (2, .ref (B + o2)), (3, .ref (B + o3)), (4, .int v4)]) E dL_law_2247 (Nat.le_of_ble_eq_true rfl) rfl ?_
  refine tt_aload_n (pc := 2249) (i := 2) (j := 3) E dL_law_2249 rfl rfl ?_
  refine tt_aload_n (pc := 2250) (i := 0) (j := 1) E dL_law_2250 rfl rfl ?_
  refine tt_iload (pc := 2251) (i := 4) (j := 5) E dL_law_2251 rfl ?_
  refine tt_iconst (pc := 2253) (v := 1) E dL_law_2253 ic_1 ?_
  refine tt_iadd (pc := 2254) E dL_law_2254 ?_
  obtain ⟨g_8, hf⟩ := gd_some hf
  refine tt_scA (pc := 2255) E hX hbB hbl g_8 dL_law_2255 ?_
  refine tt_aload_n (pc := 2256) (i := 0) (j := 1) E dL_law_2256 rfl rfl ?_
  refine tt_iload (pc := 2257) (i := 4) (j := 5) E dL_law_2257 rfl ?_
  refine tt_iconst (pc := 2259) (v := 2) E dL_law_2259 ic_2 ?_
  refine tt_iadd (pc := 2260) E dL_law_2260 ?_
  obtain ⟨g_9, hf⟩ := gd_some hf
  refine tt_scA (pc := 2261) E hX hbB hbl g_9 dL_law_2261 ?_
  refine tt_aload_n (pc := 2262) (i := 0) (j := 1) E dL_law_2262 rfl rfl ?_
  refine tt_iload (pc := 2263) (i := 4) (j := 5) E dL_law_2263 rfl ?_
  refine tt_iconst (pc := 2265) (v := 3) E dL_law_2265 ic_3 ?_
  refine tt_iadd (pc := 2266) E dL_law_2266 ?_
  obtain ⟨g_10, hf⟩ := gd_some hf
  refine tt_scA (pc := 2267) E hX hbB hbl g_10 dL_law_2267 ?_
  refine tt_aload_n (pc := 2268) (i := 0) (j := 1) E dL_law_2268 rfl rfl ?_
  refine tt_iload (pc := 2269) (i := 4) (j := 5) E dL_law_2269 rfl ?_
  refine tt_iconst (pc := 2271) (v := 4) E dL_law_2271 ic_4 ?_
  refine tt_iadd (pc := 2272) E dL_law_2272 ?_
  obtain ⟨g_11, hf⟩ := gd_some hf
  refine tt_scA (pc := 2273) E hX hbB hbl g_11 dL_law_2273 ?_
  obtain ⟨r_12, hr_13, hf⟩ := bd_some hf
  have hc_14 := cX12_setAct_ok (l := l) (B := B) (D := D) (cT := cT) (n := n) (adK := adK) (adV := adV) h2 hr_13
  refine tt_cI (pc := 2274) (tt_vi E lmL_258 mtX12_setAct hc_14 h2 rfl rfl (Nat.le_of_ble_eq_true rfl) ⟨(Nat.le_of_ble_eq_true rfl), (Nat.le_of_ble_eq_true rfl)⟩ ⟨hk1, hs1⟩ dL_law_2274) ?_
  refine tt_istore (pc := 2277) (i := 6) (lv' := [(6, .int r_12.1), (5, .int r_5.1), (0, .ref b), (1, .ref (B + o1)), (2, .ref (B + o2)), (3, .ref (B + o3)), (4, .int v4)]) E dL_law_2277 (Nat.le_of_ble_eq_true rfl) rfl ?_
  refine tt_aload_n (pc := 2279) (i := 2) (j := 4) E dL_law_2279 rfl rfl ?_
  obtain ⟨r_15, hr_16, hf⟩ := bd_some hf
  have hc_17 := cX12_thrown_ok (l := l) (B := B) (D := D) (cT := cT) (n := n) (adK := adK) (adV := adV) h2 hr_16
  refine tt_cI (pc := 2280) (tt_vi E lmL_127 mtX12_thrown hc_17 h2 rfl rfl (Nat.le_of_ble_eq_true rfl) ⟨(Nat.le_of_ble_eq_true rfl), (Nat.le_of_ble_eq_true rfl)⟩ ⟨hk1, hs1⟩ dL_law_2280) ?_
  refine tt_iload (pc := 2283) (i := 5) (j := 1) E dL_law_2283 rfl ?_
  refine tt_icmp_eq (pc := 2285) (tgt := 2290) E dL_law_2285 rfl (fun c_23 => ?_) (fun c_23 => ?_)
  · have hf := ip c_23 hf
    refine tt_iload (pc := 2290) (i := 5) (j := 1) E dL_law_2290 rfl ?_
    refine tt_if_ne (pc := 2292) (tgt := 2307) E dL_law_2292 rfl (fun c_22 => ?_) (fun c_22 => ?_)
    · have hf := ine c_22 hf
      refine tt_goto (pc := 2307) (tgt := 2449) E dL_law_2307 rfl ?_
      obtain ⟨v_18, ev_18, hf⟩ := nm_ex hf
      refine tt_iinc (pc := 2449) (i := 4) (j := 6) (lv' := [(4, .int v_18), (6, .int r_12.1), (5, .int r_5.1), (0, .ref b), (1, .ref (B + o1)), (2, .ref (B + o2)), (3, .ref (B + o3))]) E dL_law_2449 rfl (ev_18).symm (Nat.le_of_ble_eq_true rfl) rfl ?_
      refine tt_goto (pc := 2452) (tgt := 23) E dL_law_2452 rfl ?_
      refine tt_sub [3, 4, 5, 6, 0] (lv' := [(0, .ref b), (1, .ref (B + o1)), (2, .ref (B + o2)), (3, .ref (B + o3)), (4, .int v_18)]) rfl ?_
      exact hk v_18 r_12.2 hf
    · have hf := ip c_22 hf
      refine tt_aload_n (pc := 2295) (i := 3) (j := 5) E dL_law_2295 rfl rfl ?_
      refine tt_iconst (pc := 2296) (v := 0) E dL_law_2296 ic_0 ?_
      obtain ⟨g_19, hf⟩ := gd_some hf
      refine tt_lald (pc := 2297) E h3 g_19 dL_law_2297 ?_
      refine tt_iload (pc := 2298) (i := 6) (j := 0) E dL_law_2298 rfl ?_
      refine tt_i2l (pc := 2300) E dL_law_2300 ?_
      refine tt_lcmp (pc := 2301) E dL_law_2301 ?_
      refine tt_if_eq (pc := 2302) (tgt := 2307) E dL_law_2302 rfl (fun c_21 => ?_) (fun c_21 => ?_)
      · have hf := ip c_21 hf
        refine tt_goto (pc := 2307) (tgt := 2449) E dL_law_2307 rfl ?_
        obtain ⟨v_20, ev_20, hf⟩ := nm_ex hf
        refine tt_iinc (pc := 2449) (i := 4) (j := 6) (lv' := [(4, .int v_20), (6, .int r_12.1), (5, .int r_5.1), (0, .ref b), (1, .ref (B + o1)), (2, .ref (B + o2)), (3, .ref (B + o3))]) E dL_law_2449 rfl (ev_20).symm (Nat.le_of_ble_eq_true rfl) rfl ?_
        refine tt_goto (pc := 2452) (tgt := 23) E dL_law_2452 rfl ?_
        refine tt_sub [3, 4, 5, 6, 0] (lv' := [(0, .ref b), (1, .ref (B + o1)), (2, .ref (B + o2)), (3, .ref (B + o3)), (4, .int v_20)]) rfl ?_
        exact hk v_20 r_12.2 hf
      · have hf := ine c_21 hf
        refine tt_iconst (pc := 2305) (v := 0) E dL_law_2305 ic_0 ?_
        exact absurd hf ret0
  · have hf := ine c_23 hf
    refine tt_iconst (pc := 2288) (v := 0) E dL_law_2288 ic_0 ?_
    exact absurd hf ret0
set_option maxHeartbeats 4000000 in
theorem tL_law_2310 {p : Program} {l : Launch} {e : Env} {s : State} {m : MethodId} {below : List Frame} {meth : Method} {c : Code} {B : Nat} {D : va_G} {cT : Nat → ClassId} {n : Nat} {adK adV : Nat → Nat} {b L : Nat} {xs : Nat → Int32} {res : Mem} (E : EE p s m #[Value.ref b] c cL_law 9 RL B D cT (XW B adK adV)) (hr : meth.sig.returnType = ret) (hlk : meth.locks = false) (hl0 : l.stackTraces = false) (hX : va_X b L xs s s.heap) (hbB : b < B) (hbl : b < s.heap.size) (hBs : s.heap.size ≤ B) {o1 o2 o3 : Nat} (h1 : isK n o1 8) (h2 : isK n o2 9) (h3 : isK n o3 12) {kc ks : Nat} (hk1 : kc + 1 ≤ 601024) (hs1 : ks + 6 ≤ 7293034) {kb : Int32 → Mem → Option (Int32 × Mem)} (hk : ∀ (v4 : Int32) (μ : Mem), kb v4 μ = some (1, res) → TT p l e room_1 s m #[Value.ref b] below meth c (lw_Z below #[Value.ref b] s) 9 B D cT n (kc + 1) (ks + 6) μ 23 [(0, .ref b), (1, .ref (B + o1)), (2, .ref (B + o2)), (3, .ref (B + o3)), (4, .int v4)] []) {v4 : Int32} {μ : Mem} (hf : fL_law_2310 L xs o1 o2 o3 kb v4 μ = some (1, res)) : TT p l e room_1 s m #[Value.ref b] below meth c (lw_Z below #[Value.ref b] s) 9 B D cT n kc ks μ 2310 [(0, .ref b), (1, .ref (B + o1)), (2, .ref (B + o2)), (3, .ref (B + o3)), (4, .int v4)] [] := by
  have hk0 : kc ≤ 601024 := by omega
  have hs0 : ks ≤ 7293034 := by omega
  unfold fL_law_2310 at hf
  refine tt_aload_n (pc := 2310) (i := 1) (j := 1) E dL_law_2310 rfl rfl ?_
  obtain ⟨r_1, hr_2, hf⟩ := bd_some hf
  have hc_3 := cX11_report_ok (l := l) (B := B) (D := D) (cT := cT) (n := n) (adK := adK) (adV := adV) h1 hr_2
  refine tt_cI (pc := 2311) (tt_vi E lmL_259 mtX11_report hc_3 h1 rfl rfl (Nat.le_of_ble_eq_true rfl) ⟨(Nat.le_of_ble_eq_true rfl), (Nat.le_of_ble_eq_true rfl)⟩ ⟨hk0, hs0⟩ dL_law_2311) ?_
  refine tt_aload_n (pc := 2314) (i := 2) (j := 2) E dL_law_2314 rfl rfl ?_
  obtain ⟨r_4, hr_5, hf⟩ := bd_some hf
  have hc_6 := cX12_report_ok (l := l) (B := B) (D := D) (cT := cT) (n := n) (adK := adK) (adV := adV) h2 hr_5
  refine tt_cI (pc := 2315) (tt_vi E lmL_262 mtX12_report hc_6 h2 rfl rfl (Nat.le_of_ble_eq_true rfl) ⟨(Nat.le_of_ble_eq_true rfl), (Nat.le_of_ble_eq_true rfl)⟩ ⟨hk0, hs0⟩ dL_law_2315) ?_
  refine tt_icmp_eq (pc := 2318) (tgt := 2449) E dL_law_2318 rfl (fun c_8 => ?_) (fun c_8 => ?_)
  · have hf := ip c_8 hf
    obtain ⟨v_7, ev_7, hf⟩ := nm_ex hf
    refine tt_iinc (pc := 2449) (i := 4) (j := 4) (lv' := [(4, .int v_7), (0, .ref b), (1, .ref (B + o1)), (2, .ref (B + o2)), (3, .ref (B + o3))]) E dL_law_2449 rfl (ev_7).symm (Nat.le_of_ble_eq_true rfl) rfl ?_
    refine tt_goto (pc := 2452) (tgt := 23) E dL_law_2452 rfl ?_
    refine tt_sub [1, 2, 3, 4, 0] (lv' := [(0, .ref b), (1, .ref (B + o1)), (2, .ref (B + o2)), (3, .ref (B + o3)), (4, .int v_7)]) rfl ?_
    refine tt_wide (kc' := kc + 1) (ks' := ks + 6) (Nat.le_succ kc) (Nat.le_add_right ks 6) ?_
    exact hk v_7 r_4.2 hf
  · have hf := ine c_8 hf
    refine tt_iconst (pc := 2321) (v := 0) E dL_law_2321 ic_0 ?_
    exact absurd hf ret0
set_option maxHeartbeats 4000000 in
theorem tL_law_2323 {p : Program} {l : Launch} {e : Env} {s : State} {m : MethodId} {below : List Frame} {meth : Method} {c : Code} {B : Nat} {D : va_G} {cT : Nat → ClassId} {n : Nat} {adK adV : Nat → Nat} {b L : Nat} {xs : Nat → Int32} {res : Mem} (E : EE p s m #[Value.ref b] c cL_law 9 RL B D cT (XW B adK adV)) (hr : meth.sig.returnType = ret) (hlk : meth.locks = false) (hl0 : l.stackTraces = false) (hX : va_X b L xs s s.heap) (hbB : b < B) (hbl : b < s.heap.size) (hBs : s.heap.size ≤ B) {o1 o2 o3 : Nat} (h1 : isK n o1 8) (h2 : isK n o2 9) (h3 : isK n o3 12) {kc ks : Nat} (hk1 : kc + 1 ≤ 601024) (hs1 : ks + 6 ≤ 7293034) {kb : Int32 → Mem → Option (Int32 × Mem)} (hk : ∀ (v4 : Int32) (μ : Mem), kb v4 μ = some (1, res) → TT p l e room_1 s m #[Value.ref b] below meth c (lw_Z below #[Value.ref b] s) 9 B D cT n (kc + 1) (ks + 6) μ 23 [(0, .ref b), (1, .ref (B + o1)), (2, .ref (B + o2)), (3, .ref (B + o3)), (4, .int v4)] []) {v4 : Int32} {μ : Mem} (hf : fL_law_2323 L xs o1 o2 o3 kb v4 μ = some (1, res)) : TT p l e room_1 s m #[Value.ref b] below meth c (lw_Z below #[Value.ref b] s) 9 B D cT n kc ks μ 2323 [(0, .ref b), (1, .ref (B + o1)), (2, .ref (B + o2)), (3, .ref (B + o3)), (4, .int v4)] [] := by
  have hk0 : kc ≤ 601024 := by omega
  have hs0 : ks ≤ 7293034 := by omega
  unfold fL_law_2323 at hf
  refine tt_aload_n (pc := 2323) (i := 1) (j := 1) E dL_law_2323 rfl rfl ?_
  refine tt_aload_n (pc := 2324) (i := 0) (j := 0) E dL_law_2324 rfl rfl ?_
  refine tt_iload (pc := 2325) (i := 4) (j := 4) E dL_law_2325 rfl ?_
  refine tt_iconst (pc := 2327) (v := 1) E dL_law_2327 ic_1 ?_
  refine tt_iadd (pc := 2328) E dL_law_2328 ?_
  obtain ⟨g_1, hf⟩ := gd_some hf
  refine tt_scA (pc := 2329) E hX hbB hbl g_1 dL_law_2329 ?_
  refine tt_aload_n (pc := 2330) (i := 3) (j := 3) E dL_law_2330 rfl rfl ?_
  obtain ⟨r_2, hr_3, hf⟩ := bd_some hf
  have hc_4 := cL_reportByte_ok (l := l) (B := B) (D := D) (cT := cT) (n := n) (adK := adK) (adV := adV) hl0 h1 h3 hr_3
  refine tt_cI (pc := 2331) (tt_siW E lmL_263 mtL_reportByte hc_4 rfl rfl (Nat.le_of_ble_eq_true rfl) ⟨(Nat.le_of_ble_eq_true rfl), (Nat.le_of_ble_eq_true rfl)⟩ ⟨hk1, hs1⟩ dL_law_2331) ?_
  refine tt_istore (pc := 2334) (i := 5) (lv' := [(5, .int r_2.1), (0, .ref b), (1, .ref (B + o1)), (2, .ref (B + o2)), (3, .ref (B + o3)), (4, .int v4)]) E dL_law_2334 (Nat.le_of_ble_eq_true rfl) rfl ?_
  refine tt_aload_n (pc := 2336) (i := 2) (j := 3) E dL_law_2336 rfl rfl ?_
  refine tt_aload_n (pc := 2337) (i := 0) (j := 1) E dL_law_2337 rfl rfl ?_
  refine tt_iload (pc := 2338) (i := 4) (j := 5) E dL_law_2338 rfl ?_
  refine tt_iconst (pc := 2340) (v := 1) E dL_law_2340 ic_1 ?_
  refine tt_iadd (pc := 2341) E dL_law_2341 ?_
  obtain ⟨g_5, hf⟩ := gd_some hf
  refine tt_scA (pc := 2342) E hX hbB hbl g_5 dL_law_2342 ?_
  obtain ⟨r_6, hr_7, hf⟩ := bd_some hf
  have hc_8 := cX12_reportByte_ok (l := l) (B := B) (D := D) (cT := cT) (n := n) (adK := adK) (adV := adV) h2 hr_7
  refine tt_cI (pc := 2343) (tt_vi E lmL_265 mtX12_reportByte hc_8 h2 rfl rfl (Nat.le_of_ble_eq_true rfl) ⟨(Nat.le_of_ble_eq_true rfl), (Nat.le_of_ble_eq_true rfl)⟩ ⟨hk1, hs1⟩ dL_law_2343) ?_
  refine tt_istore (pc := 2346) (i := 6) (lv' := [(6, .int r_6.1), (5, .int r_2.1), (0, .ref b), (1, .ref (B + o1)), (2, .ref (B + o2)), (3, .ref (B + o3)), (4, .int v4)]) E dL_law_2346 (Nat.le_of_ble_eq_true rfl) rfl ?_
  refine tt_aload_n (pc := 2348) (i := 2) (j := 4) E dL_law_2348 rfl rfl ?_
  obtain ⟨r_9, hr_10, hf⟩ := bd_some hf
  have hc_11 := cX12_thrown_ok (l := l) (B := B) (D := D) (cT := cT) (n := n) (adK := adK) (adV := adV) h2 hr_10
  refine tt_cI (pc := 2349) (tt_vi E lmL_127 mtX12_thrown hc_11 h2 rfl rfl (Nat.le_of_ble_eq_true rfl) ⟨(Nat.le_of_ble_eq_true rfl), (Nat.le_of_ble_eq_true rfl)⟩ ⟨hk1, hs1⟩ dL_law_2349) ?_
  refine tt_iload (pc := 2352) (i := 5) (j := 1) E dL_law_2352 rfl ?_
  refine tt_icmp_eq (pc := 2354) (tgt := 2359) E dL_law_2354 rfl (fun c_17 => ?_) (fun c_17 => ?_)
  · have hf := ip c_17 hf
    refine tt_iload (pc := 2359) (i := 5) (j := 1) E dL_law_2359 rfl ?_
    refine tt_if_ne (pc := 2361) (tgt := 2376) E dL_law_2361 rfl (fun c_16 => ?_) (fun c_16 => ?_)
    · have hf := ine c_16 hf
      refine tt_goto (pc := 2376) (tgt := 2449) E dL_law_2376 rfl ?_
      obtain ⟨v_12, ev_12, hf⟩ := nm_ex hf
      refine tt_iinc (pc := 2449) (i := 4) (j := 6) (lv' := [(4, .int v_12), (6, .int r_6.1), (5, .int r_2.1), (0, .ref b), (1, .ref (B + o1)), (2, .ref (B + o2)), (3, .ref (B + o3))]) E dL_law_2449 rfl (ev_12).symm (Nat.le_of_ble_eq_true rfl) rfl ?_
      refine tt_goto (pc := 2452) (tgt := 23) E dL_law_2452 rfl ?_
      refine tt_sub [3, 4, 5, 6, 0] (lv' := [(0, .ref b), (1, .ref (B + o1)), (2, .ref (B + o2)), (3, .ref (B + o3)), (4, .int v_12)]) rfl ?_
      exact hk v_12 r_6.2 hf
    · have hf := ip c_16 hf
      refine tt_aload_n (pc := 2364) (i := 3) (j := 5) E dL_law_2364 rfl rfl ?_
      refine tt_iconst (pc := 2365) (v := 0) E dL_law_2365 ic_0 ?_
      obtain ⟨g_13, hf⟩ := gd_some hf
      refine tt_lald (pc := 2366) E h3 g_13 dL_law_2366 ?_
      refine tt_iload (pc := 2367) (i := 6) (j := 0) E dL_law_2367 rfl ?_
      refine tt_i2l (pc := 2369) E dL_law_2369 ?_
      refine tt_lcmp (pc := 2370) E dL_law_2370 ?_
      refine tt_if_eq (pc := 2371) (tgt := 2376) E dL_law_2371 rfl (fun c_15 => ?_) (fun c_15 => ?_)
      · have hf := ip c_15 hf
        refine tt_goto (pc := 2376) (tgt := 2449) E dL_law_2376 rfl ?_
        obtain ⟨v_14, ev_14, hf⟩ := nm_ex hf
        refine tt_iinc (pc := 2449) (i := 4) (j := 6) (lv' := [(4, .int v_14), (6, .int r_6.1), (5, .int r_2.1), (0, .ref b), (1, .ref (B + o1)), (2, .ref (B + o2)), (3, .ref (B + o3))]) E dL_law_2449 rfl (ev_14).symm (Nat.le_of_ble_eq_true rfl) rfl ?_
        refine tt_goto (pc := 2452) (tgt := 23) E dL_law_2452 rfl ?_
        refine tt_sub [3, 4, 5, 6, 0] (lv' := [(0, .ref b), (1, .ref (B + o1)), (2, .ref (B + o2)), (3, .ref (B + o3)), (4, .int v_14)]) rfl ?_
        exact hk v_14 r_6.2 hf
      · have hf := ine c_15 hf
        refine tt_iconst (pc := 2374) (v := 0) E dL_law_2374 ic_0 ?_
        exact absurd hf ret0
  · have hf := ine c_17 hf
    refine tt_iconst (pc := 2357) (v := 0) E dL_law_2357 ic_0 ?_
    exact absurd hf ret0
set_option maxHeartbeats 4000000 in
theorem tL_law_2379 {p : Program} {l : Launch} {e : Env} {s : State} {m : MethodId} {below : List Frame} {meth : Method} {c : Code} {B : Nat} {D : va_G} {cT : Nat → ClassId} {n : Nat} {adK adV : Nat → Nat} {b L : Nat} {xs : Nat → Int32} {res : Mem} (E : EE p s m #[Value.ref b] c cL_law 9 RL B D cT (XW B adK adV)) (hr : meth.sig.returnType = ret) (hlk : meth.locks = false) (hl0 : l.stackTraces = false) (hX : va_X b L xs s s.heap) (hbB : b < B) (hbl : b < s.heap.size) (hBs : s.heap.size ≤ B) {o1 o2 o3 : Nat} (h1 : isK n o1 8) (h2 : isK n o2 9) (h3 : isK n o3 12) {kc ks : Nat} (hk1 : kc + 1 ≤ 601024) (hs1 : ks + 6 ≤ 7293034) {kb : Int32 → Mem → Option (Int32 × Mem)} (hk : ∀ (v4 : Int32) (μ : Mem), kb v4 μ = some (1, res) → TT p l e room_1 s m #[Value.ref b] below meth c (lw_Z below #[Value.ref b] s) 9 B D cT n (kc + 1) (ks + 6) μ 23 [(0, .ref b), (1, .ref (B + o1)), (2, .ref (B + o2)), (3, .ref (B + o3)), (4, .int v4)] []) {v4 : Int32} {μ : Mem} (hf : fL_law_2379 L xs o1 o2 o3 kb v4 μ = some (1, res)) : TT p l e room_1 s m #[Value.ref b] below meth c (lw_Z below #[Value.ref b] s) 9 B D cT n kc ks μ 2379 [(0, .ref b), (1, .ref (B + o1)), (2, .ref (B + o2)), (3, .ref (B + o3)), (4, .int v4)] [] := by
  have hk0 : kc ≤ 601024 := by omega
  have hs0 : ks ≤ 7293034 := by omega
  unfold fL_law_2379 at hf
  refine tt_aload_n (pc := 2379) (i := 1) (j := 1) E dL_law_2379 rfl rfl ?_
  obtain ⟨r_1, hr_2, hf⟩ := bd_some hf
  have hc_3 := cX11_undo_ok (l := l) (B := B) (D := D) (cT := cT) (n := n) (adK := adK) (adV := adV) h1 hr_2
  refine tt_cI (pc := 2380) (tt_vi E lmL_266 mtX11_undo hc_3 h1 rfl rfl (Nat.le_of_ble_eq_true rfl) ⟨(Nat.le_of_ble_eq_true rfl), (Nat.le_of_ble_eq_true rfl)⟩ ⟨hk0, hs0⟩ dL_law_2380) ?_
  refine tt_aload_n (pc := 2383) (i := 2) (j := 2) E dL_law_2383 rfl rfl ?_
  obtain ⟨r_4, hr_5, hf⟩ := bd_some hf
  have hc_6 := cX12_undo_ok (l := l) (B := B) (D := D) (cT := cT) (n := n) (adK := adK) (adV := adV) h2 hr_5
  refine tt_cI (pc := 2384) (tt_vi E lmL_269 mtX12_undo hc_6 h2 rfl rfl (Nat.le_of_ble_eq_true rfl) ⟨(Nat.le_of_ble_eq_true rfl), (Nat.le_of_ble_eq_true rfl)⟩ ⟨hk0, hs0⟩ dL_law_2384) ?_
  refine tt_icmp_eq (pc := 2387) (tgt := 2449) E dL_law_2387 rfl (fun c_8 => ?_) (fun c_8 => ?_)
  · have hf := ip c_8 hf
    obtain ⟨v_7, ev_7, hf⟩ := nm_ex hf
    refine tt_iinc (pc := 2449) (i := 4) (j := 4) (lv' := [(4, .int v_7), (0, .ref b), (1, .ref (B + o1)), (2, .ref (B + o2)), (3, .ref (B + o3))]) E dL_law_2449 rfl (ev_7).symm (Nat.le_of_ble_eq_true rfl) rfl ?_
    refine tt_goto (pc := 2452) (tgt := 23) E dL_law_2452 rfl ?_
    refine tt_sub [1, 2, 3, 4, 0] (lv' := [(0, .ref b), (1, .ref (B + o1)), (2, .ref (B + o2)), (3, .ref (B + o3)), (4, .int v_7)]) rfl ?_
    refine tt_wide (kc' := kc + 1) (ks' := ks + 6) (Nat.le_succ kc) (Nat.le_add_right ks 6) ?_
    exact hk v_7 r_4.2 hf
  · have hf := ine c_8 hf
    refine tt_iconst (pc := 2390) (v := 0) E dL_law_2390 ic_0 ?_
    exact absurd hf ret0
set_option maxHeartbeats 4000000 in
theorem tL_law_2392 {p : Program} {l : Launch} {e : Env} {s : State} {m : MethodId} {below : List Frame} {meth : Method} {c : Code} {B : Nat} {D : va_G} {cT : Nat → ClassId} {n : Nat} {adK adV : Nat → Nat} {b L : Nat} {xs : Nat → Int32} {res : Mem} (E : EE p s m #[Value.ref b] c cL_law 9 RL B D cT (XW B adK adV)) (hr : meth.sig.returnType = ret) (hlk : meth.locks = false) (hl0 : l.stackTraces = false) (hX : va_X b L xs s s.heap) (hbB : b < B) (hbl : b < s.heap.size) (hBs : s.heap.size ≤ B) {o1 o2 o3 : Nat} (h1 : isK n o1 8) (h2 : isK n o2 9) (h3 : isK n o3 12) {kc ks : Nat} (hk1 : kc + 1 ≤ 601024) (hs1 : ks + 6 ≤ 7293034) {kb : Int32 → Mem → Option (Int32 × Mem)} (hk : ∀ (v4 : Int32) (μ : Mem), kb v4 μ = some (1, res) → TT p l e room_1 s m #[Value.ref b] below meth c (lw_Z below #[Value.ref b] s) 9 B D cT n (kc + 1) (ks + 6) μ 23 [(0, .ref b), (1, .ref (B + o1)), (2, .ref (B + o2)), (3, .ref (B + o3)), (4, .int v4)] []) {v4 : Int32} {μ : Mem} (hf : fL_law_2392 L xs o1 o2 o3 kb v4 μ = some (1, res)) : TT p l e room_1 s m #[Value.ref b] below meth c (lw_Z below #[Value.ref b] s) 9 B D cT n kc ks μ 2392 [(0, .ref b), (1, .ref (B + o1)), (2, .ref (B + o2)), (3, .ref (B + o3)), (4, .int v4)] [] := by
  have hk0 : kc ≤ 601024 := by omega
  have hs0 : ks ≤ 7293034 := by omega
  unfold fL_law_2392 at hf
  refine tt_aload_n (pc := 2392) (i := 1) (j := 1) E dL_law_2392 rfl rfl ?_
  obtain ⟨r_1, hr_2, hf⟩ := bd_some hf
  have hc_3 := cX11_save_ok (l := l) (B := B) (D := D) (cT := cT) (n := n) (adK := adK) (adV := adV) h1 hr_2
  refine tt_cI (pc := 2393) (tt_vi E lmL_270 mtX11_save hc_3 h1 rfl rfl (Nat.le_of_ble_eq_true rfl) ⟨(Nat.le_of_ble_eq_true rfl), (Nat.le_of_ble_eq_true rfl)⟩ ⟨hk0, hs0⟩ dL_law_2393) ?_
  refine tt_aload_n (pc := 2396) (i := 2) (j := 2) E dL_law_2396 rfl rfl ?_
  obtain ⟨r_4, hr_5, hf⟩ := bd_some hf
  have hc_6 := cX12_save_ok (l := l) (B := B) (D := D) (cT := cT) (n := n) (adK := adK) (adV := adV) h2 hr_5
  refine tt_cI (pc := 2397) (tt_vi E lmL_273 mtX12_save hc_6 h2 rfl rfl (Nat.le_of_ble_eq_true rfl) ⟨(Nat.le_of_ble_eq_true rfl), (Nat.le_of_ble_eq_true rfl)⟩ ⟨hk0, hs0⟩ dL_law_2397) ?_
  refine tt_icmp_eq (pc := 2400) (tgt := 2449) E dL_law_2400 rfl (fun c_8 => ?_) (fun c_8 => ?_)
  · have hf := ip c_8 hf
    obtain ⟨v_7, ev_7, hf⟩ := nm_ex hf
    refine tt_iinc (pc := 2449) (i := 4) (j := 4) (lv' := [(4, .int v_7), (0, .ref b), (1, .ref (B + o1)), (2, .ref (B + o2)), (3, .ref (B + o3))]) E dL_law_2449 rfl (ev_7).symm (Nat.le_of_ble_eq_true rfl) rfl ?_
    refine tt_goto (pc := 2452) (tgt := 23) E dL_law_2452 rfl ?_
    refine tt_sub [1, 2, 3, 4, 0] (lv' := [(0, .ref b), (1, .ref (B + o1)), (2, .ref (B + o2)), (3, .ref (B + o3)), (4, .int v_7)]) rfl ?_
    refine tt_wide (kc' := kc + 1) (ks' := ks + 6) (Nat.le_succ kc) (Nat.le_add_right ks 6) ?_
    exact hk v_7 r_4.2 hf
  · have hf := ine c_8 hf
    refine tt_iconst (pc := 2403) (v := 0) E dL_law_2403 ic_0 ?_
    exact absurd hf ret0
set_option maxHeartbeats 4000000 in
theorem tL_law_2405 {p : Program} {l : Launch} {e : Env} {s : State} {m : MethodId} {below : List Frame} {meth : Method} {c : Code} {B : Nat} {D : va_G} {cT : Nat → ClassId} {n : Nat} {adK adV : Nat → Nat} {b L : Nat} {xs : Nat → Int32} {res : Mem} (E : EE p s m #[Value.ref b] c cL_law 9 RL B D cT (XW B adK adV)) (hr : meth.sig.returnType = ret) (hlk : meth.locks = false) (hl0 : l.stackTraces = false) (hX : va_X b L xs s s.heap) (hbB : b < B) (hbl : b < s.heap.size) (hBs : s.heap.size ≤ B) {o1 o2 o3 : Nat} (h1 : isK n o1 8) (h2 : isK n o2 9) (h3 : isK n o3 12) {kc ks : Nat} (hk1 : kc + 1 ≤ 601024) (hs1 : ks + 6 ≤ 7293034) {kb : Int32 → Mem → Option (Int32 × Mem)} (hk : ∀ (v4 : Int32) (μ : Mem), kb v4 μ = some (1, res) → TT p l e room_1 s m #[Value.ref b] below meth c (lw_Z below #[Value.ref b] s) 9 B D cT n (kc + 1) (ks + 6) μ 23 [(0, .ref b), (1, .ref (B + o1)), (2, .ref (B + o2)), (3, .ref (B + o3)), (4, .int v4)] []) {v4 : Int32} {μ : Mem} (hf : fL_law_2405 L xs o1 o2 o3 kb v4 μ = some (1, res)) : TT p l e room_1 s m #[Value.ref b] below meth c (lw_Z below #[Value.ref b] s) 9 B D cT n kc ks μ 2405 [(0, .ref b), (1, .ref (B + o1)), (2, .ref (B + o2)), (3, .ref (B + o3)), (4, .int v4)] [] := by
  have hk0 : kc ≤ 601024 := by omega
  have hs0 : ks ≤ 7293034 := by omega
  unfold fL_law_2405 at hf
  refine tt_aload_n (pc := 2405) (i := 1) (j := 1) E dL_law_2405 rfl rfl ?_
  refine tt_aload_n (pc := 2406) (i := 3) (j := 3) E dL_law_2406 rfl rfl ?_
  obtain ⟨r_1, hr_2, hf⟩ := bd_some hf
  have hc_3 := cL_restore_ok (l := l) (B := B) (D := D) (cT := cT) (n := n) (adK := adK) (adV := adV) hl0 h1 h3 hr_2
  refine tt_cI (pc := 2407) (tt_siW E lmL_274 mtL_restore hc_3 rfl rfl (Nat.le_of_ble_eq_true rfl) ⟨(Nat.le_of_ble_eq_true rfl), (Nat.le_of_ble_eq_true rfl)⟩ ⟨hk1, hs1⟩ dL_law_2407) ?_
  refine tt_istore (pc := 2410) (i := 5) (lv' := [(5, .int r_1.1), (0, .ref b), (1, .ref (B + o1)), (2, .ref (B + o2)), (3, .ref (B + o3)), (4, .int v4)]) E dL_law_2410 (Nat.le_of_ble_eq_true rfl) rfl ?_
  refine tt_aload_n (pc := 2412) (i := 2) (j := 3) E dL_law_2412 rfl rfl ?_
  obtain ⟨r_4, hr_5, hf⟩ := bd_some hf
  have hc_6 := cX12_restore_ok (l := l) (B := B) (D := D) (cT := cT) (n := n) (adK := adK) (adV := adV) h2 hr_5
  refine tt_cI (pc := 2413) (tt_vi E lmL_276 mtX12_restore hc_6 h2 rfl rfl (Nat.le_of_ble_eq_true rfl) ⟨(Nat.le_of_ble_eq_true rfl), (Nat.le_of_ble_eq_true rfl)⟩ ⟨hk1, hs1⟩ dL_law_2413) ?_
  refine tt_istore (pc := 2416) (i := 6) (lv' := [(6, .int r_4.1), (5, .int r_1.1), (0, .ref b), (1, .ref (B + o1)), (2, .ref (B + o2)), (3, .ref (B + o3)), (4, .int v4)]) E dL_law_2416 (Nat.le_of_ble_eq_true rfl) rfl ?_
  refine tt_aload_n (pc := 2418) (i := 2) (j := 4) E dL_law_2418 rfl rfl ?_
  obtain ⟨r_7, hr_8, hf⟩ := bd_some hf
  have hc_9 := cX12_thrown_ok (l := l) (B := B) (D := D) (cT := cT) (n := n) (adK := adK) (adV := adV) h2 hr_8
  refine tt_cI (pc := 2419) (tt_vi E lmL_127 mtX12_thrown hc_9 h2 rfl rfl (Nat.le_of_ble_eq_true rfl) ⟨(Nat.le_of_ble_eq_true rfl), (Nat.le_of_ble_eq_true rfl)⟩ ⟨hk1, hs1⟩ dL_law_2419) ?_
  refine tt_iload (pc := 2422) (i := 5) (j := 1) E dL_law_2422 rfl ?_
  refine tt_icmp_eq (pc := 2424) (tgt := 2429) E dL_law_2424 rfl (fun c_15 => ?_) (fun c_15 => ?_)
  · have hf := ip c_15 hf
    refine tt_iload (pc := 2429) (i := 5) (j := 1) E dL_law_2429 rfl ?_
    refine tt_if_ne (pc := 2431) (tgt := 2446) E dL_law_2431 rfl (fun c_14 => ?_) (fun c_14 => ?_)
    · have hf := ine c_14 hf
      refine tt_goto (pc := 2446) (tgt := 2449) E dL_law_2446 rfl ?_
      obtain ⟨v_10, ev_10, hf⟩ := nm_ex hf
      refine tt_iinc (pc := 2449) (i := 4) (j := 6) (lv' := [(4, .int v_10), (6, .int r_4.1), (5, .int r_1.1), (0, .ref b), (1, .ref (B + o1)), (2, .ref (B + o2)), (3, .ref (B + o3))]) E dL_law_2449 rfl (ev_10).symm (Nat.le_of_ble_eq_true rfl) rfl ?_
      refine tt_goto (pc := 2452) (tgt := 23) E dL_law_2452 rfl ?_
      refine tt_sub [3, 4, 5, 6, 0] (lv' := [(0, .ref b), (1, .ref (B + o1)), (2, .ref (B + o2)), (3, .ref (B + o3)), (4, .int v_10)]) rfl ?_
      exact hk v_10 r_4.2 hf
    · have hf := ip c_14 hf
      refine tt_aload_n (pc := 2434) (i := 3) (j := 5) E dL_law_2434 rfl rfl ?_
      refine tt_iconst (pc := 2435) (v := 0) E dL_law_2435 ic_0 ?_
      obtain ⟨g_11, hf⟩ := gd_some hf
      refine tt_lald (pc := 2436) E h3 g_11 dL_law_2436 ?_
      refine tt_iload (pc := 2437) (i := 6) (j := 0) E dL_law_2437 rfl ?_
      refine tt_i2l (pc := 2439) E dL_law_2439 ?_
      refine tt_lcmp (pc := 2440) E dL_law_2440 ?_
      refine tt_if_eq (pc := 2441) (tgt := 2446) E dL_law_2441 rfl (fun c_13 => ?_) (fun c_13 => ?_)
      · have hf := ip c_13 hf
        refine tt_goto (pc := 2446) (tgt := 2449) E dL_law_2446 rfl ?_
        obtain ⟨v_12, ev_12, hf⟩ := nm_ex hf
        refine tt_iinc (pc := 2449) (i := 4) (j := 6) (lv' := [(4, .int v_12), (6, .int r_4.1), (5, .int r_1.1), (0, .ref b), (1, .ref (B + o1)), (2, .ref (B + o2)), (3, .ref (B + o3))]) E dL_law_2449 rfl (ev_12).symm (Nat.le_of_ble_eq_true rfl) rfl ?_
        refine tt_goto (pc := 2452) (tgt := 23) E dL_law_2452 rfl ?_
        refine tt_sub [3, 4, 5, 6, 0] (lv' := [(0, .ref b), (1, .ref (B + o1)), (2, .ref (B + o2)), (3, .ref (B + o3)), (4, .int v_12)]) rfl ?_
        exact hk v_12 r_4.2 hf
      · have hf := ine c_13 hf
        refine tt_iconst (pc := 2444) (v := 0) E dL_law_2444 ic_0 ?_
        exact absurd hf ret0
  · have hf := ine c_15 hf
    refine tt_iconst (pc := 2427) (v := 0) E dL_law_2427 ic_0 ?_
    exact absurd hf ret0
set_option maxHeartbeats 4000000 in
theorem tL_law_2449 {p : Program} {l : Launch} {e : Env} {s : State} {m : MethodId} {below : List Frame} {meth : Method} {c : Code} {B : Nat} {D : va_G} {cT : Nat → ClassId} {n : Nat} {adK adV : Nat → Nat} {b L : Nat} {xs : Nat → Int32} {res : Mem} (E : EE p s m #[Value.ref b] c cL_law 9 RL B D cT (XW B adK adV)) (hr : meth.sig.returnType = ret) (hlk : meth.locks = false) (hl0 : l.stackTraces = false) (hX : va_X b L xs s s.heap) (hbB : b < B) (hbl : b < s.heap.size) (hBs : s.heap.size ≤ B) {o1 o2 o3 : Nat} (h1 : isK n o1 8) (h2 : isK n o2 9) (h3 : isK n o3 12) {kc ks : Nat} (hk1 : kc + 1 ≤ 601024) (hs1 : ks + 6 ≤ 7293034) {kb : Int32 → Mem → Option (Int32 × Mem)} (hk : ∀ (v4 : Int32) (μ : Mem), kb v4 μ = some (1, res) → TT p l e room_1 s m #[Value.ref b] below meth c (lw_Z below #[Value.ref b] s) 9 B D cT n (kc + 1) (ks + 6) μ 23 [(0, .ref b), (1, .ref (B + o1)), (2, .ref (B + o2)), (3, .ref (B + o3)), (4, .int v4)] []) {v4 : Int32} {μ : Mem} (hf : fL_law_2449 L xs o1 o2 o3 kb v4 μ = some (1, res)) : TT p l e room_1 s m #[Value.ref b] below meth c (lw_Z below #[Value.ref b] s) 9 B D cT n kc ks μ 2449 [(0, .ref b), (1, .ref (B + o1)), (2, .ref (B + o2)), (3, .ref (B + o3)), (4, .int v4)] [] := by
  have hk0 : kc ≤ 601024 := by omega
  have hs0 : ks ≤ 7293034 := by omega
  unfold fL_law_2449 at hf
  obtain ⟨v_1, ev_1, hf⟩ := nm_ex hf
  refine tt_iinc (pc := 2449) (i := 4) (j := 4) (lv' := [(4, .int v_1), (0, .ref b), (1, .ref (B + o1)), (2, .ref (B + o2)), (3, .ref (B + o3))]) E dL_law_2449 rfl (ev_1).symm (Nat.le_of_ble_eq_true rfl) rfl ?_
  refine tt_goto (pc := 2452) (tgt := 23) E dL_law_2452 rfl ?_
  refine tt_sub [1, 2, 3, 4, 0] (lv' := [(0, .ref b), (1, .ref (B + o1)), (2, .ref (B + o2)), (3, .ref (B + o3)), (4, .int v_1)]) rfl ?_
  refine tt_wide (kc' := kc + 1) (ks' := ks + 6) (Nat.le_succ kc) (Nat.le_add_right ks 6) ?_
  exact hk v_1 μ hf
