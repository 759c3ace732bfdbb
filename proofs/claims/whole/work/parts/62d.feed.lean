/-! the law: bytes are fed -/
section FEED
theorem by_bits (w : BitVec 32) (s : Nat) (hs : s ≤ 24) : (((w >>> s).signExtend 8).signExtend 32) &&& 255#32 = (w.sshiftRight s) &&& 255#32 := by
  apply BitVec.eq_of_getLsbD_eq
  intro i hi
  rw [BitVec.getLsbD_and, BitVec.getLsbD_and]
  by_cases h8 : i < 8
  · rw [BitVec.getLsbD_signExtend, BitVec.getLsbD_sshiftRight, BitVec.getLsbD_signExtend, BitVec.getLsbD_ushiftRight]
    simp [h8, hi, show s + i < 32 by omega, show ¬ 32 ≤ i by omega]
  · have : (255#32).getLsbD i = false := by
      have : ∀ i, i < 32 → ¬ i < 8 → (255#32).getLsbD i = false := by decide
      exact this i hi h8
    rw [this, Bool.and_false, Bool.and_false]
theorem by_tw (w : BitVec 32) : ((w.signExtend 8).signExtend 32).signExtend 8 = w.signExtend 8 := by
  apply BitVec.eq_of_getLsbD_eq
  intro i hi
  rw [BitVec.getLsbD_signExtend, BitVec.getLsbD_signExtend]
  simp [hi, show i < 32 by omega]
def fdS (s : Nat) : Prop := s = 24 ∨ s = 16 ∨ s = 8 ∨ s = 0
theorem fd_a (x : Int32) {s : Nat} (h : fdS s) : (x >>> (nI s &&& 31)).toBitVec = x.toBitVec.sshiftRight s := by
  rcases h with rfl | rfl | rfl | rfl <;> rfl
theorem fd_b (x : Int32) {s : Nat} (h : fdS s) : ((x.toUInt32 >>> ((nI s).toUInt32 &&& Int32.toUInt32 31)).toInt32).toBitVec = x.toBitVec >>> s := by
  rcases h with rfl | rfl | rfl | rfl <;> rfl
theorem i32_bv {a b : Int32} (h : a.toBitVec = b.toBitVec) : a = b := Int32.toBitVec_inj.mp h
theorem fd_byte (x : Int32) {s : Nat} (h : fdS s) : ∃ b : Nat, b < 256 ∧ vp_nar .byte (((x.toUInt32 >>> ((nI s).toUInt32 &&& Int32.toUInt32 31)).toInt32).toInt8.toInt32) &&& 255 = nI b ∧ (x >>> (nI s &&& 31)) &&& 255 = nI b := by
  have hs : s ≤ 24 := by rcases h with rfl | rfl | rfl | rfl <;> decide
  have e1 : vp_nar .byte (((x.toUInt32 >>> ((nI s).toUInt32 &&& Int32.toUInt32 31)).toInt32).toInt8.toInt32) &&& 255 = (x >>> (nI s &&& 31)) &&& 255 := by
    apply i32_bv
    rw [Int32.toBitVec_and, Int32.toBitVec_and, fd_a x h]
    rw [show ∀ y, vp_nar .byte y = y.toInt8.toInt32 from fun _ => rfl, Int8.toBitVec_toInt32, Int32.toBitVec_toInt8, Int8.toBitVec_toInt32, Int32.toBitVec_toInt8, by_tw, fd_b x h]
    exact by_bits _ s hs
  have e2 : ((x >>> (nI s &&& 31)) &&& 255).toBitVec.toNat < 256 := by
    rw [Int32.toBitVec_and, BitVec.toNat_and]
    exact Nat.lt_of_le_of_lt Nat.and_le_right (by decide)
  refine ⟨((x >>> (nI s &&& 31)) &&& 255).toBitVec.toNat, e2, ?_, ?_⟩
  · rw [e1]; apply i32_bv; apply BitVec.eq_of_toNat_eq
    show _ = (BitVec.ofNat 32 _).toNat
    rw [BitVec.toNat_ofNat, Nat.mod_eq_of_lt (by omega)]
  · apply i32_bv; apply BitVec.eq_of_toNat_eq
    show _ = (BitVec.ofNat 32 _).toNat
    rw [BitVec.toNat_ofNat, Nat.mod_eq_of_lt (by omega)]
section FEED2
variable {c m : Mem} {l : Nat}
theorem ln23 : Ln 2 = 600 ∧ Ln 363 = 600 := by decide
def BFl (c m : Mem) (l : Nat) : Prop := l ≤ 600 ∧ ldI c 1 1 = nI l ∧ ldI m 362 2 = nI l ∧ ∀ i, i < l → ∃ b, b < 256 ∧ ldI c 2 i &&& 255 = nI b ∧ ldI m 363 i = nI b
def feC (c c' : Mem) : Prop := ldP c' = ldP c ∧ ldJ c' = ldJ c ∧ (∀ a, a ≠ 1 → a ≠ 2 → ldI c' a = ldI c a) ∧ ∀ k, k ≠ 1 → ldI c' 1 k = ldI c 1 k
def feM (m m' : Mem) : Prop := ldP m' = ldP m ∧ ldJ m' = ldJ m ∧ (∀ a, a ≠ 362 → a ≠ 363 → ldI m' a = ldI m a) ∧ ∀ k, k ≠ 2 → ldI m' 362 k = ldI m 362 k
theorem feC.rf : feC c c := ⟨rfl, rfl, fun _ _ _ => rfl, fun _ _ => rfl⟩
theorem feM.rf : feM m m := ⟨rfl, rfl, fun _ _ _ => rfl, fun _ _ => rfl⟩
theorem feC.tr {a b d : Mem} (h1 : feC a b) (h2 : feC b d) : feC a d := ⟨h2.1.trans h1.1, h2.2.1.trans h1.2.1, fun x p q => (h2.2.2.1 x p q).trans (h1.2.2.1 x p q), fun k p => (h2.2.2.2 k p).trans (h1.2.2.2 k p)⟩
theorem feM.tr {a b d : Mem} (h1 : feM a b) (h2 : feM b d) : feM a d := ⟨h2.1.trans h1.1, h2.2.1.trans h1.2.1, fun x p q => (h2.2.2.1 x p q).trans (h1.2.2.1 x p q), fun k p => (h2.2.2.2 k p).trans (h1.2.2.2 k p)⟩
theorem fd_step {v : Int32} {s : Nat} {G G' : Int32 → Mem → Option Mem} (h : BFl c m l) (hl : l < 600) (h0 : ldP c 1 0 = some 2) (h1 : ldP m 362 1 = some 363) (hs : fdS s) : ∃ c1 m1, gX9_append_3 1 v G (nI s) c = G (nI s + (-8)) c1 ∧ gX12_four_3 362 v G' (nI s) m = G' (nI s + (-8)) m1 ∧ BFl c1 m1 (l + 1) ∧ feC c c1 ∧ feM m m1 := by
  obtain ⟨b1, b2, b3, b4⟩ := h
  have hs31 : s < 2 ^ 31 := by rcases hs with rfl | rfl | rfl | rfl <;> decide
  obtain ⟨b, y1, y2, y3⟩ := fd_byte v hs
  refine ⟨stI (stI c 2 l (vp_nar .byte (((v.toUInt32 >>> ((nI s).toUInt32 &&& Int32.toUInt32 31)).toInt32).toInt8.toInt32))) 1 1 (nI (l + 1)), stI (stI m 363 l ((v >>> (nI s &&& 31)) &&& 255)) 362 2 (nI (l + 1)), ?_, ?_, ?_, ?_, ?_⟩
  · unfold gX9_append_3
    rw [if_neg (nI_pos hs31), b2, if_neg (nI_pos (by omega)), h0, Option.bind_some, ln23.1, if_neg (show ¬ Int32.ofNat 600 ≤ nI l from nI_ge hl (by decide)), Option.bind_some, ln23.1, gd_t (inB_nI hl (by decide)), nI_clamp (by omega), nm_b, ldI_stI_ne (by decide), b2, nI_1, nm_b, nm_b]
  · unfold gX12_four_3
    rw [if_neg (nI_pos hs31), h1, Option.bind_some, b3, ln23.2, gd_t (inB_nI hl (by decide)), nI_clamp (by omega), nm_b, ldI_stI_ne (by decide), b3, nI_1, nm_b, nm_b]
  · refine ⟨by omega, ldI_stI_s, ldI_stI_s, fun i hi => ?_⟩
    rw [ldI_stI_ne (j := 2) (o := 1) (by decide), ldI_stI_ne (j := 363) (o := 362) (by decide), ldI_stI, ldI_stI]
    by_cases e : i = l
    · rw [if_pos ⟨rfl, e⟩, if_pos ⟨rfl, e⟩]; exact ⟨b, y1, y2, y3⟩
    · rw [if_neg (fun q => e q.2), if_neg (fun q => e q.2)]; exact b4 i (by omega)
  · exact ⟨rfl, rfl, fun a x y => by rw [ldI_stI_ne x, ldI_stI_ne y], fun k x => by rw [ldI_stI, if_neg (fun q => x q.2), ldI_stI_ne (by decide)]⟩
  · exact ⟨rfl, rfl, fun a x y => by rw [ldI_stI_ne x, ldI_stI_ne y], fun k x => by rw [ldI_stI, if_neg (fun q => x q.2), ldI_stI_ne (by decide)]⟩
theorem fd_four (v : Int32) (h : BFl c m l) (hl : l + 4 ≤ 600) (h0 : ldP c 1 0 = some 2) (h1 : ldP m 362 1 = some 363) : ∃ c' m', fX9_append 1 v c = some c' ∧ fX12_four 362 v m = some m' ∧ BFl c' m' (l + 4) ∧ feC c c' ∧ feM m m' := by
  have hFU : FU = 3999995 + 1 + 1 + 1 + 1 + 1 := rfl
  obtain ⟨c1, m1, a1, a2, a3, a4, a5⟩ := fd_step (v := v) (s := 24) (G := zl2 (gX9_append_3 1 v) (3999995 + 1 + 1 + 1 + 1)) (G' := zl2 (gX12_four_3 362 v) (3999995 + 1 + 1 + 1 + 1)) h (by omega) h0 h1 (by unfold fdS; decide)
  obtain ⟨c2, m2, d1, d2, d3, d4, d5⟩ := fd_step (v := v) (s := 16) (G := zl2 (gX9_append_3 1 v) (3999995 + 1 + 1 + 1)) (G' := zl2 (gX12_four_3 362 v) (3999995 + 1 + 1 + 1)) a3 (by omega) (by rw [a4.1]; exact h0) (by rw [a5.1]; exact h1) (by unfold fdS; decide)
  have f2 := a4.tr d4
  have g2 := a5.tr d5
  obtain ⟨c3, m3, e1, e2, e3, e4, e5⟩ := fd_step (v := v) (s := 8) (G := zl2 (gX9_append_3 1 v) (3999995 + 1 + 1)) (G' := zl2 (gX12_four_3 362 v) (3999995 + 1 + 1)) d3 (by omega) (by rw [f2.1]; exact h0) (by rw [g2.1]; exact h1) (by unfold fdS; decide)
  have f3 := f2.tr e4
  have g3 := g2.tr e5
  obtain ⟨c4, m4, i1, i2, i3, i4, i5⟩ := fd_step (v := v) (s := 0) (G := zl2 (gX9_append_3 1 v) (3999995 + 1)) (G' := zl2 (gX12_four_3 362 v) (3999995 + 1)) e3 (by omega) (by rw [f3.1]; exact h0) (by rw [g3.1]; exact h1) (by unfold fdS; decide)
  have w1 : nI 24 + (-8) = nI 16 := by decide
  have w2 : nI 16 + (-8) = nI 8 := by decide
  have w3 : nI 8 + (-8) = nI 0 := by decide
  have w4 : nI 0 + (-8) < 0 := by decide
  refine ⟨c4, m4, ?_, ?_, i3, f3.tr i4, g3.tr i5⟩
  · unfold fX9_append fX9_append_3
    rw [hFU, zl2_s, show (24 : Int32) = nI 24 from rfl, a1, zl2_s, w1, d1, zl2_s, w2, e1, zl2_s, w3, i1, zl2_s]
    unfold gX9_append_3
    rw [if_pos w4]
  · unfold fX12_four fX12_four_3
    rw [hFU, zl2_s, show (24 : Int32) = nI 24 from rfl, a2, zl2_s, w1, d2, zl2_s, w2, e2, zl2_s, w3, i2, zl2_s]
    unfold gX12_four_3
    rw [if_pos w4]
theorem op_feed (x1 x2 x3 x4 x5 : Int32) : OP (fun k y => k = 1 ∧ y = 1) (fun c => fX11_feed 0 x1 x2 x3 x4 x5 c) (fun m => fX12_feed 362 x1 x2 x3 x4 x5 m) := by
  intro c m h
  have h' := h
  obtain ⟨n, ν, h1, h2, h3, h4, h5, h6, h7, ⟨l, b1, b2, b3, b4⟩, h9, h10⟩ := h
  have hl20 : nI l + 20 = nI (l + 20) := nI_add l 20
  by_cases e : 600 < l + 20
  · have hB : fX12_feed 362 x1 x2 x3 x4 x5 m = some (0, stI m 362 0 1) := by
      unfold fX12_feed fX12_feed_19
      rw [b3, hl20, if_pos (show (600 : Int32) < nI (l + 20) from nI_lt (a := 600) e (by omega)), m_goes0, Option.bind_some, if_pos rfl]
    refine OP.r (e := fun k y => k = 1 ∧ y = 1) (A := fun c => fX11_feed 0 x1 x2 x3 x4 x5 c) (B := fun m => fX12_feed 362 x1 x2 x3 x4 x5 m) (k := 1) (v := 0) ?_ hB (h'.st0 1) MFr.s ⟨rfl, ldI_stI_s⟩
    show fX11_feed 0 x1 x2 x3 x4 x5 c = _
    unfold fX11_feed fX9_hasRoomFor
    rw [h3.1.1, Option.bind_some, h3.2.1, Option.bind_some, b2, hl20, ln23.1, if_pos (show Int32.ofNat 600 < nI (l + 20) from nI_lt (a := 600) e (by omega)), Option.bind_some, if_pos rfl]
  · have p0 : ldP c 0 0 = some 1 := h3.1.1
    have hm0 : BFl c (stI m 362 0 0) l := ⟨b1, b2, by rw [ldI_stI, if_neg (by decide)]; exact b3, fun i hi => by rw [ldI_stI_ne (by decide)]; exact b4 i hi⟩
    have q1 : ldP (stI m 362 0 0) 362 1 = some 363 := h4.1.1
    obtain ⟨c1, m1, i1, j1, k1, f1, g1⟩ := fd_four x1 hm0 (by omega) h3.2.1 q1
    obtain ⟨c2, m2, i2, j2, k2, f2, g2⟩ := fd_four x2 k1 (by omega) (by rw [f1.1]; exact h3.2.1) (by rw [g1.1]; exact q1)
    have f2 := f1.tr f2
    have g2 := g1.tr g2
    obtain ⟨c3, m3, i3, j3, k3, f3, g3⟩ := fd_four x3 k2 (by omega) (by rw [f2.1]; exact h3.2.1) (by rw [g2.1]; exact q1)
    have f3 := f2.tr f3
    have g3 := g2.tr g3
    obtain ⟨c4, m4, i4, j4, k4, f4, g4⟩ := fd_four x4 k3 (by omega) (by rw [f3.1]; exact h3.2.1) (by rw [g3.1]; exact q1)
    have f4 := f3.tr f4
    have g4 := g3.tr g4
    obtain ⟨c5, m5, i5, j5, k5, f5, g5⟩ := fd_four x5 k4 (by omega) (by rw [f4.1]; exact h3.2.1) (by rw [g4.1]; exact q1)
    have f5 := f4.tr f5
    have g5 := g4.tr g5
    have hA : fX11_feed 0 x1 x2 x3 x4 x5 c = some (.inl (nI (l + 4 + 4 + 4 + 4 + 4)), c5) := by
      unfold fX11_feed fX9_hasRoomFor
      rw [p0, Option.bind_some, h3.2.1, Option.bind_some, b2, hl20, ln23.1, if_neg (show ¬ Int32.ofNat 600 < nI (l + 20) from nI_nlt (a := 600) (by omega) (by omega)), Option.bind_some, if_neg one0, Option.bind_some, i1, Option.bind_some, f1.1, p0, Option.bind_some, i2, Option.bind_some, f2.1, p0, Option.bind_some, i3, Option.bind_some, f3.1, p0, Option.bind_some, i4, Option.bind_some, f4.1, p0, Option.bind_some, i5, Option.bind_some, f5.1, p0, Option.bind_some, k5.2.1]
    have hB : fX12_feed 362 x1 x2 x3 x4 x5 m = some (nI (l + 4 + 4 + 4 + 4 + 4), m5) := by
      unfold fX12_feed fX12_feed_19
      rw [b3, hl20, if_neg (show ¬ (600 : Int32) < nI (l + 20) from nI_nlt (a := 600) (by omega) (by omega)), m_goes1, Option.bind_some, if_neg one0, j1, Option.bind_some, j2, Option.bind_some, j3, Option.bind_some, j4, Option.bind_some, j5, Option.bind_some, k5.2.2.1]
    refine ⟨_, c5, _, m5, hA, hB, ?_, ?_, ?_, Or.inl ⟨rfl, ?_⟩⟩
    · refine (h'.st0 0).bf ⟨_, k5⟩ (fun a ha => ⟨f5.2.2.1 a (fun q => ha (Or.inl q)) (fun q => ha (Or.inr q)), by rw [f5.2.1], by rw [f5.1]⟩) (by rw [f5.1]) (f5.2.2.2 2 (by decide)) (f5.2.2.2 3 (by decide)) (fun a ha => ⟨g5.2.2.1 a (fun q => ha (Or.inl q)) (fun q => ha (Or.inr q)), by rw [g5.2.1], by rw [g5.1]⟩) (by rw [g5.1]) (fun k hk => g5.2.2.2 k (by omega))
    · exact fun a ha => ⟨f5.2.2.1 a (fun q => ha (by show a < 362; omega)) (fun q => ha (by show a < 362; omega)), by rw [f5.2.1], by rw [f5.1]⟩
    · exact MFr.tr MFr.s (fun a ha => ⟨g5.2.2.1 a (fun q => ha (by omega)) (fun q => ha (by omega)), by rw [g5.2.1], by rw [g5.1]⟩)
    · rw [g5.2.2.2 0 (by decide), ldI_stI_s]
end FEED2
end FEED
