/-! the constructors as functions over the memory -/
def fX1_init (o0 : Nat) (n kc ks : Nat) (μ : Mem) : Option (Mem × Nat × Nat × Nat) :=
  nm (stI μ o0 0 0) fun m_1 =>
  nm (stI m_1 o0 1 0) fun m_2 =>
  nm (stI m_2 o0 2 0) fun m_3 =>
  nm (stI m_3 o0 3 0) fun m_4 =>
  nm (stI m_4 o0 4 0) fun m_5 =>
  nm (stI m_5 o0 5 0) fun m_6 =>
  some (m_6, n, kc, ks)
abbrev rmX1_init : Room := { frames := 1, cells := 0, slots := 0, locals := 13 }
def fX3_init (o0 : Nat) (v1 : Int32) (n kc ks : Nat) (μ : Mem) : Option (Mem × Nat × Nat × Nat) :=
  gd (decide (Kd n = 11 ∧ Ln n = 6 ∧ (¬ (6 : Int32) < 0 ∧ (6 : Int32).toNatClampNeg = Ln n ∧ Ln n ≤ 10000) ∧ kc + 1 ≤ 2 ∧ ks + 6 ≤ 12)) (nm (clr μ n) fun m_2 =>
  nm (stP m_2 o0 1 (some n)) fun m_3 =>
  gd (decide (Kd (n + 1) = 11 ∧ Ln (n + 1) = 6 ∧ (¬ (6 : Int32) < 0 ∧ (6 : Int32).toNatClampNeg = Ln (n + 1) ∧ Ln (n + 1) ≤ 10000) ∧ kc + 1 + 1 ≤ 2 ∧ ks + 6 + 6 ≤ 12)) (nm (clr m_3 (n + 1)) fun m_5 =>
  nm (stP m_5 o0 2 (some (n + 1))) fun m_6 =>
  nm (stI m_6 o0 3 0) fun m_7 =>
  nm (stJ m_7 o0 4 0) fun m_8 =>
  nm (stI m_8 o0 5 0) fun m_9 =>
  nm (stI m_9 o0 6 0) fun m_10 =>
  nm (stI m_10 o0 7 0) fun m_11 =>
  nm (stI m_11 o0 8 0) fun m_12 =>
  nm (stI m_12 o0 9 0) fun m_13 =>
  nm (stI m_13 o0 10 0) fun m_14 =>
  nm (stI m_14 o0 11 0) fun m_15 =>
  nm (stI m_15 o0 12 0) fun m_16 =>
  nm (stI m_16 o0 13 0) fun m_17 =>
  nm (stI m_17 o0 14 0) fun m_18 =>
  nm (stI m_18 o0 15 0) fun m_19 =>
  nm (stI m_19 o0 0 v1) fun m_20 =>
  some (m_20, n + 2, kc + 2, ks + 12)))
abbrev rmX3_init : Room := { frames := 1, cells := 2, slots := 12, locals := 13 }
def gX2_init_49 (o0 : Nat) (self : Int32 → Nat → Nat → Nat → Mem → Option (Mem × Nat × Nat × Nat)) : Int32 → Nat → Nat → Nat → Mem → Option (Mem × Nat × Nat × Nat) := fun v1 n kc ks μ =>
  (ldP μ o0 0).bind fun q_1 =>
  if (Int32.ofNat (Ln q_1)) ≤ v1 then
    some (μ, n, kc, ks)
  else
    (ldP μ o0 0).bind fun q_4 =>
    gd (decide (Kd n = 2 ∧ kc + 1 ≤ 28 ∧ ks + 16 ≤ 260)) (nm (clr μ n) fun m_8 =>
    (fX3_init n v1 (n + 1) 0 0 m_8).bind fun r_9 =>
    gd (decide (r_9.2 = (n + 3, 2, 12) ∧ kc + 1 + 2 ≤ 28 ∧ ks + 16 + 12 ≤ 260)) (nm r_9.1 fun m_12 =>
    gd (inB v1 (Ln q_4)) (nm (stP m_12 q_4 (v1).toNatClampNeg (some n)) fun m_15 =>
    nm (v1 + 1) fun v_17 =>
    self v_17 (n + 3) (kc + 3) (ks + 28) m_15)))
def fX2_init_49 (o0 : Nat) : Int32 → Nat → Nat → Nat → Mem → Option (Mem × Nat × Nat × Nat) := zl5 (gX2_init_49 o0) FU
def fX2_init (o0 : Nat) (n kc ks : Nat) (μ : Mem) : Option (Mem × Nat × Nat × Nat) :=
  gd (decide (Kd n = 15 ∧ Ln n = 8 ∧ (¬ (8 : Int32) < 0 ∧ (8 : Int32).toNatClampNeg = Ln n ∧ Ln n ≤ 10000) ∧ kc + 1 ≤ 28 ∧ ks + 8 ≤ 260)) (nm (clr μ n) fun m_2 =>
  nm (stP m_2 o0 0 (some n)) fun m_3 =>
  gd (decide (Kd (n + 1) = 2 ∧ kc + 1 + 1 ≤ 28 ∧ ks + 8 + 16 ≤ 260)) (nm (clr m_3 (n + 1)) fun m_5 =>
  (fX3_init (n + 1) ((-1)) (n + 2) 0 0 m_5).bind fun r_6 =>
  gd (decide (r_6.2 = (n + 4, 2, 12) ∧ kc + 2 + 2 ≤ 28 ∧ ks + 24 + 12 ≤ 260)) (nm r_6.1 fun m_9 =>
  nm (stP m_9 o0 1 (some (n + 1))) fun m_12 =>
  nm (stI m_12 o0 2 0) fun m_13 =>
  nm (stI m_13 o0 3 300) fun m_14 =>
  nm (stI m_14 o0 4 0) fun m_15 =>
  nm (stI m_15 o0 5 0) fun m_16 =>
  fX2_init_49 o0 0 (n + 4) (kc + 4) (ks + 36) m_16)))
abbrev rmX2_init : Room := { frames := 2, cells := 28, slots := 260, locals := 34 }
def fX4_init (o0 : Nat) (n kc ks : Nat) (μ : Mem) : Option (Mem × Nat × Nat × Nat) :=
  gd (decide (Kd n = 1 ∧ kc + 1 ≤ 30 ∧ ks + 6 ≤ 1874)) (nm (clr μ n) fun m_2 =>
  (fX2_init n (n + 1) 0 0 m_2).bind fun r_3 =>
  gd (decide (r_3.2 = (n + 29, 28, 260) ∧ kc + 1 + 28 ≤ 30 ∧ ks + 6 + 260 ≤ 1874)) (nm r_3.1 fun m_6 =>
  nm (stP m_6 o0 0 (some n)) fun m_9 =>
  gd (decide (Kd (n + 29) = 12 ∧ Ln (n + 29) = 1608 ∧ (¬ (1608 : Int32) < 0 ∧ (1608 : Int32).toNatClampNeg = Ln (n + 29) ∧ Ln (n + 29) ≤ 10000) ∧ kc + 29 + 1 ≤ 30 ∧ ks + 266 + 1608 ≤ 1874)) (nm (clr m_9 (n + 29)) fun m_11 =>
  nm (stP m_11 o0 1 (some (n + 29))) fun m_12 =>
  nm (stI m_12 o0 2 ((-1))) fun m_13 =>
  nm (stI m_13 o0 3 ((-1))) fun m_14 =>
  some (m_14, n + 30, kc + 30, ks + 1874))))
abbrev rmX4_init : Room := { frames := 3, cells := 30, slots := 1874, locals := 55 }
def gX5_init_20 (o0 : Nat) (self : Int32 → Nat → Nat → Nat → Mem → Option (Mem × Nat × Nat × Nat)) : Int32 → Nat → Nat → Nat → Mem → Option (Mem × Nat × Nat × Nat) := fun v1 n kc ks μ =>
  (ldP μ o0 0).bind fun q_1 =>
  if (Int32.ofNat (Ln q_1)) ≤ v1 then
    some (μ, n, kc, ks)
  else
    (ldP μ o0 0).bind fun q_4 =>
    gd (decide (Kd n = 1 ∧ kc + 1 ≤ 175 ∧ ks + 6 ≤ 1602)) (nm (clr μ n) fun m_8 =>
    (fX2_init n (n + 1) 0 0 m_8).bind fun r_9 =>
    gd (decide (r_9.2 = (n + 29, 28, 260) ∧ kc + 1 + 28 ≤ 175 ∧ ks + 6 + 260 ≤ 1602)) (nm r_9.1 fun m_12 =>
    gd (inB v1 (Ln q_4)) (nm (stP m_12 q_4 (v1).toNatClampNeg (some n)) fun m_15 =>
    nm (v1 + 1) fun v_17 =>
    self v_17 (n + 29) (kc + 29) (ks + 266) m_15)))
def fX5_init_20 (o0 : Nat) : Int32 → Nat → Nat → Nat → Mem → Option (Mem × Nat × Nat × Nat) := zl5 (gX5_init_20 o0) FU
def fX5_init (o0 : Nat) (n kc ks : Nat) (μ : Mem) : Option (Mem × Nat × Nat × Nat) :=
  gd (decide (Kd n = 14 ∧ Ln n = 6 ∧ (¬ (6 : Int32) < 0 ∧ (6 : Int32).toNatClampNeg = Ln n ∧ Ln n ≤ 10000) ∧ kc + 1 ≤ 175 ∧ ks + 6 ≤ 1602)) (nm (clr μ n) fun m_2 =>
  nm (stP m_2 o0 0 (some n)) fun m_3 =>
  nm (stI m_3 o0 1 0) fun m_4 =>
  fX5_init_20 o0 0 (n + 1) (kc + 1) (ks + 6) m_4)
abbrev rmX5_init : Room := { frames := 3, cells := 175, slots := 1602, locals := 55 }
def gX6_init_37 (o0 : Nat) (self : Int32 → Nat → Nat → Nat → Mem → Option (Mem × Nat × Nat × Nat)) : Int32 → Nat → Nat → Nat → Mem → Option (Mem × Nat × Nat × Nat) := fun v1 n kc ks μ =>
  (ldP μ o0 0).bind fun q_1 =>
  if (Int32.ofNat (Ln q_1)) ≤ v1 then
    some (μ, n, kc, ks)
  else
    (ldP μ o0 0).bind fun q_4 =>
    gd (decide (Kd n = 0 ∧ kc + 1 ≤ 62 ∧ ks + 6 ≤ 422)) (nm (clr μ n) fun m_8 =>
    (fX1_init n (n + 1) 0 0 m_8).bind fun r_9 =>
    gd (decide (r_9.2 = (n + 1, 0, 0) ∧ kc + 1 + 0 ≤ 62 ∧ ks + 6 + 0 ≤ 422)) (nm r_9.1 fun m_12 =>
    gd (inB v1 (Ln q_4)) (nm (stP m_12 q_4 (v1).toNatClampNeg (some n)) fun m_15 =>
    nm (v1 + 1) fun v_17 =>
    self v_17 (n + 1) (kc + 1) (ks + 6) m_15)))
def fX6_init_37 (o0 : Nat) : Int32 → Nat → Nat → Nat → Mem → Option (Mem × Nat × Nat × Nat) := zl5 (gX6_init_37 o0) FU
def fX6_init (o0 : Nat) (n kc ks : Nat) (μ : Mem) : Option (Mem × Nat × Nat × Nat) :=
  gd (decide (Kd n = 13 ∧ Ln n = 60 ∧ (¬ (60 : Int32) < 0 ∧ (60 : Int32).toNatClampNeg = Ln n ∧ Ln n ≤ 10000) ∧ kc + 1 ≤ 62 ∧ ks + 60 ≤ 422)) (nm (clr μ n) fun m_2 =>
  nm (stP m_2 o0 0 (some n)) fun m_3 =>
  gd (decide (Kd (n + 1) = 11 ∧ Ln (n + 1) = 2 ∧ (¬ (2 : Int32) < 0 ∧ (2 : Int32).toNatClampNeg = Ln (n + 1) ∧ Ln (n + 1) ≤ 10000) ∧ kc + 1 + 1 ≤ 62 ∧ ks + 60 + 2 ≤ 422)) (nm (clr m_3 (n + 1)) fun m_5 =>
  nm (stP m_5 o0 1 (some (n + 1))) fun m_6 =>
  nm (stI m_6 o0 2 0) fun m_7 =>
  nm (stI m_7 o0 3 0) fun m_8 =>
  nm (stI m_8 o0 4 0) fun m_9 =>
  fX6_init_37 o0 0 (n + 2) (kc + 2) (ks + 62) m_9))
abbrev rmX6_init : Room := { frames := 2, cells := 62, slots := 422, locals := 33 }
def fX7_init (o0 : Nat) (n kc ks : Nat) (μ : Mem) : Option (Mem × Nat × Nat × Nat) :=
  gd (decide (Kd n = 10 ∧ Ln n = 176 ∧ (¬ (176 : Int32) < 0 ∧ (176 : Int32).toNatClampNeg = Ln n ∧ Ln n ≤ 10000) ∧ kc + 1 ≤ 1 ∧ ks + 176 ≤ 176)) (nm (clr μ n) fun m_2 =>
  nm (stP m_2 o0 0 (some n)) fun m_3 =>
  nm (stI m_3 o0 1 0) fun m_4 =>
  some (m_4, n + 1, kc + 1, ks + 176))
abbrev rmX7_init : Room := { frames := 1, cells := 1, slots := 176, locals := 13 }
def fX9_init (o0 : Nat) (n kc ks : Nat) (μ : Mem) : Option (Mem × Nat × Nat × Nat) :=
  gd (decide (Kd n = 10 ∧ Ln n = 600 ∧ (¬ (600 : Int32) < 0 ∧ (600 : Int32).toNatClampNeg = Ln n ∧ Ln n ≤ 10000) ∧ kc + 1 ≤ 1 ∧ ks + 600 ≤ 600)) (nm (clr μ n) fun m_2 =>
  nm (stP m_2 o0 0 (some n)) fun m_3 =>
  nm (stI m_3 o0 1 0) fun m_4 =>
  nm (stI m_4 o0 2 0) fun m_5 =>
  nm (stI m_5 o0 3 ((-1))) fun m_6 =>
  nm (stI m_6 o0 4 0) fun m_7 =>
  nm (stI m_7 o0 5 0) fun m_8 =>
  nm (stI m_8 o0 6 0) fun m_9 =>
  nm (stI m_9 o0 7 0) fun m_10 =>
  nm (stJ m_10 o0 8 0) fun m_11 =>
  nm (stI m_11 o0 9 0) fun m_12 =>
  nm (stI m_12 o0 10 0) fun m_13 =>
  some (m_13, n + 1, kc + 1, ks + 600))
abbrev rmX9_init : Room := { frames := 1, cells := 1, slots := 600, locals := 13 }
def fX11_init (o0 : Nat) (n kc ks : Nat) (μ : Mem) : Option (Mem × Nat × Nat × Nat) :=
  gd (decide (Kd n = 7 ∧ kc + 1 ≤ 361 ∧ ks + 11 ≤ 5496)) (nm (clr μ n) fun m_2 =>
  (fX9_init n (n + 1) 0 0 m_2).bind fun r_3 =>
  gd (decide (r_3.2 = (n + 2, 1, 600) ∧ kc + 1 + 1 ≤ 361 ∧ ks + 11 + 600 ≤ 5496)) (nm r_3.1 fun m_6 =>
  nm (stP m_6 o0 0 (some n)) fun m_9 =>
  gd (decide (Kd (n + 2) = 5 ∧ kc + 2 + 1 ≤ 361 ∧ ks + 611 + 5 ≤ 5496)) (nm (clr m_9 (n + 2)) fun m_11 =>
  (fX6_init (n + 2) (n + 3) 0 0 m_11).bind fun r_12 =>
  gd (decide (r_12.2 = (n + 65, 62, 422) ∧ kc + 3 + 62 ≤ 361 ∧ ks + 616 + 422 ≤ 5496)) (nm r_12.1 fun m_15 =>
  nm (stP m_15 o0 1 (some (n + 2))) fun m_18 =>
  gd (decide (Kd (n + 65) = 1 ∧ kc + 65 + 1 ≤ 361 ∧ ks + 1038 + 6 ≤ 5496)) (nm (clr m_18 (n + 65)) fun m_20 =>
  (fX2_init (n + 65) (n + 66) 0 0 m_20).bind fun r_21 =>
  gd (decide (r_21.2 = (n + 94, 28, 260) ∧ kc + 66 + 28 ≤ 361 ∧ ks + 1044 + 260 ≤ 5496)) (nm r_21.1 fun m_24 =>
  nm (stP m_24 o0 2 (some (n + 65))) fun m_27 =>
  gd (decide (Kd (n + 94) = 1 ∧ kc + 94 + 1 ≤ 361 ∧ ks + 1304 + 6 ≤ 5496)) (nm (clr m_27 (n + 94)) fun m_29 =>
  (fX2_init (n + 94) (n + 95) 0 0 m_29).bind fun r_30 =>
  gd (decide (r_30.2 = (n + 123, 28, 260) ∧ kc + 95 + 28 ≤ 361 ∧ ks + 1310 + 260 ≤ 5496)) (nm r_30.1 fun m_33 =>
  nm (stP m_33 o0 3 (some (n + 94))) fun m_36 =>
  gd (decide (Kd (n + 123) = 1 ∧ kc + 123 + 1 ≤ 361 ∧ ks + 1570 + 6 ≤ 5496)) (nm (clr m_36 (n + 123)) fun m_38 =>
  (fX2_init (n + 123) (n + 124) 0 0 m_38).bind fun r_39 =>
  gd (decide (r_39.2 = (n + 152, 28, 260) ∧ kc + 124 + 28 ≤ 361 ∧ ks + 1576 + 260 ≤ 5496)) (nm r_39.1 fun m_42 =>
  nm (stP m_42 o0 4 (some (n + 123))) fun m_45 =>
  gd (decide (Kd (n + 152) = 3 ∧ kc + 152 + 1 ≤ 361 ∧ ks + 1836 + 4 ≤ 5496)) (nm (clr m_45 (n + 152)) fun m_47 =>
  (fX4_init (n + 152) (n + 153) 0 0 m_47).bind fun r_48 =>
  gd (decide (r_48.2 = (n + 183, 30, 1874) ∧ kc + 153 + 30 ≤ 361 ∧ ks + 1840 + 1874 ≤ 5496)) (nm r_48.1 fun m_51 =>
  nm (stP m_51 o0 5 (some (n + 152))) fun m_54 =>
  gd (decide (Kd (n + 183) = 4 ∧ kc + 183 + 1 ≤ 361 ∧ ks + 3714 + 2 ≤ 5496)) (nm (clr m_54 (n + 183)) fun m_56 =>
  (fX5_init (n + 183) (n + 184) 0 0 m_56).bind fun r_57 =>
  gd (decide (r_57.2 = (n + 359, 175, 1602) ∧ kc + 184 + 175 ≤ 361 ∧ ks + 3716 + 1602 ≤ 5496)) (nm r_57.1 fun m_60 =>
  nm (stP m_60 o0 6 (some (n + 183))) fun m_63 =>
  gd (decide (Kd (n + 359) = 6 ∧ kc + 359 + 1 ≤ 361 ∧ ks + 5318 + 2 ≤ 5496)) (nm (clr m_63 (n + 359)) fun m_65 =>
  (fX7_init (n + 359) (n + 360) 0 0 m_65).bind fun r_66 =>
  gd (decide (r_66.2 = (n + 361, 1, 176) ∧ kc + 360 + 1 ≤ 361 ∧ ks + 5320 + 176 ≤ 5496)) (nm r_66.1 fun m_69 =>
  nm (stP m_69 o0 7 (some (n + 359))) fun m_72 =>
  nm (stI m_72 o0 8 0) fun m_73 =>
  some (m_73, n + 361, kc + 361, ks + 5496)))))))))))))))))
abbrev rmX11_init : Room := { frames := 4, cells := 361, slots := 5496, locals := 76 }
def fX12_init (o0 : Nat) (n kc ks : Nat) (μ : Mem) : Option (Mem × Nat × Nat × Nat) :=
  gd (decide (Kd n = 11 ∧ Ln n = 600 ∧ (¬ (600 : Int32) < 0 ∧ (600 : Int32).toNatClampNeg = Ln n ∧ Ln n ≤ 10000) ∧ kc + 1 ≤ 18 ∧ ks + 600 ≤ 12736)) (nm (clr μ n) fun m_2 =>
  nm (stP m_2 o0 1 (some n)) fun m_3 =>
  nm (stI m_3 o0 9 ((-1))) fun m_4 =>
  nm (stI m_4 o0 11 ((-1))) fun m_5 =>
  gd (decide (Kd (n + 1) = 11 ∧ Ln (n + 1) = 196 ∧ (¬ (196 : Int32) < 0 ∧ (196 : Int32).toNatClampNeg = Ln (n + 1) ∧ Ln (n + 1) ≤ 10000) ∧ kc + 1 + 1 ≤ 18 ∧ ks + 600 + 196 ≤ 12736)) (nm (clr m_5 (n + 1)) fun m_7 =>
  nm (stP m_7 o0 13 (some (n + 1))) fun m_8 =>
  gd (decide (Kd (n + 2) = 11 ∧ Ln (n + 2) = 196 ∧ (¬ (196 : Int32) < 0 ∧ (196 : Int32).toNatClampNeg = Ln (n + 2) ∧ Ln (n + 2) ≤ 10000) ∧ kc + 2 + 1 ≤ 18 ∧ ks + 796 + 196 ≤ 12736)) (nm (clr m_8 (n + 2)) fun m_10 =>
  nm (stP m_10 o0 14 (some (n + 2))) fun m_11 =>
  gd (decide (Kd (n + 3) = 11 ∧ Ln (n + 3) = 196 ∧ (¬ (196 : Int32) < 0 ∧ (196 : Int32).toNatClampNeg = Ln (n + 3) ∧ Ln (n + 3) ≤ 10000) ∧ kc + 3 + 1 ≤ 18 ∧ ks + 992 + 196 ≤ 12736)) (nm (clr m_11 (n + 3)) fun m_13 =>
  nm (stP m_13 o0 15 (some (n + 3))) fun m_14 =>
  gd (decide (Kd (n + 4) = 11 ∧ Ln (n + 4) = 196 ∧ (¬ (196 : Int32) < 0 ∧ (196 : Int32).toNatClampNeg = Ln (n + 4) ∧ Ln (n + 4) ≤ 10000) ∧ kc + 4 + 1 ≤ 18 ∧ ks + 1188 + 196 ≤ 12736)) (nm (clr m_14 (n + 4)) fun m_16 =>
  nm (stP m_16 o0 16 (some (n + 4))) fun m_17 =>
  gd (decide (Kd (n + 5) = 11 ∧ Ln (n + 5) = 1176 ∧ (¬ (1176 : Int32) < 0 ∧ (1176 : Int32).toNatClampNeg = Ln (n + 5) ∧ Ln (n + 5) ≤ 10000) ∧ kc + 5 + 1 ≤ 18 ∧ ks + 1384 + 1176 ≤ 12736)) (nm (clr m_17 (n + 5)) fun m_19 =>
  nm (stP m_19 o0 17 (some (n + 5))) fun m_20 =>
  gd (decide (Kd (n + 6) = 12 ∧ Ln (n + 6) = 8 ∧ (¬ (8 : Int32) < 0 ∧ (8 : Int32).toNatClampNeg = Ln (n + 6) ∧ Ln (n + 6) ≤ 10000) ∧ kc + 6 + 1 ≤ 18 ∧ ks + 2560 + 8 ≤ 12736)) (nm (clr m_20 (n + 6)) fun m_22 =>
  nm (stP m_22 o0 18 (some (n + 6))) fun m_23 =>
  gd (decide (Kd (n + 7) = 12 ∧ Ln (n + 7) = 8 ∧ (¬ (8 : Int32) < 0 ∧ (8 : Int32).toNatClampNeg = Ln (n + 7) ∧ Ln (n + 7) ≤ 10000) ∧ kc + 7 + 1 ≤ 18 ∧ ks + 2568 + 8 ≤ 12736)) (nm (clr m_23 (n + 7)) fun m_25 =>
  nm (stP m_25 o0 19 (some (n + 7))) fun m_26 =>
  gd (decide (Kd (n + 8) = 12 ∧ Ln (n + 8) = 8 ∧ (¬ (8 : Int32) < 0 ∧ (8 : Int32).toNatClampNeg = Ln (n + 8) ∧ Ln (n + 8) ≤ 10000) ∧ kc + 8 + 1 ≤ 18 ∧ ks + 2576 + 8 ≤ 12736)) (nm (clr m_26 (n + 8)) fun m_28 =>
  nm (stP m_28 o0 20 (some (n + 8))) fun m_29 =>
  gd (decide (Kd (n + 9) = 11 ∧ Ln (n + 9) = 9648 ∧ (¬ (9648 : Int32) < 0 ∧ (9648 : Int32).toNatClampNeg = Ln (n + 9) ∧ Ln (n + 9) ≤ 10000) ∧ kc + 9 + 1 ≤ 18 ∧ ks + 2584 + 9648 ≤ 12736)) (nm (clr m_29 (n + 9)) fun m_31 =>
  nm (stP m_31 o0 26 (some (n + 9))) fun m_32 =>
  gd (decide (Kd (n + 10) = 11 ∧ Ln (n + 10) = 60 ∧ (¬ (60 : Int32) < 0 ∧ (60 : Int32).toNatClampNeg = Ln (n + 10) ∧ Ln (n + 10) ≤ 10000) ∧ kc + 10 + 1 ≤ 18 ∧ ks + 12232 + 60 ≤ 12736)) (nm (clr m_32 (n + 10)) fun m_34 =>
  nm (stP m_34 o0 29 (some (n + 10))) fun m_35 =>
  gd (decide (Kd (n + 11) = 11 ∧ Ln (n + 11) = 60 ∧ (¬ (60 : Int32) < 0 ∧ (60 : Int32).toNatClampNeg = Ln (n + 11) ∧ Ln (n + 11) ≤ 10000) ∧ kc + 11 + 1 ≤ 18 ∧ ks + 12292 + 60 ≤ 12736)) (nm (clr m_35 (n + 11)) fun m_37 =>
  nm (stP m_37 o0 30 (some (n + 11))) fun m_38 =>
  gd (decide (Kd (n + 12) = 11 ∧ Ln (n + 12) = 60 ∧ (¬ (60 : Int32) < 0 ∧ (60 : Int32).toNatClampNeg = Ln (n + 12) ∧ Ln (n + 12) ≤ 10000) ∧ kc + 12 + 1 ≤ 18 ∧ ks + 12352 + 60 ≤ 12736)) (nm (clr m_38 (n + 12)) fun m_40 =>
  nm (stP m_40 o0 31 (some (n + 12))) fun m_41 =>
  gd (decide (Kd (n + 13) = 11 ∧ Ln (n + 13) = 60 ∧ (¬ (60 : Int32) < 0 ∧ (60 : Int32).toNatClampNeg = Ln (n + 13) ∧ Ln (n + 13) ≤ 10000) ∧ kc + 13 + 1 ≤ 18 ∧ ks + 12412 + 60 ≤ 12736)) (nm (clr m_41 (n + 13)) fun m_43 =>
  nm (stP m_43 o0 32 (some (n + 13))) fun m_44 =>
  gd (decide (Kd (n + 14) = 11 ∧ Ln (n + 14) = 60 ∧ (¬ (60 : Int32) < 0 ∧ (60 : Int32).toNatClampNeg = Ln (n + 14) ∧ Ln (n + 14) ≤ 10000) ∧ kc + 14 + 1 ≤ 18 ∧ ks + 12472 + 60 ≤ 12736)) (nm (clr m_44 (n + 14)) fun m_46 =>
  nm (stP m_46 o0 33 (some (n + 14))) fun m_47 =>
  gd (decide (Kd (n + 15) = 11 ∧ Ln (n + 15) = 2 ∧ (¬ (2 : Int32) < 0 ∧ (2 : Int32).toNatClampNeg = Ln (n + 15) ∧ Ln (n + 15) ≤ 10000) ∧ kc + 15 + 1 ≤ 18 ∧ ks + 12532 + 2 ≤ 12736)) (nm (clr m_47 (n + 15)) fun m_49 =>
  nm (stP m_49 o0 34 (some (n + 15))) fun m_50 =>
  gd (decide (Kd (n + 16) = 11 ∧ Ln (n + 16) = 2 ∧ (¬ (2 : Int32) < 0 ∧ (2 : Int32).toNatClampNeg = Ln (n + 16) ∧ Ln (n + 16) ≤ 10000) ∧ kc + 16 + 1 ≤ 18 ∧ ks + 12534 + 2 ≤ 12736)) (nm (clr m_50 (n + 16)) fun m_52 =>
  nm (stP m_52 o0 35 (some (n + 16))) fun m_53 =>
  gd (decide (Kd (n + 17) = 11 ∧ Ln (n + 17) = 200 ∧ (¬ (200 : Int32) < 0 ∧ (200 : Int32).toNatClampNeg = Ln (n + 17) ∧ Ln (n + 17) ≤ 10000) ∧ kc + 17 + 1 ≤ 18 ∧ ks + 12536 + 200 ≤ 12736)) (nm (clr m_53 (n + 17)) fun m_55 =>
  nm (stP m_55 o0 39 (some (n + 17))) fun m_56 =>
  (fX12_clears o0 m_56).bind fun r_57 =>
  gd (decide (kc + 18 ≤ 18 ∧ ks + 12736 ≤ 12736)) (some (r_57, n + 18, kc + 18, ks + 12736))))))))))))))))))))
abbrev rmX12_init : Room := { frames := 1, cells := 18, slots := 12736, locals := 21 }
