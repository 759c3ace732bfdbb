/-! the law as functions over the memory -/
def xc {α β : Type} (r : (α ⊕ Nat) × Mem) (h : Nat → Mem → Option β) (f : α → Mem → Option β) : Option β := match r with
  | (.inl v, μ) => f v μ
  | (.inr k, μ) => h k μ
theorem xc_l {α β : Type} {v : α} {μ : Mem} {f : α → Mem → Option β} {h : Nat → Mem → Option β} {r : β} (e : xc (.inl v, μ) h f = some r) : f v μ = some r := e
theorem xc_r {α β : Type} {k : Nat} {μ : Mem} {f : α → Mem → Option β} {h : Nat → Mem → Option β} {r : β} (e : xc (.inr k, μ) h f = some r) : h k μ = some r := e
def fL_feed (o0 : Nat) (v1 : Int32) (v2 : Int32) (v3 : Int32) (v4 : Int32) (v5 : Int32) (o6 : Nat) (μ : Mem) : Option (Int32 × Mem) :=
  (fX11_feed o0 v1 v2 v3 v4 v5 μ).bind fun r_1 =>
  xc r_1 (fun k_4 m_5 =>
    if k_4 = 1 then
      some (1, m_5)
    else
    none) fun v_7 m_5 =>
  gd (inB 0 (Ln o6)) (nm (stJ m_5 o6 (0 : Int32).toNatClampNeg v_7.toInt64) fun m_9 =>
  some (0, m_9))
abbrev rmL_feed : Room := { frames := 7, cells := 1, slots := 6, locals := 110 }
def fL_truncate (o0 : Nat) (v1 : Int32) (o2 : Nat) (μ : Mem) : Option (Int32 × Mem) :=
  (fX11_truncate o0 v1 μ).bind fun r_1 =>
  xc r_1 (fun k_4 m_5 =>
    if k_4 = 0 then
      some (1, m_5)
    else
    none) fun v_7 m_5 =>
  gd (inB 0 (Ln o2)) (nm (stJ m_5 o2 (0 : Int32).toNatClampNeg v_7.toInt64) fun m_9 =>
  some (0, m_9))
abbrev rmL_truncate : Room := { frames := 8, cells := 1, slots := 6, locals := 126 }
def fL_readText (o0 : Nat) (o1 : Nat) (μ : Mem) : Option (Int32 × Mem) :=
  (fX11_readText o0 μ).bind fun r_1 =>
  xc r_1 (fun k_4 m_5 =>
    if k_4 = 0 then
      some (1, m_5)
    else
    none) fun v_7 m_5 =>
  gd (inB 0 (Ln o1)) (nm (stJ m_5 o1 (0 : Int32).toNatClampNeg v_7.toInt64) fun m_9 =>
  some (0, m_9))
abbrev rmL_readText : Room := { frames := 13, cells := 1, slots := 6, locals := 303 }
def fL_runScript (o0 : Nat) (o1 : Nat) (μ : Mem) : Option (Int32 × Mem) :=
  (fX11_runScript o0 μ).bind fun r_1 =>
  xc r_1 (fun k_4 m_5 =>
    if k_4 = 0 then
      some (1, m_5)
    else
    none) fun v_7 m_5 =>
  gd (inB 0 (Ln o1)) (nm (stJ m_5 o1 (0 : Int32).toNatClampNeg v_7.toInt64) fun m_9 =>
  some (0, m_9))
abbrev rmL_runScript : Room := { frames := 13, cells := 1, slots := 6, locals := 304 }
def fL_setting (o0 : Nat) (v1 : Int32) (o2 : Nat) (μ : Mem) : Option (Int32 × Mem) :=
  (fX11_setting o0 v1 μ).bind fun r_1 =>
  xc r_1 (fun k_4 m_5 =>
    if k_4 = 0 then
      some (1, m_5)
    else
    none) fun v_7 m_5 =>
  gd (inB 0 (Ln o2)) (nm (stJ m_5 o2 (0 : Int32).toNatClampNeg v_7.toInt64) fun m_9 =>
  some (0, m_9))
abbrev rmL_setting : Room := { frames := 7, cells := 1, slots := 6, locals := 106 }
def fL_fighter (o0 : Nat) (v1 : Int32) (v2 : Int32) (o3 : Nat) (μ : Mem) : Option (Int32 × Mem) :=
  (fX11_fighter o0 v1 v2 μ).bind fun r_1 =>
  xc r_1 (fun k_4 m_5 =>
    if k_4 = 2 then
      some (1, m_5)
    else
    if k_4 = 0 then
      some (2, m_5)
    else
    none) fun v_7 m_5 =>
  gd (inB 0 (Ln o3)) (nm (stJ m_5 o3 (0 : Int32).toNatClampNeg v_7.toInt64) fun m_9 =>
  some (0, m_9))
abbrev rmL_fighter : Room := { frames := 8, cells := 1, slots := 6, locals := 129 }
def fL_actKind (o0 : Nat) (v1 : Int32) (v2 : Int32) (o3 : Nat) (μ : Mem) : Option (Int32 × Mem) :=
  (fX11_actKind o0 v1 v2 μ).bind fun r_1 =>
  xc r_1 (fun k_4 m_5 =>
    if k_4 = 2 then
      some (1, m_5)
    else
    none) fun v_7 m_5 =>
  gd (inB 0 (Ln o3)) (nm (stJ m_5 o3 (0 : Int32).toNatClampNeg v_7.toInt64) fun m_9 =>
  some (0, m_9))
abbrev rmL_actKind : Room := { frames := 8, cells := 1, slots := 6, locals := 128 }
def fL_actNumber (o0 : Nat) (v1 : Int32) (v2 : Int32) (o3 : Nat) (μ : Mem) : Option (Int32 × Mem) :=
  (fX11_actNumber o0 v1 v2 μ).bind fun r_1 =>
  xc r_1 (fun k_4 m_5 =>
    if k_4 = 2 then
      some (1, m_5)
    else
    none) fun v_7 m_5 =>
  gd (inB 0 (Ln o3)) (nm (stJ m_5 o3 (0 : Int32).toNatClampNeg v_7.toInt64) fun m_9 =>
  some (0, m_9))
abbrev rmL_actNumber : Room := { frames := 8, cells := 1, slots := 6, locals := 128 }
def fL_letter (o0 : Nat) (v1 : Int32) (v2 : Int32) (o3 : Nat) (μ : Mem) : Option (Int32 × Mem) :=
  (fX11_letter o0 v1 v2 μ).bind fun r_1 =>
  xc r_1 (fun k_4 m_5 =>
    if k_4 = 2 then
      some (1, m_5)
    else
    none) fun v_7 m_5 =>
  gd (inB 0 (Ln o3)) (nm (stJ m_5 o3 (0 : Int32).toNatClampNeg v_7.toInt64) fun m_9 =>
  some (0, m_9))
abbrev rmL_letter : Room := { frames := 8, cells := 1, slots := 6, locals := 128 }
def fL_ticksTo (o0 : Nat) (v1 : Int32) (o2 : Nat) (μ : Mem) : Option (Int32 × Mem) :=
  (fX11_ticksTo o0 v1 μ).bind fun r_1 =>
  xc r_1 (fun k_4 m_5 =>
    if k_4 = 2 then
      some (1, m_5)
    else
    none) fun v_7 m_5 =>
  gd (inB 0 (Ln o2)) (nm (stJ m_5 o2 (0 : Int32).toNatClampNeg v_7.toInt64) fun m_9 =>
  some (0, m_9))
abbrev rmL_ticksTo : Room := { frames := 8, cells := 1, slots := 6, locals := 128 }
def fL_turn (o0 : Nat) (v1 : Int32) (o2 : Nat) (μ : Mem) : Option (Int32 × Mem) :=
  (fX11_turn o0 v1 μ).bind fun r_1 =>
  xc r_1 (fun k_4 m_5 =>
    if k_4 = 0 then
      some (1, m_5)
    else
    none) fun v_7 m_5 =>
  gd (inB 0 (Ln o2)) (nm (stJ m_5 o2 (0 : Int32).toNatClampNeg v_7.toInt64) fun m_9 =>
  some (0, m_9))
abbrev rmL_turn : Room := { frames := 8, cells := 1, slots := 6, locals := 173 }
def fL_turnTime (o0 : Nat) (v1 : Int32) (o2 : Nat) (μ : Mem) : Option (Int32 × Mem) :=
  (fX11_turnTime o0 v1 μ).bind fun r_1 =>
  xc r_1 (fun k_4 m_5 =>
    if k_4 = 0 then
      some (1, m_5)
    else
    none) fun v_7 m_5 =>
  gd (inB 0 (Ln o2)) (nm (stJ m_5 o2 (0 : Int32).toNatClampNeg v_7.toInt64) fun m_9 =>
  some (0, m_9))
abbrev rmL_turnTime : Room := { frames := 8, cells := 1, slots := 6, locals := 174 }
def fL_turnKind (o0 : Nat) (v1 : Int32) (o2 : Nat) (μ : Mem) : Option (Int32 × Mem) :=
  (fX11_turnKind o0 v1 μ).bind fun r_1 =>
  xc r_1 (fun k_4 m_5 =>
    if k_4 = 0 then
      some (1, m_5)
    else
    none) fun v_7 m_5 =>
  gd (inB 0 (Ln o2)) (nm (stJ m_5 o2 (0 : Int32).toNatClampNeg v_7.toInt64) fun m_9 =>
  some (0, m_9))
abbrev rmL_turnKind : Room := { frames := 8, cells := 1, slots := 6, locals := 174 }
def fL_lifeIn (o0 : Nat) (v1 : Int32) (v2 : Int32) (o3 : Nat) (μ : Mem) : Option (Int32 × Mem) :=
  (fX11_lifeIn o0 v1 v2 μ).bind fun r_1 =>
  xc r_1 (fun k_4 m_5 =>
    if k_4 = 2 then
      some (1, m_5)
    else
    if k_4 = 0 then
      some (2, m_5)
    else
    none) fun v_7 m_5 =>
  gd (inB 0 (Ln o3)) (nm (stJ m_5 o3 (0 : Int32).toNatClampNeg v_7.toInt64) fun m_9 =>
  some (0, m_9))
abbrev rmL_lifeIn : Room := { frames := 9, cells := 1, slots := 6, locals := 175 }
def fL_gaugeIn (o0 : Nat) (v1 : Int32) (v2 : Int32) (o3 : Nat) (μ : Mem) : Option (Int32 × Mem) :=
  (fX11_gaugeIn o0 v1 v2 μ).bind fun r_1 =>
  xc r_1 (fun k_4 m_5 =>
    if k_4 = 2 then
      some (1, m_5)
    else
    if k_4 = 0 then
      some (2, m_5)
    else
    none) fun v_7 m_5 =>
  gd (inB 0 (Ln o3)) (nm (stJ m_5 o3 (0 : Int32).toNatClampNeg v_7.toInt64) fun m_9 =>
  some (0, m_9))
abbrev rmL_gaugeIn : Room := { frames := 9, cells := 1, slots := 6, locals := 175 }
def fL_turnsOf (o0 : Nat) (v1 : Int32) (v2 : Int32) (o3 : Nat) (μ : Mem) : Option (Int32 × Mem) :=
  (fX11_turnsOf o0 v1 v2 μ).bind fun r_1 =>
  xc r_1 (fun k_4 m_5 =>
    if k_4 = 2 then
      some (1, m_5)
    else
    if k_4 = 0 then
      some (2, m_5)
    else
    none) fun v_7 m_5 =>
  gd (inB 0 (Ln o3)) (nm (stJ m_5 o3 (0 : Int32).toNatClampNeg v_7.toInt64) fun m_9 =>
  some (0, m_9))
abbrev rmL_turnsOf : Room := { frames := 9, cells := 1, slots := 6, locals := 176 }
def fL_longestRun (o0 : Nat) (v1 : Int32) (o2 : Nat) (μ : Mem) : Option (Int32 × Mem) :=
  (fX11_longestRun o0 v1 μ).bind fun r_1 =>
  xc r_1 (fun k_4 m_5 =>
    if k_4 = 0 then
      some (1, m_5)
    else
    none) fun v_7 m_5 =>
  gd (inB 0 (Ln o2)) (nm (stJ m_5 o2 (0 : Int32).toNatClampNeg v_7.toInt64) fun m_9 =>
  some (0, m_9))
abbrev rmL_longestRun : Room := { frames := 8, cells := 1, slots := 6, locals := 133 }
def fL_firstLoss (o0 : Nat) (v1 : Int32) (o2 : Nat) (μ : Mem) : Option (Int32 × Mem) :=
  (fX11_firstLoss o0 v1 μ).bind fun r_1 =>
  xc r_1 (fun k_4 m_5 =>
    if k_4 = 2 then
      some (1, m_5)
    else
    none) fun v_7 m_5 =>
  gd (inB 0 (Ln o2)) (nm (stJ m_5 o2 (0 : Int32).toNatClampNeg v_7.toInt64) fun m_9 =>
  some (0, m_9))
abbrev rmL_firstLoss : Room := { frames := 8, cells := 1, slots := 6, locals := 154 }
def fL_leastSpeed (o0 : Nat) (v1 : Int32) (o2 : Nat) (μ : Mem) : Option (Int32 × Mem) :=
  (fX11_leastSpeed o0 v1 μ).bind fun r_1 =>
  xc r_1 (fun k_4 m_5 =>
    if k_4 = 2 then
      some (1, m_5)
    else
    none) fun v_7 m_5 =>
  gd (inB 0 (Ln o2)) (nm (stJ m_5 o2 (0 : Int32).toNatClampNeg v_7.toInt64) fun m_9 =>
  some (0, m_9))
abbrev rmL_leastSpeed : Room := { frames := 8, cells := 1, slots := 6, locals := 152 }
def fL_bestPush (o0 : Nat) (v1 : Int32) (v2 : Int32) (o3 : Nat) (μ : Mem) : Option (Int32 × Mem) :=
  (fX11_bestPush o0 v1 v2 μ).bind fun r_1 =>
  xc r_1 (fun k_4 m_5 =>
    if k_4 = 0 then
      some (1, m_5)
    else
    none) fun v_7 m_5 =>
  gd (inB 0 (Ln o3)) (nm (stJ m_5 o3 (0 : Int32).toNatClampNeg v_7.toInt64) fun m_9 =>
  some (0, m_9))
abbrev rmL_bestPush : Room := { frames := 8, cells := 1, slots := 6, locals := 160 }
def fL_bestSwap (o0 : Nat) (v1 : Int32) (o2 : Nat) (μ : Mem) : Option (Int32 × Mem) :=
  (fX11_bestSwap o0 v1 μ).bind fun r_1 =>
  xc r_1 (fun k_4 m_5 =>
    if k_4 = 2 then
      some (1, m_5)
    else
    none) fun v_7 m_5 =>
  gd (inB 0 (Ln o2)) (nm (stJ m_5 o2 (0 : Int32).toNatClampNeg v_7.toInt64) fun m_9 =>
  some (0, m_9))
abbrev rmL_bestSwap : Room := { frames := 8, cells := 1, slots := 6, locals := 158 }
def fL_bestPlace (o0 : Nat) (v1 : Int32) (o2 : Nat) (μ : Mem) : Option (Int32 × Mem) :=
  (fX11_bestPlace o0 v1 μ).bind fun r_1 =>
  xc r_1 (fun k_4 m_5 =>
    if k_4 = 2 then
      some (1, m_5)
    else
    none) fun v_7 m_5 =>
  gd (inB 0 (Ln o2)) (nm (stJ m_5 o2 (0 : Int32).toNatClampNeg v_7.toInt64) fun m_9 =>
  some (0, m_9))
abbrev rmL_bestPlace : Room := { frames := 8, cells := 1, slots := 6, locals := 155 }
def fL_play (o0 : Nat) (v1 : Int32) (o2 : Nat) (μ : Mem) : Option (Int32 × Mem) :=
  (fX11_play o0 v1 μ).bind fun r_1 =>
  xc r_1 (fun k_4 m_5 =>
    if k_4 = 0 then
      some (1, m_5)
    else
    if k_4 = 1 then
      some (2, m_5)
    else
    none) fun v_7 m_5 =>
  gd (inB 0 (Ln o2)) (nm (stJ m_5 o2 (0 : Int32).toNatClampNeg v_7.toInt64) fun m_9 =>
  some (0, m_9))
abbrev rmL_play : Room := { frames := 8, cells := 1, slots := 6, locals := 129 }
def fL_push (o0 : Nat) (v1 : Int32) (v2 : Int32) (o3 : Nat) (μ : Mem) : Option (Int32 × Mem) :=
  (fX11_push o0 v1 v2 μ).bind fun r_1 =>
  xc r_1 (fun k_4 m_5 =>
    if k_4 = 2 then
      some (1, m_5)
    else
    if k_4 = 0 then
      some (2, m_5)
    else
    if k_4 = 1 then
      some (3, m_5)
    else
    none) fun v_7 m_5 =>
  gd (inB 0 (Ln o3)) (nm (stJ m_5 o3 (0 : Int32).toNatClampNeg v_7.toInt64) fun m_9 =>
  some (0, m_9))
abbrev rmL_push : Room := { frames := 8, cells := 1, slots := 6, locals := 129 }
def fL_lift (o0 : Nat) (v1 : Int32) (v2 : Int32) (o3 : Nat) (μ : Mem) : Option (Int32 × Mem) :=
  (fX11_lift o0 v1 v2 μ).bind fun r_1 =>
  xc r_1 (fun k_4 m_5 =>
    if k_4 = 2 then
      some (1, m_5)
    else
    if k_4 = 0 then
      some (2, m_5)
    else
    if k_4 = 1 then
      some (3, m_5)
    else
    none) fun v_7 m_5 =>
  gd (inB 0 (Ln o3)) (nm (stJ m_5 o3 (0 : Int32).toNatClampNeg v_7.toInt64) fun m_9 =>
  some (0, m_9))
abbrev rmL_lift : Room := { frames := 8, cells := 1, slots := 6, locals := 129 }
def fL_extra (o0 : Nat) (v1 : Int32) (o2 : Nat) (μ : Mem) : Option (Int32 × Mem) :=
  (fX11_extra o0 v1 μ).bind fun r_1 =>
  xc r_1 (fun k_4 m_5 =>
    if k_4 = 2 then
      some (1, m_5)
    else
    if k_4 = 1 then
      some (2, m_5)
    else
    none) fun v_7 m_5 =>
  if v_7 = 0 then
    gd (inB 0 (Ln o2)) (nm (stJ m_5 o2 (0 : Int32).toNatClampNeg 0) fun m_9 =>
    some (0, m_9))
  else
    gd (inB 0 (Ln o2)) (nm (stJ m_5 o2 (0 : Int32).toNatClampNeg 1) fun m_11 =>
    some (0, m_11))
abbrev rmL_extra : Room := { frames := 8, cells := 1, slots := 6, locals := 128 }
def fL_setSpeed (o0 : Nat) (v1 : Int32) (v2 : Int32) (o3 : Nat) (μ : Mem) : Option (Int32 × Mem) :=
  (fX11_setSpeed o0 v1 v2 μ).bind fun r_1 =>
  xc r_1 (fun k_4 m_5 =>
    if k_4 = 2 then
      some (1, m_5)
    else
    if k_4 = 0 then
      some (2, m_5)
    else
    none) fun v_7 m_5 =>
  gd (inB 0 (Ln o3)) (nm (stJ m_5 o3 (0 : Int32).toNatClampNeg v_7.toInt64) fun m_9 =>
  some (0, m_9))
abbrev rmL_setSpeed : Room := { frames := 8, cells := 1, slots := 6, locals := 130 }
def fL_heal (o0 : Nat) (v1 : Int32) (v2 : Int32) (o3 : Nat) (μ : Mem) : Option (Int32 × Mem) :=
  (fX11_heal o0 v1 v2 μ).bind fun r_1 =>
  xc r_1 (fun k_4 m_5 =>
    if k_4 = 2 then
      some (1, m_5)
    else
    if k_4 = 0 then
      some (2, m_5)
    else
    none) fun v_7 m_5 =>
  gd (inB 0 (Ln o3)) (nm (stJ m_5 o3 (0 : Int32).toNatClampNeg v_7.toInt64) fun m_9 =>
  some (0, m_9))
abbrev rmL_heal : Room := { frames := 8, cells := 1, slots := 6, locals := 129 }
def fL_setWheel (o0 : Nat) (v1 : Int32) (o2 : Nat) (μ : Mem) : Option (Int32 × Mem) :=
  (fX11_setWheel o0 v1 μ).bind fun r_1 =>
  xc r_1 (fun k_4 m_5 =>
    if k_4 = 0 then
      some (1, m_5)
    else
    none) fun v_7 m_5 =>
  gd (inB 0 (Ln o2)) (nm (stJ m_5 o2 (0 : Int32).toNatClampNeg v_7.toInt64) fun m_9 =>
  some (0, m_9))
abbrev rmL_setWheel : Room := { frames := 8, cells := 1, slots := 6, locals := 127 }
def fL_setAct (o0 : Nat) (v1 : Int32) (v2 : Int32) (v3 : Int32) (v4 : Int32) (o5 : Nat) (μ : Mem) : Option (Int32 × Mem) :=
  (fX11_setAct o0 v1 v2 v3 v4 μ).bind fun r_1 =>
  xc r_1 (fun k_4 m_5 =>
    if k_4 = 2 then
      some (1, m_5)
    else
    if k_4 = 0 then
      some (2, m_5)
    else
    none) fun v_7 m_5 =>
  gd (inB 0 (Ln o5)) (nm (stJ m_5 o5 (0 : Int32).toNatClampNeg v_7.toInt64) fun m_9 =>
  some (0, m_9))
abbrev rmL_setAct : Room := { frames := 8, cells := 1, slots := 6, locals := 132 }
def fL_reportByte (o0 : Nat) (v1 : Int32) (o2 : Nat) (μ : Mem) : Option (Int32 × Mem) :=
  (fX11_reportByte o0 v1 μ).bind fun r_1 =>
  xc r_1 (fun k_4 m_5 =>
    if k_4 = 2 then
      some (1, m_5)
    else
    none) fun v_7 m_5 =>
  gd (inB 0 (Ln o2)) (nm (stJ m_5 o2 (0 : Int32).toNatClampNeg v_7.toInt64) fun m_9 =>
  some (0, m_9))
abbrev rmL_reportByte : Room := { frames := 7, cells := 1, slots := 6, locals := 106 }
def fL_restore (o0 : Nat) (o1 : Nat) (μ : Mem) : Option (Int32 × Mem) :=
  (fX11_restore o0 μ).bind fun r_1 =>
  xc r_1 (fun k_4 m_5 =>
    if k_4 = 1 then
      some (1, m_5)
    else
    none) fun v_7 m_5 =>
  gd (inB 0 (Ln o1)) (nm (stJ m_5 o1 (0 : Int32).toNatClampNeg v_7.toInt64) fun m_9 =>
  some (0, m_9))
abbrev rmL_restore : Room := { frames := 7, cells := 1, slots := 6, locals := 105 }
def fL_law_232 (L : Nat) (xs : Nat → Int32) (o1 o2 o3 : Nat) (kb : Int32 → Mem → Option (Int32 × Mem)) (v4 : Int32) (μ : Mem) : Option (Int32 × Mem) :=
  gd (inB (v4 + 1) L) (gd (inB (v4 + 2) L) (gd (inB (v4 + 3) L) (gd (inB (v4 + 4) L) (gd (inB (v4 + 5) L) ((fL_feed o1 (xs (v4 + 1).toNatClampNeg) (xs (v4 + 2).toNatClampNeg) (xs (v4 + 3).toNatClampNeg) (xs (v4 + 4).toNatClampNeg) (xs (v4 + 5).toNatClampNeg) o3 μ).bind fun r_6 =>
  gd (inB (v4 + 1) L) (gd (inB (v4 + 2) L) (gd (inB (v4 + 3) L) (gd (inB (v4 + 4) L) (gd (inB (v4 + 5) L) ((fX12_feed o2 (xs (v4 + 1).toNatClampNeg) (xs (v4 + 2).toNatClampNeg) (xs (v4 + 3).toNatClampNeg) (xs (v4 + 4).toNatClampNeg) (xs (v4 + 5).toNatClampNeg) r_6.2).bind fun r_14 =>
  (fX12_thrown o2 r_14.2).bind fun r_17 =>
  if r_17 = r_6.1 then
    if r_6.1 = 0 then
      gd (inB 0 (Ln o3)) (if (lg_cmp (ldJ r_14.2 o3 (0 : Int32).toNatClampNeg) r_14.1.toInt64) = 0 then
        nm (v4 + 6) fun v_22 =>
        kb v_22 r_14.2
      else
        some (0, r_14.2))
    else
      nm (v4 + 6) fun v_20 =>
      kb v_20 r_14.2
  else
    some (0, r_14.2)))))))))))
def fL_law_336 (L : Nat) (xs : Nat → Int32) (o1 o2 o3 : Nat) (kb : Int32 → Mem → Option (Int32 × Mem)) (v4 : Int32) (μ : Mem) : Option (Int32 × Mem) :=
  gd (inB (v4 + 1) L) ((fL_truncate o1 (xs (v4 + 1).toNatClampNeg) o3 μ).bind fun r_2 =>
  gd (inB (v4 + 1) L) ((fX12_truncate o2 (xs (v4 + 1).toNatClampNeg) r_2.2).bind fun r_6 =>
  (fX12_thrown o2 r_6.2).bind fun r_9 =>
  if r_9 = r_2.1 then
    if r_2.1 = 0 then
      gd (inB 0 (Ln o3)) (if (lg_cmp (ldJ r_6.2 o3 (0 : Int32).toNatClampNeg) r_6.1.toInt64) = 0 then
        nm (v4 + 6) fun v_14 =>
        kb v_14 r_6.2
      else
        some (0, r_6.2))
    else
      nm (v4 + 6) fun v_12 =>
      kb v_12 r_6.2
  else
    some (0, r_6.2)))
def fL_law_392 (L : Nat) (xs : Nat → Int32) (o1 o2 o3 : Nat) (kb : Int32 → Mem → Option (Int32 × Mem)) (v4 : Int32) (μ : Mem) : Option (Int32 × Mem) :=
  (fL_readText o1 o3 μ).bind fun r_1 =>
  (fX12_readText o2 r_1.2).bind fun r_4 =>
  (fX12_thrown o2 r_4.2).bind fun r_7 =>
  if r_7 = r_1.1 then
    if r_1.1 = 0 then
      gd (inB 0 (Ln o3)) (if (lg_cmp (ldJ r_4.2 o3 (0 : Int32).toNatClampNeg) r_4.1.toInt64) = 0 then
        nm (v4 + 6) fun v_12 =>
        kb v_12 r_4.2
      else
        some (0, r_4.2))
    else
      nm (v4 + 6) fun v_10 =>
      kb v_10 r_4.2
  else
    some (0, r_4.2)
def fL_law_436 (L : Nat) (xs : Nat → Int32) (o1 o2 o3 : Nat) (kb : Int32 → Mem → Option (Int32 × Mem)) (v4 : Int32) (μ : Mem) : Option (Int32 × Mem) :=
  (fL_runScript o1 o3 μ).bind fun r_1 =>
  (fX12_runScript o2 r_1.2).bind fun r_4 =>
  (fX12_thrown o2 r_4.2).bind fun r_7 =>
  if r_7 = r_1.1 then
    if r_1.1 = 0 then
      gd (inB 0 (Ln o3)) (if (lg_cmp (ldJ r_4.2 o3 (0 : Int32).toNatClampNeg) r_4.1.toInt64) = 0 then
        nm (v4 + 6) fun v_12 =>
        kb v_12 r_4.2
      else
        some (0, r_4.2))
    else
      nm (v4 + 6) fun v_10 =>
      kb v_10 r_4.2
  else
    some (0, r_4.2)
def fL_law_480 (L : Nat) (xs : Nat → Int32) (o1 o2 o3 : Nat) (kb : Int32 → Mem → Option (Int32 × Mem)) (v4 : Int32) (μ : Mem) : Option (Int32 × Mem) :=
  (fX11_errorCode o1 μ).bind fun r_1 =>
  (fX12_errorCode o2 μ).bind fun r_4 =>
  if r_1 = r_4.1 then
    nm (v4 + 6) fun v_7 =>
    kb v_7 r_4.2
  else
    some (0, r_4.2)
def fL_law_493 (L : Nat) (xs : Nat → Int32) (o1 o2 o3 : Nat) (kb : Int32 → Mem → Option (Int32 × Mem)) (v4 : Int32) (μ : Mem) : Option (Int32 × Mem) :=
  (fX11_errorPosition o1 μ).bind fun r_1 =>
  (fX12_errorPosition o2 μ).bind fun r_4 =>
  if r_1 = r_4.1 then
    nm (v4 + 6) fun v_7 =>
    kb v_7 r_4.2
  else
    some (0, r_4.2)
def fL_law_506 (L : Nat) (xs : Nat → Int32) (o1 o2 o3 : Nat) (kb : Int32 → Mem → Option (Int32 × Mem)) (v4 : Int32) (μ : Mem) : Option (Int32 × Mem) :=
  gd (inB (v4 + 1) L) ((fL_setting o1 (xs (v4 + 1).toNatClampNeg) o3 μ).bind fun r_2 =>
  gd (inB (v4 + 1) L) ((fX12_setting o2 (xs (v4 + 1).toNatClampNeg) r_2.2).bind fun r_6 =>
  (fX12_thrown o2 r_6.2).bind fun r_9 =>
  if r_9 = r_2.1 then
    if r_2.1 = 0 then
      gd (inB 0 (Ln o3)) (if (lg_cmp (ldJ r_6.2 o3 (0 : Int32).toNatClampNeg) r_6.1.toInt64) = 0 then
        nm (v4 + 6) fun v_14 =>
        kb v_14 r_6.2
      else
        some (0, r_6.2))
    else
      nm (v4 + 6) fun v_12 =>
      kb v_12 r_6.2
  else
    some (0, r_6.2)))
def fL_law_562 (L : Nat) (xs : Nat → Int32) (o1 o2 o3 : Nat) (kb : Int32 → Mem → Option (Int32 × Mem)) (v4 : Int32) (μ : Mem) : Option (Int32 × Mem) :=
  gd (inB (v4 + 1) L) (gd (inB (v4 + 2) L) ((fL_fighter o1 (xs (v4 + 1).toNatClampNeg) (xs (v4 + 2).toNatClampNeg) o3 μ).bind fun r_3 =>
  gd (inB (v4 + 1) L) (gd (inB (v4 + 2) L) ((fX12_fighter o2 (xs (v4 + 1).toNatClampNeg) (xs (v4 + 2).toNatClampNeg) r_3.2).bind fun r_8 =>
  (fX12_thrown o2 r_8.2).bind fun r_11 =>
  if r_11 = r_3.1 then
    if r_3.1 = 0 then
      gd (inB 0 (Ln o3)) (if (lg_cmp (ldJ r_8.2 o3 (0 : Int32).toNatClampNeg) r_8.1.toInt64) = 0 then
        nm (v4 + 6) fun v_16 =>
        kb v_16 r_8.2
      else
        some (0, r_8.2))
    else
      nm (v4 + 6) fun v_14 =>
      kb v_14 r_8.2
  else
    some (0, r_8.2)))))
def fL_law_630 (L : Nat) (xs : Nat → Int32) (o1 o2 o3 : Nat) (kb : Int32 → Mem → Option (Int32 × Mem)) (v4 : Int32) (μ : Mem) : Option (Int32 × Mem) :=
  gd (inB (v4 + 1) L) (gd (inB (v4 + 2) L) ((fL_actKind o1 (xs (v4 + 1).toNatClampNeg) (xs (v4 + 2).toNatClampNeg) o3 μ).bind fun r_3 =>
  gd (inB (v4 + 1) L) (gd (inB (v4 + 2) L) ((fX12_actKind o2 (xs (v4 + 1).toNatClampNeg) (xs (v4 + 2).toNatClampNeg) r_3.2).bind fun r_8 =>
  (fX12_thrown o2 r_8.2).bind fun r_11 =>
  if r_11 = r_3.1 then
    if r_3.1 = 0 then
      gd (inB 0 (Ln o3)) (if (lg_cmp (ldJ r_8.2 o3 (0 : Int32).toNatClampNeg) r_8.1.toInt64) = 0 then
        nm (v4 + 6) fun v_16 =>
        kb v_16 r_8.2
      else
        some (0, r_8.2))
    else
      nm (v4 + 6) fun v_14 =>
      kb v_14 r_8.2
  else
    some (0, r_8.2)))))
def fL_law_698 (L : Nat) (xs : Nat → Int32) (o1 o2 o3 : Nat) (kb : Int32 → Mem → Option (Int32 × Mem)) (v4 : Int32) (μ : Mem) : Option (Int32 × Mem) :=
  gd (inB (v4 + 1) L) (gd (inB (v4 + 2) L) ((fL_actNumber o1 (xs (v4 + 1).toNatClampNeg) (xs (v4 + 2).toNatClampNeg) o3 μ).bind fun r_3 =>
  gd (inB (v4 + 1) L) (gd (inB (v4 + 2) L) ((fX12_actNumber o2 (xs (v4 + 1).toNatClampNeg) (xs (v4 + 2).toNatClampNeg) r_3.2).bind fun r_8 =>
  (fX12_thrown o2 r_8.2).bind fun r_11 =>
  if r_11 = r_3.1 then
    if r_3.1 = 0 then
      gd (inB 0 (Ln o3)) (if (lg_cmp (ldJ r_8.2 o3 (0 : Int32).toNatClampNeg) r_8.1.toInt64) = 0 then
        nm (v4 + 6) fun v_16 =>
        kb v_16 r_8.2
      else
        some (0, r_8.2))
    else
      nm (v4 + 6) fun v_14 =>
      kb v_14 r_8.2
  else
    some (0, r_8.2)))))
def fL_law_766 (L : Nat) (xs : Nat → Int32) (o1 o2 o3 : Nat) (kb : Int32 → Mem → Option (Int32 × Mem)) (v4 : Int32) (μ : Mem) : Option (Int32 × Mem) :=
  gd (inB (v4 + 1) L) (gd (inB (v4 + 2) L) ((fL_letter o1 (xs (v4 + 1).toNatClampNeg) (xs (v4 + 2).toNatClampNeg) o3 μ).bind fun r_3 =>
  gd (inB (v4 + 1) L) (gd (inB (v4 + 2) L) ((fX12_letter o2 (xs (v4 + 1).toNatClampNeg) (xs (v4 + 2).toNatClampNeg) r_3.2).bind fun r_8 =>
  (fX12_thrown o2 r_8.2).bind fun r_11 =>
  if r_11 = r_3.1 then
    if r_3.1 = 0 then
      gd (inB 0 (Ln o3)) (if (lg_cmp (ldJ r_8.2 o3 (0 : Int32).toNatClampNeg) r_8.1.toInt64) = 0 then
        nm (v4 + 6) fun v_16 =>
        kb v_16 r_8.2
      else
        some (0, r_8.2))
    else
      nm (v4 + 6) fun v_14 =>
      kb v_14 r_8.2
  else
    some (0, r_8.2)))))
def fL_law_834 (L : Nat) (xs : Nat → Int32) (o1 o2 o3 : Nat) (kb : Int32 → Mem → Option (Int32 × Mem)) (v4 : Int32) (μ : Mem) : Option (Int32 × Mem) :=
  gd (inB (v4 + 1) L) ((fL_ticksTo o1 (xs (v4 + 1).toNatClampNeg) o3 μ).bind fun r_2 =>
  gd (inB (v4 + 1) L) ((fX12_ticksTo o2 (xs (v4 + 1).toNatClampNeg) r_2.2).bind fun r_6 =>
  (fX12_thrown o2 r_6.2).bind fun r_9 =>
  if r_9 = r_2.1 then
    if r_2.1 = 0 then
      gd (inB 0 (Ln o3)) (if (lg_cmp (ldJ r_6.2 o3 (0 : Int32).toNatClampNeg) r_6.1.toInt64) = 0 then
        nm (v4 + 6) fun v_14 =>
        kb v_14 r_6.2
      else
        some (0, r_6.2))
    else
      nm (v4 + 6) fun v_12 =>
      kb v_12 r_6.2
  else
    some (0, r_6.2)))
def fL_law_890 (L : Nat) (xs : Nat → Int32) (o1 o2 o3 : Nat) (kb : Int32 → Mem → Option (Int32 × Mem)) (v4 : Int32) (μ : Mem) : Option (Int32 × Mem) :=
  gd (inB (v4 + 1) L) ((fX11_row o1 (xs (v4 + 1).toNatClampNeg) μ).bind fun r_2 =>
  gd (inB (v4 + 1) L) ((fX12_row o2 (xs (v4 + 1).toNatClampNeg) μ).bind fun r_6 =>
  if r_2 = r_6.1 then
    nm (v4 + 6) fun v_9 =>
    kb v_9 r_6.2
  else
    some (0, r_6.2)))
def fL_law_915 (L : Nat) (xs : Nat → Int32) (o1 o2 o3 : Nat) (kb : Int32 → Mem → Option (Int32 × Mem)) (v4 : Int32) (μ : Mem) : Option (Int32 × Mem) :=
  (fX11_meanSpeed o1 μ).bind fun r_1 =>
  (fX12_meanSpeed o2 μ).bind fun r_4 =>
  if (Op.cmpValue (FP.dcmp r_1 r_4.1) .l) = 0 then
    nm (v4 + 6) fun v_7 =>
    kb v_7 r_4.2
  else
    if (Op.cmpValue (FP.dcmp r_1 r_1) .l) = 0 then
      some (0, r_4.2)
    else
      if (Op.cmpValue (FP.dcmp r_4.1 r_4.1) .l) = 0 then
        some (0, r_4.2)
      else
        nm (v4 + 6) fun v_8 =>
        kb v_8 r_4.2
def fL_law_956 (L : Nat) (xs : Nat → Int32) (o1 o2 o3 : Nat) (kb : Int32 → Mem → Option (Int32 × Mem)) (v4 : Int32) (μ : Mem) : Option (Int32 × Mem) :=
  (fX11_share o1 μ).bind fun r_1 =>
  gd (nn64 (FP.f2d r_1)) (nm (FP.f2d r_1) fun v_5 =>
  (fX12_share o2 μ).bind fun r_6 =>
  gd (nn64 (FP.f2d r_6.1)) (nm (FP.f2d r_6.1) fun v_10 =>
  if (Op.cmpValue (FP.dcmp v_5 v_10) .l) = 0 then
    nm (v4 + 6) fun v_11 =>
    kb v_11 r_6.2
  else
    if (Op.cmpValue (FP.dcmp v_5 v_5) .l) = 0 then
      some (0, r_6.2)
    else
      if (Op.cmpValue (FP.dcmp v_10 v_10) .l) = 0 then
        some (0, r_6.2)
      else
        nm (v4 + 6) fun v_12 =>
        kb v_12 r_6.2))
def fL_law_999 (L : Nat) (xs : Nat → Int32) (o1 o2 o3 : Nat) (kb : Int32 → Mem → Option (Int32 × Mem)) (v4 : Int32) (μ : Mem) : Option (Int32 × Mem) :=
  gd (inB (v4 + 1) L) ((fL_turn o1 (xs (v4 + 1).toNatClampNeg) o3 μ).bind fun r_2 =>
  gd (inB (v4 + 1) L) ((fX12_turn o2 (xs (v4 + 1).toNatClampNeg) r_2.2).bind fun r_6 =>
  (fX12_thrown o2 r_6.2).bind fun r_9 =>
  if r_9 = r_2.1 then
    if r_2.1 = 0 then
      gd (inB 0 (Ln o3)) (if (lg_cmp (ldJ r_6.2 o3 (0 : Int32).toNatClampNeg) r_6.1.toInt64) = 0 then
        nm (v4 + 6) fun v_14 =>
        kb v_14 r_6.2
      else
        some (0, r_6.2))
    else
      nm (v4 + 6) fun v_12 =>
      kb v_12 r_6.2
  else
    some (0, r_6.2)))
def fL_law_1055 (L : Nat) (xs : Nat → Int32) (o1 o2 o3 : Nat) (kb : Int32 → Mem → Option (Int32 × Mem)) (v4 : Int32) (μ : Mem) : Option (Int32 × Mem) :=
  gd (inB (v4 + 1) L) ((fL_turnTime o1 (xs (v4 + 1).toNatClampNeg) o3 μ).bind fun r_2 =>
  gd (inB (v4 + 1) L) ((fX12_turnTime o2 (xs (v4 + 1).toNatClampNeg) r_2.2).bind fun r_6 =>
  (fX12_thrown o2 r_6.2).bind fun r_9 =>
  if r_9 = r_2.1 then
    if r_2.1 = 0 then
      gd (inB 0 (Ln o3)) (if (lg_cmp (ldJ r_6.2 o3 (0 : Int32).toNatClampNeg) r_6.1.toInt64) = 0 then
        nm (v4 + 6) fun v_14 =>
        kb v_14 r_6.2
      else
        some (0, r_6.2))
    else
      nm (v4 + 6) fun v_12 =>
      kb v_12 r_6.2
  else
    some (0, r_6.2)))
def fL_law_1111 (L : Nat) (xs : Nat → Int32) (o1 o2 o3 : Nat) (kb : Int32 → Mem → Option (Int32 × Mem)) (v4 : Int32) (μ : Mem) : Option (Int32 × Mem) :=
  gd (inB (v4 + 1) L) ((fL_turnKind o1 (xs (v4 + 1).toNatClampNeg) o3 μ).bind fun r_2 =>
  gd (inB (v4 + 1) L) ((fX12_turnKind o2 (xs (v4 + 1).toNatClampNeg) r_2.2).bind fun r_6 =>
  (fX12_thrown o2 r_6.2).bind fun r_9 =>
  if r_9 = r_2.1 then
    if r_2.1 = 0 then
      gd (inB 0 (Ln o3)) (if (lg_cmp (ldJ r_6.2 o3 (0 : Int32).toNatClampNeg) r_6.1.toInt64) = 0 then
        nm (v4 + 6) fun v_14 =>
        kb v_14 r_6.2
      else
        some (0, r_6.2))
    else
      nm (v4 + 6) fun v_12 =>
      kb v_12 r_6.2
  else
    some (0, r_6.2)))
def fL_law_1167 (L : Nat) (xs : Nat → Int32) (o1 o2 o3 : Nat) (kb : Int32 → Mem → Option (Int32 × Mem)) (v4 : Int32) (μ : Mem) : Option (Int32 × Mem) :=
  gd (inB (v4 + 1) L) (gd (inB (v4 + 2) L) ((fL_lifeIn o1 (xs (v4 + 1).toNatClampNeg) (xs (v4 + 2).toNatClampNeg) o3 μ).bind fun r_3 =>
  gd (inB (v4 + 1) L) (gd (inB (v4 + 2) L) ((fX12_lifeIn o2 (xs (v4 + 1).toNatClampNeg) (xs (v4 + 2).toNatClampNeg) r_3.2).bind fun r_8 =>
  (fX12_thrown o2 r_8.2).bind fun r_11 =>
  if r_11 = r_3.1 then
    if r_3.1 = 0 then
      gd (inB 0 (Ln o3)) (if (lg_cmp (ldJ r_8.2 o3 (0 : Int32).toNatClampNeg) r_8.1.toInt64) = 0 then
        nm (v4 + 6) fun v_16 =>
        kb v_16 r_8.2
      else
        some (0, r_8.2))
    else
      nm (v4 + 6) fun v_14 =>
      kb v_14 r_8.2
  else
    some (0, r_8.2)))))
def fL_law_1235 (L : Nat) (xs : Nat → Int32) (o1 o2 o3 : Nat) (kb : Int32 → Mem → Option (Int32 × Mem)) (v4 : Int32) (μ : Mem) : Option (Int32 × Mem) :=
  gd (inB (v4 + 1) L) (gd (inB (v4 + 2) L) ((fL_gaugeIn o1 (xs (v4 + 1).toNatClampNeg) (xs (v4 + 2).toNatClampNeg) o3 μ).bind fun r_3 =>
  gd (inB (v4 + 1) L) (gd (inB (v4 + 2) L) ((fX12_gaugeIn o2 (xs (v4 + 1).toNatClampNeg) (xs (v4 + 2).toNatClampNeg) r_3.2).bind fun r_8 =>
  (fX12_thrown o2 r_8.2).bind fun r_11 =>
  if r_11 = r_3.1 then
    if r_3.1 = 0 then
      gd (inB 0 (Ln o3)) (if (lg_cmp (ldJ r_8.2 o3 (0 : Int32).toNatClampNeg) r_8.1.toInt64) = 0 then
        nm (v4 + 6) fun v_16 =>
        kb v_16 r_8.2
      else
        some (0, r_8.2))
    else
      nm (v4 + 6) fun v_14 =>
      kb v_14 r_8.2
  else
    some (0, r_8.2)))))
def fL_law_1303 (L : Nat) (xs : Nat → Int32) (o1 o2 o3 : Nat) (kb : Int32 → Mem → Option (Int32 × Mem)) (v4 : Int32) (μ : Mem) : Option (Int32 × Mem) :=
  gd (inB (v4 + 1) L) (gd (inB (v4 + 2) L) ((fL_turnsOf o1 (xs (v4 + 1).toNatClampNeg) (xs (v4 + 2).toNatClampNeg) o3 μ).bind fun r_3 =>
  gd (inB (v4 + 1) L) (gd (inB (v4 + 2) L) ((fX12_turnsOf o2 (xs (v4 + 1).toNatClampNeg) (xs (v4 + 2).toNatClampNeg) r_3.2).bind fun r_8 =>
  (fX12_thrown o2 r_8.2).bind fun r_11 =>
  if r_11 = r_3.1 then
    if r_3.1 = 0 then
      gd (inB 0 (Ln o3)) (if (lg_cmp (ldJ r_8.2 o3 (0 : Int32).toNatClampNeg) r_8.1.toInt64) = 0 then
        nm (v4 + 6) fun v_16 =>
        kb v_16 r_8.2
      else
        some (0, r_8.2))
    else
      nm (v4 + 6) fun v_14 =>
      kb v_14 r_8.2
  else
    some (0, r_8.2)))))
def fL_law_1371 (L : Nat) (xs : Nat → Int32) (o1 o2 o3 : Nat) (kb : Int32 → Mem → Option (Int32 × Mem)) (v4 : Int32) (μ : Mem) : Option (Int32 × Mem) :=
  gd (inB (v4 + 1) L) ((fL_longestRun o1 (xs (v4 + 1).toNatClampNeg) o3 μ).bind fun r_2 =>
  gd (inB (v4 + 1) L) ((fX12_longestRun o2 (xs (v4 + 1).toNatClampNeg) r_2.2).bind fun r_6 =>
  (fX12_thrown o2 r_6.2).bind fun r_9 =>
  if r_9 = r_2.1 then
    if r_2.1 = 0 then
      gd (inB 0 (Ln o3)) (if (lg_cmp (ldJ r_6.2 o3 (0 : Int32).toNatClampNeg) r_6.1.toInt64) = 0 then
        nm (v4 + 6) fun v_14 =>
        kb v_14 r_6.2
      else
        some (0, r_6.2))
    else
      nm (v4 + 6) fun v_12 =>
      kb v_12 r_6.2
  else
    some (0, r_6.2)))
def fL_law_1427 (L : Nat) (xs : Nat → Int32) (o1 o2 o3 : Nat) (kb : Int32 → Mem → Option (Int32 × Mem)) (v4 : Int32) (μ : Mem) : Option (Int32 × Mem) :=
  (fX11_endsIn o1 μ).bind fun r_1 =>
  (fX12_endsIn o2 r_1.2).bind fun r_4 =>
  if r_1.1 = r_4.1 then
    nm (v4 + 6) fun v_7 =>
    kb v_7 r_4.2
  else
    some (0, r_4.2)
def fL_law_1440 (L : Nat) (xs : Nat → Int32) (o1 o2 o3 : Nat) (kb : Int32 → Mem → Option (Int32 × Mem)) (v4 : Int32) (μ : Mem) : Option (Int32 × Mem) :=
  (fX11_winner o1 μ).bind fun r_1 =>
  (fX12_winner o2 r_1.2).bind fun r_4 =>
  if r_1.1 = r_4.1 then
    nm (v4 + 6) fun v_7 =>
    kb v_7 r_4.2
  else
    some (0, r_4.2)
def fL_law_1453 (L : Nat) (xs : Nat → Int32) (o1 o2 o3 : Nat) (kb : Int32 → Mem → Option (Int32 × Mem)) (v4 : Int32) (μ : Mem) : Option (Int32 × Mem) :=
  gd (inB (v4 + 1) L) ((fL_firstLoss o1 (xs (v4 + 1).toNatClampNeg) o3 μ).bind fun r_2 =>
  gd (inB (v4 + 1) L) ((fX12_firstLoss o2 (xs (v4 + 1).toNatClampNeg) r_2.2).bind fun r_6 =>
  (fX12_thrown o2 r_6.2).bind fun r_9 =>
  if r_9 = r_2.1 then
    if r_2.1 = 0 then
      gd (inB 0 (Ln o3)) (if (lg_cmp (ldJ r_6.2 o3 (0 : Int32).toNatClampNeg) r_6.1.toInt64) = 0 then
        nm (v4 + 6) fun v_14 =>
        kb v_14 r_6.2
      else
        some (0, r_6.2))
    else
      nm (v4 + 6) fun v_12 =>
      kb v_12 r_6.2
  else
    some (0, r_6.2)))
def fL_law_1509 (L : Nat) (xs : Nat → Int32) (o1 o2 o3 : Nat) (kb : Int32 → Mem → Option (Int32 × Mem)) (v4 : Int32) (μ : Mem) : Option (Int32 × Mem) :=
  (fX11_repeatIn o1 μ).bind fun r_1 =>
  (fX12_repeatIn o2 r_1.2).bind fun r_4 =>
  if r_1.1 = r_4.1 then
    nm (v4 + 6) fun v_7 =>
    kb v_7 r_4.2
  else
    some (0, r_4.2)
def fL_law_1522 (L : Nat) (xs : Nat → Int32) (o1 o2 o3 : Nat) (kb : Int32 → Mem → Option (Int32 × Mem)) (v4 : Int32) (μ : Mem) : Option (Int32 × Mem) :=
  (fX11_cycle o1 μ).bind fun r_1 =>
  (fX12_cycle o2 r_1.2).bind fun r_4 =>
  if r_1.1 = r_4.1 then
    nm (v4 + 6) fun v_7 =>
    kb v_7 r_4.2
  else
    some (0, r_4.2)
def fL_law_1535 (L : Nat) (xs : Nat → Int32) (o1 o2 o3 : Nat) (kb : Int32 → Mem → Option (Int32 × Mem)) (v4 : Int32) (μ : Mem) : Option (Int32 × Mem) :=
  gd (inB (v4 + 1) L) ((fL_leastSpeed o1 (xs (v4 + 1).toNatClampNeg) o3 μ).bind fun r_2 =>
  gd (inB (v4 + 1) L) ((fX12_leastSpeed o2 (xs (v4 + 1).toNatClampNeg) r_2.2).bind fun r_6 =>
  (fX12_thrown o2 r_6.2).bind fun r_9 =>
  if r_9 = r_2.1 then
    if r_2.1 = 0 then
      gd (inB 0 (Ln o3)) (if (lg_cmp (ldJ r_6.2 o3 (0 : Int32).toNatClampNeg) r_6.1.toInt64) = 0 then
        nm (v4 + 6) fun v_14 =>
        kb v_14 r_6.2
      else
        some (0, r_6.2))
    else
      nm (v4 + 6) fun v_12 =>
      kb v_12 r_6.2
  else
    some (0, r_6.2)))
def fL_law_1591 (L : Nat) (xs : Nat → Int32) (o1 o2 o3 : Nat) (kb : Int32 → Mem → Option (Int32 × Mem)) (v4 : Int32) (μ : Mem) : Option (Int32 × Mem) :=
  gd (inB (v4 + 1) L) (gd (inB (v4 + 2) L) ((fL_bestPush o1 (xs (v4 + 1).toNatClampNeg) (xs (v4 + 2).toNatClampNeg) o3 μ).bind fun r_3 =>
  gd (inB (v4 + 1) L) (gd (inB (v4 + 2) L) ((fX12_bestPush o2 (xs (v4 + 1).toNatClampNeg) (xs (v4 + 2).toNatClampNeg) r_3.2).bind fun r_8 =>
  (fX12_thrown o2 r_8.2).bind fun r_11 =>
  if r_11 = r_3.1 then
    if r_3.1 = 0 then
      gd (inB 0 (Ln o3)) (if (lg_cmp (ldJ r_8.2 o3 (0 : Int32).toNatClampNeg) r_8.1.toInt64) = 0 then
        nm (v4 + 6) fun v_16 =>
        kb v_16 r_8.2
      else
        some (0, r_8.2))
    else
      nm (v4 + 6) fun v_14 =>
      kb v_14 r_8.2
  else
    some (0, r_8.2)))))
def fL_law_1659 (L : Nat) (xs : Nat → Int32) (o1 o2 o3 : Nat) (kb : Int32 → Mem → Option (Int32 × Mem)) (v4 : Int32) (μ : Mem) : Option (Int32 × Mem) :=
  gd (inB (v4 + 1) L) ((fL_bestSwap o1 (xs (v4 + 1).toNatClampNeg) o3 μ).bind fun r_2 =>
  gd (inB (v4 + 1) L) ((fX12_bestSwap o2 (xs (v4 + 1).toNatClampNeg) r_2.2).bind fun r_6 =>
  (fX12_thrown o2 r_6.2).bind fun r_9 =>
  if r_9 = r_2.1 then
    if r_2.1 = 0 then
      gd (inB 0 (Ln o3)) (if (lg_cmp (ldJ r_6.2 o3 (0 : Int32).toNatClampNeg) r_6.1.toInt64) = 0 then
        nm (v4 + 6) fun v_14 =>
        kb v_14 r_6.2
      else
        some (0, r_6.2))
    else
      nm (v4 + 6) fun v_12 =>
      kb v_12 r_6.2
  else
    some (0, r_6.2)))
def fL_law_1715 (L : Nat) (xs : Nat → Int32) (o1 o2 o3 : Nat) (kb : Int32 → Mem → Option (Int32 × Mem)) (v4 : Int32) (μ : Mem) : Option (Int32 × Mem) :=
  gd (inB (v4 + 1) L) ((fL_bestPlace o1 (xs (v4 + 1).toNatClampNeg) o3 μ).bind fun r_2 =>
  gd (inB (v4 + 1) L) ((fX12_bestPlace o2 (xs (v4 + 1).toNatClampNeg) r_2.2).bind fun r_6 =>
  (fX12_thrown o2 r_6.2).bind fun r_9 =>
  if r_9 = r_2.1 then
    if r_2.1 = 0 then
      gd (inB 0 (Ln o3)) (if (lg_cmp (ldJ r_6.2 o3 (0 : Int32).toNatClampNeg) r_6.1.toInt64) = 0 then
        nm (v4 + 6) fun v_14 =>
        kb v_14 r_6.2
      else
        some (0, r_6.2))
    else
      nm (v4 + 6) fun v_12 =>
      kb v_12 r_6.2
  else
    some (0, r_6.2)))
def fL_law_1771 (L : Nat) (xs : Nat → Int32) (o1 o2 o3 : Nat) (kb : Int32 → Mem → Option (Int32 × Mem)) (v4 : Int32) (μ : Mem) : Option (Int32 × Mem) :=
  gd (inB (v4 + 1) L) ((fL_play o1 (xs (v4 + 1).toNatClampNeg) o3 μ).bind fun r_2 =>
  gd (inB (v4 + 1) L) ((fX12_play o2 (xs (v4 + 1).toNatClampNeg) r_2.2).bind fun r_6 =>
  (fX12_thrown o2 r_6.2).bind fun r_9 =>
  if r_9 = r_2.1 then
    if r_2.1 = 0 then
      gd (inB 0 (Ln o3)) (if (lg_cmp (ldJ r_6.2 o3 (0 : Int32).toNatClampNeg) r_6.1.toInt64) = 0 then
        nm (v4 + 6) fun v_14 =>
        kb v_14 r_6.2
      else
        some (0, r_6.2))
    else
      nm (v4 + 6) fun v_12 =>
      kb v_12 r_6.2
  else
    some (0, r_6.2)))
def fL_law_1827 (L : Nat) (xs : Nat → Int32) (o1 o2 o3 : Nat) (kb : Int32 → Mem → Option (Int32 × Mem)) (v4 : Int32) (μ : Mem) : Option (Int32 × Mem) :=
  gd (inB (v4 + 1) L) (gd (inB (v4 + 2) L) ((fL_push o1 (xs (v4 + 1).toNatClampNeg) (xs (v4 + 2).toNatClampNeg) o3 μ).bind fun r_3 =>
  gd (inB (v4 + 1) L) (gd (inB (v4 + 2) L) ((fX12_push o2 (xs (v4 + 1).toNatClampNeg) (xs (v4 + 2).toNatClampNeg) r_3.2).bind fun r_8 =>
  (fX12_thrown o2 r_8.2).bind fun r_11 =>
  if r_11 = r_3.1 then
    if r_3.1 = 0 then
      gd (inB 0 (Ln o3)) (if (lg_cmp (ldJ r_8.2 o3 (0 : Int32).toNatClampNeg) r_8.1.toInt64) = 0 then
        nm (v4 + 6) fun v_16 =>
        kb v_16 r_8.2
      else
        some (0, r_8.2))
    else
      nm (v4 + 6) fun v_14 =>
      kb v_14 r_8.2
  else
    some (0, r_8.2)))))
def fL_law_1895 (L : Nat) (xs : Nat → Int32) (o1 o2 o3 : Nat) (kb : Int32 → Mem → Option (Int32 × Mem)) (v4 : Int32) (μ : Mem) : Option (Int32 × Mem) :=
  gd (inB (v4 + 1) L) (gd (inB (v4 + 2) L) ((fL_lift o1 (xs (v4 + 1).toNatClampNeg) (xs (v4 + 2).toNatClampNeg) o3 μ).bind fun r_3 =>
  gd (inB (v4 + 1) L) (gd (inB (v4 + 2) L) ((fX12_lift o2 (xs (v4 + 1).toNatClampNeg) (xs (v4 + 2).toNatClampNeg) r_3.2).bind fun r_8 =>
  (fX12_thrown o2 r_8.2).bind fun r_11 =>
  if r_11 = r_3.1 then
    if r_3.1 = 0 then
      gd (inB 0 (Ln o3)) (if (lg_cmp (ldJ r_8.2 o3 (0 : Int32).toNatClampNeg) r_8.1.toInt64) = 0 then
        nm (v4 + 6) fun v_16 =>
        kb v_16 r_8.2
      else
        some (0, r_8.2))
    else
      nm (v4 + 6) fun v_14 =>
      kb v_14 r_8.2
  else
    some (0, r_8.2)))))
def fL_law_1963 (L : Nat) (xs : Nat → Int32) (o1 o2 o3 : Nat) (kb : Int32 → Mem → Option (Int32 × Mem)) (v4 : Int32) (μ : Mem) : Option (Int32 × Mem) :=
  gd (inB (v4 + 1) L) ((fL_extra o1 (xs (v4 + 1).toNatClampNeg) o3 μ).bind fun r_2 =>
  gd (inB (v4 + 1) L) ((fX12_extra o2 (xs (v4 + 1).toNatClampNeg) r_2.2).bind fun r_6 =>
  (fX12_thrown o2 r_6.2).bind fun r_10 =>
  if r_10 = r_2.1 then
    if r_2.1 = 0 then
      gd (inB 0 (Ln o3)) (if r_6.1 = 0 then
        if (lg_cmp (ldJ r_6.2 o3 (0 : Int32).toNatClampNeg) 0) = 0 then
          nm (v4 + 6) fun v_15 =>
          kb v_15 r_6.2
        else
          some (0, r_6.2)
      else
        if (lg_cmp (ldJ r_6.2 o3 (0 : Int32).toNatClampNeg) 1) = 0 then
          nm (v4 + 6) fun v_17 =>
          kb v_17 r_6.2
        else
          some (0, r_6.2))
    else
      nm (v4 + 6) fun v_13 =>
      kb v_13 r_6.2
  else
    some (0, r_6.2)))
def fL_law_2026 (L : Nat) (xs : Nat → Int32) (o1 o2 o3 : Nat) (kb : Int32 → Mem → Option (Int32 × Mem)) (v4 : Int32) (μ : Mem) : Option (Int32 × Mem) :=
  gd (inB (v4 + 1) L) (gd (inB (v4 + 2) L) ((fL_setSpeed o1 (xs (v4 + 1).toNatClampNeg) (xs (v4 + 2).toNatClampNeg) o3 μ).bind fun r_3 =>
  gd (inB (v4 + 1) L) (gd (inB (v4 + 2) L) ((fX12_setSpeed o2 (xs (v4 + 1).toNatClampNeg) (xs (v4 + 2).toNatClampNeg) r_3.2).bind fun r_8 =>
  (fX12_thrown o2 r_8.2).bind fun r_11 =>
  if r_11 = r_3.1 then
    if r_3.1 = 0 then
      gd (inB 0 (Ln o3)) (if (lg_cmp (ldJ r_8.2 o3 (0 : Int32).toNatClampNeg) r_8.1.toInt64) = 0 then
        nm (v4 + 6) fun v_16 =>
        kb v_16 r_8.2
      else
        some (0, r_8.2))
    else
      nm (v4 + 6) fun v_14 =>
      kb v_14 r_8.2
  else
    some (0, r_8.2)))))
def fL_law_2094 (L : Nat) (xs : Nat → Int32) (o1 o2 o3 : Nat) (kb : Int32 → Mem → Option (Int32 × Mem)) (v4 : Int32) (μ : Mem) : Option (Int32 × Mem) :=
  gd (inB (v4 + 1) L) (gd (inB (v4 + 2) L) ((fL_heal o1 (xs (v4 + 1).toNatClampNeg) (xs (v4 + 2).toNatClampNeg) o3 μ).bind fun r_3 =>
  gd (inB (v4 + 1) L) (gd (inB (v4 + 2) L) ((fX12_heal o2 (xs (v4 + 1).toNatClampNeg) (xs (v4 + 2).toNatClampNeg) r_3.2).bind fun r_8 =>
  (fX12_thrown o2 r_8.2).bind fun r_11 =>
  if r_11 = r_3.1 then
    if r_3.1 = 0 then
      gd (inB 0 (Ln o3)) (if (lg_cmp (ldJ r_8.2 o3 (0 : Int32).toNatClampNeg) r_8.1.toInt64) = 0 then
        nm (v4 + 6) fun v_16 =>
        kb v_16 r_8.2
      else
        some (0, r_8.2))
    else
      nm (v4 + 6) fun v_14 =>
      kb v_14 r_8.2
  else
    some (0, r_8.2)))))
def fL_law_2162 (L : Nat) (xs : Nat → Int32) (o1 o2 o3 : Nat) (kb : Int32 → Mem → Option (Int32 × Mem)) (v4 : Int32) (μ : Mem) : Option (Int32 × Mem) :=
  gd (inB (v4 + 1) L) ((fL_setWheel o1 (xs (v4 + 1).toNatClampNeg) o3 μ).bind fun r_2 =>
  gd (inB (v4 + 1) L) ((fX12_setWheel o2 (xs (v4 + 1).toNatClampNeg) r_2.2).bind fun r_6 =>
  (fX12_thrown o2 r_6.2).bind fun r_9 =>
  if r_9 = r_2.1 then
    if r_2.1 = 0 then
      gd (inB 0 (Ln o3)) (if (lg_cmp (ldJ r_6.2 o3 (0 : Int32).toNatClampNeg) r_6.1.toInt64) = 0 then
        nm (v4 + 6) fun v_14 =>
        kb v_14 r_6.2
      else
        some (0, r_6.2))
    else
      nm (v4 + 6) fun v_12 =>
      kb v_12 r_6.2
  else
    some (0, r_6.2)))
def fL_law_2218 (L : Nat) (xs : Nat → Int32) (o1 o2 o3 : Nat) (kb : Int32 → Mem → Option (Int32 × Mem)) (v4 : Int32) (μ : Mem) : Option (Int32 × Mem) :=
  gd (inB (v4 + 1) L) (gd (inB (v4 + 2) L) (gd (inB (v4 + 3) L) (gd (inB (v4 + 4) L) ((fL_setAct o1 (xs (v4 + 1).toNatClampNeg) (xs (v4 + 2).toNatClampNeg) (xs (v4 + 3).toNatClampNeg) (xs (v4 + 4).toNatClampNeg) o3 μ).bind fun r_5 =>
  gd (inB (v4 + 1) L) (gd (inB (v4 + 2) L) (gd (inB (v4 + 3) L) (gd (inB (v4 + 4) L) ((fX12_setAct o2 (xs (v4 + 1).toNatClampNeg) (xs (v4 + 2).toNatClampNeg) (xs (v4 + 3).toNatClampNeg) (xs (v4 + 4).toNatClampNeg) r_5.2).bind fun r_12 =>
  (fX12_thrown o2 r_12.2).bind fun r_15 =>
  if r_15 = r_5.1 then
    if r_5.1 = 0 then
      gd (inB 0 (Ln o3)) (if (lg_cmp (ldJ r_12.2 o3 (0 : Int32).toNatClampNeg) r_12.1.toInt64) = 0 then
        nm (v4 + 6) fun v_20 =>
        kb v_20 r_12.2
      else
        some (0, r_12.2))
    else
      nm (v4 + 6) fun v_18 =>
      kb v_18 r_12.2
  else
    some (0, r_12.2)))))))))
def fL_law_2310 (L : Nat) (xs : Nat → Int32) (o1 o2 o3 : Nat) (kb : Int32 → Mem → Option (Int32 × Mem)) (v4 : Int32) (μ : Mem) : Option (Int32 × Mem) :=
  (fX11_report o1 μ).bind fun r_1 =>
  (fX12_report o2 r_1.2).bind fun r_4 =>
  if r_1.1 = r_4.1 then
    nm (v4 + 6) fun v_7 =>
    kb v_7 r_4.2
  else
    some (0, r_4.2)
def fL_law_2323 (L : Nat) (xs : Nat → Int32) (o1 o2 o3 : Nat) (kb : Int32 → Mem → Option (Int32 × Mem)) (v4 : Int32) (μ : Mem) : Option (Int32 × Mem) :=
  gd (inB (v4 + 1) L) ((fL_reportByte o1 (xs (v4 + 1).toNatClampNeg) o3 μ).bind fun r_2 =>
  gd (inB (v4 + 1) L) ((fX12_reportByte o2 (xs (v4 + 1).toNatClampNeg) r_2.2).bind fun r_6 =>
  (fX12_thrown o2 r_6.2).bind fun r_9 =>
  if r_9 = r_2.1 then
    if r_2.1 = 0 then
      gd (inB 0 (Ln o3)) (if (lg_cmp (ldJ r_6.2 o3 (0 : Int32).toNatClampNeg) r_6.1.toInt64) = 0 then
        nm (v4 + 6) fun v_14 =>
        kb v_14 r_6.2
      else
        some (0, r_6.2))
    else
      nm (v4 + 6) fun v_12 =>
      kb v_12 r_6.2
  else
    some (0, r_6.2)))
def fL_law_2379 (L : Nat) (xs : Nat → Int32) (o1 o2 o3 : Nat) (kb : Int32 → Mem → Option (Int32 × Mem)) (v4 : Int32) (μ : Mem) : Option (Int32 × Mem) :=
  (fX11_undo o1 μ).bind fun r_1 =>
  (fX12_undo o2 r_1.2).bind fun r_4 =>
  if r_1.1 = r_4.1 then
    nm (v4 + 6) fun v_7 =>
    kb v_7 r_4.2
  else
    some (0, r_4.2)
def fL_law_2392 (L : Nat) (xs : Nat → Int32) (o1 o2 o3 : Nat) (kb : Int32 → Mem → Option (Int32 × Mem)) (v4 : Int32) (μ : Mem) : Option (Int32 × Mem) :=
  (fX11_save o1 μ).bind fun r_1 =>
  (fX12_save o2 r_1.2).bind fun r_4 =>
  if r_1.1 = r_4.1 then
    nm (v4 + 6) fun v_7 =>
    kb v_7 r_4.2
  else
    some (0, r_4.2)
def fL_law_2405 (L : Nat) (xs : Nat → Int32) (o1 o2 o3 : Nat) (kb : Int32 → Mem → Option (Int32 × Mem)) (v4 : Int32) (μ : Mem) : Option (Int32 × Mem) :=
  (fL_restore o1 o3 μ).bind fun r_1 =>
  (fX12_restore o2 r_1.2).bind fun r_4 =>
  (fX12_thrown o2 r_4.2).bind fun r_7 =>
  if r_7 = r_1.1 then
    if r_1.1 = 0 then
      gd (inB 0 (Ln o3)) (if (lg_cmp (ldJ r_4.2 o3 (0 : Int32).toNatClampNeg) r_4.1.toInt64) = 0 then
        nm (v4 + 6) fun v_12 =>
        kb v_12 r_4.2
      else
        some (0, r_4.2))
    else
      nm (v4 + 6) fun v_10 =>
      kb v_10 r_4.2
  else
    some (0, r_4.2)
def fL_law_2449 (L : Nat) (xs : Nat → Int32) (o1 o2 o3 : Nat) (kb : Int32 → Mem → Option (Int32 × Mem)) (v4 : Int32) (μ : Mem) : Option (Int32 × Mem) :=
  nm (v4 + 6) fun v_1 =>
  kb v_1 μ
def gL_law (L : Nat) (xs : Nat → Int32) (o1 o2 o3 : Nat) (self : Int32 → Mem → Option (Int32 × Mem)) : Int32 → Mem → Option (Int32 × Mem) := fun v4 μ =>
  if ((Int32.ofNat L) - 6) < v4 then
    some (1, μ)
  else
    gd (inB v4 L) (nm ((xs (v4).toNatClampNeg) &&& 63) fun vsw =>
    if vsw = 0 then
      fL_law_232 L xs o1 o2 o3 self v4 μ
    else
    if vsw = 1 then
      fL_law_336 L xs o1 o2 o3 self v4 μ
    else
    if vsw = 2 then
      fL_law_392 L xs o1 o2 o3 self v4 μ
    else
    if vsw = 3 then
      fL_law_436 L xs o1 o2 o3 self v4 μ
    else
    if vsw = 4 then
      fL_law_480 L xs o1 o2 o3 self v4 μ
    else
    if vsw = 5 then
      fL_law_493 L xs o1 o2 o3 self v4 μ
    else
    if vsw = 6 then
      fL_law_506 L xs o1 o2 o3 self v4 μ
    else
    if vsw = 7 then
      fL_law_562 L xs o1 o2 o3 self v4 μ
    else
    if vsw = 8 then
      fL_law_630 L xs o1 o2 o3 self v4 μ
    else
    if vsw = 9 then
      fL_law_698 L xs o1 o2 o3 self v4 μ
    else
    if vsw = 10 then
      fL_law_766 L xs o1 o2 o3 self v4 μ
    else
    if vsw = 11 then
      fL_law_834 L xs o1 o2 o3 self v4 μ
    else
    if vsw = 12 then
      fL_law_890 L xs o1 o2 o3 self v4 μ
    else
    if vsw = 13 then
      fL_law_915 L xs o1 o2 o3 self v4 μ
    else
    if vsw = 14 then
      fL_law_956 L xs o1 o2 o3 self v4 μ
    else
    if vsw = 15 then
      fL_law_999 L xs o1 o2 o3 self v4 μ
    else
    if vsw = 16 then
      fL_law_1055 L xs o1 o2 o3 self v4 μ
    else
    if vsw = 17 then
      fL_law_1111 L xs o1 o2 o3 self v4 μ
    else
    if vsw = 18 then
      fL_law_1167 L xs o1 o2 o3 self v4 μ
    else
    if vsw = 19 then
      fL_law_1235 L xs o1 o2 o3 self v4 μ
    else
    if vsw = 20 then
      fL_law_1303 L xs o1 o2 o3 self v4 μ
    else
    if vsw = 21 then
      fL_law_1371 L xs o1 o2 o3 self v4 μ
    else
    if vsw = 22 then
      fL_law_1427 L xs o1 o2 o3 self v4 μ
    else
    if vsw = 23 then
      fL_law_1440 L xs o1 o2 o3 self v4 μ
    else
    if vsw = 24 then
      fL_law_1453 L xs o1 o2 o3 self v4 μ
    else
    if vsw = 25 then
      fL_law_1509 L xs o1 o2 o3 self v4 μ
    else
    if vsw = 26 then
      fL_law_1522 L xs o1 o2 o3 self v4 μ
    else
    if vsw = 27 then
      fL_law_1535 L xs o1 o2 o3 self v4 μ
    else
    if vsw = 28 then
      fL_law_1591 L xs o1 o2 o3 self v4 μ
    else
    if vsw = 29 then
      fL_law_1659 L xs o1 o2 o3 self v4 μ
    else
    if vsw = 30 then
      fL_law_1715 L xs o1 o2 o3 self v4 μ
    else
    if vsw = 31 then
      fL_law_1771 L xs o1 o2 o3 self v4 μ
    else
    if vsw = 32 then
      fL_law_1827 L xs o1 o2 o3 self v4 μ
    else
    if vsw = 33 then
      fL_law_1895 L xs o1 o2 o3 self v4 μ
    else
    if vsw = 34 then
      fL_law_1963 L xs o1 o2 o3 self v4 μ
    else
    if vsw = 35 then
      fL_law_2026 L xs o1 o2 o3 self v4 μ
    else
    if vsw = 36 then
      fL_law_2094 L xs o1 o2 o3 self v4 μ
    else
    if vsw = 37 then
      fL_law_2162 L xs o1 o2 o3 self v4 μ
    else
    if vsw = 38 then
      fL_law_2218 L xs o1 o2 o3 self v4 μ
    else
    if vsw = 39 then
      fL_law_2310 L xs o1 o2 o3 self v4 μ
    else
    if vsw = 40 then
      fL_law_2323 L xs o1 o2 o3 self v4 μ
    else
    if vsw = 41 then
      fL_law_2379 L xs o1 o2 o3 self v4 μ
    else
    if vsw = 42 then
      fL_law_2392 L xs o1 o2 o3 self v4 μ
    else
    if vsw = 43 then
      fL_law_2405 L xs o1 o2 o3 self v4 μ
    else
    fL_law_2449 L xs o1 o2 o3 self v4 μ)
def fL_law (L : Nat) (xs : Nat → Int32) (o1 o2 o3 : Nat) : Int32 → Mem → Option (Int32 × Mem) := zl2 (gL_law L xs o1 o2 o3) 600
