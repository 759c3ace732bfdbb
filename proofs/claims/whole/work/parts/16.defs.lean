/-! the methods as functions over the memory -/
def fX0_wordOf (v0 : Int32) (μ : Mem) : Option (Nat) :=
  if v0 = 0 then
    some 11
  else
    if v0 = 1 then
      some 12
    else
      if v0 = 2 then
        some 13
      else
        if v0 = 3 then
          some 14
        else
          if v0 = 4 then
            some 15
          else
            if v0 = 5 then
              some 16
            else
              if v0 = 6 then
                some 17
              else
                some 18
abbrev rmX0_wordOf : Room := { frames := 0, cells := 0, slots := 0, locals := 0 }
def fX0_mostOf (v0 : Int32) (μ : Mem) : Option (Int32) :=
  if v0 = 1 then
    some 999
  else
    if v0 = 2 then
      some 999
    else
      if v0 = 3 then
        some 99
      else
        if v0 = 4 then
          some 3
        else
          some 99
abbrev rmX0_mostOf : Room := { frames := 0, cells := 0, slots := 0, locals := 0 }
def gX10_packed_4 (k0 : Nat) (μ : Mem) (self : Int64 → Int32 → Option (Int64)) : Int64 → Int32 → Option (Int64) := fun v1 v3 =>
  if 8 ≤ v3 then
    some v1
  else
    gd (decide (k0 < 35)) (if (sLen k0) ≤ v3 then
      nm ((v1 <<< ((8 : Int32).toInt64 &&& 63)) ||| ((0 : Int32).toInt64)) fun v_2 =>
      nm (v3 + 1) fun v_3 =>
      self v_2 v_3
    else
      gd (decide (k0 < 35) && inB v3 (sLn k0)) (nm ((v1 <<< ((8 : Int32).toInt64 &&& 63)) ||| (((sCh k0 v3) &&& 255).toInt64)) fun v_5 =>
      nm (v3 + 1) fun v_6 =>
      self v_5 v_6))
def fX10_packed_4 (k0 : Nat) (μ : Mem) : Int64 → Int32 → Option (Int64) := zl2 (gX10_packed_4 k0 μ) FU
def fX10_packed (k0 : Nat) (μ : Mem) : Option (Int64) :=
  fX10_packed_4 k0 μ 0 0
abbrev rmX10_packed : Room := { frames := 6, cells := 0, slots := 0, locals := 150 }
def fX9_isWord (o0 : Nat) (k1 : Nat) (μ : Mem) : Option (Int32) :=
  if (ldI μ o0 7) = 1 then
    (fX10_packed k1 μ).bind fun r_1 =>
    if (lg_cmp (ldJ μ o0 8) r_1) = 0 then
      some 1
    else
      some 0
  else
    some 0
abbrev rmX9_isWord : Room := { frames := 7, cells := 0, slots := 0, locals := 173 }
def gX0_kindHere_2 (o0 : Nat) (μ : Mem) (self : Int32 → Option (Int32)) : Int32 → Option (Int32) := fun v1 =>
  if 7 ≤ v1 then
    some ((-1))
  else
    (fX0_wordOf v1 μ).bind fun r_1 =>
    (fX9_isWord o0 r_1 μ).bind fun r_4 =>
    if r_4 = 0 then
      nm (v1 + 1) fun v_8 =>
      self v_8
    else
      some v1
def fX0_kindHere_2 (o0 : Nat) (μ : Mem) : Int32 → Option (Int32) := zl1 (gX0_kindHere_2 o0 μ) FU
def fX0_kindHere (o0 : Nat) (μ : Mem) : Option (Int32) :=
  fX0_kindHere_2 o0 μ 0
abbrev rmX0_kindHere : Room := { frames := 8, cells := 0, slots := 0, locals := 194 }
def fX1_become (o0 : Nat) (v1 : Int32) (μ : Mem) : Option (Mem) :=
  nm (stI μ o0 0 v1) fun m_1 =>
  nm (stI m_1 o0 1 0) fun m_2 =>
  nm (stI m_2 o0 2 0) fun m_3 =>
  nm (stI m_3 o0 3 0) fun m_4 =>
  nm (stI m_4 o0 4 0) fun m_5 =>
  nm (stI m_5 o0 5 0) fun m_6 =>
  some m_6
abbrev rmX1_become : Room := { frames := 0, cells := 0, slots := 0, locals := 0 }
def fX1_wordOf (v0 : Int32) (μ : Mem) : Option (Nat) :=
  if v0 = 0 then
    some 19
  else
    if v0 = 1 then
      some 20
    else
      if v0 = 2 then
        some 21
      else
        if v0 = 3 then
          some 22
        else
          if v0 = 4 then
            some 23
          else
            if v0 = 5 then
              some 24
            else
              if v0 = 6 then
                some 25
              else
                if v0 = 7 then
                  some 26
                else
                  if v0 = 8 then
                    some 27
                  else
                    some 28
abbrev rmX1_wordOf : Room := { frames := 0, cells := 0, slots := 0, locals := 0 }
def fX2_at (o0 : Nat) (v1 : Int32) (μ : Mem) : Option (Nat) :=
  if v1 < 0 then
    (ldP μ o0 1).bind fun q_1 =>
    some q_1
  else
    (ldP μ o0 0).bind fun q_4 =>
    if (Int32.ofNat (Ln q_4)) ≤ v1 then
      (ldP μ o0 1).bind fun q_7 =>
      some q_7
    else
      (ldP μ o0 0).bind fun q_10 =>
      gd (inB v1 (Ln q_10)) ((ldP μ q_10 (v1).toNatClampNeg).bind fun q_14 =>
      some q_14)
abbrev rmX2_at : Room := { frames := 0, cells := 0, slots := 0, locals := 0 }
def gX2_lives_11 (v1 : Int32) (o2 : Nat) (v3 : Int32) (μ : Mem) (self : Int32 → Option (Int32)) : Int32 → Option (Int32) := fun v4 =>
  if v3 ≤ v4 then
    some 0
  else
    gd (inB v4 (Ln o2)) ((ldP μ o2 (v4).toNatClampNeg).bind fun q_2 =>
    if (ldI μ q_2 7) ≤ 0 then
      nm (v4 + 1) fun v_5 =>
      self v_5
    else
      if (ldI μ q_2 5) = v1 then
        some 1
      else
        nm (v4 + 1) fun v_6 =>
        self v_6)
def fX2_lives_11 (v1 : Int32) (o2 : Nat) (v3 : Int32) (μ : Mem) : Int32 → Option (Int32) := zl1 (gX2_lives_11 v1 o2 v3 μ) FU
def fX2_lives (o0 : Nat) (v1 : Int32) (μ : Mem) : Option (Int32) :=
  (ldP μ o0 0).bind fun q_1 =>
  nm (Int32.ofNat (Ln q_1)) fun v_4 =>
  fX2_lives_11 v1 q_1 v_4 μ 0
abbrev rmX2_lives : Room := { frames := 0, cells := 0, slots := 0, locals := 0 }
def fX2_over (o0 : Nat) (μ : Mem) : Option (Int32) :=
  (fX2_lives o0 0 μ).bind fun r_1 =>
  if r_1 = 0 then
    some 1
  else
    (fX2_lives o0 1 μ).bind fun r_5 =>
    if r_5 = 0 then
      some 1
    else
      some 0
abbrev rmX2_over : Room := { frames := 1, cells := 0, slots := 0, locals := 25 }
def fX2_faultOfPlay (o0 : Nat) (v1 : Int32) (μ : Mem) : Option (Int32) :=
  if v1 < 1 then
    some 1
  else
    if v1 ≤ 99 then
      (fX2_over o0 μ).bind fun r_1 =>
      if r_1 = 0 then
        if ((ldI μ o0 5) + v1) ≤ 9999 then
          some 0
        else
          some 2
      else
        some 2
    else
      some 1
abbrev rmX2_faultOfPlay : Room := { frames := 2, cells := 0, slots := 0, locals := 45 }
def fX3_faultOfShift (o0 : Nat) (v1 : Int32) (μ : Mem) : Option (Int32) :=
  if v1 < 1 then
    some 1
  else
    if v1 ≤ 999 then
      if (ldI μ o0 7) ≤ 0 then
        some 2
      else
        some 0
    else
      some 1
abbrev rmX3_faultOfShift : Room := { frames := 0, cells := 0, slots := 0, locals := 0 }
def fX3_faultOfExtra (o0 : Nat) (μ : Mem) : Option (Int32) :=
  if (ldI μ o0 7) ≤ 0 then
    some 2
  else
    some 0
abbrev rmX3_faultOfExtra : Room := { frames := 0, cells := 0, slots := 0, locals := 0 }
def fX3_faultOfSpeed (o0 : Nat) (v1 : Int32) (μ : Mem) : Option (Int32) :=
  if v1 < 1 then
    some 1
  else
    if 99 < v1 then
      some 1
    else
      some 0
abbrev rmX3_faultOfSpeed : Room := { frames := 0, cells := 0, slots := 0, locals := 0 }
def fX3_faultOfHeal (o0 : Nat) (v1 : Int32) (μ : Mem) : Option (Int32) :=
  if v1 < 1 then
    some 1
  else
    if 999 < v1 then
      some 1
    else
      some 0
abbrev rmX3_faultOfHeal : Room := { frames := 0, cells := 0, slots := 0, locals := 0 }
def fX2_faultOfWheel (o0 : Nat) (v1 : Int32) (μ : Mem) : Option (Int32) :=
  if v1 < 100 then
    some 1
  else
    if 999 < v1 then
      some 1
    else
      some 0
abbrev rmX2_faultOfWheel : Room := { frames := 0, cells := 0, slots := 0, locals := 0 }
def fX3_hasAct (o0 : Nat) (v1 : Int32) (μ : Mem) : Option (Int32) :=
  if v1 < 0 then
    some 0
  else
    if (ldI μ o0 3) ≤ v1 then
      some 0
    else
      if 6 ≤ v1 then
        some 0
      else
        some 1
abbrev rmX3_hasAct : Room := { frames := 0, cells := 0, slots := 0, locals := 0 }
def fX3_faultOfAct (o0 : Nat) (v1 : Int32) (v2 : Int32) (v3 : Int32) (μ : Mem) : Option (Int32) :=
  (fX3_hasAct o0 v1 μ).bind fun r_1 =>
  if r_1 = 0 then
    if (0 : Int32) = 0 then
      some 1
    else
      some 0
  else
    if v2 < 0 then
      if (0 : Int32) = 0 then
        some 1
      else
        some 0
    else
      if 7 ≤ v2 then
        if (0 : Int32) = 0 then
          some 1
        else
          some 0
      else
        if v3 < 1 then
          if (0 : Int32) = 0 then
            some 1
          else
            some 0
        else
          (fX0_mostOf v2 μ).bind fun r_9 =>
          if r_9 < v3 then
            if (0 : Int32) = 0 then
              some 1
            else
              some 0
          else
            if (1 : Int32) = 0 then
              some 1
            else
              some 0
abbrev rmX3_faultOfAct : Room := { frames := 1, cells := 0, slots := 0, locals := 21 }
def fX1_faultOn (o0 : Nat) (o1 : Nat) (μ : Mem) : Option (Int32) :=
  (fX2_at o1 (ldI μ o0 1) μ).bind fun r_1 =>
  if (ldI μ o0 0) = 0 then
    (fX2_faultOfPlay o1 (ldI μ o0 2) μ).bind fun r_27 =>
    some r_27
  else
    if (ldI μ o0 0) = 1 then
      (fX3_faultOfShift r_1 (ldI μ o0 2) μ).bind fun r_24 =>
      some r_24
    else
      if (ldI μ o0 0) = 2 then
        (fX3_faultOfShift r_1 (ldI μ o0 2) μ).bind fun r_21 =>
        some r_21
      else
        if (ldI μ o0 0) = 3 then
          if (ldI μ r_1 11) < 3 then
            (fX3_faultOfExtra r_1 μ).bind fun r_17 =>
            some r_17
          else
            some 2
        else
          if (ldI μ o0 0) = 4 then
            (fX3_faultOfSpeed r_1 (ldI μ o0 2) μ).bind fun r_14 =>
            some r_14
          else
            if (ldI μ o0 0) = 5 then
              (fX3_faultOfHeal r_1 (ldI μ o0 2) μ).bind fun r_11 =>
              some r_11
            else
              if (ldI μ o0 0) = 6 then
                (fX2_faultOfWheel o1 (ldI μ o0 2) μ).bind fun r_8 =>
                some r_8
              else
                if (ldI μ o0 0) = 7 then
                  (fX3_faultOfAct r_1 (ldI μ o0 2) (ldI μ o0 3) (ldI μ o0 4) μ).bind fun r_5 =>
                  some r_5
                else
                  some 2
abbrev rmX1_faultOn : Room := { frames := 3, cells := 0, slots := 0, locals := 66 }
def gX2_firstWithExtra_10 (o0 : Nat) (o1 : Nat) (v2 : Int32) (μ : Mem) (self : Int32 → Option (Nat)) : Int32 → Option (Nat) := fun v3 =>
  if v2 ≤ v3 then
    (ldP μ o0 1).bind fun q_1 =>
    some q_1
  else
    gd (inB v3 (Ln o1)) ((ldP μ o1 (v3).toNatClampNeg).bind fun q_5 =>
    if (ldI μ q_5 7) ≤ 0 then
      nm (v3 + 1) fun v_8 =>
      self v_8
    else
      if (ldI μ q_5 11) ≤ 0 then
        nm (v3 + 1) fun v_9 =>
        self v_9
      else
        some q_5)
def fX2_firstWithExtra_10 (o0 : Nat) (o1 : Nat) (v2 : Int32) (μ : Mem) : Int32 → Option (Nat) := zl1 (gX2_firstWithExtra_10 o0 o1 v2 μ) FU
def fX2_firstWithExtra (o0 : Nat) (μ : Mem) : Option (Nat) :=
  (ldP μ o0 0).bind fun q_1 =>
  nm (Int32.ofNat (Ln q_1)) fun v_4 =>
  fX2_firstWithExtra_10 o0 q_1 v_4 μ 0
abbrev rmX2_firstWithExtra : Room := { frames := 0, cells := 0, slots := 0, locals := 0 }
def fX3_ticksLeft (o0 : Nat) (v1 : Int32) (μ : Mem) : Option (Int32) :=
  if v1 ≤ (ldI μ o0 9) then
    some 0
  else
    if 1 ≤ (ldI μ o0 6) then
      gd (nz (ldI μ o0 6)) (some ((((v1 - (ldI μ o0 9)) + (ldI μ o0 6)) - 1) / (ldI μ o0 6)))
    else
      some 0
abbrev rmX3_ticksLeft : Room := { frames := 0, cells := 0, slots := 0, locals := 0 }
def gX2_ticksToFirst_15 (o0 : Nat) (o2 : Nat) (v3 : Int32) (μ : Mem) (self : Int32 → Int32 → Option (Int32)) : Int32 → Int32 → Option (Int32) := fun v1 v4 =>
  if v3 ≤ v4 then
    some v1
  else
    gd (inB v4 (Ln o2)) ((ldP μ o2 (v4).toNatClampNeg).bind fun q_2 =>
    if (ldI μ q_2 7) ≤ 0 then
      nm (v4 + 1) fun v_5 =>
      self v1 v_5
    else
      (fX3_ticksLeft q_2 (ldI μ o0 3) μ).bind fun r_6 =>
      nm (jmin v1 r_6) fun v_9 =>
      nm (v4 + 1) fun v_10 =>
      self v_9 v_10)
def fX2_ticksToFirst_15 (o0 : Nat) (o2 : Nat) (v3 : Int32) (μ : Mem) : Int32 → Int32 → Option (Int32) := zl2 (gX2_ticksToFirst_15 o0 o2 v3 μ) FU
def fX2_ticksToFirst (o0 : Nat) (μ : Mem) : Option (Int32) :=
  (ldP μ o0 0).bind fun q_1 =>
  nm (Int32.ofNat (Ln q_1)) fun v_4 =>
  fX2_ticksToFirst_15 o0 q_1 v_4 μ 999 0
abbrev rmX2_ticksToFirst : Room := { frames := 1, cells := 0, slots := 0, locals := 21 }
def gX2_pass_21 (v1 : Int32) (o2 : Nat) (v3 : Int32) (self : Int32 → Mem → Option (Mem)) : Int32 → Mem → Option (Mem) := fun v4 μ =>
  if v3 ≤ v4 then
    some μ
  else
    gd (inB v4 (Ln o2)) ((ldP μ o2 (v4).toNatClampNeg).bind fun q_2 =>
    if (ldI μ q_2 7) ≤ 0 then
      nm (v4 + 1) fun v_5 =>
      self v_5 μ
    else
      nm (stI μ q_2 9 ((ldI μ q_2 9) + (v1 * (ldI μ q_2 6)))) fun m_6 =>
      nm (v4 + 1) fun v_7 =>
      self v_7 m_6)
def fX2_pass_21 (v1 : Int32) (o2 : Nat) (v3 : Int32) : Int32 → Mem → Option (Mem) := zl2 (gX2_pass_21 v1 o2 v3) FU
def fX2_pass (o0 : Nat) (v1 : Int32) (μ : Mem) : Option (Mem) :=
  nm (stI μ o0 4 ((ldI μ o0 4) + v1)) fun m_1 =>
  (ldP m_1 o0 0).bind fun q_2 =>
  nm (Int32.ofNat (Ln q_2)) fun v_5 =>
  fX2_pass_21 v1 q_2 v_5 0 m_1
abbrev rmX2_pass : Room := { frames := 0, cells := 0, slots := 0, locals := 0 }
def gX2_firstReady_16 (o0 : Nat) (o2 : Nat) (v3 : Int32) (μ : Mem) (self : Nat → Int32 → Option (Nat)) : Nat → Int32 → Option (Nat) := fun o1 v4 =>
  if v3 ≤ v4 then
    some o1
  else
    gd (inB v4 (Ln o2)) ((ldP μ o2 (v4).toNatClampNeg).bind fun q_2 =>
    if (ldI μ q_2 7) ≤ 0 then
      nm (v4 + 1) fun v_5 =>
      self o1 v_5
    else
      if (ldI μ q_2 9) < (ldI μ o0 3) then
        nm (v4 + 1) fun v_6 =>
        self o1 v_6
      else
        (ldP μ o0 1).bind fun q_7 =>
        if o1 = q_7 then
          nm (v4 + 1) fun v_10 =>
          self q_2 v_10
        else
          if (ldI μ o1 9) < (ldI μ q_2 9) then
            nm (v4 + 1) fun v_11 =>
            self q_2 v_11
          else
            if (ldI μ q_2 9) = (ldI μ o1 9) then
              if (ldI μ q_2 8) ≤ (ldI μ o1 8) then
                nm (v4 + 1) fun v_13 =>
                self o1 v_13
              else
                nm (v4 + 1) fun v_14 =>
                self q_2 v_14
            else
              nm (v4 + 1) fun v_12 =>
              self o1 v_12)
def fX2_firstReady_16 (o0 : Nat) (o2 : Nat) (v3 : Int32) (μ : Mem) : Nat → Int32 → Option (Nat) := zl2 (gX2_firstReady_16 o0 o2 v3 μ) FU
def fX2_firstReady (o0 : Nat) (μ : Mem) : Option (Nat) :=
  (ldP μ o0 1).bind fun q_1 =>
  (ldP μ o0 0).bind fun q_4 =>
  nm (Int32.ofNat (Ln q_4)) fun v_7 =>
  fX2_firstReady_16 o0 q_4 v_7 μ q_1 0
abbrev rmX2_firstReady : Room := { frames := 0, cells := 0, slots := 0, locals := 0 }
def fX2_bringNext (o0 : Nat) (μ : Mem) : Option (Nat × Mem) :=
  (fX2_over o0 μ).bind fun r_1 =>
  if r_1 = 0 then
    (fX2_firstWithExtra o0 μ).bind fun r_5 =>
    (ldP μ o0 1).bind fun q_9 =>
    if r_5 = q_9 then
      (fX2_ticksToFirst o0 μ).bind fun r_12 =>
      (fX2_pass o0 r_12 μ).bind fun r_15 =>
      (fX2_firstReady o0 r_15).bind fun r_18 =>
      some (r_18, r_15)
    else
      some (r_5, μ)
  else
    (ldP μ o0 1).bind fun q_23 =>
    some (q_23, μ)
abbrev rmX2_bringNext : Room := { frames := 2, cells := 0, slots := 0, locals := 46 }
def fX3_amountAt (o0 : Nat) (v1 : Int32) (μ : Mem) : Option (Int32) :=
  (fX3_hasAct o0 v1 μ).bind fun r_1 =>
  if r_1 = 0 then
    some ((-1))
  else
    (ldP μ o0 2).bind fun q_5 =>
    gd (inB v1 (Ln q_5)) (some (ldI μ q_5 (v1).toNatClampNeg))
abbrev rmX3_amountAt : Room := { frames := 1, cells := 0, slots := 0, locals := 21 }
def fX3_kindAt (o0 : Nat) (v1 : Int32) (μ : Mem) : Option (Int32) :=
  (fX3_hasAct o0 v1 μ).bind fun r_1 =>
  if r_1 = 0 then
    some ((-1))
  else
    (ldP μ o0 1).bind fun q_5 =>
    gd (inB v1 (Ln q_5)) (some (ldI μ q_5 (v1).toNatClampNeg))
abbrev rmX3_kindAt : Room := { frames := 1, cells := 0, slots := 0, locals := 21 }
def gX2_weakest_17 (o0 : Nat) (v1 : Int32) (o3 : Nat) (v4 : Int32) (μ : Mem) (self : Nat → Int32 → Option (Nat)) : Nat → Int32 → Option (Nat) := fun o2 v5 =>
  if v4 ≤ v5 then
    some o2
  else
    gd (inB v5 (Ln o3)) ((ldP μ o3 (v5).toNatClampNeg).bind fun q_2 =>
    if (ldI μ q_2 7) ≤ 0 then
      nm (v5 + 1) fun v_5 =>
      self o2 v_5
    else
      if (ldI μ q_2 5) = v1 then
        (ldP μ o0 1).bind fun q_7 =>
        if o2 = q_7 then
          nm (v5 + 1) fun v_10 =>
          self q_2 v_10
        else
          if (ldI μ o2 7) ≤ (ldI μ q_2 7) then
            nm (v5 + 1) fun v_11 =>
            self o2 v_11
          else
            nm (v5 + 1) fun v_12 =>
            self q_2 v_12
      else
        nm (v5 + 1) fun v_6 =>
        self o2 v_6)
def fX2_weakest_17 (o0 : Nat) (v1 : Int32) (o3 : Nat) (v4 : Int32) (μ : Mem) : Nat → Int32 → Option (Nat) := zl2 (gX2_weakest_17 o0 v1 o3 v4 μ) FU
def fX2_weakest (o0 : Nat) (v1 : Int32) (μ : Mem) : Option (Nat) :=
  (ldP μ o0 1).bind fun q_1 =>
  (ldP μ o0 0).bind fun q_4 =>
  nm (Int32.ofNat (Ln q_4)) fun v_7 =>
  fX2_weakest_17 o0 v1 q_4 v_7 μ q_1 0
abbrev rmX2_weakest : Room := { frames := 0, cells := 0, slots := 0, locals := 0 }
def fX3_loseLife (o0 : Nat) (v1 : Int32) (μ : Mem) : Option (Int32 × Mem) :=
  nm (jmin (jmax (v1 - (ldI μ o0 10)) 0) (ldI μ o0 7)) fun v_1 =>
  nm (stI μ o0 7 ((ldI μ o0 7) - v_1)) fun m_2 =>
  if (ldI m_2 o0 7) = 0 then
    nm (stI m_2 o0 9 0) fun m_3 =>
    nm (stI m_3 o0 10 0) fun m_4 =>
    nm (stI m_4 o0 11 0) fun m_5 =>
    some (v_1, m_5)
  else
    some (v_1, m_2)
abbrev rmX3_loseLife : Room := { frames := 1, cells := 0, slots := 0, locals := 15 }
def gX2_fullest_17 (o0 : Nat) (v1 : Int32) (o3 : Nat) (v4 : Int32) (μ : Mem) (self : Nat → Int32 → Option (Nat)) : Nat → Int32 → Option (Nat) := fun o2 v5 =>
  if v4 ≤ v5 then
    some o2
  else
    gd (inB v5 (Ln o3)) ((ldP μ o3 (v5).toNatClampNeg).bind fun q_2 =>
    if (ldI μ q_2 7) ≤ 0 then
      nm (v5 + 1) fun v_5 =>
      self o2 v_5
    else
      if (ldI μ q_2 5) = v1 then
        (ldP μ o0 1).bind fun q_7 =>
        if o2 = q_7 then
          nm (v5 + 1) fun v_10 =>
          self q_2 v_10
        else
          if (ldI μ q_2 9) ≤ (ldI μ o2 9) then
            nm (v5 + 1) fun v_11 =>
            self o2 v_11
          else
            nm (v5 + 1) fun v_12 =>
            self q_2 v_12
      else
        nm (v5 + 1) fun v_6 =>
        self o2 v_6)
def fX2_fullest_17 (o0 : Nat) (v1 : Int32) (o3 : Nat) (v4 : Int32) (μ : Mem) : Nat → Int32 → Option (Nat) := zl2 (gX2_fullest_17 o0 v1 o3 v4 μ) FU
def fX2_fullest (o0 : Nat) (v1 : Int32) (μ : Mem) : Option (Nat) :=
  (ldP μ o0 1).bind fun q_1 =>
  (ldP μ o0 0).bind fun q_4 =>
  nm (Int32.ofNat (Ln q_4)) fun v_7 =>
  fX2_fullest_17 o0 v1 q_4 v_7 μ q_1 0
abbrev rmX2_fullest : Room := { frames := 0, cells := 0, slots := 0, locals := 0 }
def fX3_loseGauge (o0 : Nat) (v1 : Int32) (μ : Mem) : Option (Mem) :=
  nm (stI μ o0 9 (jmax ((ldI μ o0 9) - v1) 0)) fun m_1 =>
  some m_1
abbrev rmX3_loseGauge : Room := { frames := 1, cells := 0, slots := 0, locals := 16 }
def gX2_emptiestFriend_17 (o0 : Nat) (o1 : Nat) (o3 : Nat) (v4 : Int32) (μ : Mem) (self : Nat → Int32 → Option (Nat)) : Nat → Int32 → Option (Nat) := fun o2 v5 =>
  if v4 ≤ v5 then
    some o2
  else
    gd (inB v5 (Ln o3)) ((ldP μ o3 (v5).toNatClampNeg).bind fun q_2 =>
    if q_2 = o1 then
      nm (v5 + 1) fun v_5 =>
      self o2 v_5
    else
      if (ldI μ q_2 7) ≤ 0 then
        nm (v5 + 1) fun v_6 =>
        self o2 v_6
      else
        if (ldI μ q_2 5) = (ldI μ o1 5) then
          (ldP μ o0 1).bind fun q_8 =>
          if o2 = q_8 then
            nm (v5 + 1) fun v_11 =>
            self q_2 v_11
          else
            if (ldI μ o2 9) ≤ (ldI μ q_2 9) then
              nm (v5 + 1) fun v_12 =>
              self o2 v_12
            else
              nm (v5 + 1) fun v_13 =>
              self q_2 v_13
        else
          nm (v5 + 1) fun v_7 =>
          self o2 v_7)
def fX2_emptiestFriend_17 (o0 : Nat) (o1 : Nat) (o3 : Nat) (v4 : Int32) (μ : Mem) : Nat → Int32 → Option (Nat) := zl2 (gX2_emptiestFriend_17 o0 o1 o3 v4 μ) FU
def fX2_emptiestFriend (o0 : Nat) (o1 : Nat) (μ : Mem) : Option (Nat) :=
  (ldP μ o0 1).bind fun q_1 =>
  (ldP μ o0 0).bind fun q_4 =>
  nm (Int32.ofNat (Ln q_4)) fun v_7 =>
  fX2_emptiestFriend_17 o0 o1 q_4 v_7 μ q_1 0
abbrev rmX2_emptiestFriend : Room := { frames := 0, cells := 0, slots := 0, locals := 0 }
def fX3_gainGauge (o0 : Nat) (v1 : Int32) (μ : Mem) : Option (Mem) :=
  if (ldI μ o0 7) ≤ 0 then
    some μ
  else
    nm (stI μ o0 9 (jmin ((ldI μ o0 9) + v1) 9999)) fun m_1 =>
    some m_1
abbrev rmX3_gainGauge : Room := { frames := 1, cells := 0, slots := 0, locals := 16 }
def fX3_gainExtras (o0 : Nat) (v1 : Int32) (μ : Mem) : Option (Mem) :=
  nm (stI μ o0 11 (jmin ((ldI μ o0 11) + v1) 3)) fun m_1 =>
  some m_1
abbrev rmX3_gainExtras : Room := { frames := 1, cells := 0, slots := 0, locals := 16 }
def fX3_gainLife (o0 : Nat) (v1 : Int32) (μ : Mem) : Option (Mem) :=
  nm (stI μ o0 7 (jmin ((ldI μ o0 7) + v1) 999)) fun m_1 =>
  some m_1
abbrev rmX3_gainLife : Room := { frames := 1, cells := 0, slots := 0, locals := 16 }
def fX2_act (o0 : Nat) (o1 : Nat) (v2 : Int32) (μ : Mem) : Option (Mem) :=
  (fX3_kindAt o1 (ldI μ o1 12) μ).bind fun r_1 =>
  if r_1 = 0 then
    (fX2_weakest o0 (1 - (ldI μ o1 5)) μ).bind fun r_26 =>
    (fX3_loseLife r_26 v2 μ).bind fun r_30 =>
    nm (stI r_30.2 o1 15 ((ldI μ o1 15) + r_30.1)) fun m_33 =>
    some m_33
  else
    if r_1 = 1 then
      (fX2_fullest o0 (1 - (ldI μ o1 5)) μ).bind fun r_19 =>
      (fX3_loseGauge r_19 v2 μ).bind fun r_23 =>
      some r_23
    else
      if r_1 = 2 then
        (fX2_emptiestFriend o0 o1 μ).bind fun r_12 =>
        (fX3_gainGauge r_12 v2 μ).bind fun r_16 =>
        some r_16
      else
        if r_1 = 3 then
          nm (stI μ o1 10 v2) fun m_11 =>
          some m_11
        else
          if r_1 = 4 then
            (fX3_gainExtras o1 v2 μ).bind fun r_8 =>
            some r_8
          else
            if r_1 = 5 then
              nm (stI μ o1 6 v2) fun m_7 =>
              some m_7
            else
              if r_1 = 6 then
                (fX3_gainLife o1 v2 μ).bind fun r_4 =>
                some r_4
              else
                some μ
abbrev rmX2_act : Room := { frames := 2, cells := 0, slots := 0, locals := 42 }
def fX2_takeTurn_63 (o0 : Nat) (o1 : Nat) (μ : Mem) : Option (Mem) :=
  nm (stI μ o1 10 0) fun m_1 =>
  (fX3_amountAt o1 (ldI m_1 o1 12) m_1).bind fun r_2 =>
  (fX2_act o0 o1 r_2 m_1).bind fun r_5 =>
  if (ldI r_5 o1 3) ≤ ((ldI r_5 o1 12) + 1) then
    nm (stI r_5 o1 12 0) fun m_8 =>
    some m_8
  else
    nm (stI r_5 o1 12 ((ldI r_5 o1 12) + 1)) fun m_9 =>
    some m_9
def fX2_takeTurn (o0 : Nat) (o1 : Nat) (μ : Mem) : Option (Mem) :=
  nm (stI μ o0 5 ((ldI μ o0 5) + 1)) fun m_1 =>
  nm (stI m_1 o1 13 ((ldI m_1 o1 13) + 1)) fun m_2 =>
  if (ldI m_2 o1 11) ≤ 0 then
    nm (stI m_2 o1 9 ((ldI m_2 o1 9) - (ldI m_2 o0 3))) fun m_3 =>
    fX2_takeTurn_63 o0 o1 m_3
  else
    nm (stI m_2 o1 11 ((ldI m_2 o1 11) - 1)) fun m_4 =>
    nm (stI m_4 o1 14 ((ldI m_4 o1 14) + 1)) fun m_5 =>
    fX2_takeTurn_63 o0 o1 m_5
abbrev rmX2_takeTurn : Room := { frames := 3, cells := 0, slots := 0, locals := 64 }
def gX2_playOn_2 (o0 : Nat) (v1 : Int32) (self : Int32 → Mem → Option (Int32 × Mem)) : Int32 → Mem → Option (Int32 × Mem) := fun v2 μ =>
  if v1 ≤ v2 then
    some (v1, μ)
  else
    (fX2_bringNext o0 μ).bind fun r_1 =>
    (ldP r_1.2 o0 1).bind fun q_5 =>
    if r_1.1 = q_5 then
      some (v2, r_1.2)
    else
      (fX2_takeTurn o0 r_1.1 r_1.2).bind fun r_8 =>
      nm (v2 + 1) fun v_11 =>
      self v_11 r_8
def fX2_playOn_2 (o0 : Nat) (v1 : Int32) : Int32 → Mem → Option (Int32 × Mem) := zl2 (gX2_playOn_2 o0 v1) FU
def fX2_playOn (o0 : Nat) (v1 : Int32) (μ : Mem) : Option (Int32 × Mem) :=
  fX2_playOn_2 o0 v1 0 μ
abbrev rmX2_playOn : Room := { frames := 4, cells := 0, slots := 0, locals := 85 }
def fX3_putAct (o0 : Nat) (v1 : Int32) (v2 : Int32) (v3 : Int32) (μ : Mem) : Option (Mem) :=
  (fX3_hasAct o0 v1 μ).bind fun r_1 =>
  if r_1 = 0 then
    some μ
  else
    (ldP μ o0 1).bind fun q_5 =>
    gd (inB v1 (Ln q_5)) (nm (stI μ q_5 (v1).toNatClampNeg v2) fun m_8 =>
    (ldP m_8 o0 2).bind fun q_10 =>
    gd (inB v1 (Ln q_10)) (nm (stI m_8 q_10 (v1).toNatClampNeg v3) fun m_13 =>
    some m_13))
abbrev rmX3_putAct : Room := { frames := 1, cells := 0, slots := 0, locals := 21 }
def fX1_applyTo (o0 : Nat) (o1 : Nat) (μ : Mem) : Option (Mem) :=
  (fX2_at o1 (ldI μ o0 1) μ).bind fun r_1 =>
  if (ldI μ o0 0) = 0 then
    (fX2_playOn o1 (ldI μ o0 2) μ).bind fun r_22 =>
    some r_22.2
  else
    if (ldI μ o0 0) = 1 then
      (fX3_loseGauge r_1 (ldI μ o0 2) μ).bind fun r_19 =>
      some r_19
    else
      if (ldI μ o0 0) = 2 then
        (fX3_gainGauge r_1 (ldI μ o0 2) μ).bind fun r_16 =>
        some r_16
      else
        if (ldI μ o0 0) = 3 then
          (fX3_gainExtras r_1 1 μ).bind fun r_13 =>
          some r_13
        else
          if (ldI μ o0 0) = 4 then
            nm (stI μ r_1 6 (ldI μ o0 2)) fun m_12 =>
            some m_12
          else
            if (ldI μ o0 0) = 5 then
              (fX3_gainLife r_1 (ldI μ o0 2) μ).bind fun r_9 =>
              some r_9
            else
              if (ldI μ o0 0) = 6 then
                nm (stI μ o1 3 (ldI μ o0 2)) fun m_8 =>
                some m_8
              else
                if (ldI μ o0 0) = 7 then
                  (fX3_putAct r_1 (ldI μ o0 2) (ldI μ o0 3) (ldI μ o0 4) μ).bind fun r_5 =>
                  some r_5
                else
                  some μ
abbrev rmX1_applyTo : Room := { frames := 5, cells := 0, slots := 0, locals := 108 }
def gX3_copyActs_2 (o0 : Nat) (o1 : Nat) (self : Int32 → Mem → Option (Mem)) : Int32 → Mem → Option (Mem) := fun v2 μ =>
  if (Int32.ofNat (Ln o0)) ≤ v2 then
    some μ
  else
    if (Int32.ofNat (Ln o1)) ≤ v2 then
      some μ
    else
      gd (inB v2 (Ln o0)) (gd (inB v2 (Ln o1)) (nm (stI μ o1 (v2).toNatClampNeg (ldI μ o0 (v2).toNatClampNeg)) fun m_2 =>
      nm (v2 + 1) fun v_4 =>
      self v_4 m_2))
def fX3_copyActs_2 (o0 : Nat) (o1 : Nat) : Int32 → Mem → Option (Mem) := zl2 (gX3_copyActs_2 o0 o1) FU
def fX3_copyActs (o0 : Nat) (o1 : Nat) (μ : Mem) : Option (Mem) :=
  fX3_copyActs_2 o0 o1 0 μ
abbrev rmX3_copyActs : Room := { frames := 0, cells := 0, slots := 0, locals := 0 }
def fX3_copyFrom (o0 : Nat) (o1 : Nat) (μ : Mem) : Option (Mem) :=
  nm (stI μ o0 3 (ldI μ o1 3)) fun m_1 =>
  (ldP m_1 o1 1).bind fun q_2 =>
  (ldP m_1 o0 1).bind fun q_5 =>
  (fX3_copyActs q_2 q_5 m_1).bind fun r_8 =>
  (ldP r_8 o1 2).bind fun q_11 =>
  (ldP r_8 o0 2).bind fun q_14 =>
  (fX3_copyActs q_11 q_14 r_8).bind fun r_17 =>
  nm (stJ r_17 o0 4 (ldJ r_17 o1 4)) fun m_20 =>
  nm (stI m_20 o0 5 (ldI m_20 o1 5)) fun m_21 =>
  nm (stI m_21 o0 6 (ldI m_21 o1 6)) fun m_22 =>
  nm (stI m_22 o0 7 (ldI m_22 o1 7)) fun m_23 =>
  nm (stI m_23 o0 8 (ldI m_23 o1 8)) fun m_24 =>
  nm (stI m_24 o0 9 (ldI m_24 o1 9)) fun m_25 =>
  nm (stI m_25 o0 10 (ldI m_25 o1 10)) fun m_26 =>
  nm (stI m_26 o0 11 (ldI m_26 o1 11)) fun m_27 =>
  nm (stI m_27 o0 12 (ldI m_27 o1 12)) fun m_28 =>
  nm (stI m_28 o0 13 (ldI m_28 o1 13)) fun m_29 =>
  nm (stI m_29 o0 14 (ldI m_29 o1 14)) fun m_30 =>
  nm (stI m_30 o0 15 (ldI m_30 o1 15)) fun m_31 =>
  some m_31
abbrev rmX3_copyFrom : Room := { frames := 1, cells := 0, slots := 0, locals := 22 }
def gX2_clear_10 (o0 : Nat) (o1 : Nat) (v2 : Int32) (self : Int32 → Mem → Option (Mem)) : Int32 → Mem → Option (Mem) := fun v3 μ =>
  if v2 ≤ v3 then
    nm (stI μ o0 2 0) fun m_1 =>
    nm (stI m_1 o0 3 300) fun m_2 =>
    nm (stI m_2 o0 4 0) fun m_3 =>
    nm (stI m_3 o0 5 0) fun m_4 =>
    some m_4
  else
    gd (inB v3 (Ln o1)) ((ldP μ o1 (v3).toNatClampNeg).bind fun q_6 =>
    (ldP μ o0 1).bind fun q_9 =>
    (fX3_copyFrom q_6 q_9 μ).bind fun r_12 =>
    nm (v3 + 1) fun v_15 =>
    self v_15 r_12)
def fX2_clear_10 (o0 : Nat) (o1 : Nat) (v2 : Int32) : Int32 → Mem → Option (Mem) := zl2 (gX2_clear_10 o0 o1 v2) FU
def fX2_clear (o0 : Nat) (μ : Mem) : Option (Mem) :=
  (ldP μ o0 0).bind fun q_1 =>
  nm (Int32.ofNat (Ln q_1)) fun v_4 =>
  fX2_clear_10 o0 q_1 v_4 0 μ
abbrev rmX2_clear : Room := { frames := 2, cells := 0, slots := 0, locals := 43 }
def gX2_copyFrom_11 (o0 : Nat) (o1 : Nat) (o2 : Nat) (v3 : Int32) (self : Int32 → Mem → Option (Mem)) : Int32 → Mem → Option (Mem) := fun v4 μ =>
  if v3 ≤ v4 then
    nm (stI μ o0 2 (ldI μ o1 2)) fun m_1 =>
    nm (stI m_1 o0 3 (ldI m_1 o1 3)) fun m_2 =>
    nm (stI m_2 o0 4 (ldI m_2 o1 4)) fun m_3 =>
    nm (stI m_3 o0 5 (ldI m_3 o1 5)) fun m_4 =>
    some m_4
  else
    gd (inB v4 (Ln o2)) ((ldP μ o2 (v4).toNatClampNeg).bind fun q_6 =>
    (fX2_at o1 (ldI μ q_6 0) μ).bind fun r_9 =>
    (fX3_copyFrom q_6 r_9 μ).bind fun r_13 =>
    nm (v4 + 1) fun v_16 =>
    self v_16 r_13)
def fX2_copyFrom_11 (o0 : Nat) (o1 : Nat) (o2 : Nat) (v3 : Int32) : Int32 → Mem → Option (Mem) := zl2 (gX2_copyFrom_11 o0 o1 o2 v3) FU
def fX2_copyFrom (o0 : Nat) (o1 : Nat) (μ : Mem) : Option (Mem) :=
  (ldP μ o0 0).bind fun q_1 =>
  nm (Int32.ofNat (Ln q_1)) fun v_4 =>
  fX2_copyFrom_11 o0 o1 q_1 v_4 0 μ
abbrev rmX2_copyFrom : Room := { frames := 2, cells := 0, slots := 0, locals := 43 }
def gX2_numberOf_12 (o0 : Nat) (v1 : Int64) (o3 : Nat) (v4 : Int32) (μ : Mem) (self : Int32 → Option (Int32)) : Int32 → Option (Int32) := fun v5 =>
  if v4 ≤ v5 then
    some ((-1))
  else
    gd (inB v5 (Ln o3)) ((ldP μ o3 (v5).toNatClampNeg).bind fun q_2 =>
    if (ldI μ o0 2) ≤ (ldI μ q_2 0) then
      nm (v5 + 1) fun v_5 =>
      self v_5
    else
      if (lg_cmp (ldJ μ q_2 4) v1) = 0 then
        some (ldI μ q_2 0)
      else
        nm (v5 + 1) fun v_6 =>
        self v_6)
def fX2_numberOf_12 (o0 : Nat) (v1 : Int64) (o3 : Nat) (v4 : Int32) (μ : Mem) : Int32 → Option (Int32) := zl1 (gX2_numberOf_12 o0 v1 o3 v4 μ) FU
def fX2_numberOf (o0 : Nat) (v1 : Int64) (μ : Mem) : Option (Int32) :=
  (ldP μ o0 0).bind fun q_1 =>
  nm (Int32.ofNat (Ln q_1)) fun v_4 =>
  fX2_numberOf_12 o0 v1 q_1 v_4 μ 0
abbrev rmX2_numberOf : Room := { frames := 0, cells := 0, slots := 0, locals := 0 }
def gX2_living_13 (o2 : Nat) (v3 : Int32) (μ : Mem) (self : Int32 → Int32 → Option (Int32)) : Int32 → Int32 → Option (Int32) := fun v1 v4 =>
  if v3 ≤ v4 then
    some v1
  else
    gd (inB v4 (Ln o2)) ((ldP μ o2 (v4).toNatClampNeg).bind fun q_2 =>
    if (ldI μ q_2 7) ≤ 0 then
      nm (v4 + 1) fun v_5 =>
      self v1 v_5
    else
      nm (v1 + 1) fun v_6 =>
      nm (v4 + 1) fun v_7 =>
      self v_6 v_7)
def fX2_living_13 (o2 : Nat) (v3 : Int32) (μ : Mem) : Int32 → Int32 → Option (Int32) := zl2 (gX2_living_13 o2 v3 μ) FU
def fX2_living (o0 : Nat) (μ : Mem) : Option (Int32) :=
  (ldP μ o0 0).bind fun q_1 =>
  nm (Int32.ofNat (Ln q_1)) fun v_4 =>
  fX2_living_13 q_1 v_4 μ 0 0
abbrev rmX2_living : Room := { frames := 0, cells := 0, slots := 0, locals := 0 }
def gX2_speedOfLiving_13 (o2 : Nat) (v3 : Int32) (μ : Mem) (self : Int32 → Int32 → Option (Int32)) : Int32 → Int32 → Option (Int32) := fun v1 v4 =>
  if v3 ≤ v4 then
    some v1
  else
    gd (inB v4 (Ln o2)) ((ldP μ o2 (v4).toNatClampNeg).bind fun q_2 =>
    if (ldI μ q_2 7) ≤ 0 then
      nm (v4 + 1) fun v_5 =>
      self v1 v_5
    else
      nm (v1 + (ldI μ q_2 6)) fun v_6 =>
      nm (v4 + 1) fun v_7 =>
      self v_6 v_7)
def fX2_speedOfLiving_13 (o2 : Nat) (v3 : Int32) (μ : Mem) : Int32 → Int32 → Option (Int32) := zl2 (gX2_speedOfLiving_13 o2 v3 μ) FU
def fX2_speedOfLiving (o0 : Nat) (μ : Mem) : Option (Int32) :=
  (ldP μ o0 0).bind fun q_1 =>
  nm (Int32.ofNat (Ln q_1)) fun v_4 =>
  fX2_speedOfLiving_13 q_1 v_4 μ 0 0
abbrev rmX2_speedOfLiving : Room := { frames := 0, cells := 0, slots := 0, locals := 0 }
def gX2_sideLife_14 (v1 : Int32) (o3 : Nat) (v4 : Int32) (μ : Mem) (self : Int32 → Int32 → Option (Int32)) : Int32 → Int32 → Option (Int32) := fun v2 v5 =>
  if v4 ≤ v5 then
    some v2
  else
    gd (inB v5 (Ln o3)) ((ldP μ o3 (v5).toNatClampNeg).bind fun q_2 =>
    if (ldI μ q_2 5) = v1 then
      nm (v2 + (ldI μ q_2 7)) fun v_6 =>
      nm (v5 + 1) fun v_7 =>
      self v_6 v_7
    else
      nm (v5 + 1) fun v_5 =>
      self v2 v_5)
def fX2_sideLife_14 (v1 : Int32) (o3 : Nat) (v4 : Int32) (μ : Mem) : Int32 → Int32 → Option (Int32) := zl2 (gX2_sideLife_14 v1 o3 v4 μ) FU
def fX2_sideLife (o0 : Nat) (v1 : Int32) (μ : Mem) : Option (Int32) :=
  (ldP μ o0 0).bind fun q_1 =>
  nm (Int32.ofNat (Ln q_1)) fun v_4 =>
  fX2_sideLife_14 v1 q_1 v_4 μ 0 0
abbrev rmX2_sideLife : Room := { frames := 0, cells := 0, slots := 0, locals := 0 }
def fX2_wonBy (o0 : Nat) (μ : Mem) : Option (Int32) :=
  (fX2_lives o0 0 μ).bind fun r_1 =>
  (fX2_lives o0 1 μ).bind fun r_5 =>
  if r_1 = r_5 then
    some ((-1))
  else
    (fX2_lives o0 0 μ).bind fun r_9 =>
    if r_9 = 0 then
      some 1
    else
      some 0
abbrev rmX2_wonBy : Room := { frames := 1, cells := 0, slots := 0, locals := 25 }
def fX2_isAhead (o0 : Nat) (o1 : Nat) (o2 : Nat) (μ : Mem) : Option (Int32) :=
  (fX3_ticksLeft o1 (ldI μ o0 3) μ).bind fun r_1 =>
  (fX3_ticksLeft o2 (ldI μ o0 3) μ).bind fun r_4 =>
  if r_1 = r_4 then
    if (ldI μ o1 8) = (ldI μ o2 8) then
      if (ldI μ o2 0) ≤ (ldI μ o1 0) then
        some 0
      else
        some 1
    else
      if (ldI μ o1 8) ≤ (ldI μ o2 8) then
        some 0
      else
        some 1
  else
    if r_4 ≤ r_1 then
      some 0
    else
      some 1
abbrev rmX2_isAhead : Room := { frames := 1, cells := 0, slots := 0, locals := 21 }
def gX2_aheadOf_14 (o0 : Nat) (o1 : Nat) (o3 : Nat) (v4 : Int32) (μ : Mem) (self : Int32 → Int32 → Option (Int32)) : Int32 → Int32 → Option (Int32) := fun v2 v5 =>
  if v4 ≤ v5 then
    some v2
  else
    gd (inB v5 (Ln o3)) ((ldP μ o3 (v5).toNatClampNeg).bind fun q_2 =>
    if (ldI μ q_2 7) ≤ 0 then
      nm (v5 + 1) fun v_5 =>
      self v2 v_5
    else
      (fX2_isAhead o0 q_2 o1 μ).bind fun r_6 =>
      if r_6 = 0 then
        nm (v5 + 1) fun v_10 =>
        self v2 v_10
      else
        nm (v2 + 1) fun v_11 =>
        nm (v5 + 1) fun v_12 =>
        self v_11 v_12)
def fX2_aheadOf_14 (o0 : Nat) (o1 : Nat) (o3 : Nat) (v4 : Int32) (μ : Mem) : Int32 → Int32 → Option (Int32) := zl2 (gX2_aheadOf_14 o0 o1 o3 v4 μ) FU
def fX2_aheadOf (o0 : Nat) (o1 : Nat) (μ : Mem) : Option (Int32) :=
  (ldP μ o0 0).bind fun q_1 =>
  nm (Int32.ofNat (Ln q_1)) fun v_4 =>
  fX2_aheadOf_14 o0 o1 q_1 v_4 μ 0 0
abbrev rmX2_aheadOf : Room := { frames := 2, cells := 0, slots := 0, locals := 45 }
def gX2_inRow_11 (o0 : Nat) (v1 : Int32) (o2 : Nat) (v3 : Int32) (μ : Mem) (self : Int32 → Option (Nat)) : Int32 → Option (Nat) := fun v4 =>
  if v3 ≤ v4 then
    (ldP μ o0 1).bind fun q_1 =>
    some q_1
  else
    gd (inB v4 (Ln o2)) ((ldP μ o2 (v4).toNatClampNeg).bind fun q_5 =>
    if (ldI μ q_5 7) ≤ 0 then
      nm (v4 + 1) fun v_8 =>
      self v_8
    else
      (fX2_aheadOf o0 q_5 μ).bind fun r_9 =>
      if r_9 = v1 then
        some q_5
      else
        nm (v4 + 1) fun v_12 =>
        self v_12)
def fX2_inRow_11 (o0 : Nat) (v1 : Int32) (o2 : Nat) (v3 : Int32) (μ : Mem) : Int32 → Option (Nat) := zl1 (gX2_inRow_11 o0 v1 o2 v3 μ) FU
def fX2_inRow (o0 : Nat) (v1 : Int32) (μ : Mem) : Option (Nat) :=
  (ldP μ o0 0).bind fun q_1 =>
  nm (Int32.ofNat (Ln q_1)) fun v_4 =>
  fX2_inRow_11 o0 v1 q_1 v_4 μ 0
abbrev rmX2_inRow : Room := { frames := 3, cells := 0, slots := 0, locals := 71 }
def fX3_addAct (o0 : Nat) (v1 : Int32) (v2 : Int32) (μ : Mem) : Option (Mem) :=
  if 6 ≤ (ldI μ o0 3) then
    some μ
  else
    nm (stI μ o0 3 ((ldI μ o0 3) + 1)) fun m_1 =>
    (fX3_putAct o0 ((ldI m_1 o0 3) - 1) v1 v2 m_1).bind fun r_2 =>
    some r_2
abbrev rmX3_addAct : Room := { frames := 2, cells := 0, slots := 0, locals := 44 }
def fX3_likeness (o0 : Nat) (μ : Mem) : Option (Int64) :=
  nm ((ldI μ o0 7).toInt64) fun v_1 =>
  nm ((v_1 <<< ((7 : Int32).toInt64 &&& 63)) ||| ((ldI μ o0 6).toInt64)) fun v_2 =>
  nm ((v_2 <<< ((14 : Int32).toInt64 &&& 63)) ||| ((ldI μ o0 9).toInt64)) fun v_3 =>
  nm ((v_3 <<< ((7 : Int32).toInt64 &&& 63)) ||| ((ldI μ o0 10).toInt64)) fun v_4 =>
  nm ((v_4 <<< ((2 : Int32).toInt64 &&& 63)) ||| ((ldI μ o0 11).toInt64)) fun v_5 =>
  some ((v_5 <<< ((3 : Int32).toInt64 &&& 63)) ||| ((ldI μ o0 12).toInt64))
abbrev rmX3_likeness : Room := { frames := 0, cells := 0, slots := 0, locals := 0 }
def fX4_afterTurns (o0 : Nat) (o1 : Nat) (v2 : Int32) (μ : Mem) : Option (Nat × Mem) :=
  (ldP μ o0 0).bind fun q_1 =>
  (fX2_copyFrom q_1 o1 μ).bind fun r_4 =>
  (ldP r_4 o0 0).bind fun q_7 =>
  (fX2_playOn q_7 v2 r_4).bind fun r_10 =>
  (ldP r_10.2 o0 0).bind fun q_13 =>
  some (q_13, r_10.2)
abbrev rmX4_afterTurns : Room := { frames := 5, cells := 0, slots := 0, locals := 108 }
def fX4_actorOf (o0 : Nat) (o1 : Nat) (v2 : Int32) (μ : Mem) : Option (Nat × Mem) :=
  (fX4_afterTurns o0 o1 v2 μ).bind fun r_1 =>
  (fX2_bringNext r_1.1 r_1.2).bind fun r_5 =>
  some (r_5.1, r_5.2)
abbrev rmX4_actorOf : Room := { frames := 6, cells := 0, slots := 0, locals := 130 }
def fX4_timeOf (o0 : Nat) (o1 : Nat) (v2 : Int32) (μ : Mem) : Option (Int32 × Mem) :=
  (fX4_afterTurns o0 o1 v2 μ).bind fun r_1 =>
  (fX2_bringNext r_1.1 r_1.2).bind fun r_5 =>
  (ldP r_5.2 o0 0).bind fun q_9 =>
  (ldP r_5.2 q_9 1).bind fun q_12 =>
  if r_5.1 = q_12 then
    some ((-1), r_5.2)
  else
    (ldP r_5.2 o0 0).bind fun q_15 =>
    some (ldI r_5.2 q_15 4, r_5.2)
abbrev rmX4_timeOf : Room := { frames := 6, cells := 0, slots := 0, locals := 130 }
def fX4_kindOf (o0 : Nat) (o1 : Nat) (v2 : Int32) (μ : Mem) : Option (Int32 × Mem) :=
  (fX4_afterTurns o0 o1 v2 μ).bind fun r_1 =>
  (fX2_bringNext r_1.1 r_1.2).bind fun r_5 =>
  (fX3_kindAt r_5.1 (ldI r_5.2 r_5.1 12) r_5.2).bind fun r_9 =>
  some (r_9, r_5.2)
abbrev rmX4_kindOf : Room := { frames := 6, cells := 0, slots := 0, locals := 130 }
def gX4_mostInARow_25 (o0 : Nat) (v2 : Int32) (self : Nat → Int32 → Int32 → Int32 → Mem → Option (Int32 × Mem)) : Nat → Int32 → Int32 → Int32 → Mem → Option (Int32 × Mem) := fun o3 v4 v5 v6 μ =>
  if v2 ≤ v6 then
    some (v5, μ)
  else
    (ldP μ o0 0).bind fun q_1 =>
    (fX2_bringNext q_1 μ).bind fun r_4 =>
    (ldP r_4.2 o0 0).bind fun q_8 =>
    (ldP r_4.2 q_8 1).bind fun q_11 =>
    if r_4.1 = q_11 then
      some (v5, r_4.2)
    else
      (ldP r_4.2 o0 0).bind fun q_14 =>
      (fX2_takeTurn q_14 r_4.1 r_4.2).bind fun r_17 =>
      if r_4.1 = o3 then
        nm (v4 + 1) fun v_22 =>
        nm (jmax v5 v_22) fun v_23 =>
        nm (v6 + 1) fun v_24 =>
        self r_4.1 v_22 v_23 v_24 r_17
      else
        nm (jmax v5 1) fun v_20 =>
        nm (v6 + 1) fun v_21 =>
        self r_4.1 1 v_20 v_21 r_17
def fX4_mostInARow_25 (o0 : Nat) (v2 : Int32) : Nat → Int32 → Int32 → Int32 → Mem → Option (Int32 × Mem) := zl5 (gX4_mostInARow_25 o0 v2) FU
def fX4_mostInARow (o0 : Nat) (o1 : Nat) (v2 : Int32) (μ : Mem) : Option (Int32 × Mem) :=
  (ldP μ o0 0).bind fun q_1 =>
  (fX2_copyFrom q_1 o1 μ).bind fun r_4 =>
  (ldP r_4 o0 0).bind fun q_7 =>
  (ldP r_4 q_7 1).bind fun q_10 =>
  fX4_mostInARow_25 o0 v2 q_10 0 0 0 r_4
abbrev rmX4_mostInARow : Room := { frames := 4, cells := 0, slots := 0, locals := 85 }
def fX4_turnsToEnd (o0 : Nat) (o1 : Nat) (μ : Mem) : Option (Int32 × Mem) :=
  (ldP μ o0 0).bind fun q_1 =>
  (fX2_copyFrom q_1 o1 μ).bind fun r_4 =>
  (ldP r_4 o0 0).bind fun q_7 =>
  (fX2_playOn q_7 200 r_4).bind fun r_10 =>
  (ldP r_10.2 o0 0).bind fun q_13 =>
  (fX2_over q_13 r_10.2).bind fun r_16 =>
  if r_16 = 0 then
    some ((-1), r_10.2)
  else
    some (r_10.1, r_10.2)
abbrev rmX4_turnsToEnd : Room := { frames := 5, cells := 0, slots := 0, locals := 108 }
def gX4_turnOfLoss_20 (o0 : Nat) (o3 : Nat) (self : Int32 → Mem → Option (Int32 × Mem)) : Int32 → Mem → Option (Int32 × Mem) := fun v4 μ =>
  if 200 < v4 then
    some ((-1), μ)
  else
    nm (ldI μ o3 7) fun v_1 =>
    (ldP μ o0 0).bind fun q_2 =>
    (fX2_playOn q_2 1 μ).bind fun r_5 =>
    if v_1 ≤ (ldI r_5.2 o3 7) then
      nm (v4 + 1) fun v_8 =>
      self v_8 r_5.2
    else
      some (v4, r_5.2)
def fX4_turnOfLoss_20 (o0 : Nat) (o3 : Nat) : Int32 → Mem → Option (Int32 × Mem) := zl2 (gX4_turnOfLoss_20 o0 o3) FU
def fX4_turnOfLoss (o0 : Nat) (o1 : Nat) (v2 : Int32) (μ : Mem) : Option (Int32 × Mem) :=
  (ldP μ o0 0).bind fun q_1 =>
  (fX2_copyFrom q_1 o1 μ).bind fun r_4 =>
  (ldP r_4 o0 0).bind fun q_7 =>
  (fX2_at q_7 v2 r_4).bind fun r_10 =>
  fX4_turnOfLoss_20 o0 r_10 1 r_4
abbrev rmX4_turnOfLoss : Room := { frames := 5, cells := 0, slots := 0, locals := 108 }
def gX4_note_14 (o0 : Nat) (v1 : Int32) (o2 : Nat) (v3 : Int32) (self : Int32 → Mem → Option (Mem)) : Int32 → Mem → Option (Mem) := fun v4 μ =>
  if v3 ≤ v4 then
    some μ
  else
    gd (inB v4 (Ln o2)) ((ldP μ o2 (v4).toNatClampNeg).bind fun q_2 =>
    nm ((v1 * 8) + (ldI μ q_2 0)) fun v_5 =>
    if v_5 < 0 then
      nm (v4 + 1) fun v_6 =>
      self v_6 μ
    else
      (ldP μ o0 1).bind fun q_7 =>
      if (Int32.ofNat (Ln q_7)) ≤ v_5 then
        nm (v4 + 1) fun v_10 =>
        self v_10 μ
      else
        (ldP μ o0 1).bind fun q_11 =>
        (fX3_likeness q_2 μ).bind fun r_14 =>
        gd (inB v_5 (Ln q_11)) (nm (stJ μ q_11 (v_5).toNatClampNeg r_14) fun m_17 =>
        nm (v4 + 1) fun v_19 =>
        self v_19 m_17))
def fX4_note_14 (o0 : Nat) (v1 : Int32) (o2 : Nat) (v3 : Int32) : Int32 → Mem → Option (Mem) := zl2 (gX4_note_14 o0 v1 o2 v3) FU
def fX4_note (o0 : Nat) (v1 : Int32) (μ : Mem) : Option (Mem) :=
  (ldP μ o0 0).bind fun q_1 =>
  (ldP μ q_1 0).bind fun q_4 =>
  nm (Int32.ofNat (Ln q_4)) fun v_7 =>
  fX4_note_14 o0 v1 q_4 v_7 0 μ
abbrev rmX4_note : Room := { frames := 1, cells := 0, slots := 0, locals := 22 }
def gX4_isSame_36 (o0 : Nat) (v1 : Int32) (v2 : Int32) (μ : Mem) (self : Int32 → Option (Int32)) : Int32 → Option (Int32) := fun v3 =>
  if 8 ≤ v3 then
    some 1
  else
    (ldP μ o0 1).bind fun q_1 =>
    gd (inB (v1 + v3) (Ln q_1)) ((ldP μ o0 1).bind fun q_5 =>
    gd (inB (v2 + v3) (Ln q_5)) (if (lg_cmp (ldJ μ q_1 (v1 + v3).toNatClampNeg) (ldJ μ q_5 (v2 + v3).toNatClampNeg)) = 0 then
      nm (v3 + 1) fun v_9 =>
      self v_9
    else
      some 0))
def fX4_isSame_36 (o0 : Nat) (v1 : Int32) (v2 : Int32) (μ : Mem) : Int32 → Option (Int32) := zl1 (gX4_isSame_36 o0 v1 v2 μ) FU
def fX4_isSame (o0 : Nat) (v1 : Int32) (v2 : Int32) (μ : Mem) : Option (Int32) :=
  if v1 < 0 then
    some 0
  else
    if v2 < 0 then
      some 0
    else
      (ldP μ o0 1).bind fun q_1 =>
      if ((Int32.ofNat (Ln q_1)) - 8) < v1 then
        some 0
      else
        (ldP μ o0 1).bind fun q_4 =>
        if v2 ≤ ((Int32.ofNat (Ln q_4)) - 8) then
          fX4_isSame_36 o0 v1 v2 μ 0
        else
          some 0
abbrev rmX4_isSame : Room := { frames := 0, cells := 0, slots := 0, locals := 0 }
def gX4_sameBefore_4 (o0 : Nat) (v1 : Int32) (μ : Mem) (self : Int32 → Option (Int32)) : Int32 → Option (Int32) := fun v2 =>
  if v2 < 0 then
    some ((-1))
  else
    (fX4_isSame o0 (v2 * 8) (v1 * 8) μ).bind fun r_1 =>
    if r_1 = 0 then
      nm (v2 + (-1)) fun v_5 =>
      self v_5
    else
      some v2
def fX4_sameBefore_4 (o0 : Nat) (v1 : Int32) (μ : Mem) : Int32 → Option (Int32) := zl1 (gX4_sameBefore_4 o0 v1 μ) FU
def fX4_sameBefore (o0 : Nat) (v1 : Int32) (μ : Mem) : Option (Int32) :=
  nm (v1 - 1) fun v_1 =>
  fX4_sameBefore_4 o0 v1 μ v_1
abbrev rmX4_sameBefore : Room := { frames := 1, cells := 0, slots := 0, locals := 23 }
def gX4_findRepeat_25 (o0 : Nat) (self : Int32 → Mem → Option (Mem)) : Int32 → Mem → Option (Mem) := fun v2 μ =>
  if 200 < v2 then
    some μ
  else
    (ldP μ o0 0).bind fun q_1 =>
    (fX2_playOn q_1 1 μ).bind fun r_4 =>
    if 1 ≤ r_4.1 then
      (fX4_note o0 v2 r_4.2).bind fun r_7 =>
      (fX4_sameBefore o0 v2 r_7).bind fun r_10 =>
      if r_10 = ((-1)) then
        nm (v2 + 1) fun v_13 =>
        self v_13 r_7
      else
        nm (stI r_7 o0 2 v2) fun m_14 =>
        nm (stI m_14 o0 3 (v2 - r_10)) fun m_15 =>
        some m_15
    else
      some r_4.2
def fX4_findRepeat_25 (o0 : Nat) : Int32 → Mem → Option (Mem) := zl2 (gX4_findRepeat_25 o0) FU
def fX4_findRepeat (o0 : Nat) (o1 : Nat) (μ : Mem) : Option (Mem) :=
  nm (stI μ o0 2 ((-1))) fun m_1 =>
  nm (stI m_1 o0 3 ((-1))) fun m_2 =>
  (ldP m_2 o0 0).bind fun q_3 =>
  (fX2_copyFrom q_3 o1 m_2).bind fun r_6 =>
  (fX4_note o0 0 r_6).bind fun r_9 =>
  fX4_findRepeat_25 o0 1 r_9
abbrev rmX4_findRepeat : Room := { frames := 5, cells := 0, slots := 0, locals := 108 }
def gX4_speedToWin_2 (o0 : Nat) (o1 : Nat) (o2 : Nat) (self : Int32 → Mem → Option (Int32 × Mem)) : Int32 → Mem → Option (Int32 × Mem) := fun v3 μ =>
  if 99 < v3 then
    some ((-1), μ)
  else
    (ldP μ o0 0).bind fun q_1 =>
    (fX2_copyFrom q_1 o1 μ).bind fun r_4 =>
    (ldP r_4 o0 0).bind fun q_7 =>
    (fX2_at q_7 (ldI r_4 o2 0) r_4).bind fun r_10 =>
    nm (stI r_4 r_10 6 v3) fun m_14 =>
    (ldP m_14 o0 0).bind fun q_15 =>
    (fX2_playOn q_15 200 m_14).bind fun r_18 =>
    (ldP r_18.2 o0 0).bind fun q_21 =>
    (fX2_wonBy q_21 r_18.2).bind fun r_24 =>
    if r_24 = (ldI r_18.2 o2 5) then
      some (v3, r_18.2)
    else
      nm (v3 + 1) fun v_27 =>
      self v_27 r_18.2
def fX4_speedToWin_2 (o0 : Nat) (o1 : Nat) (o2 : Nat) : Int32 → Mem → Option (Int32 × Mem) := zl2 (gX4_speedToWin_2 o0 o1 o2) FU
def fX4_speedToWin (o0 : Nat) (o1 : Nat) (o2 : Nat) (μ : Mem) : Option (Int32 × Mem) :=
  fX4_speedToWin_2 o0 o1 o2 1 μ
abbrev rmX4_speedToWin : Room := { frames := 5, cells := 0, slots := 0, locals := 108 }
def gX4_whomToPush_20 (o0 : Nat) (o1 : Nat) (v2 : Int32) (v3 : Int32) (o6 : Nat) (v7 : Int32) (self : Int32 → Int32 → Int32 → Mem → Option (Int32 × Mem)) : Int32 → Int32 → Int32 → Mem → Option (Int32 × Mem) := fun v4 v5 v8 μ =>
  if v7 ≤ v8 then
    some (v4, μ)
  else
    gd (inB v8 (Ln o6)) ((ldP μ o6 (v8).toNatClampNeg).bind fun q_2 =>
    if (ldI μ q_2 7) ≤ 0 then
      nm (v8 + 1) fun v_5 =>
      self v4 v5 v_5 μ
    else
      if (ldI μ q_2 5) = v2 then
        nm (v8 + 1) fun v_6 =>
        self v4 v5 v_6 μ
      else
        (ldP μ o0 0).bind fun q_7 =>
        (fX2_copyFrom q_7 o1 μ).bind fun r_10 =>
        (ldP r_10 o0 0).bind fun q_13 =>
        (fX2_at q_13 (ldI r_10 q_2 0) r_10).bind fun r_16 =>
        (fX3_loseGauge r_16 v3 r_10).bind fun r_20 =>
        (ldP r_20 o0 0).bind fun q_23 =>
        (fX2_playOn q_23 20 r_20).bind fun r_26 =>
        (ldP r_26.2 o0 0).bind fun q_29 =>
        (fX2_sideLife q_29 v2 r_26.2).bind fun r_32 =>
        if r_32 ≤ v5 then
          nm (v8 + 1) fun v_35 =>
          self v4 v5 v_35 r_26.2
        else
          nm (ldI r_26.2 q_2 0) fun v_36 =>
          nm (v8 + 1) fun v_37 =>
          self v_36 r_32 v_37 r_26.2)
def fX4_whomToPush_20 (o0 : Nat) (o1 : Nat) (v2 : Int32) (v3 : Int32) (o6 : Nat) (v7 : Int32) : Int32 → Int32 → Int32 → Mem → Option (Int32 × Mem) := zl4 (gX4_whomToPush_20 o0 o1 v2 v3 o6 v7) FU
def fX4_whomToPush (o0 : Nat) (o1 : Nat) (v2 : Int32) (v3 : Int32) (μ : Mem) : Option (Int32 × Mem) :=
  (ldP μ o1 0).bind fun q_1 =>
  nm (Int32.ofNat (Ln q_1)) fun v_4 =>
  fX4_whomToPush_20 o0 o1 v2 v3 q_1 v_4 ((-1)) ((-1)) 0 μ
abbrev rmX4_whomToPush : Room := { frames := 5, cells := 0, slots := 0, locals := 108 }
def gX4_withWhomToSwap_56 (o0 : Nat) (o1 : Nat) (o2 : Nat) (o5 : Nat) (v6 : Int32) (self : Int32 → Int32 → Int32 → Mem → Option (Int32 × Mem)) : Int32 → Int32 → Int32 → Mem → Option (Int32 × Mem) := fun v3 v4 v7 μ =>
  if v6 ≤ v7 then
    some (v4, μ)
  else
    gd (inB v7 (Ln o5)) ((ldP μ o5 (v7).toNatClampNeg).bind fun q_2 =>
    if q_2 = o2 then
      nm (v7 + 1) fun v_5 =>
      self v3 v4 v_5 μ
    else
      if (ldI μ q_2 7) ≤ 0 then
        nm (v7 + 1) fun v_6 =>
        self v3 v4 v_6 μ
      else
        if (ldI μ q_2 5) = (ldI μ o2 5) then
          (ldP μ o0 0).bind fun q_8 =>
          (fX2_copyFrom q_8 o1 μ).bind fun r_11 =>
          (ldP r_11 o0 0).bind fun q_14 =>
          (fX2_at q_14 (ldI r_11 o2 0) r_11).bind fun r_17 =>
          nm (stI r_11 r_17 9 (ldI r_11 q_2 9)) fun m_21 =>
          (ldP m_21 o0 0).bind fun q_22 =>
          (fX2_at q_22 (ldI m_21 q_2 0) m_21).bind fun r_25 =>
          nm (stI m_21 r_25 9 (ldI m_21 o2 9)) fun m_29 =>
          (ldP m_29 o0 0).bind fun q_30 =>
          (fX2_playOn q_30 20 m_29).bind fun r_33 =>
          (ldP r_33.2 o0 0).bind fun q_36 =>
          (fX2_sideLife q_36 (ldI r_33.2 o2 5) r_33.2).bind fun r_39 =>
          if r_39 ≤ v3 then
            nm (v7 + 1) fun v_42 =>
            self v3 v4 v_42 r_33.2
          else
            nm (ldI r_33.2 q_2 0) fun v_43 =>
            nm (v7 + 1) fun v_44 =>
            self r_39 v_43 v_44 r_33.2
        else
          nm (v7 + 1) fun v_7 =>
          self v3 v4 v_7 μ)
def fX4_withWhomToSwap_56 (o0 : Nat) (o1 : Nat) (o2 : Nat) (o5 : Nat) (v6 : Int32) : Int32 → Int32 → Int32 → Mem → Option (Int32 × Mem) := zl4 (gX4_withWhomToSwap_56 o0 o1 o2 o5 v6) FU
def fX4_withWhomToSwap (o0 : Nat) (o1 : Nat) (o2 : Nat) (μ : Mem) : Option (Int32 × Mem) :=
  if 0 < (ldI μ o2 7) then
    (ldP μ o0 0).bind fun q_1 =>
    (fX2_copyFrom q_1 o1 μ).bind fun r_4 =>
    (ldP r_4 o0 0).bind fun q_7 =>
    (fX2_playOn q_7 20 r_4).bind fun r_10 =>
    (ldP r_10.2 o0 0).bind fun q_13 =>
    (fX2_sideLife q_13 (ldI r_10.2 o2 5) r_10.2).bind fun r_16 =>
    (ldP r_10.2 o1 0).bind fun q_19 =>
    nm (Int32.ofNat (Ln q_19)) fun v_22 =>
    fX4_withWhomToSwap_56 o0 o1 o2 q_19 v_22 r_16 ((-1)) 0 r_10.2
  else
    some ((-1), μ)
abbrev rmX4_withWhomToSwap : Room := { frames := 5, cells := 0, slots := 0, locals := 108 }
def gX4_whereToStart_8 (o0 : Nat) (o1 : Nat) (o2 : Nat) (self : Int32 → Int32 → Int32 → Mem → Option (Int32 × Mem)) : Int32 → Int32 → Int32 → Mem → Option (Int32 × Mem) := fun v3 v4 v5 μ =>
  if (ldI μ o2 3) ≤ v5 then
    some (v3, μ)
  else
    (ldP μ o0 0).bind fun q_1 =>
    (fX2_copyFrom q_1 o1 μ).bind fun r_4 =>
    (ldP r_4 o0 0).bind fun q_7 =>
    (fX2_at q_7 (ldI r_4 o2 0) r_4).bind fun r_10 =>
    nm (stI r_4 r_10 12 v5) fun m_14 =>
    (ldP m_14 o0 0).bind fun q_15 =>
    (fX2_playOn q_15 20 m_14).bind fun r_18 =>
    (ldP r_18.2 o0 0).bind fun q_21 =>
    (fX2_sideLife q_21 (ldI r_18.2 o2 5) r_18.2).bind fun r_24 =>
    if r_24 ≤ v4 then
      nm (v5 + 1) fun v_27 =>
      self v3 v4 v_27 r_18.2
    else
      nm (v5 + 1) fun v_28 =>
      self v5 r_24 v_28 r_18.2
def fX4_whereToStart_8 (o0 : Nat) (o1 : Nat) (o2 : Nat) : Int32 → Int32 → Int32 → Mem → Option (Int32 × Mem) := zl4 (gX4_whereToStart_8 o0 o1 o2) FU
def fX4_whereToStart (o0 : Nat) (o1 : Nat) (o2 : Nat) (μ : Mem) : Option (Int32 × Mem) :=
  fX4_whereToStart_8 o0 o1 o2 ((-1)) ((-1)) 0 μ
abbrev rmX4_whereToStart : Room := { frames := 5, cells := 0, slots := 0, locals := 108 }
def fX5_forget (o0 : Nat) (μ : Mem) : Option (Mem) :=
  nm (stI μ o0 1 0) fun m_1 =>
  some m_1
abbrev rmX5_forget : Room := { frames := 0, cells := 0, slots := 0, locals := 0 }
def gX5_dropOldest_9 (o0 : Nat) (o1 : Nat) (self : Int32 → Mem → Option (Mem)) : Int32 → Mem → Option (Mem) := fun v2 μ =>
  (ldP μ o0 0).bind fun q_1 =>
  if (Int32.ofNat (Ln q_1)) ≤ v2 then
    (ldP μ o0 0).bind fun q_4 =>
    (ldP μ o0 0).bind fun q_7 =>
    gd (inB ((Int32.ofNat (Ln q_7)) - 1) (Ln q_4)) (nm (stP μ q_4 ((Int32.ofNat (Ln q_7)) - 1).toNatClampNeg (some o1)) fun m_10 =>
    (ldP m_10 o0 0).bind fun q_12 =>
    nm (stI m_10 o0 1 ((Int32.ofNat (Ln q_12)) - 1)) fun m_15 =>
    some m_15)
  else
    (ldP μ o0 0).bind fun q_16 =>
    (ldP μ o0 0).bind fun q_19 =>
    gd (inB v2 (Ln q_19)) ((ldP μ q_19 (v2).toNatClampNeg).bind fun q_23 =>
    gd (inB (v2 - 1) (Ln q_16)) (nm (stP μ q_16 (v2 - 1).toNatClampNeg (some q_23)) fun m_26 =>
    nm (v2 + 1) fun v_28 =>
    self v_28 m_26))
def fX5_dropOldest_9 (o0 : Nat) (o1 : Nat) : Int32 → Mem → Option (Mem) := zl2 (gX5_dropOldest_9 o0 o1) FU
def fX5_dropOldest (o0 : Nat) (μ : Mem) : Option (Mem) :=
  (ldP μ o0 0).bind fun q_1 =>
  gd (inB 0 (Ln q_1)) ((ldP μ q_1 (0 : Int32).toNatClampNeg).bind fun q_5 =>
  fX5_dropOldest_9 o0 q_5 1 μ)
abbrev rmX5_dropOldest : Room := { frames := 0, cells := 0, slots := 0, locals := 0 }
def fX5_keep_16 (o0 : Nat) (o1 : Nat) (μ : Mem) : Option (Mem) :=
  if (ldI μ o0 1) < 0 then
    some μ
  else
    (ldP μ o0 0).bind fun q_1 =>
    if (Int32.ofNat (Ln q_1)) ≤ (ldI μ o0 1) then
      some μ
    else
      (ldP μ o0 0).bind fun q_4 =>
      gd (inB (ldI μ o0 1) (Ln q_4)) ((ldP μ q_4 (ldI μ o0 1).toNatClampNeg).bind fun q_8 =>
      (fX2_copyFrom q_8 o1 μ).bind fun r_11 =>
      nm (stI r_11 o0 1 ((ldI r_11 o0 1) + 1)) fun m_14 =>
      some m_14)
def fX5_keep (o0 : Nat) (o1 : Nat) (μ : Mem) : Option (Mem) :=
  (ldP μ o0 0).bind fun q_1 =>
  if (ldI μ o0 1) < (Int32.ofNat (Ln q_1)) then
    fX5_keep_16 o0 o1 μ
  else
    (fX5_dropOldest o0 μ).bind fun r_4 =>
    fX5_keep_16 o0 o1 r_4
abbrev rmX5_keep : Room := { frames := 3, cells := 0, slots := 0, locals := 68 }
def fX5_goBack (o0 : Nat) (o1 : Nat) (μ : Mem) : Option (Int32 × Mem) :=
  if (ldI μ o0 1) < 1 then
    some (0, μ)
  else
    (ldP μ o0 0).bind fun q_1 =>
    if (ldI μ o0 1) ≤ (Int32.ofNat (Ln q_1)) then
      nm (stI μ o0 1 ((ldI μ o0 1) - 1)) fun m_4 =>
      (ldP m_4 o0 0).bind fun q_5 =>
      gd (inB (ldI m_4 o0 1) (Ln q_5)) ((ldP m_4 q_5 (ldI m_4 o0 1).toNatClampNeg).bind fun q_9 =>
      (fX2_copyFrom o1 q_9 m_4).bind fun r_12 =>
      some (1, r_12))
    else
      some (0, μ)
abbrev rmX5_goBack : Room := { frames := 3, cells := 0, slots := 0, locals := 68 }
def fX9_isSign (o0 : Nat) (v1 : Int32) (μ : Mem) : Option (Int32) :=
  if (ldI μ o0 7) = 3 then
    if (ldI μ o0 10) = v1 then
      some 1
    else
      some 0
  else
    some 0
abbrev rmX9_isSign : Room := { frames := 0, cells := 0, slots := 0, locals := 0 }
def fX9_byteAt (o0 : Nat) (v1 : Int32) (μ : Mem) : Option (Int32) :=
  if v1 < 0 then
    some 0
  else
    if (ldI μ o0 4) ≤ v1 then
      some 0
    else
      (ldP μ o0 0).bind fun q_1 =>
      if (Int32.ofNat (Ln q_1)) ≤ v1 then
        some 0
      else
        (ldP μ o0 0).bind fun q_4 =>
        gd (inB v1 (Ln q_4)) (some ((ldI μ q_4 (v1).toNatClampNeg) &&& 255))
abbrev rmX9_byteAt : Room := { frames := 0, cells := 0, slots := 0, locals := 0 }
def fX9_isLetter (v0 : Int32) (μ : Mem) : Option (Int32) :=
  if v0 < 97 then
    some 0
  else
    if 122 < v0 then
      some 0
    else
      some 1
abbrev rmX9_isLetter : Room := { frames := 0, cells := 0, slots := 0, locals := 0 }
def gX9_readWord_79 (o0 : Nat) (self : Int32 → Mem → Option (Mem)) : Int32 → Mem → Option (Mem) := fun v1 μ =>
  if ((ldI μ o0 5) + 8) ≤ v1 then
    some μ
  else
    if (ldI μ o0 6) ≤ v1 then
      nm (stJ μ o0 8 (((ldJ μ o0 8) <<< ((8 : Int32).toInt64 &&& 63)) ||| ((0 : Int32).toInt64))) fun m_1 =>
      nm (v1 + 1) fun v_2 =>
      self v_2 m_1
    else
      (fX9_byteAt o0 v1 μ).bind fun r_3 =>
      nm (stJ μ o0 8 (((ldJ μ o0 8) <<< ((8 : Int32).toInt64 &&& 63)) ||| r_3.toInt64)) fun m_6 =>
      nm (v1 + 1) fun v_7 =>
      self v_7 m_6
def fX9_readWord_79 (o0 : Nat) : Int32 → Mem → Option (Mem) := zl2 (gX9_readWord_79 o0) FU
def fX9_readWord_66 (o0 : Nat) (ot0 : Nat) (vt1 : Int32) (μ : Mem) : Option (Mem) :=
  nm (stI μ ot0 7 vt1) fun m_1 =>
  nm (stJ m_1 o0 8 0) fun m_2 =>
  nm (ldI m_2 o0 5) fun v_3 =>
  fX9_readWord_79 o0 v_3 m_2
def fX9_readWord_46 (o0 : Nat) (μ : Mem) : Option (Mem) :=
  if 8 < ((ldI μ o0 6) - (ldI μ o0 5)) then
    fX9_readWord_66 o0 o0 4 μ
  else
    fX9_readWord_66 o0 o0 1 μ
def gX9_readWord_8 (o0 : Nat) (self : Mem → Option (Mem)) : Mem → Option (Mem) := fun μ =>
  if (ldI μ o0 4) ≤ (ldI μ o0 6) then
    fX9_readWord_46 o0 μ
  else
    (fX9_byteAt o0 (ldI μ o0 6) μ).bind fun r_1 =>
    (fX9_isLetter r_1 μ).bind fun r_4 =>
    if r_4 = 0 then
      fX9_readWord_46 o0 μ
    else
      nm (stI μ o0 6 ((ldI μ o0 6) + 1)) fun m_8 =>
      self m_8
def fX9_readWord_8 (o0 : Nat) : Mem → Option (Mem) := zl1 (gX9_readWord_8 o0) FU
def fX9_readWord (o0 : Nat) (μ : Mem) : Option (Mem) :=
  nm (stI μ o0 6 (ldI μ o0 5)) fun m_1 =>
  fX9_readWord_8 o0 m_1
abbrev rmX9_readWord : Room := { frames := 1, cells := 0, slots := 0, locals := 21 }
def fX9_isDigit (v0 : Int32) (μ : Mem) : Option (Int32) :=
  if v0 < 48 then
    some 0
  else
    if 57 < v0 then
      some 0
    else
      some 1
abbrev rmX9_isDigit : Room := { frames := 0, cells := 0, slots := 0, locals := 0 }
def gX9_readNumber_78 (o0 : Nat) (self : Int32 → Mem → Option (Mem)) : Int32 → Mem → Option (Mem) := fun v1 μ =>
  if (ldI μ o0 6) ≤ v1 then
    some μ
  else
    if ((ldI μ o0 5) + 3) ≤ v1 then
      some μ
    else
      (fX9_byteAt o0 v1 μ).bind fun r_1 =>
      nm (stI μ o0 9 ((((ldI μ o0 9) * 10) + r_1) - 48)) fun m_4 =>
      nm (v1 + 1) fun v_5 =>
      self v_5 m_4
def fX9_readNumber_78 (o0 : Nat) : Int32 → Mem → Option (Mem) := zl2 (gX9_readNumber_78 o0) FU
def fX9_readNumber_65 (o0 : Nat) (ot0 : Nat) (vt1 : Int32) (μ : Mem) : Option (Mem) :=
  nm (stI μ ot0 7 vt1) fun m_1 =>
  nm (stI m_1 o0 9 0) fun m_2 =>
  nm (ldI m_2 o0 5) fun v_3 =>
  fX9_readNumber_78 o0 v_3 m_2
def fX9_readNumber_46 (o0 : Nat) (μ : Mem) : Option (Mem) :=
  if 3 < ((ldI μ o0 6) - (ldI μ o0 5)) then
    fX9_readNumber_65 o0 o0 4 μ
  else
    fX9_readNumber_65 o0 o0 2 μ
def gX9_readNumber_8 (o0 : Nat) (self : Mem → Option (Mem)) : Mem → Option (Mem) := fun μ =>
  if (ldI μ o0 4) ≤ (ldI μ o0 6) then
    fX9_readNumber_46 o0 μ
  else
    (fX9_byteAt o0 (ldI μ o0 6) μ).bind fun r_1 =>
    (fX9_isDigit r_1 μ).bind fun r_4 =>
    if r_4 = 0 then
      fX9_readNumber_46 o0 μ
    else
      nm (stI μ o0 6 ((ldI μ o0 6) + 1)) fun m_8 =>
      self m_8
def fX9_readNumber_8 (o0 : Nat) : Mem → Option (Mem) := zl1 (gX9_readNumber_8 o0) FU
def fX9_readNumber (o0 : Nat) (μ : Mem) : Option (Mem) :=
  nm (stI μ o0 6 (ldI μ o0 5)) fun m_1 =>
  fX9_readNumber_8 o0 m_1
abbrev rmX9_readNumber : Room := { frames := 1, cells := 0, slots := 0, locals := 21 }
def fX9_step_58 (o0 : Nat) (μ : Mem) : Option (Mem) :=
  (fX9_byteAt o0 (ldI μ o0 5) μ).bind fun r_1 =>
  nm (stI μ o0 6 ((ldI μ o0 5) + 1)) fun m_4 =>
  if (ldI m_4 o0 5) < (ldI m_4 o0 4) then
    (fX9_isLetter r_1 m_4).bind fun r_5 =>
    if r_5 = 0 then
      (fX9_isDigit r_1 m_4).bind fun r_9 =>
      if r_9 = 0 then
        if r_1 = 59 then
          nm (stI m_4 o0 7 3) fun m_13 =>
          nm (stI m_13 o0 10 r_1) fun m_14 =>
          some m_14
        else
          if r_1 = 40 then
            nm (stI m_4 o0 7 3) fun m_15 =>
            nm (stI m_15 o0 10 r_1) fun m_16 =>
            some m_16
          else
            if r_1 = 41 then
              nm (stI m_4 o0 7 3) fun m_19 =>
              nm (stI m_19 o0 10 r_1) fun m_20 =>
              some m_20
            else
              nm (stI m_4 o0 7 4) fun m_17 =>
              nm (stI m_17 o0 10 r_1) fun m_18 =>
              some m_18
      else
        (fX9_readNumber o0 m_4).bind fun r_24 =>
        some r_24
    else
      (fX9_readWord o0 m_4).bind fun r_28 =>
      some r_28
  else
    nm (stI m_4 o0 7 0) fun m_32 =>
    nm (stI m_32 o0 6 (ldI m_32 o0 4)) fun m_33 =>
    some m_33
def gX9_step_8 (o0 : Nat) (self : Mem → Option (Mem)) : Mem → Option (Mem) := fun μ =>
  if (ldI μ o0 4) ≤ (ldI μ o0 5) then
    fX9_step_58 o0 μ
  else
    (fX9_byteAt o0 (ldI μ o0 5) μ).bind fun r_1 =>
    if r_1 = 32 then
      nm (stI μ o0 5 ((ldI μ o0 5) + 1)) fun m_4 =>
      self m_4
    else
      (fX9_byteAt o0 (ldI μ o0 5) μ).bind fun r_5 =>
      if r_5 = 10 then
        nm (stI μ o0 5 ((ldI μ o0 5) + 1)) fun m_8 =>
        self m_8
      else
        fX9_step_58 o0 μ
def fX9_step_8 (o0 : Nat) : Mem → Option (Mem) := zl1 (gX9_step_8 o0) FU
def fX9_step (o0 : Nat) (μ : Mem) : Option (Mem) :=
  nm (stI μ o0 5 (ldI μ o0 6)) fun m_1 =>
  fX9_step_8 o0 m_1
abbrev rmX9_step : Room := { frames := 2, cells := 0, slots := 0, locals := 42 }
def fX9_fail (o0 : Nat) (v1 : Int32) (μ : Mem) : Option ((Unit ⊕ Nat) × Mem) :=
  nm (stI μ o0 2 v1) fun m_1 =>
  nm (stI m_1 o0 3 (ldI m_1 o0 5)) fun m_2 =>
  some (.inr 0, m_2)
abbrev rmX9_fail : Room := { frames := 6, cells := 1, slots := 6, locals := 85 }
def fX9_takeSign (o0 : Nat) (v1 : Int32) (μ : Mem) : Option ((Unit ⊕ Nat) × Mem) :=
  (fX9_isSign o0 v1 μ).bind fun r_1 =>
  if r_1 = 0 then
    (fX9_fail o0 1 μ).bind fun r_8 =>
    xb r_8 fun _ m_12 =>
    (fX9_step o0 m_12).bind fun r_15 =>
    some (.inl (), r_15)
  else
    (fX9_step o0 μ).bind fun r_5 =>
    some (.inl (), r_5)
abbrev rmX9_takeSign : Room := { frames := 7, cells := 1, slots := 6, locals := 106 }
def fX6_added (o0 : Nat) (v1 : Int32) (μ : Mem) : Option (Nat × Mem) :=
  (ldP μ o0 0).bind fun q_1 =>
  nm (jmax 0 (jmin (ldI μ o0 2) ((Int32.ofNat (Ln q_1)) - 1))) fun v_4 =>
  nm (stI μ o0 2 (v_4 + 1)) fun m_5 =>
  (ldP m_5 o0 0).bind fun q_6 =>
  gd (inB v_4 (Ln q_6)) ((ldP m_5 q_6 (v_4).toNatClampNeg).bind fun q_10 =>
  (fX1_become q_10 v1 m_5).bind fun r_13 =>
  (ldP r_13 o0 0).bind fun q_16 =>
  gd (inB v_4 (Ln q_16)) ((ldP r_13 q_16 (v_4).toNatClampNeg).bind fun q_20 =>
  some (q_20, r_13)))
abbrev rmX6_added : Room := { frames := 1, cells := 0, slots := 0, locals := 21 }
def fX6_closeRepeat (o0 : Nat) (μ : Mem) : Option (Mem) :=
  if (ldI μ o0 4) ≤ 0 then
    some μ
  else
    (ldP μ o0 1).bind fun q_1 =>
    if (Int32.ofNat (Ln q_1)) < (ldI μ o0 4) then
      some μ
    else
      nm (stI μ o0 4 ((ldI μ o0 4) - 1)) fun m_4 =>
      (fX6_added o0 9 m_4).bind fun r_5 =>
      (ldP r_5.2 o0 1).bind fun q_9 =>
      gd (inB (ldI r_5.2 o0 4) (Ln q_9)) (nm (stI r_5.2 r_5.1 5 (ldI r_5.2 q_9 (ldI r_5.2 o0 4).toNatClampNeg)) fun m_13 =>
      some m_13)
abbrev rmX6_closeRepeat : Room := { frames := 2, cells := 0, slots := 0, locals := 43 }
def gX6_whatHere_2 (o0 : Nat) (μ : Mem) (self : Int32 → Option (Int32)) : Int32 → Option (Int32) := fun v1 =>
  if 9 ≤ v1 then
    some ((-1))
  else
    (fX1_wordOf v1 μ).bind fun r_1 =>
    (fX9_isWord o0 r_1 μ).bind fun r_4 =>
    if r_4 = 0 then
      nm (v1 + 1) fun v_8 =>
      self v_8
    else
      some v1
def fX6_whatHere_2 (o0 : Nat) (μ : Mem) : Int32 → Option (Int32) := zl1 (gX6_whatHere_2 o0 μ) FU
def fX6_whatHere (o0 : Nat) (μ : Mem) : Option (Int32) :=
  fX6_whatHere_2 o0 μ 0
abbrev rmX6_whatHere : Room := { frames := 8, cells := 0, slots := 0, locals := 194 }
def fX9_takeNumber_29 (o0 : Nat) (μ : Mem) : Option ((Int32 ⊕ Nat) × Mem) :=
  (fX9_fail o0 2 μ).bind fun r_1 =>
  xb r_1 fun _ m_5 =>
  nm (ldI m_5 o0 9) fun v_8 =>
  (fX9_step o0 m_5).bind fun r_9 =>
  some (.inl v_8, r_9)
def fX9_takeNumber_13 (o0 : Nat) (v1 : Int32) (v2 : Int32) (μ : Mem) : Option ((Int32 ⊕ Nat) × Mem) :=
  if (ldI μ o0 9) < v1 then
    fX9_takeNumber_29 o0 μ
  else
    if (ldI μ o0 9) ≤ v2 then
      nm (ldI μ o0 9) fun v_1 =>
      (fX9_step o0 μ).bind fun r_2 =>
      some (.inl v_1, r_2)
    else
      fX9_takeNumber_29 o0 μ
def fX9_takeNumber (o0 : Nat) (v1 : Int32) (v2 : Int32) (μ : Mem) : Option ((Int32 ⊕ Nat) × Mem) :=
  if (ldI μ o0 7) = 2 then
    fX9_takeNumber_13 o0 v1 v2 μ
  else
    (fX9_fail o0 1 μ).bind fun r_1 =>
    xb r_1 fun _ m_5 =>
    fX9_takeNumber_13 o0 v1 v2 m_5
abbrev rmX9_takeNumber : Room := { frames := 7, cells := 1, slots := 6, locals := 106 }
def fX6_openRepeat (o0 : Nat) (μ : Mem) : Option (Mem) :=
  if (ldI μ o0 4) < 0 then
    some μ
  else
    (ldP μ o0 1).bind fun q_1 =>
    if (Int32.ofNat (Ln q_1)) ≤ (ldI μ o0 4) then
      some μ
    else
      (ldP μ o0 1).bind fun q_4 =>
      gd (inB (ldI μ o0 4) (Ln q_4)) (nm (stI μ q_4 (ldI μ o0 4).toNatClampNeg ((ldI μ o0 2) - 1)) fun m_7 =>
      nm (stI m_7 o0 4 ((ldI m_7 o0 4) + 1)) fun m_9 =>
      some m_9)
abbrev rmX6_openRepeat : Room := { frames := 0, cells := 0, slots := 0, locals := 0 }
def fX6_readName_13 (o0 : Nat) (o1 : Nat) (μ : Mem) : Option ((Int32 ⊕ Nat) × Mem) :=
  (fX2_numberOf o1 (ldJ μ o0 8) μ).bind fun r_1 =>
  if r_1 = ((-1)) then
    (fX9_fail o0 4 μ).bind fun r_7 =>
    xb r_7 fun _ m_11 =>
    (fX9_step o0 m_11).bind fun r_14 =>
    some (.inl r_1, r_14)
  else
    (fX9_step o0 μ).bind fun r_4 =>
    some (.inl r_1, r_4)
def fX6_readName (o0 : Nat) (o1 : Nat) (μ : Mem) : Option ((Int32 ⊕ Nat) × Mem) :=
  if (ldI μ o0 7) = 1 then
    fX6_readName_13 o0 o1 μ
  else
    (fX9_fail o0 1 μ).bind fun r_1 =>
    xb r_1 fun _ m_5 =>
    fX6_readName_13 o0 o1 m_5
abbrev rmX6_readName : Room := { frames := 7, cells := 1, slots := 6, locals := 106 }
def fX6_readArguments_45 (o0 : Nat) (o1 : Nat) (μ : Mem) : Option ((Unit ⊕ Nat) × Mem) :=
  if (ldI μ o0 0) = 7 then
    (fX0_kindHere o1 μ).bind fun r_1 =>
    nm (stI μ o0 3 r_1) fun m_4 =>
    if (ldI m_4 o0 3) = ((-1)) then
      (fX9_fail o1 1 m_4).bind fun r_16 =>
      xb r_16 fun _ m_20 =>
      (fX9_step o1 m_20).bind fun r_23 =>
      (fX9_takeNumber o1 0 999 r_23).bind fun r_26 =>
      xb r_26 fun v_32 m_30 =>
      nm (stI m_30 o0 4 v_32) fun m_33 =>
      some (.inl (), m_33)
    else
      (fX9_step o1 m_4).bind fun r_5 =>
      (fX9_takeNumber o1 0 999 r_5).bind fun r_8 =>
      xb r_8 fun v_14 m_12 =>
      nm (stI m_12 o0 4 v_14) fun m_15 =>
      some (.inl (), m_15)
  else
    some (.inl (), μ)
def fX6_readArguments_25 (o0 : Nat) (o1 : Nat) (μ : Mem) : Option ((Unit ⊕ Nat) × Mem) :=
  if (ldI μ o0 0) = 3 then
    fX6_readArguments_45 o0 o1 μ
  else
    (fX9_takeNumber o1 0 999 μ).bind fun r_1 =>
    xb r_1 fun v_7 m_5 =>
    nm (stI m_5 o0 2 v_7) fun m_8 =>
    fX6_readArguments_45 o0 o1 m_8
def fX6_readArguments (o0 : Nat) (o1 : Nat) (o2 : Nat) (μ : Mem) : Option ((Unit ⊕ Nat) × Mem) :=
  if (ldI μ o0 0) = 0 then
    fX6_readArguments_25 o0 o1 μ
  else
    if (ldI μ o0 0) = 6 then
      fX6_readArguments_25 o0 o1 μ
    else
      (fX6_readName o1 o2 μ).bind fun r_1 =>
      xb r_1 fun v_7 m_5 =>
      nm (stI m_5 o0 1 v_7) fun m_8 =>
      fX6_readArguments_25 o0 o1 m_8
abbrev rmX6_readArguments : Room := { frames := 9, cells := 1, slots := 6, locals := 215 }
def fX6_readCommand_48 (o0 : Nat) (o1 : Nat) (o2 : Nat) (v3 : Int32) (μ : Mem) : Option ((Unit ⊕ Nat) × Mem) :=
  nm (stI μ o0 3 ((ldI μ o0 3) + 1)) fun m_1 =>
  (fX9_step o1 m_1).bind fun r_2 =>
  (fX6_added o0 v3 r_2).bind fun r_5 =>
  if v3 = 8 then
    (fX9_takeNumber o1 1 20 r_5.2).bind fun r_23 =>
    xb r_23 fun v_29 m_27 =>
    nm (stI m_27 r_5.1 2 v_29) fun m_30 =>
    (fX9_takeSign o1 40 m_30).bind fun r_31 =>
    xb r_31 fun _ m_35 =>
    (fX6_openRepeat o0 m_35).bind fun r_38 =>
    some (.inl (), r_38)
  else
    (fX6_readArguments r_5.1 o1 o2 r_5.2).bind fun r_9 =>
    xb r_9 fun _ m_13 =>
    (fX9_takeSign o1 59 m_13).bind fun r_16 =>
    xb r_16 fun _ m_20 =>
    some (.inl (), m_20)
def fX6_readCommand_34 (o0 : Nat) (o1 : Nat) (o2 : Nat) (v3 : Int32) (μ : Mem) : Option ((Unit ⊕ Nat) × Mem) :=
  if (ldI μ o0 3) < 30 then
    fX6_readCommand_48 o0 o1 o2 v3 μ
  else
    (fX9_fail o1 5 μ).bind fun r_1 =>
    xb r_1 fun _ m_5 =>
    fX6_readCommand_48 o0 o1 o2 v3 m_5
def fX6_readCommand_15 (o0 : Nat) (o1 : Nat) (o2 : Nat) (v3 : Int32) (μ : Mem) : Option ((Unit ⊕ Nat) × Mem) :=
  if v3 = 8 then
    if (ldI μ o0 4) < 2 then
      fX6_readCommand_34 o0 o1 o2 v3 μ
    else
      (fX9_fail o1 3 μ).bind fun r_1 =>
      xb r_1 fun _ m_5 =>
      fX6_readCommand_34 o0 o1 o2 v3 m_5
  else
    fX6_readCommand_34 o0 o1 o2 v3 μ
def fX6_readCommand (o0 : Nat) (o1 : Nat) (o2 : Nat) (μ : Mem) : Option ((Unit ⊕ Nat) × Mem) :=
  (fX6_whatHere o1 μ).bind fun r_1 =>
  if r_1 = ((-1)) then
    (fX9_fail o1 1 μ).bind fun r_4 =>
    xb r_4 fun _ m_8 =>
    fX6_readCommand_15 o0 o1 o2 r_1 m_8
  else
    fX6_readCommand_15 o0 o1 o2 r_1 μ
abbrev rmX6_readCommand : Room := { frames := 10, cells := 1, slots := 6, locals := 237 }
def gX6_readFrom_17 (o0 : Nat) (o1 : Nat) (o2 : Nat) (self : Int32 → Mem → Option ((Unit ⊕ Nat) × Mem)) : Int32 → Mem → Option ((Unit ⊕ Nat) × Mem) := fun v3 μ =>
  if 600 ≤ v3 then
    if (ldI μ o0 4) ≤ 0 then
      some (.inl (), μ)
    else
      (fX9_fail o1 1 μ).bind fun r_1 =>
      xb r_1 fun _ m_5 =>
      some (.inl (), m_5)
  else
    if (ldI μ o1 7) = 0 then
      if (ldI μ o0 4) ≤ 0 then
        some (.inl (), μ)
      else
        (fX9_fail o1 1 μ).bind fun r_9 =>
        xb r_9 fun _ m_13 =>
        some (.inl (), m_13)
    else
      if (ldI μ o0 4) ≤ 0 then
        (fX6_readCommand o0 o1 o2 μ).bind fun r_17 =>
        xb r_17 fun _ m_21 =>
        nm (v3 + 1) fun v_24 =>
        self v_24 m_21
      else
        (fX9_isSign o1 41 μ).bind fun r_25 =>
        if r_25 = 0 then
          (fX6_readCommand o0 o1 o2 μ).bind fun r_29 =>
          xb r_29 fun _ m_33 =>
          nm (v3 + 1) fun v_36 =>
          self v_36 m_33
        else
          (fX9_step o1 μ).bind fun r_37 =>
          (fX9_takeSign o1 59 r_37).bind fun r_40 =>
          xb r_40 fun _ m_44 =>
          (fX6_closeRepeat o0 m_44).bind fun r_47 =>
          nm (v3 + 1) fun v_50 =>
          self v_50 r_47
def fX6_readFrom_17 (o0 : Nat) (o1 : Nat) (o2 : Nat) : Int32 → Mem → Option ((Unit ⊕ Nat) × Mem) := zl2 (gX6_readFrom_17 o0 o1 o2) FU
def fX6_readFrom (o0 : Nat) (o1 : Nat) (o2 : Nat) (μ : Mem) : Option ((Unit ⊕ Nat) × Mem) :=
  nm (stI μ o0 2 0) fun m_1 =>
  nm (stI m_1 o0 3 0) fun m_2 =>
  nm (stI m_2 o0 4 0) fun m_3 =>
  fX6_readFrom_17 o0 o1 o2 0 m_3
abbrev rmX6_readFrom : Room := { frames := 11, cells := 1, slots := 6, locals := 261 }
def fX6_isToRepeat (o0 : Nat) (v1 : Int32) (μ : Mem) : Option (Int32 × Mem) :=
  if v1 < 0 then
    some (0, μ)
  else
    (ldP μ o0 0).bind fun q_1 =>
    if v1 < (Int32.ofNat (Ln q_1)) then
      (ldP μ o0 0).bind fun q_4 =>
      gd (inB v1 (Ln q_4)) ((ldP μ q_4 (v1).toNatClampNeg).bind fun q_8 =>
      nm (stI μ q_8 5 ((ldI μ q_8 5) - 1)) fun m_11 =>
      (ldP m_11 o0 0).bind fun q_12 =>
      gd (inB v1 (Ln q_12)) ((ldP m_11 q_12 (v1).toNatClampNeg).bind fun q_16 =>
      if (ldI m_11 q_16 5) ≤ 0 then
        some (0, m_11)
      else
        some (1, m_11)))
    else
      some (0, μ)
abbrev rmX6_isToRepeat : Room := { frames := 0, cells := 0, slots := 0, locals := 0 }
def gX6_runOn_7 (o0 : Nat) (o1 : Nat) (self : Int32 → Int32 → Int32 → Mem → Option (Int32 × Mem)) : Int32 → Int32 → Int32 → Mem → Option (Int32 × Mem) := fun v2 v3 v4 μ =>
  if 1000000 ≤ v4 then
    some (v2, μ)
  else
    if v3 < 0 then
      some (v2, μ)
    else
      if (ldI μ o0 2) ≤ v3 then
        some (v2, μ)
      else
        (ldP μ o0 0).bind fun q_1 =>
        if (Int32.ofNat (Ln q_1)) ≤ v3 then
          some (v2, μ)
        else
          (ldP μ o0 0).bind fun q_4 =>
          gd (inB v3 (Ln q_4)) ((ldP μ q_4 (v3).toNatClampNeg).bind fun q_8 =>
          nm (v3 + 1) fun v_11 =>
          if (ldI μ q_8 0) = 8 then
            nm (stI μ q_8 5 (ldI μ q_8 2)) fun m_31 =>
            nm (v4 + 1) fun v_32 =>
            self v2 v_11 v_32 m_31
          else
            if (ldI μ q_8 0) = 9 then
              (fX6_isToRepeat o0 (ldI μ q_8 5) μ).bind fun r_22 =>
              if r_22.1 = 0 then
                nm (v4 + 1) fun v_26 =>
                self v2 v_11 v_26 r_22.2
              else
                nm ((ldI r_22.2 q_8 5) + 1) fun v_27 =>
                nm (v4 + 1) fun v_28 =>
                self v2 v_27 v_28 r_22.2
            else
              if 40 ≤ v2 then
                some (v2, μ)
              else
                (fX1_faultOn q_8 o1 μ).bind fun r_12 =>
                if r_12 = 0 then
                  (fX1_applyTo q_8 o1 μ).bind fun r_15 =>
                  nm (v2 + 1) fun v_18 =>
                  nm (v4 + 1) fun v_19 =>
                  self v_18 v_11 v_19 r_15
                else
                  some (v2, μ))
def fX6_runOn_7 (o0 : Nat) (o1 : Nat) : Int32 → Int32 → Int32 → Mem → Option (Int32 × Mem) := zl4 (gX6_runOn_7 o0 o1) FU
def fX6_runOn (o0 : Nat) (o1 : Nat) (μ : Mem) : Option (Int32 × Mem) :=
  fX6_runOn_7 o0 o1 0 0 0 μ
abbrev rmX6_runOn : Room := { frames := 6, cells := 0, slots := 0, locals := 130 }
def fX7_byteAt (o0 : Nat) (v1 : Int32) (μ : Mem) : Option (Int32) :=
  if v1 < 0 then
    some 0
  else
    if (ldI μ o0 1) ≤ v1 then
      some 0
    else
      (ldP μ o0 0).bind fun q_1 =>
      if (Int32.ofNat (Ln q_1)) ≤ v1 then
        some 0
      else
        (ldP μ o0 0).bind fun q_4 =>
        gd (inB v1 (Ln q_4)) (some ((ldI μ q_4 (v1).toNatClampNeg) &&& 255))
abbrev rmX7_byteAt : Room := { frames := 0, cells := 0, slots := 0, locals := 0 }
def fX10_letterAt (v0 : Int64) (v2 : Int32) (μ : Mem) : Option (Int32) :=
  if v2 < 0 then
    some 0
  else
    if 8 ≤ v2 then
      some 0
    else
      some ((((v0.toUInt64 >>> ((8 * (7 - v2)).toInt64.toUInt64 &&& Int64.toUInt64 63)).toInt64).toInt32) &&& 255)
abbrev rmX10_letterAt : Room := { frames := 0, cells := 0, slots := 0, locals := 0 }
def fX7_put (o0 : Nat) (v1 : Int32) (μ : Mem) : Option (Mem) :=
  if (ldI μ o0 1) < 0 then
    some μ
  else
    (ldP μ o0 0).bind fun q_1 =>
    if (Int32.ofNat (Ln q_1)) ≤ (ldI μ o0 1) then
      some μ
    else
      (ldP μ o0 0).bind fun q_4 =>
      gd (inB (ldI μ o0 1) (Ln q_4)) (nm (stI μ q_4 (ldI μ o0 1).toNatClampNeg (vp_nar .byte v1.toInt8.toInt32)) fun m_7 =>
      nm (stI m_7 o0 1 ((ldI m_7 o0 1) + 1)) fun m_9 =>
      some m_9)
abbrev rmX7_put : Room := { frames := 0, cells := 0, slots := 0, locals := 0 }
def fX7_putNumber_42 (o0 : Nat) (v1 : Int32) (μ : Mem) : Option (Mem) :=
  if v1 < 10 then
    (fX7_put o0 (48 + (v1 - v1 / 10 * 10)) μ).bind fun r_1 =>
    some r_1
  else
    (fX7_put o0 (48 + ((v1 / 10) - (v1 / 10) / 10 * 10)) μ).bind fun r_4 =>
    (fX7_put o0 (48 + (v1 - v1 / 10 * 10)) r_4).bind fun r_7 =>
    some r_7
def fX7_putNumber_22 (o0 : Nat) (v1 : Int32) (μ : Mem) : Option (Mem) :=
  if v1 < 100 then
    fX7_putNumber_42 o0 v1 μ
  else
    (fX7_put o0 (48 + ((v1 / 100) - (v1 / 100) / 10 * 10)) μ).bind fun r_1 =>
    fX7_putNumber_42 o0 v1 r_1
def fX7_putNumber (o0 : Nat) (v1 : Int32) (μ : Mem) : Option (Mem) :=
  if v1 < 1000 then
    fX7_putNumber_22 o0 v1 μ
  else
    (fX7_put o0 (48 + ((v1 / 1000) - (v1 / 1000) / 10 * 10)) μ).bind fun r_1 =>
    fX7_putNumber_22 o0 v1 r_1
abbrev rmX7_putNumber : Room := { frames := 1, cells := 0, slots := 0, locals := 21 }
def gX7_writeLine_67 (o0 : Nat) (o1 : Nat) (v2 : Int32) (self : Int32 → Mem → Option (Mem)) : Int32 → Mem → Option (Mem) := fun v3 μ =>
  if (ldI μ o1 11) ≤ v3 then
    if v2 = 0 then
      (fX7_put o0 10 μ).bind fun r_1 =>
      some r_1
    else
      (fX7_put o0 42 μ).bind fun r_4 =>
      (fX7_put o0 10 r_4).bind fun r_7 =>
      some r_7
  else
    (fX7_put o0 43 μ).bind fun r_11 =>
    nm (v3 + 1) fun v_14 =>
    self v_14 r_11
def fX7_writeLine_67 (o0 : Nat) (o1 : Nat) (v2 : Int32) : Int32 → Mem → Option (Mem) := zl2 (gX7_writeLine_67 o0 o1 v2) FU
def fX7_writeLine_37 (o0 : Nat) (o1 : Nat) (v2 : Int32) (μ : Mem) : Option (Mem) :=
  (fX7_put o0 32 μ).bind fun r_1 =>
  (fX7_putNumber o0 (ldI r_1 o1 7) r_1).bind fun r_4 =>
  (fX7_put o0 47 r_4).bind fun r_7 =>
  (fX7_putNumber o0 (ldI r_7 o1 9) r_7).bind fun r_10 =>
  fX7_writeLine_67 o0 o1 v2 0 r_10
def gX7_writeLine_2 (o0 : Nat) (o1 : Nat) (v2 : Int32) (self : Int32 → Mem → Option (Mem)) : Int32 → Mem → Option (Mem) := fun v3 μ =>
  if 8 ≤ v3 then
    fX7_writeLine_37 o0 o1 v2 μ
  else
    (fX10_letterAt (ldJ μ o1 4) v3 μ).bind fun r_1 =>
    if r_1 = 0 then
      fX7_writeLine_37 o0 o1 v2 μ
    else
      (fX10_letterAt (ldJ μ o1 4) v3 μ).bind fun r_4 =>
      (fX7_put o0 r_4 μ).bind fun r_7 =>
      nm (v3 + 1) fun v_10 =>
      self v_10 r_7
def fX7_writeLine_2 (o0 : Nat) (o1 : Nat) (v2 : Int32) : Int32 → Mem → Option (Mem) := zl2 (gX7_writeLine_2 o0 o1 v2) FU
def fX7_writeLine (o0 : Nat) (o1 : Nat) (v2 : Int32) (μ : Mem) : Option (Mem) :=
  fX7_writeLine_2 o0 o1 v2 0 μ
abbrev rmX7_writeLine : Room := { frames := 2, cells := 0, slots := 0, locals := 42 }
def gX7_write_17 (o0 : Nat) (o1 : Nat) (v2 : Int32) (o3 : Nat) (v4 : Int32) (self : Int32 → Mem → Option (Mem)) : Int32 → Mem → Option (Mem) := fun v5 μ =>
  if v4 ≤ v5 then
    some μ
  else
    gd (inB v5 (Ln o3)) ((ldP μ o3 (v5).toNatClampNeg).bind fun q_2 =>
    if (ldI μ o1 2) ≤ (ldI μ q_2 0) then
      nm (v5 + 1) fun v_5 =>
      self v_5 μ
    else
      if (ldI μ q_2 0) = v2 then
        (fX7_writeLine o0 q_2 1 μ).bind fun r_10 =>
        nm (v5 + 1) fun v_13 =>
        self v_13 r_10
      else
        (fX7_writeLine o0 q_2 0 μ).bind fun r_6 =>
        nm (v5 + 1) fun v_9 =>
        self v_9 r_6)
def fX7_write_17 (o0 : Nat) (o1 : Nat) (v2 : Int32) (o3 : Nat) (v4 : Int32) : Int32 → Mem → Option (Mem) := zl2 (gX7_write_17 o0 o1 v2 o3 v4) FU
def fX7_write (o0 : Nat) (o1 : Nat) (v2 : Int32) (μ : Mem) : Option (Mem) :=
  nm (stI μ o0 1 0) fun m_1 =>
  (ldP m_1 o1 0).bind fun q_2 =>
  nm (Int32.ofNat (Ln q_2)) fun v_5 =>
  fX7_write_17 o0 o1 v2 q_2 v_5 0 m_1
abbrev rmX7_write : Room := { frames := 3, cells := 0, slots := 0, locals := 65 }
def fX8_readNewName_13 (o0 : Nat) (o1 : Nat) (μ : Mem) : Option ((Int64 ⊕ Nat) × Mem) :=
  (fX2_numberOf o0 (ldJ μ o1 8) μ).bind fun r_1 =>
  if r_1 = ((-1)) then
    nm (ldJ μ o1 8) fun v_4 =>
    (fX9_step o1 μ).bind fun r_5 =>
    some (.inl v_4, r_5)
  else
    (fX9_fail o1 3 μ).bind fun r_8 =>
    xb r_8 fun _ m_12 =>
    nm (ldJ m_12 o1 8) fun v_15 =>
    (fX9_step o1 m_12).bind fun r_16 =>
    some (.inl v_15, r_16)
def fX8_readNewName (o0 : Nat) (o1 : Nat) (μ : Mem) : Option ((Int64 ⊕ Nat) × Mem) :=
  if (ldI μ o1 7) = 1 then
    fX8_readNewName_13 o0 o1 μ
  else
    (fX9_fail o1 1 μ).bind fun r_1 =>
    xb r_1 fun _ m_5 =>
    fX8_readNewName_13 o0 o1 m_5
abbrev rmX8_readNewName : Room := { frames := 7, cells := 1, slots := 6, locals := 106 }
def fX9_takeWord (o0 : Nat) (k1 : Nat) (μ : Mem) : Option ((Unit ⊕ Nat) × Mem) :=
  (fX9_isWord o0 k1 μ).bind fun r_1 =>
  if r_1 = 0 then
    (fX9_fail o0 1 μ).bind fun r_8 =>
    xb r_8 fun _ m_12 =>
    (fX9_step o0 m_12).bind fun r_15 =>
    some (.inl (), r_15)
  else
    (fX9_step o0 μ).bind fun r_5 =>
    some (.inl (), r_5)
abbrev rmX9_takeWord : Room := { frames := 8, cells := 1, slots := 6, locals := 194 }
def fX8_readSide (o0 : Nat) (μ : Mem) : Option ((Int32 ⊕ Nat) × Mem) :=
  (fX9_isWord o0 5 μ).bind fun r_1 =>
  if r_1 = 0 then
    (fX9_takeWord o0 6 μ).bind fun r_5 =>
    xb r_5 fun _ m_9 =>
    some (.inl 1, m_9)
  else
    (fX9_step o0 μ).bind fun r_12 =>
    some (.inl 0, r_12)
abbrev rmX8_readSide : Room := { frames := 9, cells := 1, slots := 6, locals := 215 }
def fX8_readPlan_47 (kb2 : Int32 → Mem → Option ((Unit ⊕ Nat) × Mem)) (o0 : Nat) (o1 : Nat) (v2 : Int32) (v3 : Int32) (μ : Mem) : Option ((Unit ⊕ Nat) × Mem) :=
  (fX9_step o1 μ).bind fun r_1 =>
  (fX0_mostOf v3 r_1).bind fun r_4 =>
  (fX9_takeNumber o1 1 r_4 r_1).bind fun r_7 =>
  xb r_7 fun v_13 m_11 =>
  (fX3_addAct o0 v3 v_13 m_11).bind fun r_14 =>
  nm (v2 + 1) fun v_17 =>
  kb2 v_17 r_14
def fX8_readPlan_36 (kb2 : Int32 → Mem → Option ((Unit ⊕ Nat) × Mem)) (o0 : Nat) (o1 : Nat) (v2 : Int32) (v3 : Int32) (μ : Mem) : Option ((Unit ⊕ Nat) × Mem) :=
  if v2 = 6 then
    (fX9_fail o1 5 μ).bind fun r_1 =>
    xb r_1 fun _ m_5 =>
    fX8_readPlan_47 kb2 o0 o1 v2 v3 m_5
  else
    fX8_readPlan_47 kb2 o0 o1 v2 v3 μ
def fX8_readPlan_21 (kb2 : Int32 → Mem → Option ((Unit ⊕ Nat) × Mem)) (o0 : Nat) (o1 : Nat) (v2 : Int32) (μ : Mem) : Option ((Unit ⊕ Nat) × Mem) :=
  (fX0_kindHere o1 μ).bind fun r_1 =>
  if r_1 = ((-1)) then
    (fX9_fail o1 1 μ).bind fun r_4 =>
    xb r_4 fun _ m_8 =>
    fX8_readPlan_36 kb2 o0 o1 v2 r_1 m_8
  else
    fX8_readPlan_36 kb2 o0 o1 v2 r_1 μ
def gX8_readPlan_2 (o0 : Nat) (o1 : Nat) (self : Int32 → Mem → Option ((Unit ⊕ Nat) × Mem)) : Int32 → Mem → Option ((Unit ⊕ Nat) × Mem) := fun v2 μ =>
  if 6 < v2 then
    some (.inl (), μ)
  else
    if v2 = 0 then
      fX8_readPlan_21 self o0 o1 v2 μ
    else
      (fX9_isSign o1 59 μ).bind fun r_1 =>
      if r_1 = 0 then
        fX8_readPlan_21 self o0 o1 v2 μ
      else
        some (.inl (), μ)
def fX8_readPlan_2 (o0 : Nat) (o1 : Nat) : Int32 → Mem → Option ((Unit ⊕ Nat) × Mem) := zl2 (gX8_readPlan_2 o0 o1) FU
def fX8_readPlan (o0 : Nat) (o1 : Nat) (μ : Mem) : Option ((Unit ⊕ Nat) × Mem) :=
  fX8_readPlan_2 o0 o1 0 μ
abbrev rmX8_readPlan : Room := { frames := 9, cells := 1, slots := 6, locals := 215 }
def fX8_readFighter_103 (o0 : Nat) (o1 : Nat) (o2 : Nat) (μ : Mem) : Option ((Unit ⊕ Nat) × Mem) :=
  (fX9_takeWord o1 10 μ).bind fun r_1 =>
  xb r_1 fun _ m_5 =>
  (fX8_readPlan o2 o1 m_5).bind fun r_8 =>
  xb r_8 fun _ m_12 =>
  nm (stI m_12 o0 2 ((ldI m_12 o0 2) + 1)) fun m_15 =>
  some (.inl (), m_15)
def fX8_readFighter_14 (o0 : Nat) (o1 : Nat) (μ : Mem) : Option ((Unit ⊕ Nat) × Mem) :=
  (fX9_step o1 μ).bind fun r_1 =>
  (fX2_at o0 (ldI r_1 o0 2) r_1).bind fun r_4 =>
  (fX8_readNewName o0 o1 r_1).bind fun r_8 =>
  xb r_8 fun v_14 m_12 =>
  nm (stJ m_12 r_4 4 v_14) fun m_15 =>
  (fX8_readSide o1 m_15).bind fun r_16 =>
  xb r_16 fun v_22 m_20 =>
  nm (stI m_20 r_4 5 v_22) fun m_23 =>
  (fX9_takeWord o1 7 m_23).bind fun r_24 =>
  xb r_24 fun _ m_28 =>
  (fX9_takeNumber o1 1 99 m_28).bind fun r_31 =>
  xb r_31 fun v_37 m_35 =>
  nm (stI m_35 r_4 6 v_37) fun m_38 =>
  (fX9_takeWord o1 8 m_38).bind fun r_39 =>
  xb r_39 fun _ m_43 =>
  (fX9_takeNumber o1 1 999 m_43).bind fun r_46 =>
  xb r_46 fun v_52 m_50 =>
  nm (stI m_50 r_4 7 v_52) fun m_53 =>
  (fX9_isWord o1 9 m_53).bind fun r_54 =>
  if r_54 = 0 then
    fX8_readFighter_103 o0 o1 r_4 m_53
  else
    (fX9_step o1 m_53).bind fun r_58 =>
    (fX9_takeNumber o1 0 9 r_58).bind fun r_61 =>
    xb r_61 fun v_67 m_65 =>
    nm (stI m_65 r_4 8 v_67) fun m_68 =>
    fX8_readFighter_103 o0 o1 r_4 m_68
def fX8_readFighter (o0 : Nat) (o1 : Nat) (μ : Mem) : Option ((Unit ⊕ Nat) × Mem) :=
  if (ldI μ o0 2) < 8 then
    fX8_readFighter_14 o0 o1 μ
  else
    (fX9_fail o1 5 μ).bind fun r_1 =>
    xb r_1 fun _ m_5 =>
    fX8_readFighter_14 o0 o1 m_5
abbrev rmX8_readFighter : Room := { frames := 10, cells := 1, slots := 6, locals := 238 }
def fX8_readInto_40 (kb8 : Int32 → Int32 → Mem → Option ((Unit ⊕ Nat) × Mem)) (o0 : Nat) (o1 : Nat) (v3 : Int32) (μ : Mem) : Option ((Unit ⊕ Nat) × Mem) :=
  (fX9_step o1 μ).bind fun r_1 =>
  (fX9_takeNumber o1 100 999 r_1).bind fun r_4 =>
  xb r_4 fun v_10 m_8 =>
  nm (stI m_8 o0 3 v_10) fun m_11 =>
  (fX9_takeSign o1 59 m_11).bind fun r_12 =>
  xb r_12 fun _ m_16 =>
  nm (v3 + 1) fun v_19 =>
  kb8 1 v_19 m_16
def gX8_readInto_8 (o0 : Nat) (o1 : Nat) (self : Int32 → Int32 → Mem → Option ((Unit ⊕ Nat) × Mem)) : Int32 → Int32 → Mem → Option ((Unit ⊕ Nat) × Mem) := fun v2 v3 μ =>
  if 600 ≤ v3 then
    some (.inl (), μ)
  else
    if (ldI μ o1 7) = 0 then
      some (.inl (), μ)
    else
      (fX9_isWord o1 2 μ).bind fun r_1 =>
      if r_1 = 0 then
        (fX9_isWord o1 4 μ).bind fun r_5 =>
        if r_5 = 0 then
          (fX9_fail o1 1 μ).bind fun r_9 =>
          xb r_9 fun _ m_13 =>
          (fX9_takeSign o1 59 m_13).bind fun r_16 =>
          xb r_16 fun _ m_20 =>
          nm (v3 + 1) fun v_23 =>
          self v2 v_23 m_20
        else
          (fX8_readFighter o0 o1 μ).bind fun r_24 =>
          xb r_24 fun _ m_28 =>
          (fX9_takeSign o1 59 m_28).bind fun r_31 =>
          xb r_31 fun _ m_35 =>
          nm (v3 + 1) fun v_38 =>
          self v2 v_38 m_35
      else
        if v2 = 0 then
          fX8_readInto_40 self o0 o1 v3 μ
        else
          (fX9_fail o1 3 μ).bind fun r_40 =>
          xb r_40 fun _ m_44 =>
          fX8_readInto_40 self o0 o1 v3 m_44
def fX8_readInto_8 (o0 : Nat) (o1 : Nat) : Int32 → Int32 → Mem → Option ((Unit ⊕ Nat) × Mem) := zl3 (gX8_readInto_8 o0 o1) FU
def fX8_readInto (o0 : Nat) (o1 : Nat) (μ : Mem) : Option ((Unit ⊕ Nat) × Mem) :=
  (fX2_clear o0 μ).bind fun r_1 =>
  fX8_readInto_8 o0 o1 0 0 r_1
abbrev rmX8_readInto : Room := { frames := 11, cells := 1, slots := 6, locals := 260 }
def fX9_hasRoomFor (o0 : Nat) (v1 : Int32) (μ : Mem) : Option (Int32) :=
  (ldP μ o0 0).bind fun q_1 =>
  if (Int32.ofNat (Ln q_1)) < ((ldI μ o0 1) + v1) then
    some 0
  else
    some 1
abbrev rmX9_hasRoomFor : Room := { frames := 0, cells := 0, slots := 0, locals := 0 }
def gX9_append_3 (o0 : Nat) (v1 : Int32) (self : Int32 → Mem → Option (Mem)) : Int32 → Mem → Option (Mem) := fun v2 μ =>
  if v2 < 0 then
    some μ
  else
    if (ldI μ o0 1) < 0 then
      nm (v2 + (-8)) fun v_1 =>
      self v_1 μ
    else
      (ldP μ o0 0).bind fun q_2 =>
      if (Int32.ofNat (Ln q_2)) ≤ (ldI μ o0 1) then
        nm (v2 + (-8)) fun v_5 =>
        self v_5 μ
      else
        (ldP μ o0 0).bind fun q_6 =>
        gd (inB (ldI μ o0 1) (Ln q_6)) (nm (stI μ q_6 (ldI μ o0 1).toNatClampNeg (vp_nar .byte (((v1.toUInt32 >>> (v2.toUInt32 &&& Int32.toUInt32 31)).toInt32).toInt8.toInt32))) fun m_9 =>
        nm (stI m_9 o0 1 ((ldI m_9 o0 1) + 1)) fun m_11 =>
        nm (v2 + (-8)) fun v_12 =>
        self v_12 m_11)
def fX9_append_3 (o0 : Nat) (v1 : Int32) : Int32 → Mem → Option (Mem) := zl2 (gX9_append_3 o0 v1) FU
def fX9_append (o0 : Nat) (v1 : Int32) (μ : Mem) : Option (Mem) :=
  fX9_append_3 o0 v1 24 μ
abbrev rmX9_append : Room := { frames := 0, cells := 0, slots := 0, locals := 0 }
def fX9_begin (o0 : Nat) (μ : Mem) : Option (Mem) :=
  nm (stI μ o0 4 (ldI μ o0 1)) fun m_1 =>
  nm (stI m_1 o0 1 0) fun m_2 =>
  nm (stI m_2 o0 2 0) fun m_3 =>
  nm (stI m_3 o0 3 ((-1))) fun m_4 =>
  nm (stI m_4 o0 6 0) fun m_5 =>
  (fX9_step o0 m_5).bind fun r_6 =>
  some r_6
abbrev rmX9_begin : Room := { frames := 3, cells := 0, slots := 0, locals := 63 }
def fX11_feed (o0 : Nat) (v1 : Int32) (v2 : Int32) (v3 : Int32) (v4 : Int32) (v5 : Int32) (μ : Mem) : Option ((Int32 ⊕ Nat) × Mem) :=
  (ldP μ o0 0).bind fun q_1 =>
  (fX9_hasRoomFor q_1 20 μ).bind fun r_4 =>
  if r_4 = 0 then
    some (.inr 1, μ)
  else
    (ldP μ o0 0).bind fun q_8 =>
    (fX9_append q_8 v1 μ).bind fun r_11 =>
    (ldP r_11 o0 0).bind fun q_14 =>
    (fX9_append q_14 v2 r_11).bind fun r_17 =>
    (ldP r_17 o0 0).bind fun q_20 =>
    (fX9_append q_20 v3 r_17).bind fun r_23 =>
    (ldP r_23 o0 0).bind fun q_26 =>
    (fX9_append q_26 v4 r_23).bind fun r_29 =>
    (ldP r_29 o0 0).bind fun q_32 =>
    (fX9_append q_32 v5 r_29).bind fun r_35 =>
    (ldP r_35 o0 0).bind fun q_38 =>
    some (.inl (ldI r_35 q_38 1), r_35)
abbrev rmX11_feed : Room := { frames := 6, cells := 1, slots := 6, locals := 85 }
def fX11_demand (v0 : Int32) (μ : Mem) : Option ((Unit ⊕ Nat) × Mem) :=
  if v0 = 0 then
    some (.inr 0, μ)
  else
    some (.inl (), μ)
abbrev rmX11_demand : Room := { frames := 6, cells := 1, slots := 6, locals := 85 }
def fX11_truncate (o0 : Nat) (v1 : Int32) (μ : Mem) : Option ((Int32 ⊕ Nat) × Mem) :=
  if v1 < 0 then
    (fX11_demand 0 μ).bind fun r_1 =>
    xb r_1 fun _ m_5 =>
    (ldP m_5 o0 0).bind fun q_8 =>
    nm (stI m_5 q_8 1 v1) fun m_11 =>
    some (.inl v1, m_11)
  else
    (ldP μ o0 0).bind fun q_12 =>
    if (ldI μ q_12 1) < v1 then
      (fX11_demand 0 μ).bind fun r_15 =>
      xb r_15 fun _ m_19 =>
      (ldP m_19 o0 0).bind fun q_22 =>
      nm (stI m_19 q_22 1 v1) fun m_25 =>
      some (.inl v1, m_25)
    else
      (fX11_demand 1 μ).bind fun r_26 =>
      xb r_26 fun _ m_30 =>
      (ldP m_30 o0 0).bind fun q_33 =>
      nm (stI m_30 q_33 1 v1) fun m_36 =>
      some (.inl v1, m_36)
abbrev rmX11_truncate : Room := { frames := 7, cells := 1, slots := 6, locals := 105 }
def fX11_readText (o0 : Nat) (μ : Mem) : Option ((Int32 ⊕ Nat) × Mem) :=
  (ldP μ o0 0).bind fun q_1 =>
  (fX9_begin q_1 μ).bind fun r_4 =>
  (ldP r_4 o0 3).bind fun q_7 =>
  (ldP r_4 o0 0).bind fun q_10 =>
  (fX8_readInto q_7 q_10 r_4).bind fun r_13 =>
  xb r_13 fun _ m_17 =>
  (ldP m_17 o0 2).bind fun q_20 =>
  (ldP m_17 o0 3).bind fun q_23 =>
  (fX2_copyFrom q_20 q_23 m_17).bind fun r_26 =>
  (ldP r_26 o0 6).bind fun q_29 =>
  (fX5_forget q_29 r_26).bind fun r_32 =>
  (ldP r_32 o0 2).bind fun q_35 =>
  some (.inl (ldI r_32 q_35 2), r_32)
abbrev rmX11_readText : Room := { frames := 12, cells := 1, slots := 6, locals := 283 }
def fX11_runScript (o0 : Nat) (μ : Mem) : Option ((Int32 ⊕ Nat) × Mem) :=
  (ldP μ o0 0).bind fun q_1 =>
  (fX9_begin q_1 μ).bind fun r_4 =>
  (ldP r_4 o0 1).bind fun q_7 =>
  (ldP r_4 o0 0).bind fun q_10 =>
  (ldP r_4 o0 2).bind fun q_13 =>
  (fX6_readFrom q_7 q_10 q_13 r_4).bind fun r_16 =>
  xb r_16 fun _ m_20 =>
  (ldP m_20 o0 6).bind fun q_23 =>
  (ldP m_20 o0 2).bind fun q_26 =>
  (fX5_keep q_23 q_26 m_20).bind fun r_29 =>
  (ldP r_29 o0 1).bind fun q_32 =>
  (ldP r_29 o0 2).bind fun q_35 =>
  (fX6_runOn q_32 q_35 r_29).bind fun r_38 =>
  some (.inl r_38.1, r_38.2)
abbrev rmX11_runScript : Room := { frames := 12, cells := 1, slots := 6, locals := 284 }
def fX11_errorCode (o0 : Nat) (μ : Mem) : Option (Int32) :=
  (ldP μ o0 0).bind fun q_1 =>
  some (ldI μ q_1 2)
abbrev rmX11_errorCode : Room := { frames := 0, cells := 0, slots := 0, locals := 0 }
def fX11_errorPosition (o0 : Nat) (μ : Mem) : Option (Int32) :=
  (ldP μ o0 0).bind fun q_1 =>
  some (ldI μ q_1 3)
abbrev rmX11_errorPosition : Room := { frames := 0, cells := 0, slots := 0, locals := 0 }
def fX11_setting (o0 : Nat) (v1 : Int32) (μ : Mem) : Option ((Int32 ⊕ Nat) × Mem) :=
  if v1 = 0 then
    (ldP μ o0 2).bind fun q_45 =>
    some (.inl (ldI μ q_45 2), μ)
  else
    if v1 = 1 then
      (ldP μ o0 2).bind fun q_42 =>
      some (.inl (ldI μ q_42 3), μ)
    else
      if v1 = 2 then
        (ldP μ o0 2).bind fun q_39 =>
        some (.inl (ldI μ q_39 4), μ)
      else
        if v1 = 3 then
          (ldP μ o0 2).bind fun q_36 =>
          some (.inl (ldI μ q_36 5), μ)
        else
          if v1 = 4 then
            (ldP μ o0 2).bind fun q_30 =>
            (fX2_living q_30 μ).bind fun r_33 =>
            some (.inl r_33, μ)
          else
            if v1 = 5 then
              (ldP μ o0 2).bind fun q_24 =>
              (fX2_sideLife q_24 0 μ).bind fun r_27 =>
              some (.inl r_27, μ)
            else
              if v1 = 6 then
                (ldP μ o0 2).bind fun q_18 =>
                (fX2_sideLife q_18 1 μ).bind fun r_21 =>
                some (.inl r_21, μ)
              else
                if v1 = 7 then
                  (ldP μ o0 2).bind fun q_12 =>
                  (fX2_wonBy q_12 μ).bind fun r_15 =>
                  some (.inl r_15, μ)
                else
                  if v1 = 8 then
                    (ldP μ o0 2).bind fun q_4 =>
                    (fX2_over q_4 μ).bind fun r_7 =>
                    if r_7 = 0 then
                      some (.inl 0, μ)
                    else
                      some (.inl 1, μ)
                  else
                    if v1 = 9 then
                      (ldP μ o0 6).bind fun q_1 =>
                      some (.inl (ldI μ q_1 1), μ)
                    else
                      some (.inr 0, μ)
abbrev rmX11_setting : Room := { frames := 6, cells := 1, slots := 6, locals := 85 }
def fX11_known (o0 : Nat) (v1 : Int32) (μ : Mem) : Option ((Nat ⊕ Nat) × Mem) :=
  if v1 < 0 then
    some (.inr 2, μ)
  else
    (ldP μ o0 2).bind fun q_1 =>
    if v1 < (ldI μ q_1 2) then
      (ldP μ o0 2).bind fun q_4 =>
      (fX2_at q_4 v1 μ).bind fun r_7 =>
      some (.inl r_7, μ)
    else
      some (.inr 2, μ)
abbrev rmX11_known : Room := { frames := 6, cells := 1, slots := 6, locals := 85 }
def fX11_fighter (o0 : Nat) (v1 : Int32) (v2 : Int32) (μ : Mem) : Option ((Int32 ⊕ Nat) × Mem) :=
  (fX11_known o0 v1 μ).bind fun r_1 =>
  xb r_1 fun v_7 m_5 =>
  if v2 = 0 then
    some (.inl (ldI m_5 v_7 5), m_5)
  else
    if v2 = 1 then
      some (.inl (ldI m_5 v_7 6), m_5)
    else
      if v2 = 2 then
        some (.inl (ldI m_5 v_7 7), m_5)
      else
        if v2 = 3 then
          some (.inl (ldI m_5 v_7 8), m_5)
        else
          if v2 = 4 then
            some (.inl (ldI m_5 v_7 9), m_5)
          else
            if v2 = 5 then
              some (.inl (ldI m_5 v_7 10), m_5)
            else
              if v2 = 6 then
                some (.inl (ldI m_5 v_7 11), m_5)
              else
                if v2 = 7 then
                  some (.inl (ldI m_5 v_7 12), m_5)
                else
                  if v2 = 8 then
                    some (.inl (ldI m_5 v_7 3), m_5)
                  else
                    if v2 = 9 then
                      some (.inl (ldI m_5 v_7 13), m_5)
                    else
                      if v2 = 10 then
                        some (.inl (ldI m_5 v_7 14), m_5)
                      else
                        if v2 = 11 then
                          some (.inl (ldI m_5 v_7 15), m_5)
                        else
                          some (.inr 0, m_5)
abbrev rmX11_fighter : Room := { frames := 7, cells := 1, slots := 6, locals := 106 }
def fX11_actKind (o0 : Nat) (v1 : Int32) (v2 : Int32) (μ : Mem) : Option ((Int32 ⊕ Nat) × Mem) :=
  (fX11_known o0 v1 μ).bind fun r_1 =>
  xb r_1 fun v_7 m_5 =>
  (fX3_kindAt v_7 v2 m_5).bind fun r_8 =>
  some (.inl r_8, m_5)
abbrev rmX11_actKind : Room := { frames := 7, cells := 1, slots := 6, locals := 106 }
def fX11_actNumber (o0 : Nat) (v1 : Int32) (v2 : Int32) (μ : Mem) : Option ((Int32 ⊕ Nat) × Mem) :=
  (fX11_known o0 v1 μ).bind fun r_1 =>
  xb r_1 fun v_7 m_5 =>
  (fX3_amountAt v_7 v2 m_5).bind fun r_8 =>
  some (.inl r_8, m_5)
abbrev rmX11_actNumber : Room := { frames := 7, cells := 1, slots := 6, locals := 106 }
def fX11_letter (o0 : Nat) (v1 : Int32) (v2 : Int32) (μ : Mem) : Option ((Int32 ⊕ Nat) × Mem) :=
  (fX11_known o0 v1 μ).bind fun r_1 =>
  xb r_1 fun v_7 m_5 =>
  (fX10_letterAt (ldJ m_5 v_7 4) v2 m_5).bind fun r_8 =>
  some (.inl r_8, m_5)
abbrev rmX11_letter : Room := { frames := 7, cells := 1, slots := 6, locals := 106 }
def fX11_ticksTo (o0 : Nat) (v1 : Int32) (μ : Mem) : Option ((Int32 ⊕ Nat) × Mem) :=
  (fX11_known o0 v1 μ).bind fun r_1 =>
  xb r_1 fun v_7 m_5 =>
  if (ldI m_5 v_7 7) ≤ 0 then
    some (.inl ((-1)), m_5)
  else
    (ldP m_5 o0 2).bind fun q_8 =>
    (fX3_ticksLeft v_7 (ldI m_5 q_8 3) m_5).bind fun r_11 =>
    some (.inl r_11, m_5)
abbrev rmX11_ticksTo : Room := { frames := 7, cells := 1, slots := 6, locals := 106 }
def fX11_row (o0 : Nat) (v1 : Int32) (μ : Mem) : Option (Int32) :=
  (ldP μ o0 2).bind fun q_1 =>
  (fX2_inRow q_1 v1 μ).bind fun r_4 =>
  some (ldI μ r_4 0)
abbrev rmX11_row : Room := { frames := 4, cells := 0, slots := 0, locals := 96 }
def fX11_meanSpeed (o0 : Nat) (μ : Mem) : Option (UInt64) :=
  (ldP μ o0 2).bind fun q_1 =>
  (fX2_living q_1 μ).bind fun r_4 =>
  if r_4 ≤ 0 then
    some FP.dconst0
  else
    (ldP μ o0 2).bind fun q_7 =>
    (fX2_speedOfLiving q_7 μ).bind fun r_10 =>
    gd (nn64 (FP.ddiv (FP.i2d r_10) (FP.i2d r_4))) (some (FP.ddiv (FP.i2d r_10) (FP.i2d r_4)))
abbrev rmX11_meanSpeed : Room := { frames := 1, cells := 0, slots := 0, locals := 25 }
def fX11_share (o0 : Nat) (μ : Mem) : Option (UInt32) :=
  (ldP μ o0 2).bind fun q_1 =>
  (fX2_sideLife q_1 0 μ).bind fun r_4 =>
  (ldP μ o0 2).bind fun q_7 =>
  (fX2_sideLife q_7 1 μ).bind fun r_10 =>
  nm (r_4 + r_10) fun v_13 =>
  if v_13 ≤ 0 then
    some FP.fconst0
  else
    gd (nn32 (FP.fdiv (FP.i2f r_4) (FP.i2f v_13))) (some (FP.fdiv (FP.i2f r_4) (FP.i2f v_13)))
abbrev rmX11_share : Room := { frames := 1, cells := 0, slots := 0, locals := 26 }
def fX11_turn_14 (o0 : Nat) (v1 : Int32) (μ : Mem) : Option ((Int32 ⊕ Nat) × Mem) :=
  (fX11_demand 0 μ).bind fun r_1 =>
  xb r_1 fun _ m_5 =>
  (ldP m_5 o0 5).bind fun q_8 =>
  (ldP m_5 o0 2).bind fun q_11 =>
  (fX4_actorOf q_8 q_11 v1 m_5).bind fun r_14 =>
  some (.inl (ldI r_14.2 r_14.1 0), r_14.2)
def fX11_turn (o0 : Nat) (v1 : Int32) (μ : Mem) : Option ((Int32 ⊕ Nat) × Mem) :=
  if v1 < 0 then
    fX11_turn_14 o0 v1 μ
  else
    if 99 < v1 then
      fX11_turn_14 o0 v1 μ
    else
      (fX11_demand 1 μ).bind fun r_1 =>
      xb r_1 fun _ m_5 =>
      (ldP m_5 o0 5).bind fun q_8 =>
      (ldP m_5 o0 2).bind fun q_11 =>
      (fX4_actorOf q_8 q_11 v1 m_5).bind fun r_14 =>
      some (.inl (ldI r_14.2 r_14.1 0), r_14.2)
abbrev rmX11_turn : Room := { frames := 7, cells := 1, slots := 6, locals := 152 }
def fX11_turnTime (o0 : Nat) (v1 : Int32) (μ : Mem) : Option ((Int32 ⊕ Nat) × Mem) :=
  if v1 < 0 then
    (fX11_demand 0 μ).bind fun r_1 =>
    xb r_1 fun _ m_5 =>
    (ldP m_5 o0 5).bind fun q_8 =>
    (ldP m_5 o0 2).bind fun q_11 =>
    (fX4_timeOf q_8 q_11 v1 m_5).bind fun r_14 =>
    some (.inl r_14.1, r_14.2)
  else
    if 99 < v1 then
      (fX11_demand 0 μ).bind fun r_17 =>
      xb r_17 fun _ m_21 =>
      (ldP m_21 o0 5).bind fun q_24 =>
      (ldP m_21 o0 2).bind fun q_27 =>
      (fX4_timeOf q_24 q_27 v1 m_21).bind fun r_30 =>
      some (.inl r_30.1, r_30.2)
    else
      (fX11_demand 1 μ).bind fun r_33 =>
      xb r_33 fun _ m_37 =>
      (ldP m_37 o0 5).bind fun q_40 =>
      (ldP m_37 o0 2).bind fun q_43 =>
      (fX4_timeOf q_40 q_43 v1 m_37).bind fun r_46 =>
      some (.inl r_46.1, r_46.2)
abbrev rmX11_turnTime : Room := { frames := 7, cells := 1, slots := 6, locals := 153 }
def fX11_turnKind (o0 : Nat) (v1 : Int32) (μ : Mem) : Option ((Int32 ⊕ Nat) × Mem) :=
  if v1 < 0 then
    (fX11_demand 0 μ).bind fun r_1 =>
    xb r_1 fun _ m_5 =>
    (ldP m_5 o0 5).bind fun q_8 =>
    (ldP m_5 o0 2).bind fun q_11 =>
    (fX4_kindOf q_8 q_11 v1 m_5).bind fun r_14 =>
    some (.inl r_14.1, r_14.2)
  else
    if 99 < v1 then
      (fX11_demand 0 μ).bind fun r_17 =>
      xb r_17 fun _ m_21 =>
      (ldP m_21 o0 5).bind fun q_24 =>
      (ldP m_21 o0 2).bind fun q_27 =>
      (fX4_kindOf q_24 q_27 v1 m_21).bind fun r_30 =>
      some (.inl r_30.1, r_30.2)
    else
      (fX11_demand 1 μ).bind fun r_33 =>
      xb r_33 fun _ m_37 =>
      (ldP m_37 o0 5).bind fun q_40 =>
      (ldP m_37 o0 2).bind fun q_43 =>
      (fX4_kindOf q_40 q_43 v1 m_37).bind fun r_46 =>
      some (.inl r_46.1, r_46.2)
abbrev rmX11_turnKind : Room := { frames := 7, cells := 1, slots := 6, locals := 153 }
def fX11_laterSelf_25 (o0 : Nat) (v2 : Int32) (v3 : Int32) (vt0 : Int32) (μ : Mem) : Option ((Nat ⊕ Nat) × Mem) :=
  (fX11_demand vt0 μ).bind fun r_1 =>
  xb r_1 fun _ m_5 =>
  (ldP m_5 o0 5).bind fun q_8 =>
  (ldP m_5 o0 2).bind fun q_11 =>
  (fX4_afterTurns q_8 q_11 v2 m_5).bind fun r_14 =>
  (fX2_at r_14.1 v3 r_14.2).bind fun r_18 =>
  some (.inl r_18, r_14.2)
def fX11_laterSelf_24 (o0 : Nat) (v2 : Int32) (v3 : Int32) (μ : Mem) : Option ((Nat ⊕ Nat) × Mem) :=
  fX11_laterSelf_25 o0 v2 v3 0 μ
def fX11_laterSelf (o0 : Nat) (v1 : Int32) (v2 : Int32) (μ : Mem) : Option ((Nat ⊕ Nat) × Mem) :=
  (fX11_known o0 v1 μ).bind fun r_1 =>
  xb r_1 fun v_7 m_5 =>
  nm (ldI m_5 v_7 0) fun v_8 =>
  if v2 < 0 then
    fX11_laterSelf_24 o0 v2 v_8 m_5
  else
    if 200 < v2 then
      fX11_laterSelf_24 o0 v2 v_8 m_5
    else
      fX11_laterSelf_25 o0 v2 v_8 1 m_5
abbrev rmX11_laterSelf : Room := { frames := 7, cells := 1, slots := 6, locals := 130 }
def fX11_lifeIn (o0 : Nat) (v1 : Int32) (v2 : Int32) (μ : Mem) : Option ((Int32 ⊕ Nat) × Mem) :=
  (fX11_laterSelf o0 v1 v2 μ).bind fun r_1 =>
  xb r_1 fun v_7 m_5 =>
  some (.inl (ldI m_5 v_7 7), m_5)
abbrev rmX11_lifeIn : Room := { frames := 8, cells := 1, slots := 6, locals := 153 }
def fX11_gaugeIn (o0 : Nat) (v1 : Int32) (v2 : Int32) (μ : Mem) : Option ((Int32 ⊕ Nat) × Mem) :=
  (fX11_laterSelf o0 v1 v2 μ).bind fun r_1 =>
  xb r_1 fun v_7 m_5 =>
  some (.inl (ldI m_5 v_7 9), m_5)
abbrev rmX11_gaugeIn : Room := { frames := 8, cells := 1, slots := 6, locals := 153 }
def fX11_turnsOf (o0 : Nat) (v1 : Int32) (v2 : Int32) (μ : Mem) : Option ((Int32 ⊕ Nat) × Mem) :=
  (fX11_known o0 v1 μ).bind fun r_1 =>
  xb r_1 fun v_7 m_5 =>
  (fX11_laterSelf o0 v1 v2 m_5).bind fun r_8 =>
  xb r_8 fun v_14 m_12 =>
  some (.inl ((ldI m_12 v_14 13) - (ldI m_12 v_7 13)), m_12)
abbrev rmX11_turnsOf : Room := { frames := 8, cells := 1, slots := 6, locals := 153 }
def fX11_longestRun (o0 : Nat) (v1 : Int32) (μ : Mem) : Option ((Int32 ⊕ Nat) × Mem) :=
  if v1 < 0 then
    (fX11_demand 0 μ).bind fun r_1 =>
    xb r_1 fun _ m_5 =>
    (ldP m_5 o0 5).bind fun q_8 =>
    (ldP m_5 o0 2).bind fun q_11 =>
    (fX4_mostInARow q_8 q_11 v1 m_5).bind fun r_14 =>
    some (.inl r_14.1, r_14.2)
  else
    if 200 < v1 then
      (fX11_demand 0 μ).bind fun r_17 =>
      xb r_17 fun _ m_21 =>
      (ldP m_21 o0 5).bind fun q_24 =>
      (ldP m_21 o0 2).bind fun q_27 =>
      (fX4_mostInARow q_24 q_27 v1 m_21).bind fun r_30 =>
      some (.inl r_30.1, r_30.2)
    else
      (fX11_demand 1 μ).bind fun r_33 =>
      xb r_33 fun _ m_37 =>
      (ldP m_37 o0 5).bind fun q_40 =>
      (ldP m_37 o0 2).bind fun q_43 =>
      (fX4_mostInARow q_40 q_43 v1 m_37).bind fun r_46 =>
      some (.inl r_46.1, r_46.2)
abbrev rmX11_longestRun : Room := { frames := 7, cells := 1, slots := 6, locals := 112 }
def fX11_endsIn (o0 : Nat) (μ : Mem) : Option (Int32 × Mem) :=
  (ldP μ o0 5).bind fun q_1 =>
  (ldP μ o0 2).bind fun q_4 =>
  (fX4_turnsToEnd q_1 q_4 μ).bind fun r_7 =>
  some (r_7.1, r_7.2)
abbrev rmX11_endsIn : Room := { frames := 6, cells := 0, slots := 0, locals := 130 }
def fX11_winner (o0 : Nat) (μ : Mem) : Option (Int32 × Mem) :=
  (ldP μ o0 5).bind fun q_1 =>
  (ldP μ o0 2).bind fun q_4 =>
  (fX4_afterTurns q_1 q_4 200 μ).bind fun r_7 =>
  (fX2_wonBy r_7.1 r_7.2).bind fun r_11 =>
  some (r_11, r_7.2)
abbrev rmX11_winner : Room := { frames := 6, cells := 0, slots := 0, locals := 130 }
def fX11_firstLoss (o0 : Nat) (v1 : Int32) (μ : Mem) : Option ((Int32 ⊕ Nat) × Mem) :=
  (ldP μ o0 5).bind fun q_1 =>
  (ldP μ o0 2).bind fun q_4 =>
  (fX11_known o0 v1 μ).bind fun r_7 =>
  xb r_7 fun v_13 m_11 =>
  (fX4_turnOfLoss q_1 q_4 (ldI m_11 v_13 0) m_11).bind fun r_14 =>
  some (.inl r_14.1, r_14.2)
abbrev rmX11_firstLoss : Room := { frames := 7, cells := 1, slots := 6, locals := 133 }
def fX11_repeatIn (o0 : Nat) (μ : Mem) : Option (Int32 × Mem) :=
  (ldP μ o0 5).bind fun q_1 =>
  (ldP μ o0 2).bind fun q_4 =>
  (fX4_findRepeat q_1 q_4 μ).bind fun r_7 =>
  (ldP r_7 o0 5).bind fun q_10 =>
  some (ldI r_7 q_10 2, r_7)
abbrev rmX11_repeatIn : Room := { frames := 6, cells := 0, slots := 0, locals := 131 }
def fX11_cycle (o0 : Nat) (μ : Mem) : Option (Int32 × Mem) :=
  (ldP μ o0 5).bind fun q_1 =>
  (ldP μ o0 2).bind fun q_4 =>
  (fX4_findRepeat q_1 q_4 μ).bind fun r_7 =>
  (ldP r_7 o0 5).bind fun q_10 =>
  some (ldI r_7 q_10 3, r_7)
abbrev rmX11_cycle : Room := { frames := 6, cells := 0, slots := 0, locals := 131 }
def fX11_leastSpeed (o0 : Nat) (v1 : Int32) (μ : Mem) : Option ((Int32 ⊕ Nat) × Mem) :=
  (ldP μ o0 5).bind fun q_1 =>
  (ldP μ o0 2).bind fun q_4 =>
  (fX11_known o0 v1 μ).bind fun r_7 =>
  xb r_7 fun v_13 m_11 =>
  (fX4_speedToWin q_1 q_4 v_13 m_11).bind fun r_14 =>
  some (.inl r_14.1, r_14.2)
abbrev rmX11_leastSpeed : Room := { frames := 7, cells := 1, slots := 6, locals := 131 }
def fX11_bestPush_25 (o0 : Nat) (v1 : Int32) (v2 : Int32) (μ : Mem) : Option ((Int32 ⊕ Nat) × Mem) :=
  (fX11_demand 0 μ).bind fun r_1 =>
  xb r_1 fun _ m_5 =>
  (ldP m_5 o0 5).bind fun q_8 =>
  (ldP m_5 o0 2).bind fun q_11 =>
  (fX4_whomToPush q_8 q_11 v1 v2 m_5).bind fun r_14 =>
  some (.inl r_14.1, r_14.2)
def fX11_bestPush_9 (o0 : Nat) (v1 : Int32) (v2 : Int32) (μ : Mem) : Option ((Int32 ⊕ Nat) × Mem) :=
  if v2 < 1 then
    fX11_bestPush_25 o0 v1 v2 μ
  else
    if 999 < v2 then
      fX11_bestPush_25 o0 v1 v2 μ
    else
      (fX11_demand 1 μ).bind fun r_1 =>
      xb r_1 fun _ m_5 =>
      (ldP m_5 o0 5).bind fun q_8 =>
      (ldP m_5 o0 2).bind fun q_11 =>
      (fX4_whomToPush q_8 q_11 v1 v2 m_5).bind fun r_14 =>
      some (.inl r_14.1, r_14.2)
def fX11_bestPush (o0 : Nat) (v1 : Int32) (v2 : Int32) (μ : Mem) : Option ((Int32 ⊕ Nat) × Mem) :=
  if v1 = 0 then
    fX11_bestPush_9 o0 v1 v2 μ
  else
    if v1 = 1 then
      fX11_bestPush_9 o0 v1 v2 μ
    else
      fX11_bestPush_25 o0 v1 v2 μ
abbrev rmX11_bestPush : Room := { frames := 7, cells := 1, slots := 6, locals := 138 }
def fX11_bestSwap (o0 : Nat) (v1 : Int32) (μ : Mem) : Option ((Int32 ⊕ Nat) × Mem) :=
  (ldP μ o0 5).bind fun q_1 =>
  (ldP μ o0 2).bind fun q_4 =>
  (fX11_known o0 v1 μ).bind fun r_7 =>
  xb r_7 fun v_13 m_11 =>
  (fX4_withWhomToSwap q_1 q_4 v_13 m_11).bind fun r_14 =>
  some (.inl r_14.1, r_14.2)
abbrev rmX11_bestSwap : Room := { frames := 7, cells := 1, slots := 6, locals := 137 }
def fX11_bestPlace (o0 : Nat) (v1 : Int32) (μ : Mem) : Option ((Int32 ⊕ Nat) × Mem) :=
  (ldP μ o0 5).bind fun q_1 =>
  (ldP μ o0 2).bind fun q_4 =>
  (fX11_known o0 v1 μ).bind fun r_7 =>
  xb r_7 fun v_13 m_11 =>
  (fX4_whereToStart q_1 q_4 v_13 m_11).bind fun r_14 =>
  some (.inl r_14.1, r_14.2)
abbrev rmX11_bestPlace : Room := { frames := 7, cells := 1, slots := 6, locals := 134 }
def fX11_refuse (v0 : Int32) (μ : Mem) : Option ((Unit ⊕ Nat) × Mem) :=
  if v0 = 1 then
    some (.inr 0, μ)
  else
    if v0 = 2 then
      some (.inr 1, μ)
    else
      some (.inl (), μ)
abbrev rmX11_refuse : Room := { frames := 6, cells := 1, slots := 6, locals := 85 }
def fX11_play (o0 : Nat) (v1 : Int32) (μ : Mem) : Option ((Int32 ⊕ Nat) × Mem) :=
  (ldP μ o0 2).bind fun q_1 =>
  (fX2_faultOfPlay q_1 v1 μ).bind fun r_4 =>
  (fX11_refuse r_4 μ).bind fun r_7 =>
  xb r_7 fun _ m_11 =>
  (ldP m_11 o0 6).bind fun q_14 =>
  (ldP m_11 o0 2).bind fun q_17 =>
  (fX5_keep q_14 q_17 m_11).bind fun r_20 =>
  (ldP r_20 o0 2).bind fun q_23 =>
  (fX2_playOn q_23 v1 r_20).bind fun r_26 =>
  some (.inl r_26.1, r_26.2)
abbrev rmX11_play : Room := { frames := 7, cells := 1, slots := 6, locals := 108 }
def fX11_push (o0 : Nat) (v1 : Int32) (v2 : Int32) (μ : Mem) : Option ((Int32 ⊕ Nat) × Mem) :=
  (fX11_known o0 v1 μ).bind fun r_1 =>
  xb r_1 fun v_7 m_5 =>
  (fX3_faultOfShift v_7 v2 m_5).bind fun r_8 =>
  (fX11_refuse r_8 m_5).bind fun r_11 =>
  xb r_11 fun _ m_15 =>
  (ldP m_15 o0 6).bind fun q_18 =>
  (ldP m_15 o0 2).bind fun q_21 =>
  (fX5_keep q_18 q_21 m_15).bind fun r_24 =>
  (fX3_loseGauge v_7 v2 r_24).bind fun r_27 =>
  some (.inl (ldI r_27 v_7 9), r_27)
abbrev rmX11_push : Room := { frames := 7, cells := 1, slots := 6, locals := 106 }
def fX11_lift (o0 : Nat) (v1 : Int32) (v2 : Int32) (μ : Mem) : Option ((Int32 ⊕ Nat) × Mem) :=
  (fX11_known o0 v1 μ).bind fun r_1 =>
  xb r_1 fun v_7 m_5 =>
  (fX3_faultOfShift v_7 v2 m_5).bind fun r_8 =>
  (fX11_refuse r_8 m_5).bind fun r_11 =>
  xb r_11 fun _ m_15 =>
  (ldP m_15 o0 6).bind fun q_18 =>
  (ldP m_15 o0 2).bind fun q_21 =>
  (fX5_keep q_18 q_21 m_15).bind fun r_24 =>
  (fX3_gainGauge v_7 v2 r_24).bind fun r_27 =>
  some (.inl (ldI r_27 v_7 9), r_27)
abbrev rmX11_lift : Room := { frames := 7, cells := 1, slots := 6, locals := 106 }
def fX11_extra (o0 : Nat) (v1 : Int32) (μ : Mem) : Option ((Int32 ⊕ Nat) × Mem) :=
  (fX11_known o0 v1 μ).bind fun r_1 =>
  xb r_1 fun v_7 m_5 =>
  (fX3_faultOfExtra v_7 m_5).bind fun r_8 =>
  (fX11_refuse r_8 m_5).bind fun r_11 =>
  xb r_11 fun _ m_15 =>
  if (ldI m_15 v_7 11) < 3 then
    (ldP m_15 o0 6).bind fun q_18 =>
    (ldP m_15 o0 2).bind fun q_21 =>
    (fX5_keep q_18 q_21 m_15).bind fun r_24 =>
    (fX3_gainExtras v_7 1 r_24).bind fun r_27 =>
    some (.inl 1, r_27)
  else
    some (.inl 0, m_15)
abbrev rmX11_extra : Room := { frames := 7, cells := 1, slots := 6, locals := 106 }
def fX11_setSpeed (o0 : Nat) (v1 : Int32) (v2 : Int32) (μ : Mem) : Option ((Int32 ⊕ Nat) × Mem) :=
  (fX11_known o0 v1 μ).bind fun r_1 =>
  xb r_1 fun v_7 m_5 =>
  (fX3_faultOfSpeed v_7 v2 m_5).bind fun r_8 =>
  (fX11_refuse r_8 m_5).bind fun r_11 =>
  xb r_11 fun _ m_15 =>
  (ldP m_15 o0 6).bind fun q_18 =>
  (ldP m_15 o0 2).bind fun q_21 =>
  (fX5_keep q_18 q_21 m_15).bind fun r_24 =>
  nm (ldI r_24 v_7 6) fun v_27 =>
  nm (stI r_24 v_7 6 v2) fun m_28 =>
  some (.inl v_27, m_28)
abbrev rmX11_setSpeed : Room := { frames := 7, cells := 1, slots := 6, locals := 106 }
def fX11_heal (o0 : Nat) (v1 : Int32) (v2 : Int32) (μ : Mem) : Option ((Int32 ⊕ Nat) × Mem) :=
  (fX11_known o0 v1 μ).bind fun r_1 =>
  xb r_1 fun v_7 m_5 =>
  (fX3_faultOfHeal v_7 v2 m_5).bind fun r_8 =>
  (fX11_refuse r_8 m_5).bind fun r_11 =>
  xb r_11 fun _ m_15 =>
  (ldP m_15 o0 6).bind fun q_18 =>
  (ldP m_15 o0 2).bind fun q_21 =>
  (fX5_keep q_18 q_21 m_15).bind fun r_24 =>
  (fX3_gainLife v_7 v2 r_24).bind fun r_27 =>
  some (.inl (ldI r_27 v_7 7), r_27)
abbrev rmX11_heal : Room := { frames := 7, cells := 1, slots := 6, locals := 106 }
def fX11_setWheel (o0 : Nat) (v1 : Int32) (μ : Mem) : Option ((Int32 ⊕ Nat) × Mem) :=
  (ldP μ o0 2).bind fun q_1 =>
  (fX2_faultOfWheel q_1 v1 μ).bind fun r_4 =>
  (fX11_refuse r_4 μ).bind fun r_7 =>
  xb r_7 fun _ m_11 =>
  (ldP m_11 o0 6).bind fun q_14 =>
  (ldP m_11 o0 2).bind fun q_17 =>
  (fX5_keep q_14 q_17 m_11).bind fun r_20 =>
  (ldP r_20 o0 2).bind fun q_23 =>
  nm (ldI r_20 q_23 3) fun v_26 =>
  (ldP r_20 o0 2).bind fun q_27 =>
  nm (stI r_20 q_27 3 v1) fun m_30 =>
  some (.inl v_26, m_30)
abbrev rmX11_setWheel : Room := { frames := 7, cells := 1, slots := 6, locals := 105 }
def fX11_setAct (o0 : Nat) (v1 : Int32) (v2 : Int32) (v3 : Int32) (v4 : Int32) (μ : Mem) : Option ((Int32 ⊕ Nat) × Mem) :=
  (fX11_known o0 v1 μ).bind fun r_1 =>
  xb r_1 fun v_7 m_5 =>
  (fX3_faultOfAct v_7 v2 v3 v4 m_5).bind fun r_8 =>
  (fX11_refuse r_8 m_5).bind fun r_11 =>
  xb r_11 fun _ m_15 =>
  (ldP m_15 o0 6).bind fun q_18 =>
  (ldP m_15 o0 2).bind fun q_21 =>
  (fX5_keep q_18 q_21 m_15).bind fun r_24 =>
  (fX3_kindAt v_7 v2 r_24).bind fun r_27 =>
  (fX3_putAct v_7 v2 v3 v4 r_24).bind fun r_30 =>
  some (.inl r_27, r_30)
abbrev rmX11_setAct : Room := { frames := 7, cells := 1, slots := 6, locals := 106 }
def fX11_report (o0 : Nat) (μ : Mem) : Option (Int32 × Mem) :=
  (ldP μ o0 7).bind fun q_1 =>
  (ldP μ o0 2).bind fun q_4 =>
  (ldP μ o0 5).bind fun q_7 =>
  (ldP μ o0 2).bind fun q_10 =>
  (fX4_actorOf q_7 q_10 0 μ).bind fun r_13 =>
  (fX7_write q_1 q_4 (ldI r_13.2 r_13.1 0) r_13.2).bind fun r_17 =>
  (ldP r_17 o0 7).bind fun q_20 =>
  some (ldI r_17 q_20 1, r_17)
abbrev rmX11_report : Room := { frames := 7, cells := 0, slots := 0, locals := 152 }
def fX11_reportByte (o0 : Nat) (v1 : Int32) (μ : Mem) : Option ((Int32 ⊕ Nat) × Mem) :=
  if v1 < 0 then
    some (.inr 2, μ)
  else
    (ldP μ o0 7).bind fun q_1 =>
    if v1 < (ldI μ q_1 1) then
      (ldP μ o0 7).bind fun q_4 =>
      (fX7_byteAt q_4 v1 μ).bind fun r_7 =>
      some (.inl r_7, μ)
    else
      some (.inr 2, μ)
abbrev rmX11_reportByte : Room := { frames := 6, cells := 1, slots := 6, locals := 85 }
def fX11_undo (o0 : Nat) (μ : Mem) : Option (Int32 × Mem) :=
  (ldP μ o0 6).bind fun q_1 =>
  (ldP μ o0 2).bind fun q_4 =>
  (fX5_goBack q_1 q_4 μ).bind fun r_7 =>
  if r_7.1 = 0 then
    some ((-1), r_7.2)
  else
    (ldP r_7.2 o0 6).bind fun q_11 =>
    some (ldI r_7.2 q_11 1, r_7.2)
abbrev rmX11_undo : Room := { frames := 4, cells := 0, slots := 0, locals := 89 }
def fX11_save (o0 : Nat) (μ : Mem) : Option (Int32 × Mem) :=
  (ldP μ o0 4).bind fun q_1 =>
  (ldP μ o0 2).bind fun q_4 =>
  (fX2_copyFrom q_1 q_4 μ).bind fun r_7 =>
  nm (stI r_7 o0 8 1) fun m_10 =>
  (ldP m_10 o0 2).bind fun q_11 =>
  some (ldI m_10 q_11 4, m_10)
abbrev rmX11_save : Room := { frames := 3, cells := 0, slots := 0, locals := 68 }
def fX11_restore (o0 : Nat) (μ : Mem) : Option ((Int32 ⊕ Nat) × Mem) :=
  if (ldI μ o0 8) = 0 then
    some (.inr 1, μ)
  else
    (ldP μ o0 2).bind fun q_2 =>
    (ldP μ o0 4).bind fun q_5 =>
    (fX2_copyFrom q_2 q_5 μ).bind fun r_8 =>
    (ldP r_8 o0 6).bind fun q_11 =>
    (fX5_forget q_11 r_8).bind fun r_14 =>
    (ldP r_14 o0 2).bind fun q_17 =>
    some (.inl (ldI r_14 q_17 4), r_14)
abbrev rmX11_restore : Room := { frames := 6, cells := 1, slots := 6, locals := 85 }
def fX12_thrown (o0 : Nat) (μ : Mem) : Option (Int32) :=
  some (ldI μ o0 0)
abbrev rmX12_thrown : Room := { frames := 0, cells := 0, slots := 0, locals := 0 }
def fX12_isIn (v0 : Int64) (v2 : Int64) (v4 : Int64) (μ : Mem) : Option (Int32) :=
  if (lg_cmp v0 v2) < 0 then
    some 0
  else
    if 0 < (lg_cmp v0 v4) then
      some 0
    else
      some 1
abbrev rmX12_isIn : Room := { frames := 0, cells := 0, slots := 0, locals := 0 }
def fX12_truth (v0 : Int32) (μ : Mem) : Option (Int32) :=
  if v0 = 0 then
    some 0
  else
    some 1
abbrev rmX12_truth : Room := { frames := 0, cells := 0, slots := 0, locals := 0 }
def fX12_goes (o0 : Nat) (v1 : Int32) (μ : Mem) : Option (Int32 × Mem) :=
  if v1 = 0 then
    (fX12_truth 1 μ).bind fun r_5 =>
    nm (stI μ o0 0 r_5) fun m_8 =>
    some (v1, m_8)
  else
    (fX12_truth 0 μ).bind fun r_1 =>
    nm (stI μ o0 0 r_1) fun m_4 =>
    some (v1, m_4)
abbrev rmX12_goes : Room := { frames := 1, cells := 0, slots := 0, locals := 20 }
def fX12_goesBoth (o0 : Nat) (v1 : Int32) (v2 : Int32) (μ : Mem) : Option (Int32 × Mem) :=
  if v1 = 0 then
    nm (stI μ o0 0 1) fun m_6 =>
    if (ldI m_6 o0 0) = 0 then
      some (1, m_6)
    else
      some (0, m_6)
  else
    if v2 = 0 then
      nm (stI μ o0 0 2) fun m_3 =>
      if (ldI m_3 o0 0) = 0 then
        some (1, m_3)
      else
        some (0, m_3)
    else
      nm (stI μ o0 0 0) fun m_1 =>
      if (ldI m_1 o0 0) = 0 then
        some (1, m_1)
      else
        some (0, m_1)
abbrev rmX12_goesBoth : Room := { frames := 0, cells := 0, slots := 0, locals := 0 }
def gX12_four_3 (o0 : Nat) (v1 : Int32) (self : Int32 → Mem → Option (Mem)) : Int32 → Mem → Option (Mem) := fun v2 μ =>
  if v2 < 0 then
    some μ
  else
    (ldP μ o0 1).bind fun q_1 =>
    gd (inB (ldI μ o0 2) (Ln q_1)) (nm (stI μ q_1 (ldI μ o0 2).toNatClampNeg ((v1 >>> (v2 &&& 31)) &&& 255)) fun m_4 =>
    nm (stI m_4 o0 2 ((ldI m_4 o0 2) + 1)) fun m_6 =>
    nm (v2 + (-8)) fun v_7 =>
    self v_7 m_6)
def fX12_four_3 (o0 : Nat) (v1 : Int32) : Int32 → Mem → Option (Mem) := zl2 (gX12_four_3 o0 v1) FU
def fX12_four (o0 : Nat) (v1 : Int32) (μ : Mem) : Option (Mem) :=
  fX12_four_3 o0 v1 24 μ
abbrev rmX12_four : Room := { frames := 0, cells := 0, slots := 0, locals := 0 }
def fX12_feed_19 (o0 : Nat) (v1 : Int32) (v2 : Int32) (v3 : Int32) (v4 : Int32) (v5 : Int32) (ot0 : Nat) (vt1 : Int32) (μ : Mem) : Option (Int32 × Mem) :=
  (fX12_goes ot0 vt1 μ).bind fun r_1 =>
  if r_1.1 = 0 then
    some (0, r_1.2)
  else
    (fX12_four o0 v1 r_1.2).bind fun r_5 =>
    (fX12_four o0 v2 r_5).bind fun r_8 =>
    (fX12_four o0 v3 r_8).bind fun r_11 =>
    (fX12_four o0 v4 r_11).bind fun r_14 =>
    (fX12_four o0 v5 r_14).bind fun r_17 =>
    some (ldI r_17 o0 2, r_17)
def fX12_feed (o0 : Nat) (v1 : Int32) (v2 : Int32) (v3 : Int32) (v4 : Int32) (v5 : Int32) (μ : Mem) : Option (Int32 × Mem) :=
  if 600 < ((ldI μ o0 2) + 20) then
    fX12_feed_19 o0 v1 v2 v3 v4 v5 o0 0 μ
  else
    fX12_feed_19 o0 v1 v2 v3 v4 v5 o0 1 μ
abbrev rmX12_feed : Room := { frames := 2, cells := 0, slots := 0, locals := 41 }
def fX12_truncate (o0 : Nat) (v1 : Int32) (μ : Mem) : Option (Int32 × Mem) :=
  (fX12_isIn v1.toInt64 0 ((ldI μ o0 2).toInt64) μ).bind fun r_1 =>
  (fX12_goes o0 r_1 μ).bind fun r_5 =>
  if r_5.1 = 0 then
    some (0, r_5.2)
  else
    nm (stI r_5.2 o0 2 v1) fun m_9 =>
    some (v1, m_9)
abbrev rmX12_truncate : Room := { frames := 2, cells := 0, slots := 0, locals := 41 }
def fX12_here (o0 : Nat) (v1 : Int32) (μ : Mem) : Option (Int32) :=
  if (ldI μ o0 3) ≤ ((ldI μ o0 4) + v1) then
    some ((-1))
  else
    (ldP μ o0 1).bind fun q_1 =>
    gd (inB ((ldI μ o0 4) + v1) (Ln q_1)) (some (ldI μ q_1 ((ldI μ o0 4) + v1).toNatClampNeg))
abbrev rmX12_here : Room := { frames := 0, cells := 0, slots := 0, locals := 0 }
def fX12_isLetter (v0 : Int32) (μ : Mem) : Option (Int32) :=
  if v0 < 97 then
    some 0
  else
    if 122 < v0 then
      some 0
    else
      some 1
abbrev rmX12_isLetter : Room := { frames := 0, cells := 0, slots := 0, locals := 0 }
def fX12_isDigit (v0 : Int32) (μ : Mem) : Option (Int32) :=
  if v0 < 48 then
    some 0
  else
    if 57 < v0 then
      some 0
    else
      some 1
abbrev rmX12_isDigit : Room := { frames := 0, cells := 0, slots := 0, locals := 0 }
def gX12_goOn_76 (o0 : Nat) (self : Int32 → Mem → Option (Mem)) : Int32 → Mem → Option (Mem) := fun v2 μ =>
  (fX12_here o0 v2 μ).bind fun r_1 =>
  (fX12_isLetter r_1 μ).bind fun r_4 =>
  if r_4 = 0 then
    if v2 ≤ 8 then
      nm (stI μ o0 6 1) fun m_8 =>
      nm (stI m_8 o0 4 ((ldI m_8 o0 4) + v2)) fun m_9 =>
      some m_9
    else
      nm (stI μ o0 6 4) fun m_10 =>
      nm (stI m_10 o0 4 ((ldI m_10 o0 4) + v2)) fun m_11 =>
      some m_11
  else
    if 8 ≤ v2 then
      nm (v2 + 1) fun v_13 =>
      self v_13 μ
    else
      (fX12_here o0 v2 μ).bind fun r_14 =>
      nm (stJ μ o0 12 (((ldJ μ o0 12) <<< ((5 : Int32).toInt64 &&& 63)) ||| (((r_14 - 97) + 1).toInt64))) fun m_17 =>
      nm (v2 + 1) fun v_18 =>
      self v_18 m_17
def fX12_goOn_76 (o0 : Nat) : Int32 → Mem → Option (Mem) := zl2 (gX12_goOn_76 o0) FU
def gX12_goOn_146 (o0 : Nat) (self : Int32 → Mem → Option (Mem)) : Int32 → Mem → Option (Mem) := fun v2 μ =>
  (fX12_here o0 v2 μ).bind fun r_1 =>
  (fX12_isDigit r_1 μ).bind fun r_4 =>
  if r_4 = 0 then
    if v2 ≤ 3 then
      nm (stI μ o0 6 2) fun m_8 =>
      nm (stI m_8 o0 4 ((ldI m_8 o0 4) + v2)) fun m_9 =>
      some m_9
    else
      nm (stI μ o0 6 4) fun m_10 =>
      nm (stI m_10 o0 4 ((ldI m_10 o0 4) + v2)) fun m_11 =>
      some m_11
  else
    if 3 ≤ v2 then
      nm (v2 + 1) fun v_13 =>
      self v_13 μ
    else
      (fX12_here o0 v2 μ).bind fun r_14 =>
      nm (stI μ o0 7 (((10 * (ldI μ o0 7)) + r_14) - 48)) fun m_17 =>
      nm (v2 + 1) fun v_18 =>
      self v_18 m_17
def fX12_goOn_146 (o0 : Nat) : Int32 → Mem → Option (Mem) := zl2 (gX12_goOn_146 o0) FU
def fX12_goOn_229 (o0 : Nat) (v1 : Int32) (ot0 : Nat) (vt1 : Int32) (μ : Mem) : Option (Mem) :=
  nm (stI μ ot0 6 vt1) fun m_1 =>
  nm (stI m_1 o0 7 v1) fun m_2 =>
  nm (stI m_2 o0 4 ((ldI m_2 o0 4) + 1)) fun m_3 =>
  some m_3
def fX12_goOn_224 (o0 : Nat) (v1 : Int32) (ot0 : Nat) (μ : Mem) : Option (Mem) :=
  fX12_goOn_229 o0 v1 ot0 3 μ
def gX12_goOn_0 (o0 : Nat) (self : Mem → Option (Mem)) : Mem → Option (Mem) := fun μ =>
  (fX12_here o0 0 μ).bind fun r_1 =>
  if r_1 = 32 then
    nm (stI μ o0 4 ((ldI μ o0 4) + 1)) fun m_4 =>
    self m_4
  else
    (fX12_here o0 0 μ).bind fun r_5 =>
    if r_5 = 10 then
      nm (stI μ o0 4 ((ldI μ o0 4) + 1)) fun m_29 =>
      self m_29
    else
      nm (stI μ o0 5 (ldI μ o0 4)) fun m_8 =>
      nm (stJ m_8 o0 12 0) fun m_9 =>
      nm (stI m_9 o0 7 0) fun m_10 =>
      (fX12_here o0 0 m_10).bind fun r_11 =>
      if 0 ≤ r_11 then
        (fX12_isLetter r_11 m_10).bind fun r_14 =>
        if r_14 = 0 then
          (fX12_isDigit r_11 m_10).bind fun r_18 =>
          if r_18 = 0 then
            if r_11 = 59 then
              fX12_goOn_224 o0 r_11 o0 m_10
            else
              if r_11 = 40 then
                fX12_goOn_224 o0 r_11 o0 m_10
              else
                if r_11 = 41 then
                  fX12_goOn_224 o0 r_11 o0 m_10
                else
                  fX12_goOn_229 o0 r_11 o0 4 m_10
          else
            fX12_goOn_146 o0 0 m_10
        else
          fX12_goOn_76 o0 0 m_10
      else
        nm (stI m_10 o0 6 0) fun m_27 =>
        some m_27
def fX12_goOn_0 (o0 : Nat) : Mem → Option (Mem) := zl1 (gX12_goOn_0 o0) FU
def fX12_goOn (o0 : Nat) (μ : Mem) : Option (Mem) :=
  fX12_goOn_0 o0 μ
abbrev rmX12_goOn : Room := { frames := 1, cells := 0, slots := 0, locals := 21 }
def fX12_wrong (o0 : Nat) (v1 : Int32) (μ : Mem) : Option (Mem) :=
  if (ldI μ o0 8) ≤ 0 then
    if (ldI μ o0 6) = 4 then
      nm (stI μ o0 8 1) fun m_3 =>
      nm (stI m_3 o0 9 (ldI m_3 o0 5)) fun m_4 =>
      some m_4
    else
      nm (stI μ o0 8 v1) fun m_1 =>
      nm (stI m_1 o0 9 (ldI m_1 o0 5)) fun m_2 =>
      some m_2
  else
    some μ
abbrev rmX12_wrong : Room := { frames := 0, cells := 0, slots := 0, locals := 0 }
def fX12_isGood (o0 : Nat) (μ : Mem) : Option (Int32) :=
  if (ldI μ o0 8) = 0 then
    some 1
  else
    some 0
abbrev rmX12_isGood : Room := { frames := 0, cells := 0, slots := 0, locals := 0 }
def fX12_isWord (o0 : Nat) (v1 : Int64) (μ : Mem) : Option (Int32) :=
  if (ldI μ o0 8) = 0 then
    if (ldI μ o0 6) = 1 then
      if (lg_cmp (ldJ μ o0 12) v1) = 0 then
        some 1
      else
        some 0
    else
      some 0
  else
    some 0
abbrev rmX12_isWord : Room := { frames := 0, cells := 0, slots := 0, locals := 0 }
def fX12_isSign (o0 : Nat) (v1 : Int32) (μ : Mem) : Option (Int32) :=
  if (ldI μ o0 8) = 0 then
    if (ldI μ o0 6) = 3 then
      if (ldI μ o0 7) = v1 then
        some 1
      else
        some 0
    else
      some 0
  else
    some 0
abbrev rmX12_isSign : Room := { frames := 0, cells := 0, slots := 0, locals := 0 }
def fX12_mustSign (o0 : Nat) (v1 : Int32) (μ : Mem) : Option (Mem) :=
  (fX12_isGood o0 μ).bind fun r_1 =>
  if r_1 = 0 then
    (fX12_isGood o0 μ).bind fun r_5 =>
    if r_5 = 0 then
      some μ
    else
      (fX12_goOn o0 μ).bind fun r_9 =>
      some r_9
  else
    (fX12_isSign o0 v1 μ).bind fun r_13 =>
    if r_13 = 0 then
      (fX12_wrong o0 1 μ).bind fun r_25 =>
      (fX12_isGood o0 r_25).bind fun r_28 =>
      if r_28 = 0 then
        some r_25
      else
        (fX12_goOn o0 r_25).bind fun r_32 =>
        some r_32
    else
      (fX12_isGood o0 μ).bind fun r_17 =>
      if r_17 = 0 then
        some μ
      else
        (fX12_goOn o0 μ).bind fun r_21 =>
        some r_21
abbrev rmX12_mustSign : Room := { frames := 2, cells := 0, slots := 0, locals := 43 }
def fX12_mustWord (o0 : Nat) (v1 : Int64) (μ : Mem) : Option (Mem) :=
  (fX12_isGood o0 μ).bind fun r_1 =>
  if r_1 = 0 then
    (fX12_isGood o0 μ).bind fun r_5 =>
    if r_5 = 0 then
      some μ
    else
      (fX12_goOn o0 μ).bind fun r_9 =>
      some r_9
  else
    (fX12_isWord o0 v1 μ).bind fun r_13 =>
    if r_13 = 0 then
      (fX12_wrong o0 1 μ).bind fun r_25 =>
      (fX12_isGood o0 r_25).bind fun r_28 =>
      if r_28 = 0 then
        some r_25
      else
        (fX12_goOn o0 r_25).bind fun r_32 =>
        some r_32
    else
      (fX12_isGood o0 μ).bind fun r_17 =>
      if r_17 = 0 then
        some μ
      else
        (fX12_goOn o0 μ).bind fun r_21 =>
        some r_21
abbrev rmX12_mustWord : Room := { frames := 2, cells := 0, slots := 0, locals := 43 }
def fX12_looks_20 (o0 : Nat) (v1 : Int32) (v2 : Int32) (μ : Mem) : Option (Int32 × Mem) :=
  (fX12_isGood o0 μ).bind fun r_1 =>
  if r_1 = 0 then
    some (ldI μ o0 7, μ)
  else
    (fX12_isIn ((ldI μ o0 7).toInt64) v1.toInt64 v2.toInt64 μ).bind fun r_5 =>
    if r_5 = 0 then
      (fX12_wrong o0 2 μ).bind fun r_9 =>
      some (ldI r_9 o0 7, r_9)
    else
      some (ldI μ o0 7, μ)
def fX12_looks (o0 : Nat) (v1 : Int32) (v2 : Int32) (μ : Mem) : Option (Int32 × Mem) :=
  (fX12_isGood o0 μ).bind fun r_1 =>
  if r_1 = 0 then
    fX12_looks_20 o0 v1 v2 μ
  else
    if (ldI μ o0 6) = 2 then
      fX12_looks_20 o0 v1 v2 μ
    else
      (fX12_wrong o0 1 μ).bind fun r_5 =>
      fX12_looks_20 o0 v1 v2 r_5
abbrev rmX12_looks : Room := { frames := 1, cells := 0, slots := 0, locals := 25 }
def fX12_number (o0 : Nat) (v1 : Int32) (v2 : Int32) (μ : Mem) : Option (Int32 × Mem) :=
  (fX12_looks o0 v1 v2 μ).bind fun r_1 =>
  (fX12_isGood o0 r_1.2).bind fun r_4 =>
  if r_4 = 0 then
    some (r_1.1, r_1.2)
  else
    (fX12_goOn o0 r_1.2).bind fun r_8 =>
    some (r_1.1, r_8)
abbrev rmX12_number : Room := { frames := 2, cells := 0, slots := 0, locals := 47 }
def fX12_beginsText (o0 : Nat) (μ : Mem) : Option (Mem) :=
  nm (stI μ o0 3 (ldI μ o0 2)) fun m_1 =>
  nm (stI m_1 o0 2 0) fun m_2 =>
  nm (stI m_2 o0 4 0) fun m_3 =>
  nm (stI m_3 o0 8 0) fun m_4 =>
  nm (stI m_4 o0 9 ((-1))) fun m_5 =>
  (fX12_goOn o0 m_5).bind fun r_6 =>
  some r_6
abbrev rmX12_beginsText : Room := { frames := 2, cells := 0, slots := 0, locals := 43 }
def fX12_endsText (o0 : Nat) (μ : Mem) : Option (Int32 × Mem) :=
  nm (stI μ o0 10 (ldI μ o0 8)) fun m_1 =>
  nm (stI m_1 o0 11 (ldI m_1 o0 9)) fun m_2 =>
  if (ldI m_2 o0 8) = 0 then
    (fX12_goes o0 1 m_2).bind fun r_7 =>
    some (r_7.1, r_7.2)
  else
    (fX12_goes o0 0 m_2).bind fun r_3 =>
    some (r_3.1, r_3.2)
abbrev rmX12_endsText : Room := { frames := 2, cells := 0, slots := 0, locals := 41 }
def fX12_errorCode (o0 : Nat) (μ : Mem) : Option (Int32 × Mem) :=
  nm (stI μ o0 0 0) fun m_1 =>
  some (ldI m_1 o0 10, m_1)
abbrev rmX12_errorCode : Room := { frames := 0, cells := 0, slots := 0, locals := 0 }
def fX12_errorPosition (o0 : Nat) (μ : Mem) : Option (Int32 × Mem) :=
  nm (stI μ o0 0 0) fun m_1 =>
  some (ldI m_1 o0 11, m_1)
abbrev rmX12_errorPosition : Room := { frames := 0, cells := 0, slots := 0, locals := 0 }
def gX12_copiesRow_3 (o0 : Nat) (v1 : Int32) (o2 : Nat) (v3 : Int32) (self : Int32 → Mem → Option (Mem)) : Int32 → Mem → Option (Mem) := fun v4 μ =>
  if 196 ≤ v4 then
    some μ
  else
    gd (inB (v1 + v4) (Ln o0)) (gd (inB (v3 + v4) (Ln o2)) (nm (stI μ o2 (v3 + v4).toNatClampNeg (ldI μ o0 (v1 + v4).toNatClampNeg)) fun m_2 =>
    nm (v4 + 1) fun v_4 =>
    self v_4 m_2))
def fX12_copiesRow_3 (o0 : Nat) (v1 : Int32) (o2 : Nat) (v3 : Int32) : Int32 → Mem → Option (Mem) := zl2 (gX12_copiesRow_3 o0 v1 o2 v3) FU
def fX12_copiesRow (o0 : Nat) (v1 : Int32) (o2 : Nat) (v3 : Int32) (μ : Mem) : Option (Mem) :=
  fX12_copiesRow_3 o0 v1 o2 v3 0 μ
abbrev rmX12_copiesRow : Room := { frames := 0, cells := 0, slots := 0, locals := 0 }
def gX12_copiesNames_2 (o0 : Nat) (o1 : Nat) (self : Int32 → Mem → Option (Mem)) : Int32 → Mem → Option (Mem) := fun v2 μ =>
  if 8 ≤ v2 then
    some μ
  else
    gd (inB v2 (Ln o0)) (gd (inB v2 (Ln o1)) (nm (stJ μ o1 (v2).toNatClampNeg (ldJ μ o0 (v2).toNatClampNeg)) fun m_2 =>
    nm (v2 + 1) fun v_4 =>
    self v_4 m_2))
def fX12_copiesNames_2 (o0 : Nat) (o1 : Nat) : Int32 → Mem → Option (Mem) := zl2 (gX12_copiesNames_2 o0 o1) FU
def fX12_copiesNames (o0 : Nat) (o1 : Nat) (μ : Mem) : Option (Mem) :=
  fX12_copiesNames_2 o0 o1 0 μ
abbrev rmX12_copiesNames : Room := { frames := 0, cells := 0, slots := 0, locals := 0 }
def gX12_clears_24 (o0 : Nat) (self : Int32 → Mem → Option (Mem)) : Int32 → Mem → Option (Mem) := fun v1 μ =>
  if 8 ≤ v1 then
    (ldP μ o0 13).bind fun q_1 =>
    gd (inB 1 (Ln q_1)) (nm (stI μ q_1 (1 : Int32).toNatClampNeg 300) fun m_4 =>
    some m_4)
  else
    (ldP μ o0 18).bind fun q_6 =>
    gd (inB v1 (Ln q_6)) (nm (stJ μ q_6 (v1).toNatClampNeg 0) fun m_9 =>
    nm (v1 + 1) fun v_11 =>
    self v_11 m_9)
def fX12_clears_24 (o0 : Nat) : Int32 → Mem → Option (Mem) := zl2 (gX12_clears_24 o0) FU
def gX12_clears_2 (o0 : Nat) (self : Int32 → Mem → Option (Mem)) : Int32 → Mem → Option (Mem) := fun v1 μ =>
  if 196 ≤ v1 then
    fX12_clears_24 o0 0 μ
  else
    (ldP μ o0 13).bind fun q_1 =>
    gd (inB v1 (Ln q_1)) (nm (stI μ q_1 (v1).toNatClampNeg 0) fun m_4 =>
    nm (v1 + 1) fun v_6 =>
    self v_6 m_4)
def fX12_clears_2 (o0 : Nat) : Int32 → Mem → Option (Mem) := zl2 (gX12_clears_2 o0) FU
def fX12_clears (o0 : Nat) (μ : Mem) : Option (Mem) :=
  fX12_clears_2 o0 0 μ
abbrev rmX12_clears : Room := { frames := 0, cells := 0, slots := 0, locals := 0 }
def fX12_laysAside (o0 : Nat) (μ : Mem) : Option (Mem) :=
  (ldP μ o0 13).bind fun q_1 =>
  (ldP μ o0 15).bind fun q_4 =>
  (fX12_copiesRow q_1 0 q_4 0 μ).bind fun r_7 =>
  some r_7
abbrev rmX12_laysAside : Room := { frames := 1, cells := 0, slots := 0, locals := 24 }
def fX12_keeps_55 (o0 : Nat) (μ : Mem) : Option (Mem) :=
  (ldP μ o0 15).bind fun q_1 =>
  (ldP μ o0 17).bind fun q_4 =>
  (fX12_copiesRow q_1 0 q_4 (196 * (ldI μ o0 21)) μ).bind fun r_7 =>
  nm (stI r_7 o0 21 ((ldI r_7 o0 21) + 1)) fun m_10 =>
  some m_10
def gX12_keeps_21 (o0 : Nat) (self : Int32 → Mem → Option (Mem)) : Int32 → Mem → Option (Mem) := fun v1 μ =>
  if (196 * (ldI μ o0 21)) ≤ v1 then
    fX12_keeps_55 o0 μ
  else
    (ldP μ o0 17).bind fun q_1 =>
    (ldP μ o0 17).bind fun q_4 =>
    gd (inB (v1 + 196) (Ln q_4)) (gd (inB v1 (Ln q_1)) (nm (stI μ q_1 (v1).toNatClampNeg (ldI μ q_4 (v1 + 196).toNatClampNeg)) fun m_8 =>
    nm (v1 + 1) fun v_10 =>
    self v_10 m_8))
def fX12_keeps_21 (o0 : Nat) : Int32 → Mem → Option (Mem) := zl2 (gX12_keeps_21 o0) FU
def fX12_keeps (o0 : Nat) (μ : Mem) : Option (Mem) :=
  if (ldI μ o0 21) = 6 then
    nm (stI μ o0 21 ((ldI μ o0 21) - 1)) fun m_1 =>
    fX12_keeps_21 o0 0 m_1
  else
    fX12_keeps_55 o0 μ
abbrev rmX12_keeps : Room := { frames := 1, cells := 0, slots := 0, locals := 24 }
def fX12_kept (o0 : Nat) (v1 : Int32) (μ : Mem) : Option (Int32 × Mem) :=
  (fX12_keeps o0 μ).bind fun r_1 =>
  some (v1, r_1)
abbrev rmX12_kept : Room := { frames := 2, cells := 0, slots := 0, locals := 45 }
def fX12_undo (o0 : Nat) (μ : Mem) : Option (Int32 × Mem) :=
  nm (stI μ o0 0 0) fun m_1 =>
  if (ldI m_1 o0 21) = 0 then
    some ((-1), m_1)
  else
    nm (stI m_1 o0 21 ((ldI m_1 o0 21) - 1)) fun m_2 =>
    (ldP m_2 o0 17).bind fun q_3 =>
    (ldP m_2 o0 13).bind fun q_6 =>
    (fX12_copiesRow q_3 (196 * (ldI m_2 o0 21)) q_6 0 m_2).bind fun r_9 =>
    some (ldI r_9 o0 21, r_9)
abbrev rmX12_undo : Room := { frames := 1, cells := 0, slots := 0, locals := 24 }
def fX12_save (o0 : Nat) (μ : Mem) : Option (Int32 × Mem) :=
  nm (stI μ o0 0 0) fun m_1 =>
  (ldP m_1 o0 13).bind fun q_2 =>
  (ldP m_1 o0 14).bind fun q_5 =>
  (fX12_copiesRow q_2 0 q_5 0 m_1).bind fun r_8 =>
  (ldP r_8 o0 18).bind fun q_11 =>
  (ldP r_8 o0 19).bind fun q_14 =>
  (fX12_copiesNames q_11 q_14 r_8).bind fun r_17 =>
  nm (stI r_17 o0 22 1) fun m_20 =>
  (ldP m_20 o0 13).bind fun q_21 =>
  gd (inB 2 (Ln q_21)) (some (ldI m_20 q_21 (2 : Int32).toNatClampNeg, m_20))
abbrev rmX12_save : Room := { frames := 1, cells := 0, slots := 0, locals := 24 }
def fX12_restore (o0 : Nat) (μ : Mem) : Option (Int32 × Mem) :=
  (fX12_goes o0 (ldI μ o0 22) μ).bind fun r_2 =>
  if r_2.1 = 0 then
    some (0, r_2.2)
  else
    (ldP r_2.2 o0 14).bind fun q_6 =>
    (ldP r_2.2 o0 13).bind fun q_9 =>
    (fX12_copiesRow q_6 0 q_9 0 r_2.2).bind fun r_12 =>
    (ldP r_12 o0 19).bind fun q_15 =>
    (ldP r_12 o0 18).bind fun q_18 =>
    (fX12_copiesNames q_15 q_18 r_12).bind fun r_21 =>
    nm (stI r_21 o0 21 0) fun m_24 =>
    (ldP m_24 o0 13).bind fun q_25 =>
    gd (inB 2 (Ln q_25)) (some (ldI m_24 q_25 (2 : Int32).toNatClampNeg, m_24))
abbrev rmX12_restore : Room := { frames := 2, cells := 0, slots := 0, locals := 41 }
def fX12_cellOf (v0 : Int32) (v1 : Int32) (μ : Mem) : Option (Int32) :=
  some ((4 + (12 * v0)) + v1)
abbrev rmX12_cellOf : Room := { frames := 0, cells := 0, slots := 0, locals := 0 }
def fX12_of (o0 : Nat) (v1 : Int32) (v2 : Int32) (μ : Mem) : Option (Int32) :=
  (ldP μ o0 13).bind fun q_1 =>
  (fX12_cellOf v1 v2 μ).bind fun r_4 =>
  gd (inB r_4 (Ln q_1)) (some (ldI μ q_1 (r_4).toNatClampNeg))
abbrev rmX12_of : Room := { frames := 1, cells := 0, slots := 0, locals := 21 }
def fX12_sets (o0 : Nat) (v1 : Int32) (v2 : Int32) (v3 : Int32) (μ : Mem) : Option (Mem) :=
  (ldP μ o0 13).bind fun q_1 =>
  (fX12_cellOf v1 v2 μ).bind fun r_4 =>
  gd (inB r_4 (Ln q_1)) (nm (stI μ q_1 (r_4).toNatClampNeg v3) fun m_7 =>
  some m_7)
abbrev rmX12_sets : Room := { frames := 1, cells := 0, slots := 0, locals := 21 }
def fX12_mustBeWord (o0 : Nat) (μ : Mem) : Option (Mem) :=
  (fX12_isGood o0 μ).bind fun r_1 =>
  if r_1 = 0 then
    some μ
  else
    if (ldI μ o0 6) = 1 then
      some μ
    else
      (fX12_wrong o0 1 μ).bind fun r_5 =>
      some r_5
abbrev rmX12_mustBeWord : Room := { frames := 1, cells := 0, slots := 0, locals := 21 }
def gX12_named_4 (o0 : Nat) (μ : Mem) (self : Int32 → Int32 → Option (Int32)) : Int32 → Int32 → Option (Int32) := fun v1 v2 =>
  (ldP μ o0 13).bind fun q_1 =>
  gd (inB 0 (Ln q_1)) (if (ldI μ q_1 (0 : Int32).toNatClampNeg) ≤ v2 then
    some v1
  else
    (ldP μ o0 18).bind fun q_5 =>
    gd (inB v2 (Ln q_5)) (if (lg_cmp (ldJ μ q_5 (v2).toNatClampNeg) (ldJ μ o0 12)) = 0 then
      nm (v2 + 1) fun v_10 =>
      self v2 v_10
    else
      nm (v2 + 1) fun v_9 =>
      self v1 v_9))
def fX12_named_4 (o0 : Nat) (μ : Mem) : Int32 → Int32 → Option (Int32) := zl2 (gX12_named_4 o0 μ) FU
def fX12_named (o0 : Nat) (μ : Mem) : Option (Int32) :=
  fX12_named_4 o0 μ ((-1)) 0
abbrev rmX12_named : Room := { frames := 0, cells := 0, slots := 0, locals := 0 }
def fX12_kindHere (o0 : Nat) (μ : Mem) : Option (Int32) :=
  (fX12_isWord o0 8500 μ).bind fun r_1 =>
  if r_1 = 0 then
    (fX12_isWord o0 546408 μ).bind fun r_5 =>
    if r_5 = 0 then
      (fX12_isWord o0 402644 μ).bind fun r_9 =>
      if r_9 = 0 then
        (fX12_isWord o0 8029764 μ).bind fun r_13 =>
        if r_13 = 0 then
          (fX12_isWord o0 1279278 μ).bind fun r_17 =>
          if r_17 = 0 then
            (fX12_isWord o0 20452516 μ).bind fun r_21 =>
            if r_21 = 0 then
              (fX12_isWord o0 595572 μ).bind fun r_25 =>
              if r_25 = 0 then
                some ((-1))
              else
                some 6
            else
              some 5
          else
            some 4
        else
          some 3
      else
        some 2
    else
      some 1
  else
    some 0
abbrev rmX12_kindHere : Room := { frames := 1, cells := 0, slots := 0, locals := 22 }
def fX12_mostOf (v0 : Int32) (μ : Mem) : Option (Int32) :=
  if v0 = 1 then
    some 999
  else
    if v0 = 2 then
      some 999
    else
      if v0 = 4 then
        some 3
      else
        some 99
abbrev rmX12_mostOf : Room := { frames := 0, cells := 0, slots := 0, locals := 0 }
def fX12_readsAct_59 (o0 : Nat) (v1 : Int32) (v2 : Int32) (v3 : Int32) (μ : Mem) : Option (Mem) :=
  (fX12_mostOf v2 μ).bind fun r_1 =>
  (fX12_number o0 1 r_1 μ).bind fun r_4 =>
  (fX12_isGood o0 r_4.2).bind fun r_7 =>
  if r_7 = 0 then
    some r_4.2
  else
    (ldP r_4.2 o0 13).bind fun q_11 =>
    gd (inB ((100 + (6 * v1)) + v3) (Ln q_11)) (nm (stI r_4.2 q_11 ((100 + (6 * v1)) + v3).toNatClampNeg v2) fun m_14 =>
    (ldP m_14 o0 13).bind fun q_16 =>
    gd (inB ((148 + (6 * v1)) + v3) (Ln q_16)) (nm (stI m_14 q_16 ((148 + (6 * v1)) + v3).toNatClampNeg r_4.1) fun m_19 =>
    (fX12_sets o0 v1 8 (v3 + 1) m_19).bind fun r_21 =>
    some r_21))
def fX12_readsAct_48 (o0 : Nat) (v1 : Int32) (v2 : Int32) (v3 : Int32) (μ : Mem) : Option (Mem) :=
  (fX12_isGood o0 μ).bind fun r_1 =>
  if r_1 = 0 then
    fX12_readsAct_59 o0 v1 v2 v3 μ
  else
    (fX12_goOn o0 μ).bind fun r_5 =>
    fX12_readsAct_59 o0 v1 v2 v3 r_5
def fX12_readsAct_30 (o0 : Nat) (v1 : Int32) (v2 : Int32) (v3 : Int32) (μ : Mem) : Option (Mem) :=
  (fX12_isGood o0 μ).bind fun r_1 =>
  if r_1 = 0 then
    fX12_readsAct_48 o0 v1 v2 v3 μ
  else
    if v3 = 6 then
      (fX12_wrong o0 5 μ).bind fun r_5 =>
      fX12_readsAct_48 o0 v1 v2 v3 r_5
    else
      fX12_readsAct_48 o0 v1 v2 v3 μ
def fX12_readsAct (o0 : Nat) (v1 : Int32) (μ : Mem) : Option (Mem) :=
  (fX12_kindHere o0 μ).bind fun r_1 =>
  (fX12_of o0 v1 8 μ).bind fun r_4 =>
  (fX12_isGood o0 μ).bind fun r_7 =>
  if r_7 = 0 then
    fX12_readsAct_30 o0 v1 r_1 r_4 μ
  else
    if r_1 = ((-1)) then
      (fX12_wrong o0 1 μ).bind fun r_11 =>
      fX12_readsAct_30 o0 v1 r_1 r_4 r_11
    else
      fX12_readsAct_30 o0 v1 r_1 r_4 μ
abbrev rmX12_readsAct : Room := { frames := 3, cells := 0, slots := 0, locals := 70 }
def fX12_after (o0 : Nat) (v1 : Int64) (v3 : Int32) (v4 : Int32) (μ : Mem) : Option (Int32 × Mem) :=
  (fX12_mustWord o0 v1 μ).bind fun r_1 =>
  (fX12_number o0 v3 v4 r_1).bind fun r_4 =>
  some (r_4.1, r_4.2)
abbrev rmX12_after : Room := { frames := 3, cells := 0, slots := 0, locals := 70 }
def fX12_side_34 (o0 : Nat) (v1 : Int32) (μ : Mem) : Option (Int32 × Mem) :=
  (fX12_isGood o0 μ).bind fun r_1 =>
  if r_1 = 0 then
    (fX12_truth v1 μ).bind fun r_5 =>
    some (r_5, μ)
  else
    (fX12_goOn o0 μ).bind fun r_8 =>
    (fX12_truth v1 r_8).bind fun r_11 =>
    some (r_11, r_8)
def fX12_side (o0 : Nat) (μ : Mem) : Option (Int32 × Mem) :=
  (fX12_isWord o0 19176724 μ).bind fun r_1 =>
  (fX12_isGood o0 μ).bind fun r_5 =>
  if r_5 = 0 then
    fX12_side_34 o0 r_1 μ
  else
    if r_1 = 0 then
      (fX12_isWord o0 398548 μ).bind fun r_9 =>
      if r_9 = 0 then
        (fX12_wrong o0 1 μ).bind fun r_13 =>
        fX12_side_34 o0 r_1 r_13
      else
        fX12_side_34 o0 r_1 μ
    else
      fX12_side_34 o0 r_1 μ
abbrev rmX12_side : Room := { frames := 2, cells := 0, slots := 0, locals := 43 }
def fX12_readsFighter_190 (o0 : Nat) (μ : Mem) : Option (Mem) :=
  (fX12_isGood o0 μ).bind fun r_1 =>
  if r_1 = 0 then
    some μ
  else
    (ldP μ o0 13).bind fun q_5 =>
    gd (inB 0 (Ln q_5)) (gd (inB 0 (Ln q_5)) (nm (stI μ q_5 (0 : Int32).toNatClampNeg ((ldI μ q_5 (0 : Int32).toNatClampNeg) + 1)) fun m_9 =>
    some m_9))
def gX12_readsFighter_167 (o0 : Nat) (v1 : Int32) (self : Mem → Option (Mem)) : Mem → Option (Mem) := fun μ =>
  (fX12_isGood o0 μ).bind fun r_1 =>
  if r_1 = 0 then
    fX12_readsFighter_190 o0 μ
  else
    if (ldI μ o0 6) = 1 then
      (fX12_readsAct o0 v1 μ).bind fun r_5 =>
      self r_5
    else
      fX12_readsFighter_190 o0 μ
def fX12_readsFighter_167 (o0 : Nat) (v1 : Int32) : Mem → Option (Mem) := zl1 (gX12_readsFighter_167 o0 v1) FU
def fX12_readsFighter_152 (o0 : Nat) (v1 : Int32) (ot0 : Nat) (vt1 : Int32) (vt2 : Int32) (vt3 : Int32) (μ : Mem) : Option (Mem) :=
  (fX12_sets ot0 vt1 vt2 vt3 μ).bind fun r_1 =>
  (fX12_mustWord o0 536622 r_1).bind fun r_4 =>
  (fX12_readsAct o0 v1 r_4).bind fun r_7 =>
  fX12_readsFighter_167 o0 v1 r_7
def fX12_readsFighter_134 (o0 : Nat) (v1 : Int32) (v2 : Int32) (μ : Mem) : Option (Mem) :=
  if v2 = 0 then
    fX12_readsFighter_152 o0 v1 o0 v1 3 0 μ
  else
    (fX12_number o0 0 9 μ).bind fun r_1 =>
    fX12_readsFighter_152 o0 v1 o0 v1 3 r_1.1 r_1.2
def fX12_readsFighter_53 (o0 : Nat) (v1 : Int32) (μ : Mem) : Option (Mem) :=
  (fX12_isGood o0 μ).bind fun r_1 =>
  if r_1 = 0 then
    some μ
  else
    (ldP μ o0 18).bind fun q_5 =>
    gd (inB v1 (Ln q_5)) (nm (stJ μ q_5 (v1).toNatClampNeg (ldJ μ o0 12)) fun m_8 =>
    (fX12_goOn o0 m_8).bind fun r_10 =>
    (fX12_side o0 r_10).bind fun r_13 =>
    (fX12_sets o0 v1 0 r_13.1 r_13.2).bind fun r_16 =>
    (fX12_after o0 20452516 1 99 r_16).bind fun r_19 =>
    (fX12_sets o0 v1 1 r_19.1 r_19.2).bind fun r_22 =>
    (fX12_after o0 402629 1 999 r_22).bind fun r_25 =>
    (fX12_sets o0 v1 2 r_25.1 r_25.2).bind fun r_28 =>
    (fX12_isWord o0 414827 r_28).bind fun r_31 =>
    if r_31 = 0 then
      fX12_readsFighter_134 o0 v1 r_31 r_28
    else
      (fX12_goOn o0 r_28).bind fun r_35 =>
      fX12_readsFighter_134 o0 v1 r_31 r_35)
def fX12_readsFighter_29 (o0 : Nat) (v1 : Int32) (μ : Mem) : Option (Mem) :=
  (fX12_mustBeWord o0 μ).bind fun r_1 =>
  (fX12_isGood o0 r_1).bind fun r_4 =>
  if r_4 = 0 then
    fX12_readsFighter_53 o0 v1 r_1
  else
    (fX12_named o0 r_1).bind fun r_8 =>
    if r_8 = ((-1)) then
      fX12_readsFighter_53 o0 v1 r_1
    else
      (fX12_wrong o0 3 r_1).bind fun r_11 =>
      fX12_readsFighter_53 o0 v1 r_11
def fX12_readsFighter_18 (o0 : Nat) (v1 : Int32) (μ : Mem) : Option (Mem) :=
  (fX12_isGood o0 μ).bind fun r_1 =>
  if r_1 = 0 then
    fX12_readsFighter_29 o0 v1 μ
  else
    (fX12_goOn o0 μ).bind fun r_5 =>
    fX12_readsFighter_29 o0 v1 r_5
def fX12_readsFighter (o0 : Nat) (μ : Mem) : Option (Mem) :=
  (ldP μ o0 13).bind fun q_1 =>
  gd (inB 0 (Ln q_1)) (nm (ldI μ q_1 (0 : Int32).toNatClampNeg) fun v_5 =>
  if v_5 = 8 then
    (fX12_wrong o0 5 μ).bind fun r_6 =>
    fX12_readsFighter_18 o0 v_5 r_6
  else
    fX12_readsFighter_18 o0 v_5 μ)
abbrev rmX12_readsFighter : Room := { frames := 4, cells := 0, slots := 0, locals := 94 }
def fX12_readsWheel_28 (o0 : Nat) (μ : Mem) : Option (Mem) :=
  (fX12_number o0 100 999 μ).bind fun r_1 =>
  (fX12_isGood o0 r_1.2).bind fun r_4 =>
  if r_4 = 0 then
    some r_1.2
  else
    (ldP r_1.2 o0 13).bind fun q_8 =>
    gd (inB 1 (Ln q_8)) (nm (stI r_1.2 q_8 (1 : Int32).toNatClampNeg r_1.1) fun m_11 =>
    some m_11)
def fX12_readsWheel_12 (o0 : Nat) (μ : Mem) : Option (Mem) :=
  nm (stI μ o0 23 1) fun m_1 =>
  (fX12_isGood o0 m_1).bind fun r_2 =>
  if r_2 = 0 then
    fX12_readsWheel_28 o0 m_1
  else
    (fX12_goOn o0 m_1).bind fun r_6 =>
    fX12_readsWheel_28 o0 r_6
def fX12_readsWheel (o0 : Nat) (μ : Mem) : Option (Mem) :=
  if (ldI μ o0 23) = 0 then
    fX12_readsWheel_12 o0 μ
  else
    (fX12_wrong o0 3 μ).bind fun r_2 =>
    fX12_readsWheel_12 o0 r_2
abbrev rmX12_readsWheel : Room := { frames := 3, cells := 0, slots := 0, locals := 70 }
def fX12_statement (o0 : Nat) (μ : Mem) : Option (Mem) :=
  (fX12_isWord o0 24384684 μ).bind fun r_1 =>
  if r_1 = 0 then
    (fX12_isWord o0 6752063666 μ).bind fun r_5 =>
    if r_5 = 0 then
      (fX12_wrong o0 1 μ).bind fun r_9 =>
      (fX12_mustSign o0 59 r_9).bind fun r_12 =>
      some r_12
    else
      (fX12_readsFighter o0 μ).bind fun r_15 =>
      (fX12_mustSign o0 59 r_15).bind fun r_18 =>
      some r_18
  else
    (fX12_readsWheel o0 μ).bind fun r_22 =>
    (fX12_mustSign o0 59 r_22).bind fun r_25 =>
    some r_25
abbrev rmX12_statement : Room := { frames := 5, cells := 0, slots := 0, locals := 116 }
def fX12_readText_49 (o0 : Nat) (μ : Mem) : Option (Int32 × Mem) :=
  (fX12_endsText o0 μ).bind fun r_1 =>
  if r_1.1 = 0 then
    (ldP r_1.2 o0 15).bind fun q_10 =>
    (ldP r_1.2 o0 13).bind fun q_13 =>
    (fX12_copiesRow q_10 0 q_13 0 r_1.2).bind fun r_16 =>
    (ldP r_16 o0 20).bind fun q_19 =>
    (ldP r_16 o0 18).bind fun q_22 =>
    (fX12_copiesNames q_19 q_22 r_16).bind fun r_25 =>
    some (0, r_25)
  else
    nm (stI r_1.2 o0 21 0) fun m_5 =>
    (ldP m_5 o0 13).bind fun q_6 =>
    gd (inB 0 (Ln q_6)) (some (ldI m_5 q_6 (0 : Int32).toNatClampNeg, m_5))
def gX12_readText_28 (o0 : Nat) (self : Mem → Option (Int32 × Mem)) : Mem → Option (Int32 × Mem) := fun μ =>
  (fX12_isGood o0 μ).bind fun r_1 =>
  if r_1 = 0 then
    fX12_readText_49 o0 μ
  else
    if (ldI μ o0 6) = 0 then
      fX12_readText_49 o0 μ
    else
      (fX12_statement o0 μ).bind fun r_5 =>
      self r_5
def fX12_readText_28 (o0 : Nat) : Mem → Option (Int32 × Mem) := zl1 (gX12_readText_28 o0) FU
def fX12_readText (o0 : Nat) (μ : Mem) : Option (Int32 × Mem) :=
  (fX12_beginsText o0 μ).bind fun r_1 =>
  (fX12_laysAside o0 r_1).bind fun r_4 =>
  (ldP r_4 o0 18).bind fun q_7 =>
  (ldP r_4 o0 20).bind fun q_10 =>
  (fX12_copiesNames q_7 q_10 r_4).bind fun r_13 =>
  (fX12_clears o0 r_13).bind fun r_16 =>
  nm (stI r_16 o0 23 0) fun m_19 =>
  fX12_readText_28 o0 m_19
abbrev rmX12_readText : Room := { frames := 6, cells := 0, slots := 0, locals := 136 }
def fX12_lesser (v0 : Int32) (v1 : Int32) (μ : Mem) : Option (Int32) :=
  if v1 ≤ v0 then
    some v1
  else
    some v0
abbrev rmX12_lesser : Room := { frames := 0, cells := 0, slots := 0, locals := 0 }
def fX12_greater (v0 : Int32) (v1 : Int32) (μ : Mem) : Option (Int32) :=
  if v0 ≤ v1 then
    some v1
  else
    some v0
abbrev rmX12_greater : Room := { frames := 0, cells := 0, slots := 0, locals := 0 }
def fX12_lives (o0 : Nat) (v1 : Int32) (μ : Mem) : Option (Int32) :=
  (fX12_of o0 v1 2 μ).bind fun r_1 =>
  if r_1 ≤ 0 then
    some 0
  else
    some 1
abbrev rmX12_lives : Room := { frames := 2, cells := 0, slots := 0, locals := 43 }
def gX12_livingOn_4 (o0 : Nat) (v1 : Int32) (μ : Mem) (self : Int32 → Int32 → Option (Int32)) : Int32 → Int32 → Option (Int32) := fun v2 v3 =>
  (ldP μ o0 13).bind fun q_1 =>
  gd (inB 0 (Ln q_1)) (if (ldI μ q_1 (0 : Int32).toNatClampNeg) ≤ v3 then
    some v2
  else
    (fX12_lives o0 v3 μ).bind fun r_5 =>
    if r_5 = 0 then
      (fX12_truth 0 μ).bind fun r_9 =>
      nm (v2 + r_9) fun v_12 =>
      nm (v3 + 1) fun v_13 =>
      self v_12 v_13
    else
      (fX12_of o0 v3 0 μ).bind fun r_14 =>
      if r_14 = v1 then
        (fX12_truth 1 μ).bind fun r_22 =>
        nm (v2 + r_22) fun v_25 =>
        nm (v3 + 1) fun v_26 =>
        self v_25 v_26
      else
        (fX12_truth 0 μ).bind fun r_17 =>
        nm (v2 + r_17) fun v_20 =>
        nm (v3 + 1) fun v_21 =>
        self v_20 v_21)
def fX12_livingOn_4 (o0 : Nat) (v1 : Int32) (μ : Mem) : Int32 → Int32 → Option (Int32) := zl2 (gX12_livingOn_4 o0 v1 μ) FU
def fX12_livingOn (o0 : Nat) (v1 : Int32) (μ : Mem) : Option (Int32) :=
  fX12_livingOn_4 o0 v1 μ 0 0
abbrev rmX12_livingOn : Room := { frames := 3, cells := 0, slots := 0, locals := 64 }
def gX12_lifeOn_4 (o0 : Nat) (v1 : Int32) (μ : Mem) (self : Int32 → Int32 → Option (Int32)) : Int32 → Int32 → Option (Int32) := fun v2 v3 =>
  (ldP μ o0 13).bind fun q_1 =>
  gd (inB 0 (Ln q_1)) (if (ldI μ q_1 (0 : Int32).toNatClampNeg) ≤ v3 then
    some v2
  else
    (fX12_of o0 v3 0 μ).bind fun r_5 =>
    if r_5 = v1 then
      (fX12_of o0 v3 2 μ).bind fun r_10 =>
      nm (v2 + r_10) fun v_13 =>
      nm (v3 + 1) fun v_14 =>
      self v_13 v_14
    else
      nm (v2 + 0) fun v_8 =>
      nm (v3 + 1) fun v_9 =>
      self v_8 v_9)
def fX12_lifeOn_4 (o0 : Nat) (v1 : Int32) (μ : Mem) : Int32 → Int32 → Option (Int32) := zl2 (gX12_lifeOn_4 o0 v1 μ) FU
def fX12_lifeOn (o0 : Nat) (v1 : Int32) (μ : Mem) : Option (Int32) :=
  fX12_lifeOn_4 o0 v1 μ 0 0
abbrev rmX12_lifeOn : Room := { frames := 2, cells := 0, slots := 0, locals := 43 }
def fX12_isOver (o0 : Nat) (μ : Mem) : Option (Int32) :=
  (fX12_livingOn o0 0 μ).bind fun r_1 =>
  if r_1 = 0 then
    some 1
  else
    (fX12_livingOn o0 1 μ).bind fun r_4 =>
    if r_4 = 0 then
      some 1
    else
      some 0
abbrev rmX12_isOver : Room := { frames := 4, cells := 0, slots := 0, locals := 87 }
def fX12_sideThatWon (o0 : Nat) (μ : Mem) : Option (Int32) :=
  (fX12_isOver o0 μ).bind fun r_1 =>
  if r_1 = 0 then
    some ((-1))
  else
    (fX12_livingOn o0 0 μ).bind fun r_5 =>
    if r_5 ≤ 0 then
      (fX12_livingOn o0 1 μ).bind fun r_8 =>
      if r_8 ≤ 0 then
        some ((-1))
      else
        some 1
    else
      some 0
abbrev rmX12_sideThatWon : Room := { frames := 5, cells := 0, slots := 0, locals := 107 }
def fX12_ticksFor (o0 : Nat) (v1 : Int32) (μ : Mem) : Option (Int32) :=
  (ldP μ o0 13).bind fun q_1 =>
  gd (inB 1 (Ln q_1)) ((fX12_of o0 v1 4 μ).bind fun r_5 =>
  nm ((ldI μ q_1 (1 : Int32).toNatClampNeg) - r_5) fun v_8 =>
  if 0 < v_8 then
    (fX12_of o0 v1 1 μ).bind fun r_9 =>
    (fX12_of o0 v1 1 μ).bind fun r_12 =>
    gd (nz r_12) (some (((v_8 + r_9) - 1) / r_12))
  else
    some 0)
abbrev rmX12_ticksFor : Room := { frames := 2, cells := 0, slots := 0, locals := 43 }
def gX12_withExtra_2 (o0 : Nat) (μ : Mem) (self : Int32 → Option (Int32)) : Int32 → Option (Int32) := fun v1 =>
  (ldP μ o0 13).bind fun q_1 =>
  gd (inB 0 (Ln q_1)) (if (ldI μ q_1 (0 : Int32).toNatClampNeg) ≤ v1 then
    some ((-1))
  else
    (fX12_lives o0 v1 μ).bind fun r_5 =>
    if r_5 = 0 then
      nm (v1 + 1) fun v_9 =>
      self v_9
    else
      (fX12_of o0 v1 6 μ).bind fun r_10 =>
      if r_10 ≤ 0 then
        nm (v1 + 1) fun v_13 =>
        self v_13
      else
        some v1)
def fX12_withExtra_2 (o0 : Nat) (μ : Mem) : Int32 → Option (Int32) := zl1 (gX12_withExtra_2 o0 μ) FU
def fX12_withExtra (o0 : Nat) (μ : Mem) : Option (Int32) :=
  fX12_withExtra_2 o0 μ 0
abbrev rmX12_withExtra : Room := { frames := 3, cells := 0, slots := 0, locals := 64 }
def fX12_isAhead (o0 : Nat) (v1 : Int32) (v2 : Int32) (μ : Mem) : Option (Int32) :=
  if v2 = ((-1)) then
    some 1
  else
    (fX12_of o0 v1 4 μ).bind fun r_1 =>
    (fX12_of o0 v2 4 μ).bind fun r_4 =>
    nm (r_1 - r_4) fun v_7 =>
    if 0 < v_7 then
      some 1
    else
      if v_7 = 0 then
        (fX12_of o0 v1 3 μ).bind fun r_8 =>
        (fX12_of o0 v2 3 μ).bind fun r_11 =>
        if r_8 ≤ r_11 then
          some 0
        else
          some 1
      else
        some 0
abbrev rmX12_isAhead : Room := { frames := 2, cells := 0, slots := 0, locals := 43 }
def gX12_ready_4 (o0 : Nat) (μ : Mem) (self : Int32 → Int32 → Option (Int32)) : Int32 → Int32 → Option (Int32) := fun v1 v2 =>
  (ldP μ o0 13).bind fun q_1 =>
  gd (inB 0 (Ln q_1)) (if (ldI μ q_1 (0 : Int32).toNatClampNeg) ≤ v2 then
    some v1
  else
    (fX12_lives o0 v2 μ).bind fun r_5 =>
    if r_5 = 0 then
      nm (v2 + 1) fun v_9 =>
      self v1 v_9
    else
      (fX12_of o0 v2 4 μ).bind fun r_10 =>
      (ldP μ o0 13).bind fun q_13 =>
      gd (inB 1 (Ln q_13)) (if r_10 < (ldI μ q_13 (1 : Int32).toNatClampNeg) then
        nm (v2 + 1) fun v_17 =>
        self v1 v_17
      else
        (fX12_isAhead o0 v2 v1 μ).bind fun r_18 =>
        if r_18 = 0 then
          nm (v2 + 1) fun v_22 =>
          self v1 v_22
        else
          nm (v2 + 1) fun v_23 =>
          self v2 v_23))
def fX12_ready_4 (o0 : Nat) (μ : Mem) : Int32 → Int32 → Option (Int32) := zl2 (gX12_ready_4 o0 μ) FU
def fX12_ready (o0 : Nat) (μ : Mem) : Option (Int32) :=
  fX12_ready_4 o0 μ ((-1)) 0
abbrev rmX12_ready : Room := { frames := 3, cells := 0, slots := 0, locals := 66 }
def gX12_leastTicks_4 (o0 : Nat) (μ : Mem) (self : Int32 → Int32 → Option (Int32)) : Int32 → Int32 → Option (Int32) := fun v1 v2 =>
  (ldP μ o0 13).bind fun q_1 =>
  gd (inB 0 (Ln q_1)) (if (ldI μ q_1 (0 : Int32).toNatClampNeg) ≤ v2 then
    some v1
  else
    (fX12_lives o0 v2 μ).bind fun r_5 =>
    if r_5 = 0 then
      nm (v2 + 1) fun v_9 =>
      self v1 v_9
    else
      if v1 = ((-1)) then
        (fX12_ticksFor o0 v2 μ).bind fun r_10 =>
        nm (v2 + 1) fun v_13 =>
        self r_10 v_13
      else
        (fX12_ticksFor o0 v2 μ).bind fun r_14 =>
        if v1 ≤ r_14 then
          nm (v2 + 1) fun v_17 =>
          self v1 v_17
        else
          (fX12_ticksFor o0 v2 μ).bind fun r_18 =>
          nm (v2 + 1) fun v_21 =>
          self r_18 v_21)
def fX12_leastTicks_4 (o0 : Nat) (μ : Mem) : Int32 → Int32 → Option (Int32) := zl2 (gX12_leastTicks_4 o0 μ) FU
def fX12_leastTicks (o0 : Nat) (μ : Mem) : Option (Int32) :=
  fX12_leastTicks_4 o0 μ ((-1)) 0
abbrev rmX12_leastTicks : Room := { frames := 3, cells := 0, slots := 0, locals := 65 }
def gX12_passes_12 (o0 : Nat) (v1 : Int32) (self : Int32 → Mem → Option (Mem)) : Int32 → Mem → Option (Mem) := fun v2 μ =>
  (ldP μ o0 13).bind fun q_1 =>
  gd (inB 0 (Ln q_1)) (if (ldI μ q_1 (0 : Int32).toNatClampNeg) ≤ v2 then
    some μ
  else
    (fX12_lives o0 v2 μ).bind fun r_5 =>
    if r_5 = 0 then
      nm (v2 + 1) fun v_9 =>
      self v_9 μ
    else
      (fX12_of o0 v2 4 μ).bind fun r_10 =>
      (fX12_of o0 v2 1 μ).bind fun r_13 =>
      (fX12_sets o0 v2 4 (r_10 + (v1 * r_13)) μ).bind fun r_16 =>
      nm (v2 + 1) fun v_19 =>
      self v_19 r_16)
def fX12_passes_12 (o0 : Nat) (v1 : Int32) : Int32 → Mem → Option (Mem) := zl2 (gX12_passes_12 o0 v1) FU
def fX12_passes (o0 : Nat) (v1 : Int32) (μ : Mem) : Option (Mem) :=
  (ldP μ o0 13).bind fun q_1 =>
  gd (inB 2 (Ln q_1)) (gd (inB 2 (Ln q_1)) (nm (stI μ q_1 (2 : Int32).toNatClampNeg ((ldI μ q_1 (2 : Int32).toNatClampNeg) + v1)) fun m_5 =>
  fX12_passes_12 o0 v1 0 m_5))
abbrev rmX12_passes : Room := { frames := 3, cells := 0, slots := 0, locals := 64 }
def fX12_next (o0 : Nat) (μ : Mem) : Option (Int32 × Mem) :=
  (fX12_withExtra o0 μ).bind fun r_1 =>
  if r_1 = ((-1)) then
    (fX12_leastTicks o0 μ).bind fun r_4 =>
    (fX12_passes o0 r_4 μ).bind fun r_7 =>
    (fX12_ready o0 r_7).bind fun r_10 =>
    some (r_10, r_7)
  else
    some (r_1, μ)
abbrev rmX12_next : Room := { frames := 4, cells := 0, slots := 0, locals := 88 }
def gX12_weakest_4 (o0 : Nat) (v1 : Int32) (μ : Mem) (self : Int32 → Int32 → Option (Int32)) : Int32 → Int32 → Option (Int32) := fun v2 v3 =>
  (ldP μ o0 13).bind fun q_1 =>
  gd (inB 0 (Ln q_1)) (if (ldI μ q_1 (0 : Int32).toNatClampNeg) ≤ v3 then
    some v2
  else
    (fX12_lives o0 v3 μ).bind fun r_5 =>
    if r_5 = 0 then
      nm (v3 + 1) fun v_9 =>
      self v2 v_9
    else
      (fX12_of o0 v3 0 μ).bind fun r_10 =>
      if r_10 = v1 then
        if v2 = ((-1)) then
          nm (v3 + 1) fun v_14 =>
          self v3 v_14
        else
          (fX12_of o0 v3 2 μ).bind fun r_15 =>
          (fX12_of o0 v2 2 μ).bind fun r_18 =>
          if r_18 ≤ r_15 then
            nm (v3 + 1) fun v_21 =>
            self v2 v_21
          else
            nm (v3 + 1) fun v_22 =>
            self v3 v_22
      else
        nm (v3 + 1) fun v_13 =>
        self v2 v_13)
def fX12_weakest_4 (o0 : Nat) (v1 : Int32) (μ : Mem) : Int32 → Int32 → Option (Int32) := zl2 (gX12_weakest_4 o0 v1 μ) FU
def fX12_weakest (o0 : Nat) (v1 : Int32) (μ : Mem) : Option (Int32) :=
  fX12_weakest_4 o0 v1 μ ((-1)) 0
abbrev rmX12_weakest : Room := { frames := 3, cells := 0, slots := 0, locals := 64 }
def gX12_fullest_4 (o0 : Nat) (v1 : Int32) (μ : Mem) (self : Int32 → Int32 → Option (Int32)) : Int32 → Int32 → Option (Int32) := fun v2 v3 =>
  (ldP μ o0 13).bind fun q_1 =>
  gd (inB 0 (Ln q_1)) (if (ldI μ q_1 (0 : Int32).toNatClampNeg) ≤ v3 then
    some v2
  else
    (fX12_lives o0 v3 μ).bind fun r_5 =>
    if r_5 = 0 then
      nm (v3 + 1) fun v_9 =>
      self v2 v_9
    else
      (fX12_of o0 v3 0 μ).bind fun r_10 =>
      if r_10 = v1 then
        if v2 = ((-1)) then
          nm (v3 + 1) fun v_14 =>
          self v3 v_14
        else
          (fX12_of o0 v3 4 μ).bind fun r_15 =>
          (fX12_of o0 v2 4 μ).bind fun r_18 =>
          if r_15 ≤ r_18 then
            nm (v3 + 1) fun v_21 =>
            self v2 v_21
          else
            nm (v3 + 1) fun v_22 =>
            self v3 v_22
      else
        nm (v3 + 1) fun v_13 =>
        self v2 v_13)
def fX12_fullest_4 (o0 : Nat) (v1 : Int32) (μ : Mem) : Int32 → Int32 → Option (Int32) := zl2 (gX12_fullest_4 o0 v1 μ) FU
def fX12_fullest (o0 : Nat) (v1 : Int32) (μ : Mem) : Option (Int32) :=
  fX12_fullest_4 o0 v1 μ ((-1)) 0
abbrev rmX12_fullest : Room := { frames := 3, cells := 0, slots := 0, locals := 64 }
def gX12_emptiestBeside_4 (o0 : Nat) (v1 : Int32) (μ : Mem) (self : Int32 → Int32 → Option (Int32)) : Int32 → Int32 → Option (Int32) := fun v2 v3 =>
  (ldP μ o0 13).bind fun q_1 =>
  gd (inB 0 (Ln q_1)) (if (ldI μ q_1 (0 : Int32).toNatClampNeg) ≤ v3 then
    some v2
  else
    if v3 = v1 then
      nm (v3 + 1) fun v_5 =>
      self v2 v_5
    else
      (fX12_lives o0 v3 μ).bind fun r_6 =>
      if r_6 = 0 then
        nm (v3 + 1) fun v_10 =>
        self v2 v_10
      else
        (fX12_of o0 v3 0 μ).bind fun r_11 =>
        (fX12_of o0 v1 0 μ).bind fun r_14 =>
        if r_11 = r_14 then
          if v2 = ((-1)) then
            nm (v3 + 1) fun v_17 =>
            self v3 v_17
          else
            (fX12_of o0 v3 4 μ).bind fun r_18 =>
            (fX12_of o0 v2 4 μ).bind fun r_21 =>
            if r_21 ≤ r_18 then
              nm (v3 + 1) fun v_24 =>
              self v2 v_24
            else
              nm (v3 + 1) fun v_25 =>
              self v3 v_25
        else
          nm (v3 + 1) fun v_28 =>
          self v2 v_28)
def fX12_emptiestBeside_4 (o0 : Nat) (v1 : Int32) (μ : Mem) : Int32 → Int32 → Option (Int32) := zl2 (gX12_emptiestBeside_4 o0 v1 μ) FU
def fX12_emptiestBeside (o0 : Nat) (v1 : Int32) (μ : Mem) : Option (Int32) :=
  fX12_emptiestBeside_4 o0 v1 μ ((-1)) 0
abbrev rmX12_emptiestBeside : Room := { frames := 3, cells := 0, slots := 0, locals := 64 }
def fX12_hits (o0 : Nat) (v1 : Int32) (v2 : Int32) (μ : Mem) : Option (Mem) :=
  (fX12_of o0 v1 0 μ).bind fun r_1 =>
  (fX12_weakest o0 (1 - r_1) μ).bind fun r_4 =>
  (fX12_of o0 r_4 2 μ).bind fun r_7 =>
  (fX12_of o0 r_4 5 μ).bind fun r_10 =>
  (fX12_greater 0 (v2 - r_10) μ).bind fun r_13 =>
  (fX12_lesser r_7 r_13 μ).bind fun r_16 =>
  (fX12_of o0 r_4 2 μ).bind fun r_19 =>
  (fX12_sets o0 r_4 2 (r_19 - r_16) μ).bind fun r_22 =>
  (fX12_of o0 v1 11 r_22).bind fun r_25 =>
  (fX12_sets o0 v1 11 (r_25 + r_16) r_22).bind fun r_28 =>
  (fX12_lives o0 r_4 r_28).bind fun r_31 =>
  if r_31 = 0 then
    (fX12_sets o0 r_4 4 0 r_28).bind fun r_35 =>
    (fX12_sets o0 r_4 5 0 r_35).bind fun r_38 =>
    (fX12_sets o0 r_4 6 0 r_38).bind fun r_41 =>
    some r_41
  else
    some r_28
abbrev rmX12_hits : Room := { frames := 4, cells := 0, slots := 0, locals := 87 }
def fX12_lowers (o0 : Nat) (v1 : Int32) (v2 : Int32) (μ : Mem) : Option (Int32 × Mem) :=
  (fX12_of o0 v1 4 μ).bind fun r_1 =>
  (fX12_greater 0 (r_1 - v2) μ).bind fun r_4 =>
  (fX12_sets o0 v1 4 r_4 μ).bind fun r_7 =>
  (fX12_of o0 v1 4 r_7).bind fun r_10 =>
  some (r_10, r_7)
abbrev rmX12_lowers : Room := { frames := 2, cells := 0, slots := 0, locals := 44 }
def fX12_raises (o0 : Nat) (v1 : Int32) (v2 : Int32) (μ : Mem) : Option (Int32 × Mem) :=
  (fX12_of o0 v1 4 μ).bind fun r_1 =>
  (fX12_lesser 9999 (r_1 + v2) μ).bind fun r_4 =>
  (fX12_sets o0 v1 4 r_4 μ).bind fun r_7 =>
  (fX12_of o0 v1 4 r_7).bind fun r_10 =>
  some (r_10, r_7)
abbrev rmX12_raises : Room := { frames := 2, cells := 0, slots := 0, locals := 44 }
def fX12_heals (o0 : Nat) (v1 : Int32) (v2 : Int32) (μ : Mem) : Option (Int32 × Mem) :=
  (fX12_of o0 v1 2 μ).bind fun r_1 =>
  (fX12_lesser 999 (r_1 + v2) μ).bind fun r_4 =>
  (fX12_sets o0 v1 2 r_4 μ).bind fun r_7 =>
  (fX12_of o0 v1 2 r_7).bind fun r_10 =>
  some (r_10, r_7)
abbrev rmX12_heals : Room := { frames := 2, cells := 0, slots := 0, locals := 44 }
def fX12_acts (o0 : Nat) (v1 : Int32) (v2 : Int32) (v3 : Int32) (μ : Mem) : Option (Mem) :=
  if v2 = 0 then
    (fX12_hits o0 v1 v3 μ).bind fun r_40 =>
    some r_40
  else
    if v2 = 1 then
      (fX12_of o0 v1 0 μ).bind fun r_30 =>
      (fX12_fullest o0 (1 - r_30) μ).bind fun r_33 =>
      (fX12_lowers o0 r_33 v3 μ).bind fun r_36 =>
      some r_36.2
    else
      if v2 = 2 then
        (fX12_emptiestBeside o0 v1 μ).bind fun r_22 =>
        if r_22 = ((-1)) then
          some μ
        else
          (fX12_raises o0 r_22 v3 μ).bind fun r_25 =>
          some r_25.2
      else
        if v2 = 3 then
          (fX12_sets o0 v1 5 v3 μ).bind fun r_18 =>
          some r_18
        else
          if v2 = 4 then
            (fX12_of o0 v1 6 μ).bind fun r_8 =>
            (fX12_lesser 3 (r_8 + v3) μ).bind fun r_11 =>
            (fX12_sets o0 v1 6 r_11 μ).bind fun r_14 =>
            some r_14
          else
            if v2 = 5 then
              (fX12_sets o0 v1 1 v3 μ).bind fun r_4 =>
              some r_4
            else
              (fX12_heals o0 v1 v3 μ).bind fun r_1 =>
              some r_1.2
abbrev rmX12_acts : Room := { frames := 5, cells := 0, slots := 0, locals := 111 }
def fX12_turns_81 (o0 : Nat) (v1 : Int32) (μ : Mem) : Option (Mem) :=
  (fX12_of o0 (ldI μ o0 24) 10 μ).bind fun r_1 =>
  (fX12_truth v1 μ).bind fun r_4 =>
  (fX12_sets o0 (ldI μ o0 24) 10 (r_1 + r_4) μ).bind fun r_7 =>
  (fX12_of o0 (ldI r_7 o0 24) 9 r_7).bind fun r_10 =>
  (fX12_sets o0 (ldI r_7 o0 24) 9 (r_10 + 1) r_7).bind fun r_13 =>
  (fX12_sets o0 (ldI r_13 o0 24) 5 0 r_13).bind fun r_16 =>
  (fX12_of o0 (ldI r_16 o0 24) 7 r_16).bind fun r_19 =>
  (ldP r_16 o0 13).bind fun q_22 =>
  gd (inB ((100 + (6 * (ldI r_16 o0 24))) + r_19) (Ln q_22)) (nm (stI r_16 o0 25 (ldI r_16 q_22 ((100 + (6 * (ldI r_16 o0 24))) + r_19).toNatClampNeg)) fun m_26 =>
  (fX12_of o0 (ldI m_26 o0 24) 8 m_26).bind fun r_27 =>
  gd (nz r_27) ((fX12_sets o0 (ldI m_26 o0 24) 7 ((r_19 + 1) - (r_19 + 1) / r_27 * r_27) m_26).bind fun r_31 =>
  (ldP r_31 o0 13).bind fun q_34 =>
  gd (inB 3 (Ln q_34)) (gd (inB 3 (Ln q_34)) (nm (stI r_31 q_34 (3 : Int32).toNatClampNeg ((ldI r_31 q_34 (3 : Int32).toNatClampNeg) + 1)) fun m_38 =>
  (ldP m_38 o0 13).bind fun q_40 =>
  gd (inB ((148 + (6 * (ldI m_38 o0 24))) + r_19) (Ln q_40)) ((fX12_acts o0 (ldI m_38 o0 24) (ldI m_38 o0 25) (ldI m_38 q_40 ((148 + (6 * (ldI m_38 o0 24))) + r_19).toNatClampNeg) m_38).bind fun r_44 =>
  some r_44)))))
def fX12_turns_26 (o0 : Nat) (vt0 : Int32) (μ : Mem) : Option (Mem) :=
  if vt0 = 0 then
    (fX12_of o0 (ldI μ o0 24) 4 μ).bind fun r_1 =>
    (ldP μ o0 13).bind fun q_4 =>
    gd (inB 1 (Ln q_4)) ((fX12_sets o0 (ldI μ o0 24) 4 (r_1 - (ldI μ q_4 (1 : Int32).toNatClampNeg)) μ).bind fun r_8 =>
    fX12_turns_81 o0 vt0 r_8)
  else
    (fX12_of o0 (ldI μ o0 24) 6 μ).bind fun r_11 =>
    (fX12_sets o0 (ldI μ o0 24) 6 (r_11 - 1) μ).bind fun r_14 =>
    fX12_turns_81 o0 vt0 r_14
def fX12_turns (o0 : Nat) (μ : Mem) : Option (Mem) :=
  (fX12_next o0 μ).bind fun r_1 =>
  nm (stI r_1.2 o0 24 r_1.1) fun m_4 =>
  (fX12_of o0 (ldI m_4 o0 24) 6 m_4).bind fun r_5 =>
  if r_5 ≤ 0 then
    fX12_turns_26 o0 0 m_4
  else
    fX12_turns_26 o0 1 m_4
abbrev rmX12_turns : Room := { frames := 6, cells := 0, slots := 0, locals := 136 }
def gX12_plays_2 (o0 : Nat) (v1 : Int32) (self : Int32 → Mem → Option (Int32 × Mem)) : Int32 → Mem → Option (Int32 × Mem) := fun v2 μ =>
  if v1 ≤ v2 then
    some (v2, μ)
  else
    (fX12_isOver o0 μ).bind fun r_1 =>
    if r_1 = 0 then
      (fX12_turns o0 μ).bind fun r_5 =>
      nm (v2 + 1) fun v_8 =>
      self v_8 r_5
    else
      some (v2, μ)
def fX12_plays_2 (o0 : Nat) (v1 : Int32) : Int32 → Mem → Option (Int32 × Mem) := zl2 (gX12_plays_2 o0 v1) FU
def fX12_plays (o0 : Nat) (v1 : Int32) (μ : Mem) : Option (Int32 × Mem) :=
  fX12_plays_2 o0 v1 0 μ
abbrev rmX12_plays : Room := { frames := 7, cells := 0, slots := 0, locals := 158 }
def fX12_isFighter (o0 : Nat) (v1 : Int32) (μ : Mem) : Option (Int32) :=
  (ldP μ o0 13).bind fun q_1 =>
  gd (inB 0 (Ln q_1)) ((fX12_isIn v1.toInt64 0 (((ldI μ q_1 (0 : Int32).toNatClampNeg) - 1).toInt64) μ).bind fun r_5 =>
  some r_5)
abbrev rmX12_isFighter : Room := { frames := 1, cells := 0, slots := 0, locals := 25 }
def fX12_living (o0 : Nat) (μ : Mem) : Option (Int32) :=
  (fX12_livingOn o0 0 μ).bind fun r_1 =>
  (fX12_livingOn o0 1 μ).bind fun r_4 =>
  some (r_1 + r_4)
abbrev rmX12_living : Room := { frames := 4, cells := 0, slots := 0, locals := 87 }
def fX12_setting (o0 : Nat) (v1 : Int32) (μ : Mem) : Option (Int32 × Mem) :=
  (fX12_isIn v1.toInt64 0 9 μ).bind fun r_1 =>
  (fX12_goes o0 r_1 μ).bind fun r_5 =>
  if r_5.1 = 0 then
    some (0, r_5.2)
  else
    if v1 = 4 then
      (fX12_living o0 r_5.2).bind fun r_29 =>
      some (r_29, r_5.2)
    else
      if v1 = 5 then
        (fX12_lifeOn o0 0 r_5.2).bind fun r_26 =>
        some (r_26, r_5.2)
      else
        if v1 = 6 then
          (fX12_lifeOn o0 1 r_5.2).bind fun r_23 =>
          some (r_23, r_5.2)
        else
          if v1 = 7 then
            (fX12_sideThatWon o0 r_5.2).bind fun r_20 =>
            some (r_20, r_5.2)
          else
            if v1 = 8 then
              (fX12_isOver o0 r_5.2).bind fun r_13 =>
              (fX12_truth r_13 r_5.2).bind fun r_17 =>
              some (r_17, r_5.2)
            else
              if v1 = 9 then
                some (ldI r_5.2 o0 21, r_5.2)
              else
                (ldP r_5.2 o0 13).bind fun q_9 =>
                gd (inB v1 (Ln q_9)) (some (ldI r_5.2 q_9 (v1).toNatClampNeg, r_5.2))
abbrev rmX12_setting : Room := { frames := 6, cells := 0, slots := 0, locals := 127 }
def fX12_fighter (o0 : Nat) (v1 : Int32) (v2 : Int32) (μ : Mem) : Option (Int32 × Mem) :=
  (fX12_isFighter o0 v1 μ).bind fun r_1 =>
  (fX12_isIn v2.toInt64 0 11 μ).bind fun r_5 =>
  (fX12_goesBoth o0 r_1 r_5 μ).bind fun r_9 =>
  if r_9.1 = 0 then
    some (0, r_9.2)
  else
    (fX12_of o0 v1 v2 r_9.2).bind fun r_13 =>
    some (r_13, r_9.2)
abbrev rmX12_fighter : Room := { frames := 2, cells := 0, slots := 0, locals := 46 }
def fX12_isAct (o0 : Nat) (v1 : Int32) (v2 : Int32) (μ : Mem) : Option (Int32) :=
  (fX12_of o0 v1 8 μ).bind fun r_1 =>
  (fX12_isIn v2.toInt64 0 ((r_1 - 1).toInt64) μ).bind fun r_4 =>
  some r_4
abbrev rmX12_isAct : Room := { frames := 2, cells := 0, slots := 0, locals := 43 }
def fX12_actKind (o0 : Nat) (v1 : Int32) (v2 : Int32) (μ : Mem) : Option (Int32 × Mem) :=
  (fX12_isFighter o0 v1 μ).bind fun r_1 =>
  (fX12_goes o0 r_1 μ).bind fun r_5 =>
  if r_5.1 = 0 then
    some (0, r_5.2)
  else
    (fX12_isAct o0 v1 v2 r_5.2).bind fun r_9 =>
    if r_9 = 0 then
      some ((-1), r_5.2)
    else
      (ldP r_5.2 o0 13).bind fun q_13 =>
      gd (inB ((100 + (6 * v1)) + v2) (Ln q_13)) (some (ldI r_5.2 q_13 ((100 + (6 * v1)) + v2).toNatClampNeg, r_5.2))
abbrev rmX12_actKind : Room := { frames := 3, cells := 0, slots := 0, locals := 65 }
def fX12_actNumber (o0 : Nat) (v1 : Int32) (v2 : Int32) (μ : Mem) : Option (Int32 × Mem) :=
  (fX12_isFighter o0 v1 μ).bind fun r_1 =>
  (fX12_goes o0 r_1 μ).bind fun r_5 =>
  if r_5.1 = 0 then
    some (0, r_5.2)
  else
    (fX12_isAct o0 v1 v2 r_5.2).bind fun r_9 =>
    if r_9 = 0 then
      some ((-1), r_5.2)
    else
      (ldP r_5.2 o0 13).bind fun q_13 =>
      gd (inB ((148 + (6 * v1)) + v2) (Ln q_13)) (some (ldI r_5.2 q_13 ((148 + (6 * v1)) + v2).toNatClampNeg, r_5.2))
abbrev rmX12_actNumber : Room := { frames := 3, cells := 0, slots := 0, locals := 65 }
def gX12_lettersOf_4 (μ : Mem) (self : Int32 → Int64 → Option (Int32)) : Int32 → Int64 → Option (Int32) := fun v2 v3 =>
  if (lg_cmp v3 0) ≤ 0 then
    some v2
  else
    nm (v2 + 1) fun v_1 =>
    nm (v3 >>> ((5 : Int32).toInt64 &&& 63)) fun v_2 =>
    self v_1 v_2
def fX12_lettersOf_4 (μ : Mem) : Int32 → Int64 → Option (Int32) := zl2 (gX12_lettersOf_4 μ) FU
def fX12_lettersOf (v0 : Int64) (μ : Mem) : Option (Int32) :=
  fX12_lettersOf_4 μ 0 v0
abbrev rmX12_lettersOf : Room := { frames := 0, cells := 0, slots := 0, locals := 0 }
def fX12_letterOf (v0 : Int64) (v2 : Int32) (μ : Mem) : Option (Int32) :=
  (fX12_lettersOf v0 μ).bind fun r_1 =>
  (fX12_isIn v2.toInt64 0 ((r_1 - 1).toInt64) μ).bind fun r_4 =>
  if r_4 = 0 then
    some 0
  else
    some ((((v0 >>> ((5 * ((r_1 - 1) - v2)).toInt64 &&& 63)) &&& 31).toInt32) + 96)
abbrev rmX12_letterOf : Room := { frames := 1, cells := 0, slots := 0, locals := 25 }
def fX12_letter (o0 : Nat) (v1 : Int32) (v2 : Int32) (μ : Mem) : Option (Int32 × Mem) :=
  (fX12_isFighter o0 v1 μ).bind fun r_1 =>
  (fX12_goes o0 r_1 μ).bind fun r_5 =>
  if r_5.1 = 0 then
    some (0, r_5.2)
  else
    (ldP r_5.2 o0 18).bind fun q_9 =>
    gd (inB v1 (Ln q_9)) ((fX12_letterOf (ldJ r_5.2 q_9 (v1).toNatClampNeg) v2 r_5.2).bind fun r_13 =>
    some (r_13, r_5.2))
abbrev rmX12_letter : Room := { frames := 2, cells := 0, slots := 0, locals := 48 }
def fX12_ticksTo (o0 : Nat) (v1 : Int32) (μ : Mem) : Option (Int32 × Mem) :=
  (fX12_isFighter o0 v1 μ).bind fun r_1 =>
  (fX12_goes o0 r_1 μ).bind fun r_5 =>
  if r_5.1 = 0 then
    some (0, r_5.2)
  else
    (fX12_lives o0 v1 r_5.2).bind fun r_9 =>
    if r_9 = 0 then
      some ((-1), r_5.2)
    else
      (fX12_ticksFor o0 v1 r_5.2).bind fun r_13 =>
      some (r_13, r_5.2)
abbrev rmX12_ticksTo : Room := { frames := 3, cells := 0, slots := 0, locals := 65 }
def fX12_isSooner (o0 : Nat) (v1 : Int32) (v2 : Int32) (μ : Mem) : Option (Int32) :=
  (fX12_ticksFor o0 v1 μ).bind fun r_1 =>
  (fX12_ticksFor o0 v2 μ).bind fun r_4 =>
  nm (r_1 - r_4) fun v_7 =>
  if v_7 = 0 then
    (fX12_of o0 v1 3 μ).bind fun r_8 =>
    (fX12_of o0 v2 3 μ).bind fun r_11 =>
    nm (r_8 - r_11) fun v_14 =>
    if 0 < v_14 then
      some 1
    else
      if v_14 = 0 then
        if v2 ≤ v1 then
          some 0
        else
          some 1
      else
        some 0
  else
    if 0 ≤ v_7 then
      some 0
    else
      some 1
abbrev rmX12_isSooner : Room := { frames := 3, cells := 0, slots := 0, locals := 65 }
def gX12_row_22 (kb7 : Int32 → Mem → Option (Int32 × Mem)) (o0 : Nat) (v1 : Int32) (v2 : Int32) (self : Int32 → Int32 → Mem → Option (Int32 × Mem)) : Int32 → Int32 → Mem → Option (Int32 × Mem) := fun v3 v4 μ =>
  (ldP μ o0 13).bind fun q_1 =>
  gd (inB 0 (Ln q_1)) (if (ldI μ q_1 (0 : Int32).toNatClampNeg) ≤ v4 then
    (fX12_lives o0 v2 μ).bind fun r_5 =>
    if r_5 = 0 then
      nm (v2 + 1) fun v_9 =>
      kb7 v_9 μ
    else
      if v3 = v1 then
        some (v2, μ)
      else
        nm (v2 + 1) fun v_10 =>
        kb7 v_10 μ
  else
    if v4 = v2 then
      (fX12_truth 0 μ).bind fun r_13 =>
      nm (v3 + r_13) fun v_16 =>
      nm (v4 + 1) fun v_17 =>
      self v_16 v_17 μ
    else
      (fX12_lives o0 v4 μ).bind fun r_18 =>
      if r_18 = 0 then
        (fX12_truth 0 μ).bind fun r_22 =>
        nm (v3 + r_22) fun v_25 =>
        nm (v4 + 1) fun v_26 =>
        self v_25 v_26 μ
      else
        (fX12_isSooner o0 v4 v2 μ).bind fun r_27 =>
        if r_27 = 0 then
          (fX12_truth 0 μ).bind fun r_31 =>
          nm (v3 + r_31) fun v_34 =>
          nm (v4 + 1) fun v_35 =>
          self v_34 v_35 μ
        else
          (fX12_truth 1 μ).bind fun r_36 =>
          nm (v3 + r_36) fun v_39 =>
          nm (v4 + 1) fun v_40 =>
          self v_39 v_40 μ)
def fX12_row_22 (kb7 : Int32 → Mem → Option (Int32 × Mem)) (o0 : Nat) (v1 : Int32) (v2 : Int32) : Int32 → Int32 → Mem → Option (Int32 × Mem) := zl3 (gX12_row_22 kb7 o0 v1 v2) FU
def gX12_row_7 (o0 : Nat) (v1 : Int32) (self : Int32 → Mem → Option (Int32 × Mem)) : Int32 → Mem → Option (Int32 × Mem) := fun v2 μ =>
  (ldP μ o0 13).bind fun q_1 =>
  gd (inB 0 (Ln q_1)) (if (ldI μ q_1 (0 : Int32).toNatClampNeg) ≤ v2 then
    some ((-1), μ)
  else
    fX12_row_22 self o0 v1 v2 0 0 μ)
def fX12_row_7 (o0 : Nat) (v1 : Int32) : Int32 → Mem → Option (Int32 × Mem) := zl2 (gX12_row_7 o0 v1) FU
def fX12_row (o0 : Nat) (v1 : Int32) (μ : Mem) : Option (Int32 × Mem) :=
  nm (stI μ o0 0 0) fun m_1 =>
  fX12_row_7 o0 v1 0 m_1
abbrev rmX12_row : Room := { frames := 4, cells := 0, slots := 0, locals := 89 }
def gX12_meanSpeed_9 (o0 : Nat) (self : Int32 → Int32 → Mem → Option (UInt64 × Mem)) : Int32 → Int32 → Mem → Option (UInt64 × Mem) := fun v1 v2 μ =>
  (ldP μ o0 13).bind fun q_1 =>
  gd (inB 0 (Ln q_1)) (if (ldI μ q_1 (0 : Int32).toNatClampNeg) ≤ v2 then
    (fX12_living o0 μ).bind fun r_5 =>
    if r_5 = 0 then
      some (FP.dconst0, μ)
    else
      (fX12_living o0 μ).bind fun r_8 =>
      gd (nn64 (FP.ddiv (FP.i2d v1) (FP.i2d r_8))) (some (FP.ddiv (FP.i2d v1) (FP.i2d r_8), μ))
  else
    (fX12_lives o0 v2 μ).bind fun r_13 =>
    if r_13 = 0 then
      nm (v1 + 0) fun v_17 =>
      nm (v2 + 1) fun v_18 =>
      self v_17 v_18 μ
    else
      (fX12_of o0 v2 1 μ).bind fun r_19 =>
      nm (v1 + r_19) fun v_22 =>
      nm (v2 + 1) fun v_23 =>
      self v_22 v_23 μ)
def fX12_meanSpeed_9 (o0 : Nat) : Int32 → Int32 → Mem → Option (UInt64 × Mem) := zl3 (gX12_meanSpeed_9 o0) FU
def fX12_meanSpeed (o0 : Nat) (μ : Mem) : Option (UInt64 × Mem) :=
  nm (stI μ o0 0 0) fun m_1 =>
  fX12_meanSpeed_9 o0 0 0 m_1
abbrev rmX12_meanSpeed : Room := { frames := 5, cells := 0, slots := 0, locals := 107 }
def fX12_share (o0 : Nat) (μ : Mem) : Option (UInt32 × Mem) :=
  nm (stI μ o0 0 0) fun m_1 =>
  (fX12_lifeOn o0 0 m_1).bind fun r_2 =>
  (fX12_lifeOn o0 1 m_1).bind fun r_5 =>
  nm (r_2 + r_5) fun v_8 =>
  if v_8 = 0 then
    some (FP.fconst0, m_1)
  else
    (fX12_lifeOn o0 0 m_1).bind fun r_9 =>
    gd (nn32 (FP.fdiv (FP.i2f r_9) (FP.i2f v_8))) (some (FP.fdiv (FP.i2f r_9) (FP.i2f v_8), m_1))
abbrev rmX12_share : Room := { frames := 3, cells := 0, slots := 0, locals := 66 }
def fX12_leaves (o0 : Nat) (μ : Mem) : Option (Mem) :=
  (ldP μ o0 13).bind fun q_1 =>
  (ldP μ o0 16).bind fun q_4 =>
  (fX12_copiesRow q_1 0 q_4 0 μ).bind fun r_7 =>
  some r_7
abbrev rmX12_leaves : Room := { frames := 1, cells := 0, slots := 0, locals := 24 }
def fX12_comesBack (o0 : Nat) (v1 : Int32) (μ : Mem) : Option (Int32 × Mem) :=
  (ldP μ o0 16).bind fun q_1 =>
  (ldP μ o0 13).bind fun q_4 =>
  (fX12_copiesRow q_1 0 q_4 0 μ).bind fun r_7 =>
  some (v1, r_7)
abbrev rmX12_comesBack : Room := { frames := 1, cells := 0, slots := 0, locals := 24 }
def fX12_areTurns (v0 : Int32) (μ : Mem) : Option (Int32) :=
  (fX12_isIn v0.toInt64 0 200 μ).bind fun r_1 =>
  some r_1
abbrev rmX12_areTurns : Room := { frames := 1, cells := 0, slots := 0, locals := 25 }
def fX12_isNear (v0 : Int32) (μ : Mem) : Option (Int32) :=
  (fX12_isIn v0.toInt64 0 99 μ).bind fun r_1 =>
  some r_1
abbrev rmX12_isNear : Room := { frames := 1, cells := 0, slots := 0, locals := 25 }
def fX12_comes (o0 : Nat) (v1 : Int32) (μ : Mem) : Option (Int32 × Mem) :=
  (fX12_leaves o0 μ).bind fun r_1 =>
  (fX12_plays o0 (v1 + 1) r_1).bind fun r_4 =>
  if r_4.1 = (v1 + 1) then
    some (1, r_4.2)
  else
    some (0, r_4.2)
abbrev rmX12_comes : Room := { frames := 8, cells := 0, slots := 0, locals := 180 }
def fX12_turn (o0 : Nat) (v1 : Int32) (μ : Mem) : Option (Int32 × Mem) :=
  (fX12_isNear v1 μ).bind fun r_1 =>
  (fX12_goes o0 r_1 μ).bind fun r_5 =>
  if r_5.1 = 0 then
    some (0, r_5.2)
  else
    (fX12_comes o0 v1 r_5.2).bind fun r_9 =>
    if r_9.1 = 0 then
      (fX12_comesBack o0 (-1) r_9.2).bind fun r_13 =>
      some (r_13.1, r_13.2)
    else
      (fX12_comesBack o0 (ldI r_9.2 o0 24) r_9.2).bind fun r_16 =>
      some (r_16.1, r_16.2)
abbrev rmX12_turn : Room := { frames := 9, cells := 0, slots := 0, locals := 201 }
def fX12_turnTime (o0 : Nat) (v1 : Int32) (μ : Mem) : Option (Int32 × Mem) :=
  (fX12_isNear v1 μ).bind fun r_1 =>
  (fX12_goes o0 r_1 μ).bind fun r_5 =>
  if r_5.1 = 0 then
    some (0, r_5.2)
  else
    (fX12_comes o0 v1 r_5.2).bind fun r_9 =>
    if r_9.1 = 0 then
      (fX12_comesBack o0 (-1) r_9.2).bind fun r_13 =>
      some (r_13.1, r_13.2)
    else
      (ldP r_9.2 o0 13).bind fun q_16 =>
      gd (inB 2 (Ln q_16)) ((fX12_comesBack o0 (ldI r_9.2 q_16 (2 : Int32).toNatClampNeg) r_9.2).bind fun r_20 =>
      some (r_20.1, r_20.2))
abbrev rmX12_turnTime : Room := { frames := 9, cells := 0, slots := 0, locals := 201 }
def fX12_turnKind (o0 : Nat) (v1 : Int32) (μ : Mem) : Option (Int32 × Mem) :=
  (fX12_isNear v1 μ).bind fun r_1 =>
  (fX12_goes o0 r_1 μ).bind fun r_5 =>
  if r_5.1 = 0 then
    some (0, r_5.2)
  else
    (fX12_comes o0 v1 r_5.2).bind fun r_9 =>
    if r_9.1 = 0 then
      (fX12_comesBack o0 (-1) r_9.2).bind fun r_13 =>
      some (r_13.1, r_13.2)
    else
      (fX12_comesBack o0 (ldI r_9.2 o0 25) r_9.2).bind fun r_16 =>
      some (r_16.1, r_16.2)
abbrev rmX12_turnKind : Room := { frames := 9, cells := 0, slots := 0, locals := 201 }
def fX12_cellIn (o0 : Nat) (v1 : Int32) (v2 : Int32) (v3 : Int32) (μ : Mem) : Option (Int32 × Mem) :=
  (fX12_leaves o0 μ).bind fun r_1 =>
  (fX12_plays o0 v3 r_1).bind fun r_4 =>
  (fX12_of o0 v1 v2 r_4.2).bind fun r_7 =>
  (fX12_comesBack o0 r_7 r_4.2).bind fun r_10 =>
  some (r_10.1, r_10.2)
abbrev rmX12_cellIn : Room := { frames := 8, cells := 0, slots := 0, locals := 180 }
def fX12_lifeIn (o0 : Nat) (v1 : Int32) (v2 : Int32) (μ : Mem) : Option (Int32 × Mem) :=
  (fX12_isFighter o0 v1 μ).bind fun r_1 =>
  (fX12_areTurns v2 μ).bind fun r_5 =>
  (fX12_goesBoth o0 r_1 r_5 μ).bind fun r_9 =>
  if r_9.1 = 0 then
    some (0, r_9.2)
  else
    (fX12_cellIn o0 v1 2 v2 r_9.2).bind fun r_13 =>
    some (r_13.1, r_13.2)
abbrev rmX12_lifeIn : Room := { frames := 9, cells := 0, slots := 0, locals := 204 }
def fX12_gaugeIn (o0 : Nat) (v1 : Int32) (v2 : Int32) (μ : Mem) : Option (Int32 × Mem) :=
  (fX12_isFighter o0 v1 μ).bind fun r_1 =>
  (fX12_areTurns v2 μ).bind fun r_5 =>
  (fX12_goesBoth o0 r_1 r_5 μ).bind fun r_9 =>
  if r_9.1 = 0 then
    some (0, r_9.2)
  else
    (fX12_cellIn o0 v1 4 v2 r_9.2).bind fun r_13 =>
    some (r_13.1, r_13.2)
abbrev rmX12_gaugeIn : Room := { frames := 9, cells := 0, slots := 0, locals := 204 }
def fX12_turnsOf (o0 : Nat) (v1 : Int32) (v2 : Int32) (μ : Mem) : Option (Int32 × Mem) :=
  (fX12_isFighter o0 v1 μ).bind fun r_1 =>
  (fX12_areTurns v2 μ).bind fun r_5 =>
  (fX12_goesBoth o0 r_1 r_5 μ).bind fun r_9 =>
  if r_9.1 = 0 then
    some (0, r_9.2)
  else
    (fX12_cellIn o0 v1 9 v2 r_9.2).bind fun r_13 =>
    (fX12_of o0 v1 9 r_13.2).bind fun r_16 =>
    some (r_13.1 - r_16, r_13.2)
abbrev rmX12_turnsOf : Room := { frames := 9, cells := 0, slots := 0, locals := 204 }
def fX12_longestRun_60 (kb27 : Int32 → Int32 → Int32 → Int32 → Mem → Option (Int32 × Mem)) (o0 : Nat) (v1 : Int32) (v2 : Int32) (v5 : Int32) (vt0 : Int32) (μ : Mem) : Option (Int32 × Mem) :=
  nm (ldI μ o0 24) fun v_1 =>
  (fX12_greater v2 vt0 μ).bind fun r_2 =>
  nm (v5 + 1) fun v_5 =>
  kb27 r_2 vt0 v_1 v_5 μ
def gX12_longestRun_27 (o0 : Nat) (v1 : Int32) (self : Int32 → Int32 → Int32 → Int32 → Mem → Option (Int32 × Mem)) : Int32 → Int32 → Int32 → Int32 → Mem → Option (Int32 × Mem) := fun v2 v3 v4 v5 μ =>
  if v1 ≤ v5 then
    (fX12_comesBack o0 v2 μ).bind fun r_1 =>
    some (r_1.1, r_1.2)
  else
    (fX12_isOver o0 μ).bind fun r_4 =>
    if r_4 = 0 then
      (fX12_turns o0 μ).bind fun r_11 =>
      if (ldI r_11 o0 24) = v4 then
        fX12_longestRun_60 self o0 v1 v2 v5 (v3 + 1) r_11
      else
        fX12_longestRun_60 self o0 v1 v2 v5 1 r_11
    else
      (fX12_comesBack o0 v2 μ).bind fun r_8 =>
      some (r_8.1, r_8.2)
def fX12_longestRun_27 (o0 : Nat) (v1 : Int32) : Int32 → Int32 → Int32 → Int32 → Mem → Option (Int32 × Mem) := zl5 (gX12_longestRun_27 o0 v1) FU
def fX12_longestRun (o0 : Nat) (v1 : Int32) (μ : Mem) : Option (Int32 × Mem) :=
  (fX12_areTurns v1 μ).bind fun r_1 =>
  (fX12_goes o0 r_1 μ).bind fun r_5 =>
  if r_5.1 = 0 then
    some (0, r_5.2)
  else
    (fX12_leaves o0 r_5.2).bind fun r_9 =>
    fX12_longestRun_27 o0 v1 0 0 ((-1)) 0 r_9
abbrev rmX12_longestRun : Room := { frames := 7, cells := 0, slots := 0, locals := 158 }
def fX12_endsWithin (o0 : Nat) (μ : Mem) : Option (Int32 × Mem) :=
  (fX12_leaves o0 μ).bind fun r_1 =>
  (fX12_plays o0 200 r_1).bind fun r_4 =>
  (fX12_isOver o0 r_4.2).bind fun r_7 =>
  if r_7 = 0 then
    (fX12_comesBack o0 (-1) r_4.2).bind fun r_11 =>
    some (r_11.1, r_11.2)
  else
    (fX12_comesBack o0 r_4.1 r_4.2).bind fun r_14 =>
    some (r_14.1, r_14.2)
abbrev rmX12_endsWithin : Room := { frames := 8, cells := 0, slots := 0, locals := 180 }
def fX12_endsIn (o0 : Nat) (μ : Mem) : Option (Int32 × Mem) :=
  nm (stI μ o0 0 0) fun m_1 =>
  (fX12_endsWithin o0 m_1).bind fun r_2 =>
  some (r_2.1, r_2.2)
abbrev rmX12_endsIn : Room := { frames := 9, cells := 0, slots := 0, locals := 201 }
def fX12_winnerThen (o0 : Nat) (μ : Mem) : Option (Int32 × Mem) :=
  (fX12_leaves o0 μ).bind fun r_1 =>
  (fX12_plays o0 200 r_1).bind fun r_4 =>
  (fX12_sideThatWon o0 r_4.2).bind fun r_7 =>
  (fX12_comesBack o0 r_7 r_4.2).bind fun r_10 =>
  some (r_10.1, r_10.2)
abbrev rmX12_winnerThen : Room := { frames := 8, cells := 0, slots := 0, locals := 180 }
def fX12_winner (o0 : Nat) (μ : Mem) : Option (Int32 × Mem) :=
  nm (stI μ o0 0 0) fun m_1 =>
  (fX12_winnerThen o0 m_1).bind fun r_2 =>
  some (r_2.1, r_2.2)
abbrev rmX12_winner : Room := { frames := 9, cells := 0, slots := 0, locals := 201 }
def gX12_firstLoss_22 (o0 : Nat) (v1 : Int32) (self : Int32 → Int32 → Mem → Option (Int32 × Mem)) : Int32 → Int32 → Mem → Option (Int32 × Mem) := fun v2 v3 μ =>
  if 200 ≤ v2 then
    (fX12_comesBack o0 v3 μ).bind fun r_1 =>
    some (r_1.1, r_1.2)
  else
    if v3 = ((-1)) then
      (fX12_isOver o0 μ).bind fun r_7 =>
      if r_7 = 0 then
        (fX12_of o0 v1 2 μ).bind fun r_14 =>
        (fX12_turns o0 μ).bind fun r_17 =>
        nm (v2 + 1) fun v_20 =>
        (fX12_of o0 v1 2 r_17).bind fun r_21 =>
        if r_14 ≤ r_21 then
          self v_20 ((-1)) r_17
        else
          self v_20 v_20 r_17
      else
        (fX12_comesBack o0 v3 μ).bind fun r_11 =>
        some (r_11.1, r_11.2)
    else
      (fX12_comesBack o0 v3 μ).bind fun r_4 =>
      some (r_4.1, r_4.2)
def fX12_firstLoss_22 (o0 : Nat) (v1 : Int32) : Int32 → Int32 → Mem → Option (Int32 × Mem) := zl3 (gX12_firstLoss_22 o0 v1) FU
def fX12_firstLoss (o0 : Nat) (v1 : Int32) (μ : Mem) : Option (Int32 × Mem) :=
  (fX12_isFighter o0 v1 μ).bind fun r_1 =>
  (fX12_goes o0 r_1 μ).bind fun r_5 =>
  if r_5.1 = 0 then
    some (0, r_5.2)
  else
    (fX12_leaves o0 r_5.2).bind fun r_9 =>
    fX12_firstLoss_22 o0 v1 0 ((-1)) r_9
abbrev rmX12_firstLoss : Room := { frames := 7, cells := 0, slots := 0, locals := 158 }
def fX12_seenCell (o0 : Nat) (v1 : Int32) (v2 : Int32) (μ : Mem) : Option (Int32) :=
  if v2 = 0 then
    (fX12_of o0 v1 2 μ).bind fun r_16 =>
    some r_16
  else
    if v2 = 1 then
      (fX12_of o0 v1 1 μ).bind fun r_13 =>
      some r_13
    else
      if v2 = 2 then
        (fX12_of o0 v1 4 μ).bind fun r_10 =>
        some r_10
      else
        if v2 = 3 then
          (fX12_of o0 v1 5 μ).bind fun r_7 =>
          some r_7
        else
          if v2 = 4 then
            (fX12_of o0 v1 6 μ).bind fun r_4 =>
            some r_4
          else
            (fX12_of o0 v1 7 μ).bind fun r_1 =>
            some r_1
abbrev rmX12_seenCell : Room := { frames := 2, cells := 0, slots := 0, locals := 43 }
def gX12_sees_14 (kb2 : Int32 → Mem → Option (Mem)) (o0 : Nat) (v1 : Int32) (v2 : Int32) (self : Int32 → Mem → Option (Mem)) : Int32 → Mem → Option (Mem) := fun v3 μ =>
  if 6 ≤ v3 then
    nm (v2 + 1) fun v_1 =>
    kb2 v_1 μ
  else
    (ldP μ o0 26).bind fun q_2 =>
    (fX12_seenCell o0 v2 v3 μ).bind fun r_5 =>
    gd (inB (((48 * v1) + (6 * v2)) + v3) (Ln q_2)) (nm (stI μ q_2 (((48 * v1) + (6 * v2)) + v3).toNatClampNeg r_5) fun m_8 =>
    nm (v3 + 1) fun v_10 =>
    self v_10 m_8)
def fX12_sees_14 (kb2 : Int32 → Mem → Option (Mem)) (o0 : Nat) (v1 : Int32) (v2 : Int32) : Int32 → Mem → Option (Mem) := zl2 (gX12_sees_14 kb2 o0 v1 v2) FU
def gX12_sees_2 (o0 : Nat) (v1 : Int32) (self : Int32 → Mem → Option (Mem)) : Int32 → Mem → Option (Mem) := fun v2 μ =>
  (ldP μ o0 13).bind fun q_1 =>
  gd (inB 0 (Ln q_1)) (if (ldI μ q_1 (0 : Int32).toNatClampNeg) ≤ v2 then
    some μ
  else
    fX12_sees_14 self o0 v1 v2 0 μ)
def fX12_sees_2 (o0 : Nat) (v1 : Int32) : Int32 → Mem → Option (Mem) := zl2 (gX12_sees_2 o0 v1) FU
def fX12_sees (o0 : Nat) (v1 : Int32) (μ : Mem) : Option (Mem) :=
  fX12_sees_2 o0 v1 0 μ
abbrev rmX12_sees : Room := { frames := 3, cells := 0, slots := 0, locals := 65 }
def gX12_areLike_5 (o0 : Nat) (v1 : Int32) (v2 : Int32) (μ : Mem) (self : Int32 → Int32 → Option (Int32)) : Int32 → Int32 → Option (Int32) := fun v3 v4 =>
  (ldP μ o0 13).bind fun q_1 =>
  gd (inB 0 (Ln q_1)) (if (6 * (ldI μ q_1 (0 : Int32).toNatClampNeg)) ≤ v4 then
    some v3
  else
    if v3 = 0 then
      some v3
    else
      (ldP μ o0 26).bind fun q_5 =>
      gd (inB ((48 * v1) + v4) (Ln q_5)) ((ldP μ o0 26).bind fun q_9 =>
      gd (inB ((48 * v2) + v4) (Ln q_9)) (if (ldI μ q_5 ((48 * v1) + v4).toNatClampNeg) = (ldI μ q_9 ((48 * v2) + v4).toNatClampNeg) then
        nm (v4 + 1) fun v_14 =>
        self 1 v_14
      else
        nm (v4 + 1) fun v_13 =>
        self 0 v_13)))
def fX12_areLike_5 (o0 : Nat) (v1 : Int32) (v2 : Int32) (μ : Mem) : Int32 → Int32 → Option (Int32) := zl2 (gX12_areLike_5 o0 v1 v2 μ) FU
def fX12_areLike (o0 : Nat) (v1 : Int32) (v2 : Int32) (μ : Mem) : Option (Int32) :=
  fX12_areLike_5 o0 v1 v2 μ 1 0
abbrev rmX12_areLike : Room := { frames := 0, cells := 0, slots := 0, locals := 0 }
def gX12_looksForAgain_54 (kb21 : Int32 → Mem → Option (Mem)) (o0 : Nat) (v1 : Int32) (self : Int32 → Mem → Option (Mem)) : Int32 → Mem → Option (Mem) := fun v2 μ =>
  if v1 ≤ v2 then
    if (ldI μ o0 28) = ((-1)) then
      nm (stI μ o0 27 ((-1))) fun m_3 =>
      nm (v1 + 1) fun v_4 =>
      kb21 v_4 m_3
    else
      nm (stI μ o0 27 v1) fun m_1 =>
      nm (v1 + 1) fun v_2 =>
      kb21 v_2 m_1
  else
    (fX12_areLike o0 v2 v1 μ).bind fun r_6 =>
    if r_6 = 0 then
      nm (stI μ o0 28 (ldI μ o0 28)) fun m_10 =>
      nm (v2 + 1) fun v_11 =>
      self v_11 m_10
    else
      nm (stI μ o0 28 v2) fun m_12 =>
      nm (v2 + 1) fun v_13 =>
      self v_13 m_12
def fX12_looksForAgain_54 (kb21 : Int32 → Mem → Option (Mem)) (o0 : Nat) (v1 : Int32) : Int32 → Mem → Option (Mem) := zl2 (gX12_looksForAgain_54 kb21 o0 v1) FU
def gX12_looksForAgain_21 (o0 : Nat) (self : Int32 → Mem → Option (Mem)) : Int32 → Mem → Option (Mem) := fun v1 μ =>
  if 200 < v1 then
    (fX12_comesBack o0 0 μ).bind fun r_1 =>
    some r_1.2
  else
    if (ldI μ o0 27) = ((-1)) then
      (fX12_isOver o0 μ).bind fun r_7 =>
      if r_7 = 0 then
        (fX12_turns o0 μ).bind fun r_14 =>
        (fX12_sees o0 v1 r_14).bind fun r_17 =>
        fX12_looksForAgain_54 self o0 v1 0 r_17
      else
        (fX12_comesBack o0 0 μ).bind fun r_11 =>
        some r_11.2
    else
      (fX12_comesBack o0 0 μ).bind fun r_4 =>
      some r_4.2
def fX12_looksForAgain_21 (o0 : Nat) : Int32 → Mem → Option (Mem) := zl2 (gX12_looksForAgain_21 o0) FU
def fX12_looksForAgain (o0 : Nat) (μ : Mem) : Option (Mem) :=
  (fX12_leaves o0 μ).bind fun r_1 =>
  nm (stI r_1 o0 27 ((-1))) fun m_4 =>
  nm (stI m_4 o0 28 ((-1))) fun m_5 =>
  (fX12_sees o0 0 m_5).bind fun r_6 =>
  fX12_looksForAgain_21 o0 1 r_6
abbrev rmX12_looksForAgain : Room := { frames := 7, cells := 0, slots := 0, locals := 158 }
def fX12_repeatIn (o0 : Nat) (μ : Mem) : Option (Int32 × Mem) :=
  nm (stI μ o0 0 0) fun m_1 =>
  (fX12_looksForAgain o0 m_1).bind fun r_2 =>
  some (ldI r_2 o0 27, r_2)
abbrev rmX12_repeatIn : Room := { frames := 8, cells := 0, slots := 0, locals := 180 }
def fX12_cycle (o0 : Nat) (μ : Mem) : Option (Int32 × Mem) :=
  nm (stI μ o0 0 0) fun m_1 =>
  (fX12_looksForAgain o0 m_1).bind fun r_2 =>
  if (ldI r_2 o0 27) = ((-1)) then
    some ((-1), r_2)
  else
    some ((ldI r_2 o0 27) - (ldI r_2 o0 28), r_2)
abbrev rmX12_cycle : Room := { frames := 8, cells := 0, slots := 0, locals := 180 }
def fX12_winsWith (o0 : Nat) (v1 : Int32) (v2 : Int32) (μ : Mem) : Option (Int32 × Mem) :=
  (fX12_leaves o0 μ).bind fun r_1 =>
  (fX12_sets o0 v1 1 v2 r_1).bind fun r_4 =>
  (fX12_plays o0 200 r_4).bind fun r_7 =>
  (fX12_sideThatWon o0 r_7.2).bind fun r_10 =>
  (fX12_comesBack o0 r_10 r_7.2).bind fun r_13 =>
  (fX12_of o0 v1 0 r_13.2).bind fun r_16 =>
  if r_13.1 = r_16 then
    some (1, r_13.2)
  else
    some (0, r_13.2)
abbrev rmX12_winsWith : Room := { frames := 8, cells := 0, slots := 0, locals := 180 }
def gX12_leastSpeed_16 (o0 : Nat) (v1 : Int32) (self : Int32 → Mem → Option (Int32 × Mem)) : Int32 → Mem → Option (Int32 × Mem) := fun v2 μ =>
  if 100 ≤ v2 then
    some ((-1), μ)
  else
    (fX12_winsWith o0 v1 v2 μ).bind fun r_1 =>
    if r_1.1 = 0 then
      nm (v2 + 1) fun v_5 =>
      self v_5 r_1.2
    else
      some (v2, r_1.2)
def fX12_leastSpeed_16 (o0 : Nat) (v1 : Int32) : Int32 → Mem → Option (Int32 × Mem) := zl2 (gX12_leastSpeed_16 o0 v1) FU
def fX12_leastSpeed (o0 : Nat) (v1 : Int32) (μ : Mem) : Option (Int32 × Mem) :=
  (fX12_isFighter o0 v1 μ).bind fun r_1 =>
  (fX12_goes o0 r_1 μ).bind fun r_5 =>
  if r_5.1 = 0 then
    some (0, r_5.2)
  else
    fX12_leastSpeed_16 o0 v1 1 r_5.2
abbrev rmX12_leastSpeed : Room := { frames := 9, cells := 0, slots := 0, locals := 203 }
def fX12_thenOn (o0 : Nat) (v1 : Int32) (μ : Mem) : Option (Int32 × Mem) :=
  (fX12_plays o0 20 μ).bind fun r_1 =>
  (fX12_lifeOn o0 v1 r_1.2).bind fun r_4 =>
  (fX12_comesBack o0 r_4 r_1.2).bind fun r_7 =>
  some (r_7.1, r_7.2)
abbrev rmX12_thenOn : Room := { frames := 8, cells := 0, slots := 0, locals := 180 }
def fX12_byPush (o0 : Nat) (v1 : Int32) (v2 : Int32) (v3 : Int32) (μ : Mem) : Option (Int32 × Mem) :=
  (fX12_leaves o0 μ).bind fun r_1 =>
  (fX12_lowers o0 v2 v3 r_1).bind fun r_4 =>
  (fX12_thenOn o0 v1 r_4.2).bind fun r_7 =>
  some (r_7.1, r_7.2)
abbrev rmX12_byPush : Room := { frames := 9, cells := 0, slots := 0, locals := 202 }
def gX12_bestPush_44 (o0 : Nat) (v1 : Int32) (v2 : Int32) (self : Int32 → Int32 → Int32 → Mem → Option (Int32 × Mem)) : Int32 → Int32 → Int32 → Mem → Option (Int32 × Mem) := fun v3 v4 v5 μ =>
  (ldP μ o0 13).bind fun q_1 =>
  gd (inB 0 (Ln q_1)) (if (ldI μ q_1 (0 : Int32).toNatClampNeg) ≤ v5 then
    some (v3, μ)
  else
    (fX12_lives o0 v5 μ).bind fun r_5 =>
    if r_5 = 0 then
      nm (v5 + 1) fun v_9 =>
      self v3 v4 v_9 μ
    else
      (fX12_of o0 v5 0 μ).bind fun r_10 =>
      if r_10 = v1 then
        nm (v5 + 1) fun v_21 =>
        self v3 v4 v_21 μ
      else
        (fX12_byPush o0 v1 v5 v2 μ).bind fun r_13 =>
        if v3 = ((-1)) then
          nm (v5 + 1) fun v_16 =>
          self v5 r_13.1 v_16 r_13.2
        else
          if v4 < r_13.1 then
            nm (v5 + 1) fun v_17 =>
            self v5 r_13.1 v_17 r_13.2
          else
            nm (v5 + 1) fun v_18 =>
            self v3 v4 v_18 r_13.2)
def fX12_bestPush_44 (o0 : Nat) (v1 : Int32) (v2 : Int32) : Int32 → Int32 → Int32 → Mem → Option (Int32 × Mem) := zl4 (gX12_bestPush_44 o0 v1 v2) FU
def fX12_bestPush_28 (o0 : Nat) (v1 : Int32) (v2 : Int32) (ot0 : Nat) (vt1 : Int32) (μ : Mem) : Option (Int32 × Mem) :=
  (fX12_goes ot0 vt1 μ).bind fun r_1 =>
  if r_1.1 = 0 then
    some (0, r_1.2)
  else
    fX12_bestPush_44 o0 v1 v2 ((-1)) 0 0 r_1.2
def fX12_bestPush_27 (o0 : Nat) (v1 : Int32) (v2 : Int32) (ot0 : Nat) (μ : Mem) : Option (Int32 × Mem) :=
  fX12_bestPush_28 o0 v1 v2 ot0 0 μ
def fX12_bestPush (o0 : Nat) (v1 : Int32) (v2 : Int32) (μ : Mem) : Option (Int32 × Mem) :=
  (fX12_isIn v1.toInt64 0 1 μ).bind fun r_1 =>
  if r_1 = 0 then
    fX12_bestPush_27 o0 v1 v2 o0 μ
  else
    (fX12_isIn v2.toInt64 1 999 μ).bind fun r_5 =>
    if r_5 = 0 then
      fX12_bestPush_27 o0 v1 v2 o0 μ
    else
      fX12_bestPush_28 o0 v1 v2 o0 1 μ
abbrev rmX12_bestPush : Room := { frames := 10, cells := 0, slots := 0, locals := 226 }
def fX12_bySwap (o0 : Nat) (v1 : Int32) (v2 : Int32) (μ : Mem) : Option (Int32 × Mem) :=
  (fX12_leaves o0 μ).bind fun r_1 =>
  (fX12_of o0 v1 4 r_1).bind fun r_4 =>
  (fX12_of o0 v2 4 r_1).bind fun r_7 =>
  (fX12_sets o0 v1 4 r_7 r_1).bind fun r_10 =>
  (fX12_sets o0 v2 4 r_4 r_10).bind fun r_13 =>
  (fX12_of o0 v1 0 r_13).bind fun r_16 =>
  (fX12_thenOn o0 r_16 r_13).bind fun r_19 =>
  some (r_19.1, r_19.2)
abbrev rmX12_bySwap : Room := { frames := 9, cells := 0, slots := 0, locals := 202 }
def gX12_bestSwap_45 (o0 : Nat) (v1 : Int32) (self : Int32 → Int32 → Int32 → Mem → Option (Int32 × Mem)) : Int32 → Int32 → Int32 → Mem → Option (Int32 × Mem) := fun v2 v3 v4 μ =>
  (ldP μ o0 13).bind fun q_1 =>
  gd (inB 0 (Ln q_1)) (if (ldI μ q_1 (0 : Int32).toNatClampNeg) ≤ v4 then
    some (v2, μ)
  else
    if v4 = v1 then
      nm (v4 + 1) fun v_5 =>
      self v2 v3 v_5 μ
    else
      (fX12_lives o0 v4 μ).bind fun r_6 =>
      if r_6 = 0 then
        nm (v4 + 1) fun v_10 =>
        self v2 v3 v_10 μ
      else
        (fX12_of o0 v4 0 μ).bind fun r_11 =>
        (fX12_of o0 v1 0 μ).bind fun r_14 =>
        if r_11 = r_14 then
          (fX12_bySwap o0 v1 v4 μ).bind fun r_17 =>
          if v3 < r_17.1 then
            nm (v4 + 1) fun v_20 =>
            self v4 r_17.1 v_20 r_17.2
          else
            nm (v4 + 1) fun v_21 =>
            self v2 v3 v_21 r_17.2
        else
          nm (v4 + 1) fun v_23 =>
          self v2 v3 v_23 μ)
def fX12_bestSwap_45 (o0 : Nat) (v1 : Int32) : Int32 → Int32 → Int32 → Mem → Option (Int32 × Mem) := zl4 (gX12_bestSwap_45 o0 v1) FU
def fX12_bestSwap (o0 : Nat) (v1 : Int32) (μ : Mem) : Option (Int32 × Mem) :=
  (fX12_isFighter o0 v1 μ).bind fun r_1 =>
  (fX12_goes o0 r_1 μ).bind fun r_5 =>
  if r_5.1 = 0 then
    if (ldI r_5.2 o0 0) ≤ 0 then
      some ((-1), r_5.2)
    else
      some (0, r_5.2)
  else
    (fX12_lives o0 v1 r_5.2).bind fun r_10 =>
    if r_10 = 0 then
      if (ldI r_5.2 o0 0) ≤ 0 then
        some ((-1), r_5.2)
      else
        some (0, r_5.2)
    else
      (fX12_bySwap o0 v1 v1 r_5.2).bind fun r_14 =>
      fX12_bestSwap_45 o0 v1 ((-1)) r_14.1 0 r_14.2
abbrev rmX12_bestSwap : Room := { frames := 10, cells := 0, slots := 0, locals := 225 }
def fX12_byPlace (o0 : Nat) (v1 : Int32) (v2 : Int32) (μ : Mem) : Option (Int32 × Mem) :=
  (fX12_leaves o0 μ).bind fun r_1 =>
  (fX12_sets o0 v1 7 v2 r_1).bind fun r_4 =>
  (fX12_of o0 v1 0 r_4).bind fun r_7 =>
  (fX12_thenOn o0 r_7 r_4).bind fun r_10 =>
  some (r_10.1, r_10.2)
abbrev rmX12_byPlace : Room := { frames := 9, cells := 0, slots := 0, locals := 202 }
def gX12_bestPlace_26 (o0 : Nat) (v1 : Int32) (self : Int32 → Int32 → Int32 → Mem → Option (Int32 × Mem)) : Int32 → Int32 → Int32 → Mem → Option (Int32 × Mem) := fun v2 v3 v4 μ =>
  (fX12_of o0 v1 8 μ).bind fun r_1 =>
  if r_1 ≤ v4 then
    some (v2, μ)
  else
    (fX12_byPlace o0 v1 v4 μ).bind fun r_4 =>
    if v3 < r_4.1 then
      nm (v4 + 1) fun v_7 =>
      self v4 r_4.1 v_7 r_4.2
    else
      nm (v4 + 1) fun v_8 =>
      self v2 v3 v_8 r_4.2
def fX12_bestPlace_26 (o0 : Nat) (v1 : Int32) : Int32 → Int32 → Int32 → Mem → Option (Int32 × Mem) := zl4 (gX12_bestPlace_26 o0 v1) FU
def fX12_bestPlace (o0 : Nat) (v1 : Int32) (μ : Mem) : Option (Int32 × Mem) :=
  (fX12_isFighter o0 v1 μ).bind fun r_1 =>
  (fX12_goes o0 r_1 μ).bind fun r_5 =>
  if r_5.1 = 0 then
    some (0, r_5.2)
  else
    (fX12_byPlace o0 v1 0 r_5.2).bind fun r_9 =>
    fX12_bestPlace_26 o0 v1 0 r_9.1 1 r_9.2
abbrev rmX12_bestPlace : Room := { frames := 10, cells := 0, slots := 0, locals := 224 }
def fX12_goesAll (o0 : Nat) (v1 : Int32) (v2 : Int32) (v3 : Int32) (μ : Mem) : Option (Int32 × Mem) :=
  (fX12_goesBoth o0 v1 v2 μ).bind fun r_1 =>
  if r_1.1 = 0 then
    if (ldI r_1.2 o0 0) = 0 then
      some (1, r_1.2)
    else
      some (0, r_1.2)
  else
    if v3 = 0 then
      nm (stI r_1.2 o0 0 3) fun m_7 =>
      if (ldI m_7 o0 0) = 0 then
        some (1, m_7)
      else
        some (0, m_7)
    else
      if (ldI r_1.2 o0 0) = 0 then
        some (1, r_1.2)
      else
        some (0, r_1.2)
abbrev rmX12_goesAll : Room := { frames := 1, cells := 0, slots := 0, locals := 22 }
def fX12_isBy (v0 : Int32) (μ : Mem) : Option (Int32) :=
  (fX12_isIn v0.toInt64 1 999 μ).bind fun r_1 =>
  some r_1
abbrev rmX12_isBy : Room := { frames := 1, cells := 0, slots := 0, locals := 25 }
def fX12_mayPlay (o0 : Nat) (v1 : Int32) (μ : Mem) : Option (Int32) :=
  (fX12_isOver o0 μ).bind fun r_1 =>
  if r_1 = 0 then
    (ldP μ o0 13).bind fun q_5 =>
    gd (inB 3 (Ln q_5)) (if 9999 < ((ldI μ q_5 (3 : Int32).toNatClampNeg) + v1) then
      some 0
    else
      some 1)
  else
    some 0
abbrev rmX12_mayPlay : Room := { frames := 5, cells := 0, slots := 0, locals := 107 }
def fX12_play_29 (o0 : Nat) (v1 : Int32) (ot0 : Nat) (vt1 : Int32) (vt2 : Int32) (μ : Mem) : Option (Int32 × Mem) :=
  (fX12_goesBoth ot0 vt1 vt2 μ).bind fun r_1 =>
  if r_1.1 = 0 then
    some (0, r_1.2)
  else
    (fX12_laysAside o0 r_1.2).bind fun r_5 =>
    (fX12_plays o0 v1 r_5).bind fun r_8 =>
    (fX12_kept o0 r_8.1 r_8.2).bind fun r_11 =>
    some (r_11.1, r_11.2)
def fX12_play_28 (o0 : Nat) (v1 : Int32) (ot0 : Nat) (vt1 : Int32) (μ : Mem) : Option (Int32 × Mem) :=
  fX12_play_29 o0 v1 ot0 vt1 0 μ
def fX12_play (o0 : Nat) (v1 : Int32) (μ : Mem) : Option (Int32 × Mem) :=
  (fX12_isIn v1.toInt64 1 99 μ).bind fun r_1 =>
  if r_1 = 0 then
    fX12_play_28 o0 v1 o0 r_1 μ
  else
    (fX12_mayPlay o0 v1 μ).bind fun r_5 =>
    if r_5 = 0 then
      fX12_play_28 o0 v1 o0 r_1 μ
    else
      fX12_play_29 o0 v1 o0 r_1 1 μ
abbrev rmX12_play : Room := { frames := 8, cells := 0, slots := 0, locals := 180 }
def fX12_push_29 (o0 : Nat) (v1 : Int32) (v2 : Int32) (ot0 : Nat) (vt1 : Int32) (vt2 : Int32) (vt3 : Int32) (μ : Mem) : Option (Int32 × Mem) :=
  (fX12_goesAll ot0 vt1 vt2 vt3 μ).bind fun r_1 =>
  if r_1.1 = 0 then
    some (0, r_1.2)
  else
    (fX12_laysAside o0 r_1.2).bind fun r_5 =>
    (fX12_lowers o0 v1 v2 r_5).bind fun r_8 =>
    (fX12_kept o0 r_8.1 r_8.2).bind fun r_11 =>
    some (r_11.1, r_11.2)
def fX12_push_28 (o0 : Nat) (v1 : Int32) (v2 : Int32) (ot0 : Nat) (vt1 : Int32) (vt2 : Int32) (μ : Mem) : Option (Int32 × Mem) :=
  fX12_push_29 o0 v1 v2 ot0 vt1 vt2 0 μ
def fX12_push (o0 : Nat) (v1 : Int32) (v2 : Int32) (μ : Mem) : Option (Int32 × Mem) :=
  (fX12_isFighter o0 v1 μ).bind fun r_1 =>
  (fX12_isBy v2 μ).bind fun r_5 =>
  if r_1 = 0 then
    fX12_push_28 o0 v1 v2 o0 r_1 r_5 μ
  else
    (fX12_lives o0 v1 μ).bind fun r_9 =>
    if r_9 = 0 then
      fX12_push_28 o0 v1 v2 o0 r_1 r_5 μ
    else
      fX12_push_29 o0 v1 v2 o0 r_1 r_5 1 μ
abbrev rmX12_push : Room := { frames := 3, cells := 0, slots := 0, locals := 66 }
def fX12_lift_29 (o0 : Nat) (v1 : Int32) (v2 : Int32) (ot0 : Nat) (vt1 : Int32) (vt2 : Int32) (vt3 : Int32) (μ : Mem) : Option (Int32 × Mem) :=
  (fX12_goesAll ot0 vt1 vt2 vt3 μ).bind fun r_1 =>
  if r_1.1 = 0 then
    some (0, r_1.2)
  else
    (fX12_laysAside o0 r_1.2).bind fun r_5 =>
    (fX12_raises o0 v1 v2 r_5).bind fun r_8 =>
    (fX12_kept o0 r_8.1 r_8.2).bind fun r_11 =>
    some (r_11.1, r_11.2)
def fX12_lift_28 (o0 : Nat) (v1 : Int32) (v2 : Int32) (ot0 : Nat) (vt1 : Int32) (vt2 : Int32) (μ : Mem) : Option (Int32 × Mem) :=
  fX12_lift_29 o0 v1 v2 ot0 vt1 vt2 0 μ
def fX12_lift (o0 : Nat) (v1 : Int32) (v2 : Int32) (μ : Mem) : Option (Int32 × Mem) :=
  (fX12_isFighter o0 v1 μ).bind fun r_1 =>
  (fX12_isBy v2 μ).bind fun r_5 =>
  if r_1 = 0 then
    fX12_lift_28 o0 v1 v2 o0 r_1 r_5 μ
  else
    (fX12_lives o0 v1 μ).bind fun r_9 =>
    if r_9 = 0 then
      fX12_lift_28 o0 v1 v2 o0 r_1 r_5 μ
    else
      fX12_lift_29 o0 v1 v2 o0 r_1 r_5 1 μ
abbrev rmX12_lift : Room := { frames := 3, cells := 0, slots := 0, locals := 66 }
def fX12_givesExtra (o0 : Nat) (v1 : Int32) (μ : Mem) : Option (Int32 × Mem) :=
  (fX12_of o0 v1 6 μ).bind fun r_1 =>
  if r_1 = 3 then
    some (0, μ)
  else
    (fX12_of o0 v1 6 μ).bind fun r_4 =>
    (fX12_sets o0 v1 6 (r_4 + 1) μ).bind fun r_7 =>
    some (1, r_7)
abbrev rmX12_givesExtra : Room := { frames := 2, cells := 0, slots := 0, locals := 44 }
def fX12_extra_25 (o0 : Nat) (v1 : Int32) (ot0 : Nat) (vt1 : Int32) (vt2 : Int32) (μ : Mem) : Option (Int32 × Mem) :=
  (fX12_goesBoth ot0 vt1 vt2 μ).bind fun r_1 =>
  if r_1.1 = 0 then
    some (0, r_1.2)
  else
    (fX12_laysAside o0 r_1.2).bind fun r_5 =>
    (fX12_givesExtra o0 v1 r_5).bind fun r_8 =>
    if r_8.1 = 0 then
      some (r_8.1, r_8.2)
    else
      (fX12_keeps o0 r_8.2).bind fun r_12 =>
      some (r_8.1, r_12)
def fX12_extra_24 (o0 : Nat) (v1 : Int32) (ot0 : Nat) (vt1 : Int32) (μ : Mem) : Option (Int32 × Mem) :=
  fX12_extra_25 o0 v1 ot0 vt1 0 μ
def fX12_extra (o0 : Nat) (v1 : Int32) (μ : Mem) : Option (Int32 × Mem) :=
  (fX12_isFighter o0 v1 μ).bind fun r_1 =>
  if r_1 = 0 then
    fX12_extra_24 o0 v1 o0 r_1 μ
  else
    (fX12_lives o0 v1 μ).bind fun r_5 =>
    if r_5 = 0 then
      fX12_extra_24 o0 v1 o0 r_1 μ
    else
      fX12_extra_25 o0 v1 o0 r_1 1 μ
abbrev rmX12_extra : Room := { frames := 3, cells := 0, slots := 0, locals := 65 }
def fX12_swapsCell (o0 : Nat) (v1 : Int32) (v2 : Int32) (μ : Mem) : Option (Int32 × Mem) :=
  (ldP μ o0 13).bind fun q_1 =>
  gd (inB v1 (Ln q_1)) (nm (ldI μ q_1 (v1).toNatClampNeg) fun v_5 =>
  (ldP μ o0 13).bind fun q_6 =>
  gd (inB v1 (Ln q_6)) (nm (stI μ q_6 (v1).toNatClampNeg v2) fun m_9 =>
  some (v_5, m_9)))
abbrev rmX12_swapsCell : Room := { frames := 0, cells := 0, slots := 0, locals := 0 }
def fX12_setSpeed (o0 : Nat) (v1 : Int32) (v2 : Int32) (μ : Mem) : Option (Int32 × Mem) :=
  (fX12_isFighter o0 v1 μ).bind fun r_1 =>
  (fX12_isIn v2.toInt64 1 99 μ).bind fun r_5 =>
  (fX12_goesBoth o0 r_1 r_5 μ).bind fun r_9 =>
  if r_9.1 = 0 then
    some (0, r_9.2)
  else
    (fX12_laysAside o0 r_9.2).bind fun r_13 =>
    (fX12_cellOf v1 1 r_13).bind fun r_16 =>
    (fX12_swapsCell o0 r_16 v2 r_13).bind fun r_19 =>
    (fX12_kept o0 r_19.1 r_19.2).bind fun r_22 =>
    some (r_22.1, r_22.2)
abbrev rmX12_setSpeed : Room := { frames := 3, cells := 0, slots := 0, locals := 66 }
def fX12_heal (o0 : Nat) (v1 : Int32) (v2 : Int32) (μ : Mem) : Option (Int32 × Mem) :=
  (fX12_isFighter o0 v1 μ).bind fun r_1 =>
  (fX12_isBy v2 μ).bind fun r_5 =>
  (fX12_goesBoth o0 r_1 r_5 μ).bind fun r_9 =>
  if r_9.1 = 0 then
    some (0, r_9.2)
  else
    (fX12_laysAside o0 r_9.2).bind fun r_13 =>
    (fX12_heals o0 v1 v2 r_13).bind fun r_16 =>
    (fX12_kept o0 r_16.1 r_16.2).bind fun r_19 =>
    some (r_19.1, r_19.2)
abbrev rmX12_heal : Room := { frames := 3, cells := 0, slots := 0, locals := 66 }
def fX12_isWheel (v0 : Int32) (μ : Mem) : Option (Int32) :=
  (fX12_isIn v0.toInt64 100 999 μ).bind fun r_1 =>
  some r_1
abbrev rmX12_isWheel : Room := { frames := 1, cells := 0, slots := 0, locals := 25 }
def fX12_setWheel (o0 : Nat) (v1 : Int32) (μ : Mem) : Option (Int32 × Mem) :=
  (fX12_isWheel v1 μ).bind fun r_1 =>
  (fX12_goes o0 r_1 μ).bind fun r_5 =>
  if r_5.1 = 0 then
    some (0, r_5.2)
  else
    (fX12_laysAside o0 r_5.2).bind fun r_9 =>
    (fX12_swapsCell o0 1 v1 r_9).bind fun r_12 =>
    (fX12_kept o0 r_12.1 r_12.2).bind fun r_15 =>
    some (r_15.1, r_15.2)
abbrev rmX12_setWheel : Room := { frames := 3, cells := 0, slots := 0, locals := 66 }
def fX12_maySet (o0 : Nat) (v1 : Int32) (v2 : Int32) (v3 : Int32) (v4 : Int32) (μ : Mem) : Option (Int32) :=
  (fX12_isAct o0 v1 v2 μ).bind fun r_1 =>
  if r_1 = 0 then
    some 0
  else
    (fX12_isIn v3.toInt64 0 6 μ).bind fun r_5 =>
    if r_5 = 0 then
      some 0
    else
      (fX12_mostOf v3 μ).bind fun r_9 =>
      (fX12_isIn v4.toInt64 1 r_9.toInt64 μ).bind fun r_12 =>
      if r_12 = 0 then
        some 0
      else
        some 1
abbrev rmX12_maySet : Room := { frames := 3, cells := 0, slots := 0, locals := 65 }
def fX12_setsAct (o0 : Nat) (v1 : Int32) (v2 : Int32) (v3 : Int32) (v4 : Int32) (μ : Mem) : Option (Int32 × Mem) :=
  (ldP μ o0 13).bind fun q_1 =>
  gd (inB ((148 + (6 * v1)) + v2) (Ln q_1)) (nm (stI μ q_1 ((148 + (6 * v1)) + v2).toNatClampNeg v4) fun m_4 =>
  (fX12_swapsCell o0 ((100 + (6 * v1)) + v2) v3 m_4).bind fun r_6 =>
  some (r_6.1, r_6.2))
abbrev rmX12_setsAct : Room := { frames := 1, cells := 0, slots := 0, locals := 23 }
def fX12_setAct_32 (o0 : Nat) (v1 : Int32) (v2 : Int32) (v3 : Int32) (v4 : Int32) (ot0 : Nat) (vt1 : Int32) (vt2 : Int32) (μ : Mem) : Option (Int32 × Mem) :=
  (fX12_goesBoth ot0 vt1 vt2 μ).bind fun r_1 =>
  if r_1.1 = 0 then
    some (0, r_1.2)
  else
    (fX12_laysAside o0 r_1.2).bind fun r_5 =>
    (fX12_setsAct o0 v1 v2 v3 v4 r_5).bind fun r_8 =>
    (fX12_kept o0 r_8.1 r_8.2).bind fun r_11 =>
    some (r_11.1, r_11.2)
def fX12_setAct_31 (o0 : Nat) (v1 : Int32) (v2 : Int32) (v3 : Int32) (v4 : Int32) (ot0 : Nat) (vt1 : Int32) (μ : Mem) : Option (Int32 × Mem) :=
  fX12_setAct_32 o0 v1 v2 v3 v4 ot0 vt1 0 μ
def fX12_setAct (o0 : Nat) (v1 : Int32) (v2 : Int32) (v3 : Int32) (v4 : Int32) (μ : Mem) : Option (Int32 × Mem) :=
  (fX12_isFighter o0 v1 μ).bind fun r_1 =>
  if r_1 = 0 then
    fX12_setAct_31 o0 v1 v2 v3 v4 o0 r_1 μ
  else
    (fX12_maySet o0 v1 v2 v3 v4 μ).bind fun r_5 =>
    if r_5 = 0 then
      fX12_setAct_31 o0 v1 v2 v3 v4 o0 r_1 μ
    else
      fX12_setAct_32 o0 v1 v2 v3 v4 o0 r_1 1 μ
abbrev rmX12_setAct : Room := { frames := 4, cells := 0, slots := 0, locals := 89 }
def fX12_commandHere (o0 : Nat) (μ : Mem) : Option (Int32) :=
  (fX12_isWord o0 677454 μ).bind fun r_1 =>
  if r_1 = 0 then
    (fX12_isWord o0 546408 μ).bind fun r_5 =>
    if r_5 = 0 then
      (fX12_isWord o0 402644 μ).bind fun r_9 =>
      if r_9 = 0 then
        (fX12_isWord o0 6050369 μ).bind fun r_13 =>
        if r_13 = 0 then
          (fX12_isWord o0 20452516 μ).bind fun r_17 =>
          if r_17 = 0 then
            (fX12_isWord o0 267308 μ).bind fun r_21 =>
            if r_21 = 0 then
              (fX12_isWord o0 24384684 μ).bind fun r_25 =>
              if r_25 = 0 then
                (fX12_isWord o0 1140 μ).bind fun r_29 =>
                if r_29 = 0 then
                  (fX12_isWord o0 609752116 μ).bind fun r_33 =>
                  if r_33 = 0 then
                    some ((-1))
                  else
                    some 8
                else
                  some 7
              else
                some 6
            else
              some 5
          else
            some 4
        else
          some 3
      else
        some 2
    else
      some 1
  else
    some 0
abbrev rmX12_commandHere : Room := { frames := 1, cells := 0, slots := 0, locals := 22 }
def fX12_told_19 (o0 : Nat) (vt0 : Int32) (μ : Mem) : Option (Int32 × Mem) :=
  (fX12_isGood o0 μ).bind fun r_1 =>
  if r_1 = 0 then
    (fX12_isGood o0 μ).bind fun r_5 =>
    if r_5 = 0 then
      some (vt0, μ)
    else
      (fX12_goOn o0 μ).bind fun r_9 =>
      some (vt0, r_9)
  else
    if vt0 = ((-1)) then
      (fX12_wrong o0 4 μ).bind fun r_21 =>
      (fX12_isGood o0 r_21).bind fun r_24 =>
      if r_24 = 0 then
        some (vt0, r_21)
      else
        (fX12_goOn o0 r_21).bind fun r_28 =>
        some (vt0, r_28)
    else
      (fX12_isGood o0 μ).bind fun r_13 =>
      if r_13 = 0 then
        some (vt0, μ)
      else
        (fX12_goOn o0 μ).bind fun r_17 =>
        some (vt0, r_17)
def fX12_told (o0 : Nat) (μ : Mem) : Option (Int32 × Mem) :=
  (fX12_mustBeWord o0 μ).bind fun r_1 =>
  (fX12_isGood o0 r_1).bind fun r_4 =>
  if r_4 = 0 then
    fX12_told_19 o0 ((-1)) r_1
  else
    (fX12_named o0 r_1).bind fun r_8 =>
    fX12_told_19 o0 r_8 r_1
abbrev rmX12_told : Room := { frames := 2, cells := 0, slots := 0, locals := 43 }
def fX12_any (o0 : Nat) (μ : Mem) : Option (Int32 × Mem) :=
  (fX12_number o0 0 999 μ).bind fun r_1 =>
  some (r_1.1, r_1.2)
abbrev rmX12_any : Room := { frames := 3, cells := 0, slots := 0, locals := 70 }
def fX12_kindTold (o0 : Nat) (μ : Mem) : Option (Int32 × Mem) :=
  (fX12_kindHere o0 μ).bind fun r_1 =>
  (fX12_isGood o0 μ).bind fun r_4 =>
  if r_4 = 0 then
    (fX12_isGood o0 μ).bind fun r_8 =>
    if r_8 = 0 then
      some (r_1, μ)
    else
      (fX12_goOn o0 μ).bind fun r_12 =>
      some (r_1, r_12)
  else
    if r_1 = ((-1)) then
      (fX12_wrong o0 1 μ).bind fun r_24 =>
      (fX12_isGood o0 r_24).bind fun r_27 =>
      if r_27 = 0 then
        some (r_1, r_24)
      else
        (fX12_goOn o0 r_24).bind fun r_31 =>
        some (r_1, r_31)
    else
      (fX12_isGood o0 μ).bind fun r_16 =>
      if r_16 = 0 then
        some (r_1, μ)
      else
        (fX12_goOn o0 μ).bind fun r_20 =>
        some (r_1, r_20)
abbrev rmX12_kindTold : Room := { frames := 2, cells := 0, slots := 0, locals := 43 }
def fX12_readsNumbers_129 (o0 : Nat) (v1 : Int32) (v2 : Int32) (μ : Mem) : Option (Mem) :=
  if v2 = 8 then
    (ldP μ o0 30).bind fun q_5 =>
    (fX12_number o0 1 20 μ).bind fun r_8 =>
    gd (inB v1 (Ln q_5)) (nm (stI r_8.2 q_5 (v1).toNatClampNeg r_8.1) fun m_11 =>
    if v2 = 8 then
      (fX12_mustSign o0 40 m_11).bind fun r_13 =>
      some r_13
    else
      some m_11)
  else
    if v2 = 8 then
      (fX12_mustSign o0 40 μ).bind fun r_1 =>
      some r_1
    else
      some μ
def fX12_readsNumbers_113 (o0 : Nat) (v1 : Int32) (v2 : Int32) (μ : Mem) : Option (Mem) :=
  if v2 = 7 then
    (ldP μ o0 33).bind fun q_1 =>
    (fX12_any o0 μ).bind fun r_4 =>
    gd (inB v1 (Ln q_1)) (nm (stI r_4.2 q_1 (v1).toNatClampNeg r_4.1) fun m_7 =>
    fX12_readsNumbers_129 o0 v1 v2 m_7)
  else
    fX12_readsNumbers_129 o0 v1 v2 μ
def fX12_readsNumbers_97 (o0 : Nat) (v1 : Int32) (v2 : Int32) (μ : Mem) : Option (Mem) :=
  if v2 = 7 then
    (ldP μ o0 32).bind fun q_1 =>
    (fX12_kindTold o0 μ).bind fun r_4 =>
    gd (inB v1 (Ln q_1)) (nm (stI r_4.2 q_1 (v1).toNatClampNeg r_4.1) fun m_7 =>
    fX12_readsNumbers_113 o0 v1 v2 m_7)
  else
    fX12_readsNumbers_113 o0 v1 v2 μ
def fX12_readsNumbers_87 (o0 : Nat) (v1 : Int32) (v2 : Int32) (μ : Mem) : Option (Mem) :=
  (ldP μ o0 31).bind fun q_1 =>
  (fX12_any o0 μ).bind fun r_4 =>
  gd (inB v1 (Ln q_1)) (nm (stI r_4.2 q_1 (v1).toNatClampNeg r_4.1) fun m_7 =>
  fX12_readsNumbers_97 o0 v1 v2 m_7)
def fX12_readsNumbers_61 (o0 : Nat) (v1 : Int32) (v2 : Int32) (μ : Mem) : Option (Mem) :=
  if v2 = 1 then
    fX12_readsNumbers_87 o0 v1 v2 μ
  else
    if v2 = 2 then
      fX12_readsNumbers_87 o0 v1 v2 μ
    else
      if v2 = 4 then
        fX12_readsNumbers_87 o0 v1 v2 μ
      else
        if v2 = 5 then
          fX12_readsNumbers_87 o0 v1 v2 μ
        else
          if v2 = 7 then
            fX12_readsNumbers_87 o0 v1 v2 μ
          else
            fX12_readsNumbers_97 o0 v1 v2 μ
def fX12_readsNumbers_51 (o0 : Nat) (v1 : Int32) (v2 : Int32) (μ : Mem) : Option (Mem) :=
  (ldP μ o0 30).bind fun q_1 =>
  (fX12_told o0 μ).bind fun r_4 =>
  gd (inB v1 (Ln q_1)) (nm (stI r_4.2 q_1 (v1).toNatClampNeg r_4.1) fun m_7 =>
  fX12_readsNumbers_61 o0 v1 v2 m_7)
def fX12_readsNumbers_20 (o0 : Nat) (v1 : Int32) (v2 : Int32) (μ : Mem) : Option (Mem) :=
  if v2 = 1 then
    fX12_readsNumbers_51 o0 v1 v2 μ
  else
    if v2 = 2 then
      fX12_readsNumbers_51 o0 v1 v2 μ
    else
      if v2 = 3 then
        fX12_readsNumbers_51 o0 v1 v2 μ
      else
        if v2 = 4 then
          fX12_readsNumbers_51 o0 v1 v2 μ
        else
          if v2 = 5 then
            fX12_readsNumbers_51 o0 v1 v2 μ
          else
            if v2 = 7 then
              fX12_readsNumbers_51 o0 v1 v2 μ
            else
              fX12_readsNumbers_61 o0 v1 v2 μ
def fX12_readsNumbers_10 (o0 : Nat) (v1 : Int32) (v2 : Int32) (μ : Mem) : Option (Mem) :=
  (ldP μ o0 30).bind fun q_1 =>
  (fX12_any o0 μ).bind fun r_4 =>
  gd (inB v1 (Ln q_1)) (nm (stI r_4.2 q_1 (v1).toNatClampNeg r_4.1) fun m_7 =>
  fX12_readsNumbers_20 o0 v1 v2 m_7)
def fX12_readsNumbers (o0 : Nat) (v1 : Int32) (v2 : Int32) (μ : Mem) : Option (Mem) :=
  if v2 = 0 then
    fX12_readsNumbers_10 o0 v1 v2 μ
  else
    if v2 = 6 then
      fX12_readsNumbers_10 o0 v1 v2 μ
    else
      fX12_readsNumbers_20 o0 v1 v2 μ
abbrev rmX12_readsNumbers : Room := { frames := 4, cells := 0, slots := 0, locals := 90 }
def fX12_command_48 (o0 : Nat) (v1 : Int32) (μ : Mem) : Option (Mem) :=
  (fX12_isGood o0 μ).bind fun r_1 =>
  if r_1 = 0 then
    some μ
  else
    nm (stI μ o0 37 ((ldI μ o0 37) + 1)) fun m_5 =>
    (fX12_goOn o0 m_5).bind fun r_6 =>
    nm (ldI r_6 o0 36) fun v_9 =>
    (ldP r_6 o0 29).bind fun q_10 =>
    gd (inB v_9 (Ln q_10)) (nm (stI r_6 q_10 (v_9).toNatClampNeg v1) fun m_13 =>
    (fX12_readsNumbers o0 v_9 v1 m_13).bind fun r_15 =>
    (fX12_isGood o0 r_15).bind fun r_18 =>
    if r_18 = 0 then
      some r_15
    else
      nm (stI r_15 o0 36 ((ldI r_15 o0 36) + 1)) fun m_22 =>
      if v1 = 8 then
        (fX12_truth 1 m_22).bind fun r_27 =>
        nm (stI m_22 o0 38 ((ldI m_22 o0 38) + r_27)) fun m_30 =>
        some m_30
      else
        (fX12_truth 0 m_22).bind fun r_23 =>
        nm (stI m_22 o0 38 ((ldI m_22 o0 38) + r_23)) fun m_26 =>
        some m_26)
def fX12_command_34 (o0 : Nat) (v1 : Int32) (μ : Mem) : Option (Mem) :=
  if (ldI μ o0 37) = 30 then
    (fX12_wrong o0 5 μ).bind fun r_1 =>
    fX12_command_48 o0 v1 r_1
  else
    fX12_command_48 o0 v1 μ
def fX12_command_15 (o0 : Nat) (v1 : Int32) (μ : Mem) : Option (Mem) :=
  if v1 = 8 then
    if (ldI μ o0 38) = 2 then
      (fX12_wrong o0 3 μ).bind fun r_1 =>
      fX12_command_34 o0 v1 r_1
    else
      fX12_command_34 o0 v1 μ
  else
    fX12_command_34 o0 v1 μ
def fX12_command (o0 : Nat) (μ : Mem) : Option (Mem) :=
  (fX12_commandHere o0 μ).bind fun r_1 =>
  if r_1 = ((-1)) then
    (fX12_wrong o0 1 μ).bind fun r_4 =>
    fX12_command_15 o0 r_1 r_4
  else
    fX12_command_15 o0 r_1 μ
abbrev rmX12_command : Room := { frames := 5, cells := 0, slots := 0, locals := 112 }
def gX12_closes_0 (o0 : Nat) (self : Mem → Option (Mem)) : Mem → Option (Mem) := fun μ =>
  if (ldI μ o0 38) ≤ 0 then
    some μ
  else
    (fX12_isSign o0 41 μ).bind fun r_1 =>
    if r_1 = 0 then
      some μ
    else
      nm (stI μ o0 38 ((ldI μ o0 38) - 1)) fun m_5 =>
      (ldP m_5 o0 29).bind fun q_6 =>
      gd (inB (ldI m_5 o0 36) (Ln q_6)) (nm (stI m_5 q_6 (ldI m_5 o0 36).toNatClampNeg 9) fun m_9 =>
      nm (stI m_9 o0 36 ((ldI m_9 o0 36) + 1)) fun m_11 =>
      (fX12_goOn o0 m_11).bind fun r_12 =>
      (fX12_mustSign o0 59 r_12).bind fun r_15 =>
      self r_15)
def fX12_closes_0 (o0 : Nat) : Mem → Option (Mem) := zl1 (gX12_closes_0 o0) FU
def fX12_closes (o0 : Nat) (μ : Mem) : Option (Mem) :=
  fX12_closes_0 o0 μ
abbrev rmX12_closes : Room := { frames := 3, cells := 0, slots := 0, locals := 64 }
def fX12_may (o0 : Nat) (v1 : Int32) (μ : Mem) : Option (Int32) :=
  (ldP μ o0 30).bind fun q_1 =>
  gd (inB v1 (Ln q_1)) (nm (ldI μ q_1 (v1).toNatClampNeg) fun v_5 =>
  (ldP μ o0 31).bind fun q_6 =>
  gd (inB v1 (Ln q_6)) (nm (ldI μ q_6 (v1).toNatClampNeg) fun v_10 =>
  (ldP μ o0 29).bind fun q_11 =>
  gd (inB v1 (Ln q_11)) (if (ldI μ q_11 (v1).toNatClampNeg) = 0 then
    (fX12_isIn v_5.toInt64 1 99 μ).bind fun r_63 =>
    if r_63 = 0 then
      some 0
    else
      (fX12_mayPlay o0 v_5 μ).bind fun r_67 =>
      if r_67 = 0 then
        some 0
      else
        some 1
  else
    if (ldI μ q_11 (v1).toNatClampNeg) = 1 then
      (fX12_isBy v_10 μ).bind fun r_53 =>
      if r_53 = 0 then
        some 0
      else
        (fX12_lives o0 v_5 μ).bind fun r_57 =>
        if r_57 = 0 then
          some 0
        else
          some 1
    else
      if (ldI μ q_11 (v1).toNatClampNeg) = 2 then
        (fX12_isBy v_10 μ).bind fun r_43 =>
        if r_43 = 0 then
          some 0
        else
          (fX12_lives o0 v_5 μ).bind fun r_47 =>
          if r_47 = 0 then
            some 0
          else
            some 1
      else
        if (ldI μ q_11 (v1).toNatClampNeg) = 3 then
          (fX12_lives o0 v_5 μ).bind fun r_39 =>
          some r_39
        else
          if (ldI μ q_11 (v1).toNatClampNeg) = 4 then
            (fX12_isIn v_10.toInt64 1 99 μ).bind fun r_35 =>
            some r_35
          else
            if (ldI μ q_11 (v1).toNatClampNeg) = 5 then
              (fX12_isBy v_10 μ).bind fun r_31 =>
              some r_31
            else
              if (ldI μ q_11 (v1).toNatClampNeg) = 6 then
                (fX12_isWheel v_5 μ).bind fun r_27 =>
                some r_27
              else
                (ldP μ o0 32).bind fun q_15 =>
                gd (inB v1 (Ln q_15)) ((ldP μ o0 33).bind fun q_19 =>
                gd (inB v1 (Ln q_19)) ((fX12_maySet o0 v_5 v_10 (ldI μ q_15 (v1).toNatClampNeg) (ldI μ q_19 (v1).toNatClampNeg) μ).bind fun r_23 =>
                some r_23)))))
abbrev rmX12_may : Room := { frames := 6, cells := 0, slots := 0, locals := 128 }
def fX12_isDone (o0 : Nat) (v1 : Int32) (μ : Mem) : Option (Int32 × Mem) :=
  (ldP μ o0 30).bind fun q_1 =>
  gd (inB v1 (Ln q_1)) (nm (ldI μ q_1 (v1).toNatClampNeg) fun v_5 =>
  (ldP μ o0 31).bind fun q_6 =>
  gd (inB v1 (Ln q_6)) (nm (ldI μ q_6 (v1).toNatClampNeg) fun v_10 =>
  (ldP μ o0 29).bind fun q_11 =>
  gd (inB v1 (Ln q_11)) (if (ldI μ q_11 (v1).toNatClampNeg) = 0 then
    (fX12_plays o0 v_5 μ).bind fun r_48 =>
    some (1, r_48.2)
  else
    if (ldI μ q_11 (v1).toNatClampNeg) = 1 then
      (fX12_lowers o0 v_5 v_10 μ).bind fun r_45 =>
      some (1, r_45.2)
    else
      if (ldI μ q_11 (v1).toNatClampNeg) = 2 then
        (fX12_raises o0 v_5 v_10 μ).bind fun r_42 =>
        some (1, r_42.2)
      else
        if (ldI μ q_11 (v1).toNatClampNeg) = 3 then
          (fX12_givesExtra o0 v_5 μ).bind fun r_38 =>
          some (r_38.1, r_38.2)
        else
          if (ldI μ q_11 (v1).toNatClampNeg) = 4 then
            (fX12_cellOf v_5 1 μ).bind fun r_32 =>
            (fX12_swapsCell o0 r_32 v_10 μ).bind fun r_35 =>
            some (1, r_35.2)
          else
            if (ldI μ q_11 (v1).toNatClampNeg) = 5 then
              (fX12_heals o0 v_5 v_10 μ).bind fun r_29 =>
              some (1, r_29.2)
            else
              if (ldI μ q_11 (v1).toNatClampNeg) = 6 then
                (fX12_swapsCell o0 1 v_5 μ).bind fun r_26 =>
                some (1, r_26.2)
              else
                (ldP μ o0 32).bind fun q_15 =>
                gd (inB v1 (Ln q_15)) ((ldP μ o0 33).bind fun q_19 =>
                gd (inB v1 (Ln q_19)) ((fX12_setsAct o0 v_5 v_10 (ldI μ q_15 (v1).toNatClampNeg) (ldI μ q_19 (v1).toNatClampNeg) μ).bind fun r_23 =>
                some (1, r_23.2))))))
abbrev rmX12_isDone : Room := { frames := 8, cells := 0, slots := 0, locals := 180 }
def fX12_runs_129 (kb9 : Int32 → Int32 → Int32 → Int32 → Mem → Option (Int32 × Mem)) (o0 : Nat) (v1 : Int32) (v2 : Int32) (v4 : Int32) (v5 : Int32) (vt0 : Int32) (μ : Mem) : Option (Int32 × Mem) :=
  if v5 = 0 then
    (fX12_truth 1 μ).bind fun r_5 =>
    nm (v2 - r_5) fun v_8 =>
    kb9 v1 v_8 vt0 v4 μ
  else
    (fX12_truth 0 μ).bind fun r_1 =>
    nm (v2 - r_1) fun v_4 =>
    kb9 v1 v_4 vt0 v4 μ
def fX12_runs_106 (kb9 : Int32 → Int32 → Int32 → Int32 → Mem → Option (Int32 × Mem)) (o0 : Nat) (v1 : Int32) (v2 : Int32) (v3 : Int32) (v4 : Int32) (vt0 : Int32) (μ : Mem) : Option (Int32 × Mem) :=
  if vt0 = 0 then
    fX12_runs_129 kb9 o0 v1 v2 v4 vt0 (v3 + 1) μ
  else
    (ldP μ o0 34).bind fun q_1 =>
    gd (inB (v2 - 1) (Ln q_1)) (fX12_runs_129 kb9 o0 v1 v2 v4 vt0 ((ldI μ q_1 (v2 - 1).toNatClampNeg) + 1) μ)
def gX12_runs_9 (o0 : Nat) (self : Int32 → Int32 → Int32 → Int32 → Mem → Option (Int32 × Mem)) : Int32 → Int32 → Int32 → Int32 → Mem → Option (Int32 × Mem) := fun v1 v2 v3 v4 μ =>
  if v4 = 0 then
    some (v1, μ)
  else
    if (ldI μ o0 36) ≤ v3 then
      some (v1, μ)
    else
      if 40 ≤ v1 then
        some (v1, μ)
      else
        (ldP μ o0 29).bind fun q_1 =>
        gd (inB v3 (Ln q_1)) (if (ldI μ q_1 (v3).toNatClampNeg) = 8 then
          (ldP μ o0 34).bind fun q_47 =>
          gd (inB v2 (Ln q_47)) (nm (stI μ q_47 (v2).toNatClampNeg v3) fun m_50 =>
          (ldP m_50 o0 35).bind fun q_52 =>
          (ldP m_50 o0 30).bind fun q_55 =>
          gd (inB v3 (Ln q_55)) (gd (inB v2 (Ln q_52)) (nm (stI m_50 q_52 (v2).toNatClampNeg (ldI m_50 q_55 (v3).toNatClampNeg)) fun m_59 =>
          nm (v2 + 1) fun v_61 =>
          nm (v3 + 1) fun v_62 =>
          self v1 v_61 v_62 v4 m_59)))
        else
          (ldP μ o0 29).bind fun q_5 =>
          gd (inB v3 (Ln q_5)) (if (ldI μ q_5 (v3).toNatClampNeg) = 9 then
            (ldP μ o0 35).bind fun q_34 =>
            nm (v2 - 1) fun v_37 =>
            gd (inB v_37 (Ln q_34)) (gd (inB v_37 (Ln q_34)) (nm (stI μ q_34 (v_37).toNatClampNeg ((ldI μ q_34 (v_37).toNatClampNeg) - 1)) fun m_39 =>
            (ldP m_39 o0 35).bind fun q_41 =>
            gd (inB (v2 - 1) (Ln q_41)) (if (ldI m_39 q_41 (v2 - 1).toNatClampNeg) ≤ 0 then
              fX12_runs_106 self o0 v1 v2 v3 v4 0 m_39
            else
              fX12_runs_106 self o0 v1 v2 v3 v4 1 m_39)))
          else
            (fX12_may o0 v3 μ).bind fun r_9 =>
            if r_9 = 0 then
              (fX12_truth 0 μ).bind fun r_13 =>
              nm (v1 + r_13) fun v_16 =>
              nm (v3 + 1) fun v_17 =>
              self v_16 v2 v_17 0 μ
            else
              (fX12_isDone o0 v3 μ).bind fun r_18 =>
              if r_18.1 = 0 then
                (fX12_truth 0 r_18.2).bind fun r_22 =>
                nm (v1 + r_22) fun v_25 =>
                nm (v3 + 1) fun v_26 =>
                self v_25 v2 v_26 0 r_18.2
              else
                (fX12_truth 1 r_18.2).bind fun r_27 =>
                nm (v1 + r_27) fun v_30 =>
                nm (v3 + 1) fun v_31 =>
                self v_30 v2 v_31 1 r_18.2))
def fX12_runs_9 (o0 : Nat) : Int32 → Int32 → Int32 → Int32 → Mem → Option (Int32 × Mem) := zl5 (gX12_runs_9 o0) FU
def fX12_runs (o0 : Nat) (μ : Mem) : Option (Int32 × Mem) :=
  fX12_runs_9 o0 0 0 0 1 μ
abbrev rmX12_runs : Room := { frames := 9, cells := 0, slots := 0, locals := 204 }
def fX12_runScript_82 (o0 : Nat) (μ : Mem) : Option (Int32 × Mem) :=
  (fX12_endsText o0 μ).bind fun r_1 =>
  if r_1.1 = 0 then
    some (0, r_1.2)
  else
    (fX12_laysAside o0 r_1.2).bind fun r_5 =>
    (fX12_runs o0 r_5).bind fun r_8 =>
    (fX12_keeps o0 r_8.2).bind fun r_11 =>
    some (r_8.1, r_11)
def fX12_runScript_63 (o0 : Nat) (μ : Mem) : Option (Int32 × Mem) :=
  (fX12_isGood o0 μ).bind fun r_1 =>
  if r_1 = 0 then
    fX12_runScript_82 o0 μ
  else
    if (ldI μ o0 38) ≤ 0 then
      fX12_runScript_82 o0 μ
    else
      (fX12_wrong o0 1 μ).bind fun r_5 =>
      fX12_runScript_82 o0 r_5
def gX12_runScript_19 (o0 : Nat) (self : Mem → Option (Int32 × Mem)) : Mem → Option (Int32 × Mem) := fun μ =>
  (fX12_isGood o0 μ).bind fun r_1 =>
  if r_1 = 0 then
    fX12_runScript_63 o0 μ
  else
    if (ldI μ o0 6) = 0 then
      fX12_runScript_63 o0 μ
    else
      nm (ldI μ o0 38) fun v_5 =>
      (fX12_command o0 μ).bind fun r_6 =>
      if (ldI r_6 o0 38) = v_5 then
        (fX12_mustSign o0 59 r_6).bind fun r_12 =>
        (fX12_closes o0 r_12).bind fun r_15 =>
        self r_15
      else
        (fX12_closes o0 r_6).bind fun r_9 =>
        self r_9
def fX12_runScript_19 (o0 : Nat) : Mem → Option (Int32 × Mem) := zl1 (gX12_runScript_19 o0) FU
def fX12_runScript (o0 : Nat) (μ : Mem) : Option (Int32 × Mem) :=
  (fX12_beginsText o0 μ).bind fun r_1 =>
  nm (stI r_1 o0 36 0) fun m_4 =>
  nm (stI m_4 o0 37 0) fun m_5 =>
  nm (stI m_5 o0 38 0) fun m_6 =>
  fX12_runScript_19 o0 m_6
abbrev rmX12_runScript : Room := { frames := 10, cells := 0, slots := 0, locals := 229 }
def fX12_tell (o0 : Nat) (v1 : Int32) (μ : Mem) : Option (Mem) :=
  (ldP μ o0 39).bind fun q_1 =>
  gd (inB (ldI μ o0 40) (Ln q_1)) (nm (stI μ q_1 (ldI μ o0 40).toNatClampNeg v1) fun m_4 =>
  nm (stI m_4 o0 40 ((ldI m_4 o0 40) + 1)) fun m_6 =>
  some m_6)
abbrev rmX12_tell : Room := { frames := 0, cells := 0, slots := 0, locals := 0 }
def gX12_tellNumber_20 (o0 : Nat) (v1 : Int32) (self : Int32 → Mem → Option (Mem)) : Int32 → Mem → Option (Mem) := fun v3 μ =>
  if v3 ≤ 0 then
    some μ
  else
    gd (nz v3) ((fX12_tell o0 (48 + ((v1 / v3) - (v1 / v3) / 10 * 10)) μ).bind fun r_2 =>
    nm (v3 / 10) fun v_5 =>
    self v_5 r_2)
def fX12_tellNumber_20 (o0 : Nat) (v1 : Int32) : Int32 → Mem → Option (Mem) := zl2 (gX12_tellNumber_20 o0 v1) FU
def gX12_tellNumber_2 (o0 : Nat) (v1 : Int32) (self : Int32 → Mem → Option (Mem)) : Int32 → Mem → Option (Mem) := fun v2 μ =>
  gd (nz v2) (if (v1 / v2) ≤ 9 then
    fX12_tellNumber_20 o0 v1 v2 μ
  else
    nm (v2 * 10) fun v_2 =>
    self v_2 μ)
def fX12_tellNumber_2 (o0 : Nat) (v1 : Int32) : Int32 → Mem → Option (Mem) := zl2 (gX12_tellNumber_2 o0 v1) FU
def fX12_tellNumber (o0 : Nat) (v1 : Int32) (μ : Mem) : Option (Mem) :=
  fX12_tellNumber_2 o0 v1 1 μ
abbrev rmX12_tellNumber : Room := { frames := 1, cells := 0, slots := 0, locals := 21 }
def fX12_nextTurn (o0 : Nat) (μ : Mem) : Option (Int32 × Mem) :=
  (fX12_leaves o0 μ).bind fun r_1 =>
  (fX12_plays o0 1 r_1).bind fun r_4 =>
  if r_4.1 = 0 then
    (fX12_comesBack o0 (-1) r_4.2).bind fun r_10 =>
    some (r_10.1, r_10.2)
  else
    (fX12_comesBack o0 (ldI r_4.2 o0 24) r_4.2).bind fun r_7 =>
    some (r_7.1, r_7.2)
abbrev rmX12_nextTurn : Room := { frames := 8, cells := 0, slots := 0, locals := 180 }
def gX12_tellFighter_69 (o0 : Nat) (v1 : Int32) (v2 : Int32) (self : Int32 → Mem → Option (Mem)) : Int32 → Mem → Option (Mem) := fun v3 μ =>
  (fX12_of o0 v1 6 μ).bind fun r_1 =>
  if r_1 ≤ v3 then
    if v1 = v2 then
      (fX12_tell o0 42 μ).bind fun r_7 =>
      (fX12_tell o0 10 r_7).bind fun r_10 =>
      some r_10
    else
      (fX12_tell o0 10 μ).bind fun r_4 =>
      some r_4
  else
    (fX12_tell o0 43 μ).bind fun r_14 =>
    nm (v3 + 1) fun v_17 =>
    self v_17 r_14
def fX12_tellFighter_69 (o0 : Nat) (v1 : Int32) (v2 : Int32) : Int32 → Mem → Option (Mem) := zl2 (gX12_tellFighter_69 o0 v1 v2) FU
def gX12_tellFighter_2 (o0 : Nat) (v1 : Int32) (v2 : Int32) (self : Int32 → Mem → Option (Mem)) : Int32 → Mem → Option (Mem) := fun v3 μ =>
  (ldP μ o0 18).bind fun q_1 =>
  gd (inB v1 (Ln q_1)) ((fX12_lettersOf (ldJ μ q_1 (v1).toNatClampNeg) μ).bind fun r_5 =>
  if r_5 ≤ v3 then
    (fX12_tell o0 32 μ).bind fun r_8 =>
    (fX12_of o0 v1 2 r_8).bind fun r_11 =>
    (fX12_tellNumber o0 r_11 r_8).bind fun r_14 =>
    (fX12_tell o0 47 r_14).bind fun r_17 =>
    (fX12_of o0 v1 4 r_17).bind fun r_20 =>
    (fX12_tellNumber o0 r_20 r_17).bind fun r_23 =>
    fX12_tellFighter_69 o0 v1 v2 0 r_23
  else
    (ldP μ o0 18).bind fun q_26 =>
    gd (inB v1 (Ln q_26)) ((fX12_letterOf (ldJ μ q_26 (v1).toNatClampNeg) v3 μ).bind fun r_30 =>
    (fX12_tell o0 r_30 μ).bind fun r_33 =>
    nm (v3 + 1) fun v_36 =>
    self v_36 r_33))
def fX12_tellFighter_2 (o0 : Nat) (v1 : Int32) (v2 : Int32) : Int32 → Mem → Option (Mem) := zl2 (gX12_tellFighter_2 o0 v1 v2) FU
def fX12_tellFighter (o0 : Nat) (v1 : Int32) (v2 : Int32) (μ : Mem) : Option (Mem) :=
  fX12_tellFighter_2 o0 v1 v2 0 μ
abbrev rmX12_tellFighter : Room := { frames := 2, cells := 0, slots := 0, locals := 48 }
def gX12_report_22 (o0 : Nat) (v1 : Int32) (self : Int32 → Mem → Option (Int32 × Mem)) : Int32 → Mem → Option (Int32 × Mem) := fun v2 μ =>
  (ldP μ o0 13).bind fun q_1 =>
  gd (inB 0 (Ln q_1)) (if (ldI μ q_1 (0 : Int32).toNatClampNeg) ≤ v2 then
    some (ldI μ o0 40, μ)
  else
    (fX12_tellFighter o0 v2 v1 μ).bind fun r_5 =>
    nm (v2 + 1) fun v_8 =>
    self v_8 r_5)
def fX12_report_22 (o0 : Nat) (v1 : Int32) : Int32 → Mem → Option (Int32 × Mem) := zl2 (gX12_report_22 o0 v1) FU
def fX12_report (o0 : Nat) (μ : Mem) : Option (Int32 × Mem) :=
  nm (stI μ o0 0 0) fun m_1 =>
  nm (stI m_1 o0 40 0) fun m_2 =>
  nm (stI m_2 o0 41 1) fun m_3 =>
  (fX12_nextTurn o0 m_3).bind fun r_4 =>
  fX12_report_22 o0 r_4.1 0 r_4.2
abbrev rmX12_report : Room := { frames := 9, cells := 0, slots := 0, locals := 201 }
def fX12_reportByte_29 (o0 : Nat) (v1 : Int32) (ot0 : Nat) (vt1 : Int32) (μ : Mem) : Option (Int32 × Mem) :=
  (fX12_goes ot0 vt1 μ).bind fun r_1 =>
  if r_1.1 = 0 then
    some (0, r_1.2)
  else
    (ldP r_1.2 o0 39).bind fun q_5 =>
    gd (inB v1 (Ln q_5)) (some (ldI r_1.2 q_5 (v1).toNatClampNeg, r_1.2))
def fX12_reportByte_28 (o0 : Nat) (v1 : Int32) (ot0 : Nat) (μ : Mem) : Option (Int32 × Mem) :=
  fX12_reportByte_29 o0 v1 ot0 0 μ
def fX12_reportByte (o0 : Nat) (v1 : Int32) (μ : Mem) : Option (Int32 × Mem) :=
  if (ldI μ o0 41) = 0 then
    fX12_reportByte_28 o0 v1 o0 μ
  else
    (fX12_isIn v1.toInt64 0 (((ldI μ o0 40) - 1).toInt64) μ).bind fun r_2 =>
    if r_2 = 0 then
      fX12_reportByte_28 o0 v1 o0 μ
    else
      fX12_reportByte_29 o0 v1 o0 1 μ
abbrev rmX12_reportByte : Room := { frames := 2, cells := 0, slots := 0, locals := 41 }
