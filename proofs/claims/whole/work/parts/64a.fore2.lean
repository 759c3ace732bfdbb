/-! the law: forecasts, further on -/
section FCL2
variable {c c' m m' : Mem} {n : Nat} {ν : Nat → Int64} {σ : Sg}
theorem later_y (h1 : FR c 66 σ ν) (h2 : okN n σ) (h3 : CI c) {f k : Nat} (hf : f < n) (hk : k < 201) : ∃ c1, fX11_laterSelf 0 (nI f) (nI k) c = some (.inl (154 + 5 + 3 * f), c1) ∧ FR c1 154 (sp_play k σ).2 ν ∧ SE (RG 154) c c1 := by
  have hn := h2.le
  obtain ⟨c1, a1, a2, a3⟩ := c_afterTurns h1 h3.2.2.2.2.2.2.2 h3.2.2.2.1.1 h2 (k := k) (by omega)
  refine ⟨c1, ?_, a2, a3⟩
  unfold fX11_laterSelf fX11_laterSelf_25 fX11_demand
  rw [known_y h3.1.2.2.1 h1 h2 hf, Option.bind_some, xbl, h1.num (by omega), nm_b, if_neg (nI_pos (by omega)), if_neg (show ¬ (200 : Int32) < nI k from nI_nlt (a := 200) (by omega) (by decide)), if_neg one0, Option.bind_some, xbl, h3.1.2.2.2.2.2.1, Option.bind_some, h3.1.2.2.1, Option.bind_some, a1, Option.bind_some, c_at a2, Option.bind_some, sp_at_nI (by omega)]
  rfl
theorem later_r (h1 : FR c 66 σ ν) (h2 : okN n σ) (h3 : CI c) {f : Nat} (hf : f < n) {x : Int32} (hx : ∀ i, i < 201 → ¬ x = nI i) : fX11_laterSelf 0 (nI f) x c = some (.inr 0, c) := by
  have hn := h2.le
  unfold fX11_laterSelf fX11_laterSelf_24 fX11_laterSelf_25 fX11_demand
  rw [known_y h3.1.2.2.1 h1 h2 hf, Option.bind_some, xbl, nm_b]
  rcases rng_n (k := 200) hx with e | ⟨e1, e2⟩
  · rw [if_pos e, if_pos rfl, Option.bind_some, xbr]
  · rw [if_neg e1, if_pos (show (200 : Int32) < x from e2), if_pos rfl, Option.bind_some, xbr]
theorem later_k (h1 : FR c 66 σ ν) (h2 : okN n σ) (h3 : CI c) {v x : Int32} (hv : v < 0 ∨ nI n ≤ v) : fX11_laterSelf 0 v x c = some (.inr 2, c) := by
  unfold fX11_laterSelf
  rw [known_n h3.1.2.2.1 h1 h2 hv, Option.bind_some, xbr]
theorem FCX.okz (h : FCX n ν c m) : okN n (ldI (stI m 362 0 0) 364) := by rw [r0]; exact h.2.1
theorem op_lifeIn (v x : Int32) : OP (fun k y => (k = 2 ∧ y = 1) ∨ (k = 0 ∧ y = 2)) (fun c => fX11_lifeIn 0 v x c) (fun m => fX12_lifeIn 362 v x m) := by
  intro c m h
  have h' := h
  obtain ⟨n, ν, hX⟩ := h.x
  have h00 := hX.okz
  obtain ⟨h1, h2, h3, p1, p2, p3⟩ := hX
  have hn := h2.le
  rcases f_cases n v hn with ⟨f, hf, rfl⟩ | hv
  · have hf8 : f < 8 := by omega
    rcases w_cases 201 (by decide) x with ⟨k, hk, rfl⟩ | hx
    · obtain ⟨c1, a1, a2, a3⟩ := later_y h1 h2 h3 hf hk
      obtain ⟨s1, s2⟩ := SE.sr a3
      obtain ⟨m3, b1, b2⟩ := m_cellIn (μ := stI m 362 0 0) (n := n) p1 p2 h00 hf8 (w := 2) (W := 2) (by decide) rfl (k := k) (by omega)
      rw [r0] at b1
      refine OP.f (e := fun k y => (k = 2 ∧ y = 1) ∨ (k = 0 ∧ y = 2)) (A := fun c => fX11_lifeIn 0 (nI f) (nI k) c) (B := fun m => fX12_lifeIn 362 (nI f) (nI k) m) (v := (sp_play k (ldI m 364)).2 (4 + 12 * f + 2)) h' ?_ ?_ s1 s2 ⟨_, _, a2⟩ b2.qw
      · show fX11_lifeIn 0 (nI f) (nI k) c = _
        unfold fX11_lifeIn
        rw [a1, Option.bind_some, xbl, a2.lif hf8]
      · show fX12_lifeIn 362 (nI f) (nI k) m = _
        unfold fX12_lifeIn fX12_areTurns
        rw [isF_y p1 h2 hf, Option.bind_some, show (200 : Int64) = (nI 200).toInt64 from rfl, isIn_y (by decide) (by omega), Option.bind_some, Option.bind_some, m_goesBoth, Option.bind_some]
        simp only [if_neg one0]
        rw [b1, Option.bind_some]
    · have hB : fX12_lifeIn 362 (nI f) x m = some (0, stI m 362 0 2) := by
        unfold fX12_lifeIn fX12_areTurns
        rw [isF_y p1 h2 hf, Option.bind_some, show (200 : Int64) = (nI 200).toInt64 from rfl, isIn_k (by decide) hx, Option.bind_some, Option.bind_some, m_goesBoth, Option.bind_some]
        simp only [if_neg one0, if_pos]
      refine OP.r (e := fun k y => (k = 2 ∧ y = 1) ∨ (k = 0 ∧ y = 2)) (A := fun c => fX11_lifeIn 0 (nI f) x c) (B := fun m => fX12_lifeIn 362 (nI f) x m) (k := 0) (v := 0) ?_ hB (h'.st0 2) MFr.s (Or.inr ⟨rfl, ldI_stI_s⟩)
      show fX11_lifeIn 0 (nI f) x c = _
      unfold fX11_lifeIn
      rw [later_r h1 h2 h3 hf hx, Option.bind_some, xbr]
  · have hB : fX12_lifeIn 362 v x m = some (0, stI m 362 0 1) := by
      unfold fX12_lifeIn fX12_areTurns
      rw [isF_n p1 h2 hv, Option.bind_some, show (200 : Int64) = (nI 200).toInt64 from rfl, m_isIn0, Option.bind_some, Option.bind_some, m_goesBoth, Option.bind_some]
      simp only [if_pos]
    refine OP.r (e := fun k y => (k = 2 ∧ y = 1) ∨ (k = 0 ∧ y = 2)) (A := fun c => fX11_lifeIn 0 v x c) (B := fun m => fX12_lifeIn 362 v x m) (k := 2) (v := 0) ?_ hB (h'.st0 1) MFr.s (Or.inl ⟨rfl, ldI_stI_s⟩)
    show fX11_lifeIn 0 v x c = _
    unfold fX11_lifeIn
    rw [later_k h1 h2 h3 hv, Option.bind_some, xbr]
theorem op_gaugeIn (v x : Int32) : OP (fun k y => (k = 2 ∧ y = 1) ∨ (k = 0 ∧ y = 2)) (fun c => fX11_gaugeIn 0 v x c) (fun m => fX12_gaugeIn 362 v x m) := by
  intro c m h
  have h' := h
  obtain ⟨n, ν, hX⟩ := h.x
  have h00 := hX.okz
  obtain ⟨h1, h2, h3, p1, p2, p3⟩ := hX
  have hn := h2.le
  rcases f_cases n v hn with ⟨f, hf, rfl⟩ | hv
  · have hf8 : f < 8 := by omega
    rcases w_cases 201 (by decide) x with ⟨k, hk, rfl⟩ | hx
    · obtain ⟨c1, a1, a2, a3⟩ := later_y h1 h2 h3 hf hk
      obtain ⟨s1, s2⟩ := SE.sr a3
      obtain ⟨m3, b1, b2⟩ := m_cellIn (μ := stI m 362 0 0) (n := n) p1 p2 h00 hf8 (w := 4) (W := 4) (by decide) rfl (k := k) (by omega)
      rw [r0] at b1
      refine OP.f (e := fun k y => (k = 2 ∧ y = 1) ∨ (k = 0 ∧ y = 2)) (A := fun c => fX11_gaugeIn 0 (nI f) (nI k) c) (B := fun m => fX12_gaugeIn 362 (nI f) (nI k) m) (v := (sp_play k (ldI m 364)).2 (4 + 12 * f + 4)) h' ?_ ?_ s1 s2 ⟨_, _, a2⟩ b2.qw
      · show fX11_gaugeIn 0 (nI f) (nI k) c = _
        unfold fX11_gaugeIn
        rw [a1, Option.bind_some, xbl, a2.gau hf8]
      · show fX12_gaugeIn 362 (nI f) (nI k) m = _
        unfold fX12_gaugeIn fX12_areTurns
        rw [isF_y p1 h2 hf, Option.bind_some, show (200 : Int64) = (nI 200).toInt64 from rfl, isIn_y (by decide) (by omega), Option.bind_some, Option.bind_some, m_goesBoth, Option.bind_some]
        simp only [if_neg one0]
        rw [b1, Option.bind_some]
    · have hB : fX12_gaugeIn 362 (nI f) x m = some (0, stI m 362 0 2) := by
        unfold fX12_gaugeIn fX12_areTurns
        rw [isF_y p1 h2 hf, Option.bind_some, show (200 : Int64) = (nI 200).toInt64 from rfl, isIn_k (by decide) hx, Option.bind_some, Option.bind_some, m_goesBoth, Option.bind_some]
        simp only [if_neg one0, if_pos]
      refine OP.r (e := fun k y => (k = 2 ∧ y = 1) ∨ (k = 0 ∧ y = 2)) (A := fun c => fX11_gaugeIn 0 (nI f) x c) (B := fun m => fX12_gaugeIn 362 (nI f) x m) (k := 0) (v := 0) ?_ hB (h'.st0 2) MFr.s (Or.inr ⟨rfl, ldI_stI_s⟩)
      show fX11_gaugeIn 0 (nI f) x c = _
      unfold fX11_gaugeIn
      rw [later_r h1 h2 h3 hf hx, Option.bind_some, xbr]
  · have hB : fX12_gaugeIn 362 v x m = some (0, stI m 362 0 1) := by
      unfold fX12_gaugeIn fX12_areTurns
      rw [isF_n p1 h2 hv, Option.bind_some, show (200 : Int64) = (nI 200).toInt64 from rfl, m_isIn0, Option.bind_some, Option.bind_some, m_goesBoth, Option.bind_some]
      simp only [if_pos]
    refine OP.r (e := fun k y => (k = 2 ∧ y = 1) ∨ (k = 0 ∧ y = 2)) (A := fun c => fX11_gaugeIn 0 v x c) (B := fun m => fX12_gaugeIn 362 v x m) (k := 2) (v := 0) ?_ hB (h'.st0 1) MFr.s (Or.inl ⟨rfl, ldI_stI_s⟩)
    show fX11_gaugeIn 0 v x c = _
    unfold fX11_gaugeIn
    rw [later_k h1 h2 h3 hv, Option.bind_some, xbr]
theorem op_turnsOf (v x : Int32) : OP (fun k y => (k = 2 ∧ y = 1) ∨ (k = 0 ∧ y = 2)) (fun c => fX11_turnsOf 0 v x c) (fun m => fX12_turnsOf 362 v x m) := by
  intro c m h
  have h' := h
  obtain ⟨n, ν, hX⟩ := h.x
  have h00 := hX.okz
  obtain ⟨h1, h2, h3, p1, p2, p3⟩ := hX
  have hn := h2.le
  rcases f_cases n v hn with ⟨f, hf, rfl⟩ | hv
  · have hf8 : f < 8 := by omega
    rcases w_cases 201 (by decide) x with ⟨k, hk, rfl⟩ | hx
    · obtain ⟨c1, a1, a2, a3⟩ := later_y h1 h2 h3 hf hk
      obtain ⟨s1, s2⟩ := SE.sr a3
      obtain ⟨m3, b1, b2⟩ := m_cellIn (μ := stI m 362 0 0) (n := n) p1 p2 h00 hf8 (w := 9) (W := 9) (by decide) rfl (k := k) (by omega)
      rw [r0] at b1
      have h66 : FR c1 66 (ldI m 364) ν := h1.same (fun a ha => a3 a (fun q => by unfold RG at q ha; omega))
      refine OP.f (e := fun k y => (k = 2 ∧ y = 1) ∨ (k = 0 ∧ y = 2)) (A := fun c => fX11_turnsOf 0 (nI f) (nI k) c) (B := fun m => fX12_turnsOf 362 (nI f) (nI k) m) (v := (sp_play k (ldI m 364)).2 (4 + 12 * f + 9) - ldI m 364 (4 + 12 * f + 9)) h' ?_ ?_ s1 s2 ⟨_, _, a2⟩ b2.qw
      · show fX11_turnsOf 0 (nI f) (nI k) c = _
        unfold fX11_turnsOf
        rw [known_y h3.1.2.2.1 h1 h2 hf, Option.bind_some, xbl, a1, Option.bind_some, xbl, show ldI c1 (154 + 5 + 3 * f) 13 = _ from a2.c (w := 9) hf8 (by decide), show ldI c1 (66 + 5 + 3 * f) 13 = _ from h66.c (w := 9) hf8 (by decide)]
      · show fX12_turnsOf 362 (nI f) (nI k) m = _
        unfold fX12_turnsOf fX12_areTurns
        rw [isF_y p1 h2 hf, Option.bind_some, show (200 : Int64) = (nI 200).toInt64 from rfl, isIn_y (by decide) (by omega), Option.bind_some, Option.bind_some, m_goesBoth, Option.bind_some]
        simp only [if_neg one0]
        rw [b1, Option.bind_some, m_of (by rw [b2.1]; exact p1) hf8 (w := 9) (W := 9) (by decide) rfl, Option.bind_some, b2.2.2.2.2 _ (by omega), r0]
    · have hB : fX12_turnsOf 362 (nI f) x m = some (0, stI m 362 0 2) := by
        unfold fX12_turnsOf fX12_areTurns
        rw [isF_y p1 h2 hf, Option.bind_some, show (200 : Int64) = (nI 200).toInt64 from rfl, isIn_k (by decide) hx, Option.bind_some, Option.bind_some, m_goesBoth, Option.bind_some]
        simp only [if_neg one0, if_pos]
      refine OP.r (e := fun k y => (k = 2 ∧ y = 1) ∨ (k = 0 ∧ y = 2)) (A := fun c => fX11_turnsOf 0 (nI f) x c) (B := fun m => fX12_turnsOf 362 (nI f) x m) (k := 0) (v := 0) ?_ hB (h'.st0 2) MFr.s (Or.inr ⟨rfl, ldI_stI_s⟩)
      show fX11_turnsOf 0 (nI f) x c = _
      unfold fX11_turnsOf
      rw [known_y h3.1.2.2.1 h1 h2 hf, Option.bind_some, xbl, later_r h1 h2 h3 hf hx, Option.bind_some, xbr]
  · have hB : fX12_turnsOf 362 v x m = some (0, stI m 362 0 1) := by
      unfold fX12_turnsOf fX12_areTurns
      rw [isF_n p1 h2 hv, Option.bind_some, show (200 : Int64) = (nI 200).toInt64 from rfl, m_isIn0, Option.bind_some, Option.bind_some, m_goesBoth, Option.bind_some]
      simp only [if_pos]
    refine OP.r (e := fun k y => (k = 2 ∧ y = 1) ∨ (k = 0 ∧ y = 2)) (A := fun c => fX11_turnsOf 0 v x c) (B := fun m => fX12_turnsOf 362 v x m) (k := 2) (v := 0) ?_ hB (h'.st0 1) MFr.s (Or.inl ⟨rfl, ldI_stI_s⟩)
    show fX11_turnsOf 0 v x c = _
    unfold fX11_turnsOf
    rw [known_n h3.1.2.2.1 h1 h2 hv, Option.bind_some, xbr]
theorem op_longestRun (x : Int32) : OP (fun k y => k = 0 ∧ y = 1) (fun c => fX11_longestRun 0 x c) (fun m => fX12_longestRun 362 x m) := by
  intro c m h
  have h' := h
  obtain ⟨n, ν, hX⟩ := h.x
  have h00 := hX.okz
  obtain ⟨h1, h2, h3, p1, p2, p3⟩ := hX
  rcases w_cases 201 (by decide) x with ⟨k, hk, rfl⟩ | hx
  · obtain ⟨c1, a1, a2, a3⟩ := c_mostInARow h1 h3.2.2.2.2.2.2.2 h3.2.2.2.1.1 h2 (k := k) (by omega)
    obtain ⟨s1, s2⟩ := SE.sr a3
    obtain ⟨m1, d1, d2⟩ := m_leaves (μ := stI m 362 0 0) p1 p2
    obtain ⟨m3, b1, b2⟩ := m_longestRun27 (μ := stI m 362 0 0) (n := n) p1 p2 h00 d2 (k := k) (by omega)
    rw [r0] at b1
    refine OP.f (e := fun k y => k = 0 ∧ y = 1) (A := fun c => fX11_longestRun 0 (nI k) c) (B := fun m => fX12_longestRun 362 (nI k) m) h' ?_ ?_ s1 s2 a2 b2.qw (v := nI (sp_run k (ldI m 364) none 0 0))
    · show fX11_longestRun 0 (nI k) c = _
      unfold fX11_longestRun fX11_demand
      rw [if_neg (nI_pos (by omega)), if_neg (show ¬ (200 : Int32) < nI k from nI_nlt (a := 200) (by omega) (by decide)), if_neg one0, Option.bind_some, xbl, h3.1.2.2.2.2.2.1, Option.bind_some, h3.1.2.2.1, Option.bind_some, a1, Option.bind_some]
    · show fX12_longestRun 362 (nI k) m = _
      unfold fX12_longestRun fX12_areTurns
      rw [show (200 : Int64) = (nI 200).toInt64 from rfl, isIn_y (by decide) (by omega), Option.bind_some, Option.bind_some, m_goes1, Option.bind_some, if_neg one0, d1, Option.bind_some, b1]
  · have hB : fX12_longestRun 362 x m = some (0, stI m 362 0 1) := by
      unfold fX12_longestRun fX12_areTurns
      rw [show (200 : Int64) = (nI 200).toInt64 from rfl, isIn_k (by decide) hx, Option.bind_some, Option.bind_some, m_goes0, Option.bind_some, if_pos rfl]
    refine OP.r (e := fun k y => k = 0 ∧ y = 1) (A := fun c => fX11_longestRun 0 x c) (B := fun m => fX12_longestRun 362 x m) (k := 0) (v := 0) ?_ hB (h'.st0 1) MFr.s ⟨rfl, ldI_stI_s⟩
    show fX11_longestRun 0 x c = _
    unfold fX11_longestRun fX11_demand
    rcases rng_n (k := 200) hx with e | ⟨e1, e2⟩
    · rw [if_pos e, if_pos rfl, Option.bind_some, xbr]
    · rw [if_neg e1, if_pos (show (200 : Int32) < x from e2), if_pos rfl, Option.bind_some, xbr]
theorem op_endsIn : OPn (fX11_endsIn 0) (fX12_endsIn 362) := by
  intro c m h
  have h' := h
  obtain ⟨n, ν, hX⟩ := h.x
  have h00 := hX.okz
  obtain ⟨h1, h2, h3, p1, p2, p3⟩ := hX
  obtain ⟨c1, a1, a2, a3⟩ := c_turnsToEnd h1 h3.2.2.2.2.2.2.2 h3.2.2.2.1.1 h2
  obtain ⟨s1, s2⟩ := SE.sr a3
  obtain ⟨m3, b1, b2⟩ := m_endsWithin (μ := stI m 362 0 0) (n := n) p1 p2 h00
  rw [r0] at b1
  refine OPn.f h' ?_ ?_ s1 s2 a2 b2.qw (v := if sp_over (sp_play 200 (ldI m 364)).2 = true then nI (sp_play 200 (ldI m 364)).1 else -1)
  · unfold fX11_endsIn
    rw [h3.1.2.2.2.2.2.1, Option.bind_some, h3.1.2.2.1, Option.bind_some, a1, Option.bind_some]
  · unfold fX12_endsIn
    rw [nm_b, b1, Option.bind_some]
theorem op_winner : OPn (fX11_winner 0) (fX12_winner 362) := by
  intro c m h
  have h' := h
  obtain ⟨n, ν, hX⟩ := h.x
  have h00 := hX.okz
  obtain ⟨h1, h2, h3, p1, p2, p3⟩ := hX
  obtain ⟨c1, a1, a2, a3⟩ := c_afterTurns h1 h3.2.2.2.2.2.2.2 h3.2.2.2.1.1 h2 (k := 200) (by decide)
  obtain ⟨s1, s2⟩ := SE.sr a3
  obtain ⟨m3, b1, b2⟩ := m_winnerThen (μ := stI m 362 0 0) (n := n) p1 p2 h00
  rw [r0] at b1
  refine OPn.f h' ?_ ?_ s1 s2 ⟨_, _, a2⟩ b2.qw (v := sp_won (sp_play 200 (ldI m 364)).2)
  · unfold fX11_winner
    rw [h3.1.2.2.2.2.2.1, Option.bind_some, h3.1.2.2.1, Option.bind_some, show (200 : Int32) = nI 200 from rfl, a1, Option.bind_some, c_wonBy a2, Option.bind_some]
  · unfold fX12_winner
    rw [nm_b, b1, Option.bind_some]
theorem op_repeatIn : OPn (fX11_repeatIn 0) (fX12_repeatIn 362) := by
  intro c m h
  have h' := h
  obtain ⟨n, ν, hX⟩ := h.x
  have h00 := hX.okz
  obtain ⟨h1, h2, h3, p1, p2, p3⟩ := hX
  obtain ⟨c1, a1, a2, a3, a4, a5, a6⟩ := c_findRepeat h1 h3.2.2.2.2.2.2.2 h3.2.2.2.1.1 h3.2.2.2.1.2 h2
  obtain ⟨m3, b1, b2, b3⟩ := m_looks (μ := stI m 362 0 0) (n := n) p1 p2 p3 h00
  rw [r0] at b2
  refine OPn.f h' ?_ ?_ a5 a6 a4 b3 (v := rpT (sp_rp (SS (ldI m 364)) 200 1))
  · unfold fX11_repeatIn
    rw [h3.1.2.2.2.2.2.1, Option.bind_some, h3.1.2.2.1, Option.bind_some, a1, Option.bind_some, (a5 0 (fun q => by unfold SR RG at q; omega)).2.2, h3.1.2.2.2.2.2.1, Option.bind_some, a2]
  · unfold fX12_repeatIn
    rw [nm_b, b1, Option.bind_some, b2.1]
theorem op_cycle : OPn (fX11_cycle 0) (fX12_cycle 362) := by
  intro c m h
  have h' := h
  obtain ⟨n, ν, hX⟩ := h.x
  have h00 := hX.okz
  obtain ⟨h1, h2, h3, p1, p2, p3⟩ := hX
  obtain ⟨c1, a1, a2, a3, a4, a5, a6⟩ := c_findRepeat h1 h3.2.2.2.2.2.2.2 h3.2.2.2.1.1 h3.2.2.2.1.2 h2
  obtain ⟨m3, b1, b2, b3⟩ := m_looks (μ := stI m 362 0 0) (n := n) p1 p2 p3 h00
  rw [r0] at b2
  refine OPn.f h' ?_ ?_ a5 a6 a4 b3 (v := rpL (sp_rp (SS (ldI m 364)) 200 1))
  · unfold fX11_cycle
    rw [h3.1.2.2.2.2.2.1, Option.bind_some, h3.1.2.2.1, Option.bind_some, a1, Option.bind_some, (a5 0 (fun q => by unfold SR RG at q; omega)).2.2, h3.1.2.2.2.2.2.1, Option.bind_some, a3]
  · unfold fX12_cycle
    rw [nm_b, b1, Option.bind_some, b2.1]
    generalize hR : sp_rp (SS (ldI m 364)) 200 1 = R at b2
    cases R with
    | none => rfl
    | some x =>
      obtain ⟨e1, e2⟩ := rp_bd hR
      have e3 : ldI m3 362 28 = nI x.2 := b2.2 x rfl
      rw [e3]
      show (if nI x.1 = -1 then some (-1, m3) else some (nI x.1 - nI x.2, m3)) = some (nI (x.1 - x.2), m3)
      rw [if_neg (nI_m1 (by omega)), pk_sub (by omega)]
theorem op_firstLoss (v : Int32) : OP (fun k y => k = 2 ∧ y = 1) (fun c => fX11_firstLoss 0 v c) (fun m => fX12_firstLoss 362 v m) := by
  intro c m h
  have h' := h
  obtain ⟨n, ν, hX⟩ := h.x
  have h00 := hX.okz
  obtain ⟨h1, h2, h3, p1, p2, p3⟩ := hX
  have hn := h2.le
  rcases f_cases n v hn with ⟨f, hf, rfl⟩ | hv
  · have hf8 : f < 8 := by omega
    obtain ⟨c1, a1, a2, a3⟩ := c_turnOfLoss h1 h3.2.2.2.2.2.2.2 h3.2.2.2.1.1 h2 hf8
    obtain ⟨s1, s2⟩ := SE.sr a3
    obtain ⟨m1, d1, d2⟩ := m_leaves (μ := stI m 362 0 0) p1 p2
    obtain ⟨m3, b1, b2⟩ := m_firstLoss22 (μ := stI m 362 0 0) (n := n) p1 p2 h00 d2 hf
    rw [r0] at b1
    have b2 := b2.qw
    refine OP.f (e := fun k y => k = 2 ∧ y = 1) (A := fun c => fX11_firstLoss 0 (nI f) c) (B := fun m => fX12_firstLoss 362 (nI f) m) h' ?_ ?_ s1 s2 a2 b2 (v := noI (sp_fl f 200 1 (ldI m 364)))
    · show fX11_firstLoss 0 (nI f) c = _
      unfold fX11_firstLoss
      rw [h3.1.2.2.2.2.2.1, Option.bind_some, h3.1.2.2.1, Option.bind_some, known_y h3.1.2.2.1 h1 h2 hf, Option.bind_some, xbl, h1.num hf8, a1, Option.bind_some]
    · show fX12_firstLoss 362 (nI f) m = _
      unfold fX12_firstLoss
      rw [isF_y p1 h2 hf, Option.bind_some, m_goes1, Option.bind_some, if_neg one0]
      dsimp only
      rw [d1, Option.bind_some, b1]
  · have hB : fX12_firstLoss 362 v m = some (0, stI m 362 0 1) := by
      unfold fX12_firstLoss
      rw [isF_n p1 h2 hv, Option.bind_some, m_goes0, Option.bind_some, if_pos rfl]
    refine OP.r (e := fun k y => k = 2 ∧ y = 1) (A := fun c => fX11_firstLoss 0 v c) (B := fun m => fX12_firstLoss 362 v m) (k := 2) (v := 0) ?_ hB (h'.st0 1) MFr.s ⟨rfl, ldI_stI_s⟩
    show fX11_firstLoss 0 v c = _
    unfold fX11_firstLoss
    rw [h3.1.2.2.2.2.2.1, Option.bind_some, h3.1.2.2.1, Option.bind_some, known_n h3.1.2.2.1 h1 h2 hv, Option.bind_some, xbr]
theorem op_leastSpeed (v : Int32) : OP (fun k y => k = 2 ∧ y = 1) (fun c => fX11_leastSpeed 0 v c) (fun m => fX12_leastSpeed 362 v m) := by
  intro c m h
  have h' := h
  obtain ⟨n, ν, hX⟩ := h.x
  have h00 := hX.okz
  obtain ⟨h1, h2, h3, p1, p2, p3⟩ := hX
  have hn := h2.le
  rcases f_cases n v hn with ⟨f, hf, rfl⟩ | hv
  · have hf8 : f < 8 := by omega
    obtain ⟨c1, a1, a2, a3⟩ := c_speedToWin h1 h3.2.2.2.2.2.2.2 h3.2.2.2.1.1 h2 hf
    obtain ⟨s1, s2⟩ := SE.sr a3
    obtain ⟨m3, b1, b2⟩ := m_leastSpeed16 (μ := stI m 362 0 0) (n := n) p1 p2 h00 hf
    rw [r0] at b1
    have b2 := b2.1
    refine OP.f (e := fun k y => k = 2 ∧ y = 1) (A := fun c => fX11_leastSpeed 0 (nI f) c) (B := fun m => fX12_leastSpeed 362 (nI f) m) h' ?_ ?_ s1 s2 a2 b2 (v := noI (sp_ls (ldI m 364) f))
    · show fX11_leastSpeed 0 (nI f) c = _
      unfold fX11_leastSpeed
      rw [h3.1.2.2.2.2.2.1, Option.bind_some, h3.1.2.2.1, Option.bind_some, known_y h3.1.2.2.1 h1 h2 hf, Option.bind_some, xbl, a1, Option.bind_some]
    · show fX12_leastSpeed 362 (nI f) m = _
      unfold fX12_leastSpeed
      rw [isF_y p1 h2 hf, Option.bind_some, m_goes1, Option.bind_some, if_neg one0]
      dsimp only
      rw [b1]
  · have hB : fX12_leastSpeed 362 v m = some (0, stI m 362 0 1) := by
      unfold fX12_leastSpeed
      rw [isF_n p1 h2 hv, Option.bind_some, m_goes0, Option.bind_some, if_pos rfl]
    refine OP.r (e := fun k y => k = 2 ∧ y = 1) (A := fun c => fX11_leastSpeed 0 v c) (B := fun m => fX12_leastSpeed 362 v m) (k := 2) (v := 0) ?_ hB (h'.st0 1) MFr.s ⟨rfl, ldI_stI_s⟩
    show fX11_leastSpeed 0 v c = _
    unfold fX11_leastSpeed
    rw [h3.1.2.2.2.2.2.1, Option.bind_some, h3.1.2.2.1, Option.bind_some, known_n h3.1.2.2.1 h1 h2 hv, Option.bind_some, xbr]
theorem op_bestSwap (v : Int32) : OP (fun k y => k = 2 ∧ y = 1) (fun c => fX11_bestSwap 0 v c) (fun m => fX12_bestSwap 362 v m) := by
  intro c m h
  have h' := h
  obtain ⟨n, ν, hX⟩ := h.x
  have h00 := hX.okz
  obtain ⟨h1, h2, h3, p1, p2, p3⟩ := hX
  have hn := h2.le
  rcases f_cases n v hn with ⟨f, hf, rfl⟩ | hv
  · have hf8 : f < 8 := by omega
    obtain ⟨c1, a1, a2, a3⟩ := c_withWhomToSwap h1 h3.2.2.2.2.2.2.2 h3.2.2.2.1.1 h2 hf
    obtain ⟨s1, s2⟩ := SE.sr a3
    obtain ⟨m3, b1, b2⟩ : ∃ m3, fX12_bestSwap 362 (nI f) m = some (if lvN (ldI m 364) f then noI (sp_bs (ldI m 364) f) else -1, m3) ∧ QFm (stI m 362 0 0) m3 := by
      unfold fX12_bestSwap
      rw [isF_y p1 h2 hf, Option.bind_some, m_goes1, Option.bind_some, if_neg one0, m_lives (μ := stI m 362 0 0) p1 hf8, Option.bind_some, r0]
      by_cases e : lvN (ldI m 364) f
      · obtain ⟨m1, d1, d2⟩ := m_bySwap (μ := stI m 362 0 0) (n := n) p1 p2 h00 hf hf
        have hb : vSwap (ldI (stI m 362 0 0) 364) f f = sp_sl (sp_play 20 (ldI (stI m 362 0 0) 364)).2 (ldI (stI m 362 0 0) 364 (4 + 12 * f)) 8 := by
          unfold vSwap
          rw [swp_self]
        obtain ⟨m3, g1, g2⟩ := m_bestSwap45 (μ := stI m 362 0 0) (n := n) p1 p2 h00 hf d2 hb
        refine ⟨m3, ?_, g2.1⟩
        rw [if_pos e, if_pos e, if_neg one0, d1, Option.bind_some, g1, r0]
      · refine ⟨stI m 362 0 0, ?_, QFm.rf⟩
        rw [if_neg e, if_neg e, if_pos rfl, ldI_stI_s, if_pos (show (0 : Int32) ≤ 0 by decide)]
    refine OP.f (e := fun k y => k = 2 ∧ y = 1) (A := fun c => fX11_bestSwap 0 (nI f) c) (B := fun m => fX12_bestSwap 362 (nI f) m) h' ?_ ?_ s1 s2 a2 b2 (v := if lvN (ldI m 364) f then noI (sp_bs (ldI m 364) f) else -1)
    · show fX11_bestSwap 0 (nI f) c = _
      unfold fX11_bestSwap
      rw [h3.1.2.2.2.2.2.1, Option.bind_some, h3.1.2.2.1, Option.bind_some, known_y h3.1.2.2.1 h1 h2 hf, Option.bind_some, xbl, a1, Option.bind_some]
    · show fX12_bestSwap 362 (nI f) m = _
      exact b1
  · have hB : fX12_bestSwap 362 v m = some (0, stI m 362 0 1) := by
      unfold fX12_bestSwap
      rw [isF_n p1 h2 hv, Option.bind_some, m_goes0, Option.bind_some, if_pos rfl, ldI_stI_s, if_neg (show ¬ (1 : Int32) ≤ 0 by decide)]
    refine OP.r (e := fun k y => k = 2 ∧ y = 1) (A := fun c => fX11_bestSwap 0 v c) (B := fun m => fX12_bestSwap 362 v m) (k := 2) (v := 0) ?_ hB (h'.st0 1) MFr.s ⟨rfl, ldI_stI_s⟩
    show fX11_bestSwap 0 v c = _
    unfold fX11_bestSwap
    rw [h3.1.2.2.2.2.2.1, Option.bind_some, h3.1.2.2.1, Option.bind_some, known_n h3.1.2.2.1 h1 h2 hv, Option.bind_some, xbr]
theorem op_bestPlace (v : Int32) : OP (fun k y => k = 2 ∧ y = 1) (fun c => fX11_bestPlace 0 v c) (fun m => fX12_bestPlace 362 v m) := by
  intro c m h
  have h' := h
  obtain ⟨n, ν, hX⟩ := h.x
  have h00 := hX.okz
  obtain ⟨h1, h2, h3, p1, p2, p3⟩ := hX
  have hn := h2.le
  rcases f_cases n v hn with ⟨f, hf, rfl⟩ | hv
  · have hf8 : f < 8 := by omega
    obtain ⟨p, a, ap, aa, apa, aa6, -⟩ := h2.acts hf
    have aa' : ldI (stI m 362 0 0) 364 (4 + 12 * f + 8) = nI a := by rw [r0]; exact aa
    obtain ⟨c1, a1, a2, a3⟩ := c_whereToStart h1 h3.2.2.2.2.2.2.2 h3.2.2.2.1.1 h2 hf aa aa6
    obtain ⟨s1, s2⟩ := SE.sr a3
    obtain ⟨m1, d1, d2⟩ := m_byPlace (μ := stI m 362 0 0) (n := n) p1 p2 h00 hf aa' aa6 (i := 0) (by omega)
    obtain ⟨m3, b1, b2⟩ := m_bestPlace26 (μ := stI m 362 0 0) (n := n) p1 p2 h00 hf aa' aa6 (by omega) d2
    rw [r0] at b1 d1
    have b2 := b2.1
    refine OP.f (e := fun k y => k = 2 ∧ y = 1) (A := fun c => fX11_bestPlace 0 (nI f) c) (B := fun m => fX12_bestPlace 362 (nI f) m) h' ?_ ?_ s1 s2 a2 b2 (v := noI (sp_bl (ldI m 364) f a))
    · show fX11_bestPlace 0 (nI f) c = _
      unfold fX11_bestPlace
      rw [h3.1.2.2.2.2.2.1, Option.bind_some, h3.1.2.2.1, Option.bind_some, known_y h3.1.2.2.1 h1 h2 hf, Option.bind_some, xbl, a1, Option.bind_some]
    · show fX12_bestPlace 362 (nI f) m = _
      unfold fX12_bestPlace
      rw [isF_y p1 h2 hf, Option.bind_some, m_goes1, Option.bind_some, if_neg one0]
      dsimp only
      rw [show fX12_byPlace 362 (nI f) 0 (stI m 362 0 0) = some (vPlace (ldI m 364) f 0, m1) from d1, Option.bind_some, b1]
  · have hB : fX12_bestPlace 362 v m = some (0, stI m 362 0 1) := by
      unfold fX12_bestPlace
      rw [isF_n p1 h2 hv, Option.bind_some, m_goes0, Option.bind_some, if_pos rfl]
    refine OP.r (e := fun k y => k = 2 ∧ y = 1) (A := fun c => fX11_bestPlace 0 v c) (B := fun m => fX12_bestPlace 362 v m) (k := 2) (v := 0) ?_ hB (h'.st0 1) MFr.s ⟨rfl, ldI_stI_s⟩
    show fX11_bestPlace 0 v c = _
    unfold fX11_bestPlace
    rw [h3.1.2.2.2.2.2.1, Option.bind_some, h3.1.2.2.1, Option.bind_some, known_n h3.1.2.2.1 h1 h2 hv, Option.bind_some, xbr]
theorem op_bestPush (v x : Int32) : OP (fun k y => k = 0 ∧ y = 1) (fun c => fX11_bestPush 0 v x c) (fun m => fX12_bestPush 362 v x m) := by
  intro c m h
  have h' := h
  obtain ⟨n, ν, hX⟩ := h.x
  have h00 := hX.okz
  obtain ⟨h1, h2, h3, p1, p2, p3⟩ := hX
  have hno : fX11_bestPush_25 0 v x c = some (.inr 0, c) := by
    unfold fX11_bestPush_25 fX11_demand
    rw [if_pos rfl, Option.bind_some, xbr]
  have h999 : fX12_isIn x.toInt64 1 999 m = some (bI (nI 1 ≤ x ∧ x ≤ nI 999)) := m_isIn (by decide) (by decide) rfl rfl
  have bad : fX11_bestPush 0 v x c = some (.inr 0, c) → fX12_bestPush 362 v x m = fX12_bestPush_27 362 v x 362 m → ∃ r c' v' m', fX11_bestPush 0 v x c = some (r, c') ∧ fX12_bestPush 362 v x m = some (v', m') ∧ INV c' m' ∧ CFr c c' ∧ MFr m m' ∧ ((r = .inl v' ∧ ldI m' 362 0 = 0) ∨ ∃ k, r = .inr k ∧ (k = 0 ∧ ldI m' 362 0 = 1)) := fun a b => by
    have hB : fX12_bestPush 362 v x m = some (0, stI m 362 0 1) := by
      rw [b]
      unfold fX12_bestPush_27 fX12_bestPush_28
      rw [m_goes0, Option.bind_some, if_pos rfl]
    exact OP.r (e := fun k y => k = 0 ∧ y = 1) (A := fun c => fX11_bestPush 0 v x c) (B := fun m => fX12_bestPush 362 v x m) (k := 0) (v := 0) a hB (h'.st0 1) MFr.s ⟨rfl, ldI_stI_s⟩
  rcases w_cases 2 (by decide) v with ⟨w, hw, hv⟩ | hv
  · have hv01 : v = 0 ∨ v = 1 := by
      rcases (show w = 0 ∨ w = 1 by omega) with rfl | rfl
      · exact Or.inl hv
      · exact Or.inr hv
    have e9 : fX11_bestPush 0 v x c = fX11_bestPush_9 0 v x c := by
      unfold fX11_bestPush
      rcases hv01 with q | q
      · rw [if_pos q]
      · rw [if_neg (by rw [q]; decide), if_pos q]
    have e1 : fX12_isIn v.toInt64 0 1 m = some 1 := by rw [hv]; exact isIn_y (k := 1) (by decide) (by omega)
    by_cases q1 : x < 1
    · refine bad ?_ ?_
      · rw [e9]; unfold fX11_bestPush_9
        rw [if_pos q1]; exact hno
      · unfold fX12_bestPush
        rw [e1, Option.bind_some, if_neg one0, h999, bI_f (fun q => by have q3 := q.1; rw [i32_le] at q3; rw [i32_lt] at q1; exact absurd q1 (Int.not_lt.mpr q3)), Option.bind_some, if_pos rfl]
    · by_cases q2 : 999 < x
      · refine bad ?_ ?_
        · rw [e9]; unfold fX11_bestPush_9
          rw [if_neg q1, if_pos q2]; exact hno
        · unfold fX12_bestPush
          rw [e1, Option.bind_some, if_neg one0, h999, bI_f (fun q => by have q3 := q.2; rw [i32_le] at q3; rw [i32_lt] at q2; exact absurd q2 (Int.not_lt.mpr q3)), Option.bind_some, if_pos rfl]
      · obtain ⟨k, k1, rfl⟩ := nI_of (show ¬ x < 0 from fun q => q1 (by rw [i32_lt] at q ⊢; have : (1 : Int32).toInt = 1 := rfl; have : (0 : Int32).toInt = 0 := rfl; omega))
        have k3 : 1 ≤ k := by
          by_cases q : 1 ≤ k
          · exact q
          · exact absurd (nI_lt (a := k) (b := 1) (by omega) (by decide)) q1
        have k4 : k ≤ 999 := by
          by_cases q : k ≤ 999
          · exact q
          · exact absurd (nI_lt (a := 999) (b := k) (by omega) k1) q2
        obtain ⟨c1, a1, a2, a3⟩ := c_whomToPush h1 h3.2.2.2.2.2.2.2 h3.2.2.2.1.1 h2 v k4
        obtain ⟨s1, s2⟩ := SE.sr a3
        obtain ⟨m3, b1, b2⟩ := m_bestPush44 (μ := stI m 362 0 0) (n := n) p1 p2 h00 v k4
        rw [r0] at b1
        refine OP.f (e := fun k y => k = 0 ∧ y = 1) (A := fun c => fX11_bestPush 0 v (nI k) c) (B := fun m => fX12_bestPush 362 v (nI k) m) h' ?_ ?_ s1 s2 a2 b2.1 (v := noI (sp_bp (ldI m 364) v (nI k)))
        · show fX11_bestPush 0 v (nI k) c = _
          rw [e9]
          unfold fX11_bestPush_9 fX11_demand
          rw [if_neg q1, if_neg q2, if_neg one0, Option.bind_some, xbl, h3.1.2.2.2.2.2.1, Option.bind_some, h3.1.2.2.1, Option.bind_some, a1, Option.bind_some]
        · show fX12_bestPush 362 v (nI k) m = _
          unfold fX12_bestPush fX12_bestPush_28
          rw [e1, Option.bind_some, if_neg one0, h999, bI_t ⟨nI_le k3 k1, nI_le k4 (by decide)⟩, Option.bind_some, if_neg one0, m_goes1, Option.bind_some, if_neg one0, b1]
  · refine bad ?_ ?_
    · unfold fX11_bestPush
      rw [if_neg (show ¬ v = 0 from hv 0 (by decide)), if_neg (show ¬ v = 1 from hv 1 (by decide))]; exact hno
    · unfold fX12_bestPush
      rw [show (1 : Int64) = (nI 1).toInt64 from rfl, isIn_k (by decide) hv, Option.bind_some, if_pos rfl]
end FCL2
