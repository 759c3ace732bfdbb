/-! the law: forecasts -/
section FCL
variable {c c' m m' : Mem} {n : Nat} {ν : Nat → Int64} {σ : Sg}
theorem INV.cls (h : INV c m) (s : SE SR c c') (p : ldP c' 153 = ldP c 153) (fa : FA c' 154) : INV c' m := by
  obtain ⟨n, ν, h1, h2, h3⟩ := h
  have hn : ∀ a, (a < 153 ∨ 183 < a) → ¬ SR a := fun a ha q => by unfold SR RG at q; omega
  refine ⟨n, ν, h1.same (fun a ha => s a (hn a (by unfold RG at ha; omega))), h2, h3.cg ⟨fun a ha => s a (hn a (by unfold RG at ha; omega)), fun a ha => ?_, fun g => g.same (fun a ha => s a (hn a (by unfold RG at ha; omega))), fun _ => fa, fun k _ _ => by rw [(s 1 (hn 1 (by decide))).1]⟩ Km.rf⟩
  by_cases q : a = 153
  · subst q; exact p
  · exact (s a (hn a (by omega))).2.2
theorem SE.sr (s : SE (RG 154) c c') : SE SR c c' ∧ ldP c' 153 = ldP c 153 := ⟨s.mono (fun a ha => Or.inr (Or.inl ha)), (s 153 n153).2.2⟩
theorem INV.qf (h : INV c m) (q : QFm m m') : INV c m' := h.ref ⟨by rw [q.1], fun a ha => q.2.2.1 a (by omega) (by omega) (by omega) (by omega), fun a _ => by rw [q.2.1], fun k hk => q.2.2.2.1 k (by omega) (by omega) (by omega) (by omega)⟩ q.2.2.2.2
theorem QFm.mf (q : QFm m m') : MFr m m' := fun a ha => ⟨q.2.2.1 a (fun e => ha (by omega)) (fun e => ha (by omega)) (fun e => ha (by omega)) (fun e => ha (by omega)), by rw [q.2.1], by rw [q.1]⟩
theorem OP.f {e : Nat → Int32 → Prop} {A : Mem → Option ((Int32 ⊕ Nat) × Mem)} {B : Mem → Option (Int32 × Mem)} {v : Int32} (h : INV c m) (hA : A c = some (.inl v, c')) (hB : B m = some (v, m')) (s : SE SR c c') (p : ldP c' 153 = ldP c 153) (fa : FA c' 154) (q : QFm (stI m 362 0 0) m') : ∃ r c' v m', A c = some (r, c') ∧ B m = some (v, m') ∧ INV c' m' ∧ CFr c c' ∧ MFr m m' ∧ ((r = .inl v ∧ ldI m' 362 0 = 0) ∨ ∃ k, r = .inr k ∧ e k (ldI m' 362 0)) := ⟨_, c', v, m', hA, hB, ((h.cls s p fa).st0 0).qf q, s.mono (fun a ha => by unfold SR RG at ha; show a < 362; omega), MFr.tr MFr.s q.mf, Or.inl ⟨rfl, by rw [q.2.2.2.1 0 (by decide) (by decide) (by decide) (by decide), ldI_stI_s]⟩⟩
theorem OPn.f {A B : Mem → Option (Int32 × Mem)} {v : Int32} (h : INV c m) (hA : A c = some (v, c')) (hB : B m = some (v, m')) (s : SE SR c c') (p : ldP c' 153 = ldP c 153) (fa : FA c' 154) (q : QFm (stI m 362 0 0) m') : ∃ v c' m', A c = some (v, c') ∧ B m = some (v, m') ∧ INV c' m' ∧ CFr c c' ∧ MFr m m' := ⟨v, c', m', hA, hB, ((h.cls s p fa).st0 0).qf q, s.mono (fun a ha => by unfold SR RG at ha; show a < 362; omega), MFr.tr MFr.s q.mf⟩
theorem rng_n {k : Nat} {x : Int32} (hx : ∀ i, i < k + 1 → ¬ x = nI i) : x < 0 ∨ (¬ x < 0 ∧ nI k < x) := by
  by_cases e : x < 0
  · exact Or.inl e
  · obtain ⟨f, f1, rfl⟩ := nI_of e
    have : ¬ f < k + 1 := fun q => hx f q rfl
    exact Or.inr ⟨e, nI_lt (by omega) f1⟩
theorem take_2 {σ : Sg} {w : Nat} (hw : w < 8) : sp_take σ w 2 = σ 2 := by
  rw [take_eq, upd_n (by omega), act_keep hw (fun h => by unfold acC at h; obtain ⟨f, hf, h⟩ := h; omega), pre_keep (by omega) (by omega) (by omega) (by omega) (by omega) (by omega)]
/-- the facts of both sides that forecasts need -/
def FCX (n : Nat) (ν : Nat → Int64) (c m : Mem) : Prop := FR c 66 (ldI m 364) ν ∧ okN n (ldI m 364) ∧ CI c ∧ ldP m 362 13 = some 364 ∧ ldP m 362 16 = some 367 ∧ ldP m 362 26 = some 372
theorem INV.x (h : INV c m) : ∃ n ν, FCX n ν c m := by
  obtain ⟨n, ν, h1, h2, h3, h4, -⟩ := h
  exact ⟨n, ν, h1, h2, h3, h4.1.2.1, h4.1.2.2.2.2.1, h4.2.1.2.2.2⟩
theorem r0 : ldI (stI m 362 0 0) 364 = ldI m 364 := by funext i; rw [ldI_stI_ne (by decide)]
theorem op_turn (x : Int32) : OP (fun k y => k = 0 ∧ y = 1) (fun c => fX11_turn 0 x c) (fun m => fX12_turn 362 x m) := by
  intro c m h
  have h' := h
  obtain ⟨n, ν, h1, h2, h3, p1, p2, p3⟩ := h.x
  have hn := h2.le
  rcases w_cases 100 (by decide) x with ⟨k, hk, rfl⟩ | hx
  · obtain ⟨c1, a1, a2, a3⟩ := c_actorOf h1 h3.2.2.2.2.2.2.2 h3.2.2.2.1.1 h2 (k := k) (by omega)
    obtain ⟨s1, s2⟩ := SE.sr a3
    obtain ⟨m1, m2, b1, b2, b3, b4, b5⟩ := m_comes (μ := stI m 362 0 0) (n := n) p1 p2 (by rw [r0]; exact h2) (k := k) (by omega)
    rw [r0] at b5
    have hnext := (okN.next (h2.play k)).2
    have hA : fX11_turn 0 (nI k) c = some (.inl (noI (sp_next (sp_play k (ldI m 364)).2).1), c1) := by
      unfold fX11_turn fX11_demand
      rw [if_neg (nI_pos (by omega)), if_neg (show ¬ (99 : Int32) < nI k from nI_nlt (a := 99) (by omega) (by decide)), if_neg one0, Option.bind_some, xbl, h3.1.2.2.2.2.2.1, Option.bind_some, h3.1.2.2.1, Option.bind_some, a1, Option.bind_some]
      cases hx : (sp_next (sp_play k (ldI m 364)).2).1 with
      | none => exact congrArg (fun z => some ((.inl z : Int32 ⊕ Nat), c1)) a2.2.2.1.1
      | some w => exact congrArg (fun z => some ((.inl z : Int32 ⊕ Nat), c1)) (a2.num (by have := (hnext w hx).1; omega))
    rcases b5 with ⟨w, w1, w2, w3, w4, w5⟩ | ⟨w1, w2⟩
    · have hw8 : w < 8 := by have := (hnext w w1).1; omega
      obtain ⟨m3, d1, d2⟩ := m_comesBack (v := nI w) b3 b4 b1 b2
      refine OP.f (e := fun k y => k = 0 ∧ y = 1) (A := fun c => fX11_turn 0 (nI k) c) (B := fun m => fX12_turn 362 (nI k) m) h' hA ?_ s1 s2 ⟨_, _, a2⟩ d2.qw
      show fX12_turn 362 (nI k) m = _
      unfold fX12_turn fX12_isNear
      rw [show (99 : Int64) = (nI 99).toInt64 from rfl, isIn_y (by decide) (by omega), Option.bind_some, Option.bind_some, m_goes1, Option.bind_some, if_neg one0, w2, Option.bind_some, if_neg one0]
      rw [w3, d1, Option.bind_some, w1]
      rfl
    · obtain ⟨m3, d1, d2⟩ := m_comesBack (v := -1) b3 b4 b1 b2
      refine OP.f (e := fun k y => k = 0 ∧ y = 1) (A := fun c => fX11_turn 0 (nI k) c) (B := fun m => fX12_turn 362 (nI k) m) h' hA ?_ s1 s2 ⟨_, _, a2⟩ d2.qw
      show fX12_turn 362 (nI k) m = _
      unfold fX12_turn fX12_isNear
      rw [show (99 : Int64) = (nI 99).toInt64 from rfl, isIn_y (by decide) (by omega), Option.bind_some, Option.bind_some, m_goes1, Option.bind_some, if_neg one0, w2, Option.bind_some, if_pos rfl, d1, Option.bind_some, w1]
      rfl
  · have hB : fX12_turn 362 x m = some (0, stI m 362 0 1) := by
      unfold fX12_turn fX12_isNear
      rw [show (99 : Int64) = (nI 99).toInt64 from rfl, isIn_k (by decide) hx, Option.bind_some, Option.bind_some, m_goes0, Option.bind_some, if_pos rfl]
    refine OP.r (e := fun k y => k = 0 ∧ y = 1) (A := fun c => fX11_turn 0 x c) (B := fun m => fX12_turn 362 x m) (k := 0) (v := 0) ?_ hB (h'.st0 1) MFr.s ⟨rfl, ldI_stI_s⟩
    show fX11_turn 0 x c = _
    unfold fX11_turn fX11_turn_14 fX11_demand
    rcases rng_n (k := 99) hx with e | ⟨e1, e2⟩
    · rw [if_pos e, if_pos rfl, Option.bind_some, xbr]
    · rw [if_neg e1, if_pos (show (99 : Int32) < x from e2), if_pos rfl, Option.bind_some, xbr]
theorem op_turnTime (x : Int32) : OP (fun k y => k = 0 ∧ y = 1) (fun c => fX11_turnTime 0 x c) (fun m => fX12_turnTime 362 x m) := by
  intro c m h
  have h' := h
  obtain ⟨n, ν, h1, h2, h3, p1, p2, p3⟩ := h.x
  have hn := h2.le
  rcases w_cases 100 (by decide) x with ⟨k, hk, rfl⟩ | hx
  · obtain ⟨c1, a1, a2, a3⟩ := c_timeOf h1 h3.2.2.2.2.2.2.2 h3.2.2.2.1.1 h2 (k := k) (by omega)
    obtain ⟨s1, s2⟩ := SE.sr a3
    obtain ⟨m1, m2, b1, b2, b3, b4, b5⟩ := m_comes (μ := stI m 362 0 0) (n := n) p1 p2 (by rw [r0]; exact h2) (k := k) (by omega)
    rw [r0] at b5
    have hnext := (okN.next (h2.play k)).2
    have hA : fX11_turnTime 0 (nI k) c = some (.inl (match (sp_next (sp_play k (ldI m 364)).2).1 with | none => -1 | some _ => (sp_next (sp_play k (ldI m 364)).2).2 2 : Int32), c1) := by
      unfold fX11_turnTime fX11_demand
      rw [if_neg (nI_pos (by omega)), if_neg (show ¬ (99 : Int32) < nI k from nI_nlt (a := 99) (by omega) (by decide)), if_neg one0, Option.bind_some, xbl, h3.1.2.2.2.2.2.1, Option.bind_some, h3.1.2.2.1, Option.bind_some, a1, Option.bind_some]
      rfl
    rcases b5 with ⟨w, w1, w2, w3, w4, w5⟩ | ⟨w1, w2⟩
    · have hw8 : w < 8 := by have := (hnext w w1).1; omega
      obtain ⟨m3, d1, d2⟩ := m_comesBack (v := (sp_next (sp_play k (ldI m 364)).2).2 2) b3 b4 b1 b2
      refine OP.f (e := fun k y => k = 0 ∧ y = 1) (A := fun c => fX11_turnTime 0 (nI k) c) (B := fun m => fX12_turnTime 362 (nI k) m) h' hA ?_ s1 s2 a2 d2.qw
      show fX12_turnTime 362 (nI k) m = _
      unfold fX12_turnTime fX12_isNear
      rw [show (99 : Int64) = (nI 99).toInt64 from rfl, isIn_y (by decide) (by omega), Option.bind_some, Option.bind_some, m_goes1, Option.bind_some, if_neg one0, w2, Option.bind_some, if_neg one0]
      rw [b3, Option.bind_some, ln364, gd_t (by decide), show ((2 : Int32)).toNatClampNeg = 2 from rfl, w5, take_2 hw8, d1, Option.bind_some, w1]
    · obtain ⟨m3, d1, d2⟩ := m_comesBack (v := -1) b3 b4 b1 b2
      refine OP.f (e := fun k y => k = 0 ∧ y = 1) (A := fun c => fX11_turnTime 0 (nI k) c) (B := fun m => fX12_turnTime 362 (nI k) m) h' hA ?_ s1 s2 a2 d2.qw
      show fX12_turnTime 362 (nI k) m = _
      unfold fX12_turnTime fX12_isNear
      rw [show (99 : Int64) = (nI 99).toInt64 from rfl, isIn_y (by decide) (by omega), Option.bind_some, Option.bind_some, m_goes1, Option.bind_some, if_neg one0, w2, Option.bind_some, if_pos rfl, d1, Option.bind_some, w1]
  · have hB : fX12_turnTime 362 x m = some (0, stI m 362 0 1) := by
      unfold fX12_turnTime fX12_isNear
      rw [show (99 : Int64) = (nI 99).toInt64 from rfl, isIn_k (by decide) hx, Option.bind_some, Option.bind_some, m_goes0, Option.bind_some, if_pos rfl]
    refine OP.r (e := fun k y => k = 0 ∧ y = 1) (A := fun c => fX11_turnTime 0 x c) (B := fun m => fX12_turnTime 362 x m) (k := 0) (v := 0) ?_ hB (h'.st0 1) MFr.s ⟨rfl, ldI_stI_s⟩
    show fX11_turnTime 0 x c = _
    unfold fX11_turnTime fX11_demand
    rcases rng_n (k := 99) hx with e | ⟨e1, e2⟩
    · rw [if_pos e, if_pos rfl, Option.bind_some, xbr]
    · rw [if_neg e1, if_pos (show (99 : Int32) < x from e2), if_pos rfl, Option.bind_some, xbr]
theorem op_turnKind (x : Int32) : OP (fun k y => k = 0 ∧ y = 1) (fun c => fX11_turnKind 0 x c) (fun m => fX12_turnKind 362 x m) := by
  intro c m h
  have h' := h
  obtain ⟨n, ν, h1, h2, h3, p1, p2, p3⟩ := h.x
  have hn := h2.le
  rcases w_cases 100 (by decide) x with ⟨k, hk, rfl⟩ | hx
  · obtain ⟨c1, a1, a2, a3⟩ := c_kindOf h1 h3.2.2.2.2.2.2.2 h3.2.2.2.1.1 h2 (k := k) (by omega)
    obtain ⟨s1, s2⟩ := SE.sr a3
    obtain ⟨m1, m2, b1, b2, b3, b4, b5⟩ := m_comes (μ := stI m 362 0 0) (n := n) p1 p2 (by rw [r0]; exact h2) (k := k) (by omega)
    rw [r0] at b5
    have hnext := (okN.next (h2.play k)).2
    have hA : fX11_turnKind 0 (nI k) c = some (.inl (match (sp_next (sp_play k (ldI m 364)).2).1 with | none => -1 | some w => sp_kind (sp_next (sp_play k (ldI m 364)).2).2 w : Int32), c1) := by
      unfold fX11_turnKind fX11_demand
      rw [if_neg (nI_pos (by omega)), if_neg (show ¬ (99 : Int32) < nI k from nI_nlt (a := 99) (by omega) (by decide)), if_neg one0, Option.bind_some, xbl, h3.1.2.2.2.2.2.1, Option.bind_some, h3.1.2.2.1, Option.bind_some, a1, Option.bind_some]
      rfl
    rcases b5 with ⟨w, w1, w2, w3, w4, w5⟩ | ⟨w1, w2⟩
    · have hw8 : w < 8 := by have := (hnext w w1).1; omega
      obtain ⟨m3, d1, d2⟩ := m_comesBack (v := sp_kind (sp_next (sp_play k (ldI m 364)).2).2 w) b3 b4 b1 b2
      refine OP.f (e := fun k y => k = 0 ∧ y = 1) (A := fun c => fX11_turnKind 0 (nI k) c) (B := fun m => fX12_turnKind 362 (nI k) m) h' hA ?_ s1 s2 a2 d2.qw
      show fX12_turnKind 362 (nI k) m = _
      unfold fX12_turnKind fX12_isNear
      rw [show (99 : Int64) = (nI 99).toInt64 from rfl, isIn_y (by decide) (by omega), Option.bind_some, Option.bind_some, m_goes1, Option.bind_some, if_neg one0, w2, Option.bind_some, if_neg one0]
      rw [w4, d1, Option.bind_some, w1]
    · obtain ⟨m3, d1, d2⟩ := m_comesBack (v := -1) b3 b4 b1 b2
      refine OP.f (e := fun k y => k = 0 ∧ y = 1) (A := fun c => fX11_turnKind 0 (nI k) c) (B := fun m => fX12_turnKind 362 (nI k) m) h' hA ?_ s1 s2 a2 d2.qw
      show fX12_turnKind 362 (nI k) m = _
      unfold fX12_turnKind fX12_isNear
      rw [show (99 : Int64) = (nI 99).toInt64 from rfl, isIn_y (by decide) (by omega), Option.bind_some, Option.bind_some, m_goes1, Option.bind_some, if_neg one0, w2, Option.bind_some, if_pos rfl, d1, Option.bind_some, w1]
  · have hB : fX12_turnKind 362 x m = some (0, stI m 362 0 1) := by
      unfold fX12_turnKind fX12_isNear
      rw [show (99 : Int64) = (nI 99).toInt64 from rfl, isIn_k (by decide) hx, Option.bind_some, Option.bind_some, m_goes0, Option.bind_some, if_pos rfl]
    refine OP.r (e := fun k y => k = 0 ∧ y = 1) (A := fun c => fX11_turnKind 0 x c) (B := fun m => fX12_turnKind 362 x m) (k := 0) (v := 0) ?_ hB (h'.st0 1) MFr.s ⟨rfl, ldI_stI_s⟩
    show fX11_turnKind 0 x c = _
    unfold fX11_turnKind fX11_demand
    rcases rng_n (k := 99) hx with e | ⟨e1, e2⟩
    · rw [if_pos e, if_pos rfl, Option.bind_some, xbr]
    · rw [if_neg e1, if_pos (show (99 : Int32) < x from e2), if_pos rfl, Option.bind_some, xbr]
end FCL
