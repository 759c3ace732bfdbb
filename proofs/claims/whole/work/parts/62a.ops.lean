/-! the law: calls, one of the class beside one of the reference -/
section OPSS
variable {c c' m m' : Mem} {n : Nat} {ν : Nat → Int64}
theorem MFr.s {k : Nat} {v : Int32} : MFr m (stI m 362 k v) := SE.sI ⟨by decide, by decide⟩
theorem MFr.tr {a b d : Mem} (h1 : MFr a b) (h2 : MFr b d) : MFr a d := SE.tr h1 h2
theorem CFr.tr {a b d : Mem} (h1 : CFr a b) (h2 : CFr b d) : CFr a d := SE.tr h1 h2
theorem Kc.rf : Kc c c := ⟨fun _ _ => ⟨rfl, rfl, rfl⟩, fun _ _ => rfl, id, id, fun _ _ _ => rfl⟩
theorem Km.rf : Km m m := ⟨rfl, fun _ _ => rfl, fun _ _ => rfl, fun _ _ => rfl⟩
theorem Km.s {k : Nat} {v : Int32} (hk : ¬ (k = 2 ∨ k = 10 ∨ k = 11 ∨ k = 21 ∨ k = 22 ∨ k = 40 ∨ k = 41)) : Km m (stI m 362 k v) := ⟨rfl, fun a ha => ldI_stI_ne (by omega), fun _ _ => rfl, fun j hj => by rw [ldI_stI, if_neg (fun q => hk (by omega))]⟩
theorem INV.ref (h : INV c m) (km : Km m m') (e : ∀ i, i < 196 → ldI m' 364 i = ldI m 364 i) : INV c m' := by
  obtain ⟨n, ν, h1, h2, h3⟩ := h
  exact ⟨n, ν, h1.cg e (fun _ _ => rfl), h2.cg e, h3.cg Kc.rf km⟩
theorem INV.st0 (h : INV c m) (v : Int32) : INV c (stI m 362 0 v) := h.ref (Km.s (by decide)) (fun _ _ => by rw [ldI_stI_ne (by decide)])
theorem INV.p (h : INV c m) : CI c ∧ MPt m := by
  obtain ⟨n, ν, h1, h2, h3, h4, h5⟩ := h
  exact ⟨h3, h4⟩
/-- a call that may throw -/
def OP (e : Nat → Int32 → Prop) (A : Mem → Option ((Int32 ⊕ Nat) × Mem)) (B : Mem → Option (Int32 × Mem)) : Prop := ∀ c m, INV c m → ∃ r c' v m', A c = some (r, c') ∧ B m = some (v, m') ∧ INV c' m' ∧ CFr c c' ∧ MFr m m' ∧ ((r = .inl v ∧ ldI m' 362 0 = 0) ∨ ∃ k, r = .inr k ∧ e k (ldI m' 362 0))
/-- one that doesn't, and looks only -/
def OPl (A : Mem → Option Int32) (B : Mem → Option (Int32 × Mem)) : Prop := ∀ c m, INV c m → ∃ v m', A c = some v ∧ B m = some (v, m') ∧ INV c m' ∧ MFr m m'
/-- one that doesn't -/
def OPn (A : Mem → Option (Int32 × Mem)) (B : Mem → Option (Int32 × Mem)) : Prop := ∀ c m, INV c m → ∃ v c' m', A c = some (v, c') ∧ B m = some (v, m') ∧ INV c' m' ∧ CFr c c' ∧ MFr m m'
theorem OP.r {e : Nat → Int32 → Prop} {A : Mem → Option ((Int32 ⊕ Nat) × Mem)} {B : Mem → Option (Int32 × Mem)} {k : Nat} {v : Int32} (h1 : A c = some (.inr k, c)) (h2 : B m = some (v, m')) (h3 : INV c m') (h4 : MFr m m') (h5 : e k (ldI m' 362 0)) : ∃ r c' v m', A c = some (r, c') ∧ B m = some (v, m') ∧ INV c' m' ∧ CFr c c' ∧ MFr m m' ∧ ((r = .inl v ∧ ldI m' 362 0 = 0) ∨ ∃ k, r = .inr k ∧ e k (ldI m' 362 0)) := ⟨_, c, v, m', h1, h2, h3, SE.rf, h4, Or.inr ⟨k, rfl, h5⟩⟩
theorem m_goes {v : Int32} : fX12_goes 362 v m = some (v, stI m 362 0 (if v = 0 then 1 else 0)) := by
  unfold fX12_goes
  by_cases e : v = 0
  · rw [if_pos e, if_pos e, truth1, Option.bind_some, nm_b]
  · rw [if_neg e, if_neg e, truth0, Option.bind_some, nm_b]
theorem m_goes1 : fX12_goes 362 1 m = some (1, stI m 362 0 0) := m_goes
theorem m_goes0 : fX12_goes 362 0 m = some (0, stI m 362 0 1) := m_goes
theorem op_errorCode : OPl (fX11_errorCode 0) (fX12_errorCode 362) := by
  intro c m h
  have hp := h.p
  have h' := h
  obtain ⟨n, ν, h1, h2, h3, h4, h5, h6, h7, h8, h9, h10⟩ := h
  refine ⟨ldI m 362 10, stI m 362 0 0, ?_, ?_, h'.st0 0, MFr.s⟩
  · unfold fX11_errorCode
    rw [h3.1.1, Option.bind_some, h9.1]
  · unfold fX12_errorCode
    rw [nm_b, ldI_stI, if_neg (by decide)]
theorem op_errorPosition : OPl (fX11_errorPosition 0) (fX12_errorPosition 362) := by
  intro c m h
  have h' := h
  obtain ⟨n, ν, h1, h2, h3, h4, h5, h6, h7, h8, h9, h10⟩ := h
  refine ⟨ldI m 362 11, stI m 362 0 0, ?_, ?_, h'.st0 0, MFr.s⟩
  · unfold fX11_errorPosition
    rw [h3.1.1, Option.bind_some, h9.2]
  · unfold fX12_errorPosition
    rw [nm_b, ldI_stI, if_neg (by decide)]
theorem Kp.of (hc : SE (fun a => a = 1 ∨ a = 2) c c') (e : ldP c' 1 = ldP c 1) : Kp c c' := ⟨fun a ha => by
  by_cases q : a = 1
  · subst q; exact e
  · exact (hc a (by omega)).2.2, fun h => h.same (fun a ha => hc a (fun q => by unfold RG at ha; omega)), fun h => h.same (fun a ha => hc a (fun q => by unfold RG at ha; omega))⟩
/-- the text alone has changed -/
theorem INV.bf (h : INV c m) (hb : BF c' m') (hc : SE (fun a => a = 1 ∨ a = 2) c c') (ep : ldP c' 1 = ldP c 1) (e2 : ldI c' 1 2 = ldI c 1 2) (e3 : ldI c' 1 3 = ldI c 1 3) (hm : SE (fun a => a = 362 ∨ a = 363) m m') (em : ldP m' 362 = ldP m 362) (hk : ∀ k, (k = 10 ∨ k = 11 ∨ k = 21 ∨ k = 22 ∨ k = 40 ∨ k = 41) → ldI m' 362 k = ldI m 362 k) : INV c' m' := by
  obtain ⟨n, ν, h1, h2, h3, h4, h5, h6, h7, h8, h9, h10⟩ := h
  have e := (hm 364 (by decide)).1
  refine ⟨n, ν, by rw [e]; exact h1.same (fun a ha => hc a (fun q => by unfold RG at ha; omega)), by rw [e]; exact h2, h3.cg (Kp.of hc ep), h4.cg em, by rw [(hm 369 (by decide)).2.1]; exact h5, h6.cg (fun a ha => hc a (by omega)) (hm 368 (by decide)).1 (hk 21 (by decide)), h7.cg (by rw [(hc 0 (by decide)).1]) (fun a ha => hc a (fun q => by unfold RG at ha; omega)) (hm 365 (by decide)).1 (hm 370 (by decide)).2.1 (hk 22 (by decide)), hb, ⟨?_, ?_⟩, h10.cg (by rw [(hc 360 (by decide)).1]) (hc 361 (by decide)).1 (hm 380 (by decide)).1 (hk 40 (by decide)) (hk 41 (by decide))⟩
  · rw [e2, hk 10 (by decide)]; exact h9.1
  · rw [e3, hk 11 (by decide)]; exact h9.2
theorem op_truncate (x : Int32) : OP (fun k y => k = 0 ∧ y = 1) (fun c => fX11_truncate 0 x c) (fun m => fX12_truncate 362 x m) := by
  intro c m h
  have h' := h
  obtain ⟨n, ν, h1, h2, h3, h4, h5, h6, h7, ⟨l, b1, b2, b3, b4⟩, h9, h10⟩ := h
  have hin : fX12_isIn x.toInt64 0 (nI l).toInt64 m = some (bI (nI 0 ≤ x ∧ x ≤ nI l)) := m_isIn (lo := 0) (hi := l) (by decide) (by omega) rfl (nI_l (by omega))
  by_cases e1 : x < 0
  · have hB : fX12_truncate 362 x m = some (0, stI m 362 0 1) := by
      unfold fX12_truncate
      rw [b3, hin, bI_f (fun q => by have q1 := q.1; rw [i32_le] at q1; rw [i32_lt] at e1; exact absurd e1 (by rw [Int.not_lt]; exact q1)), Option.bind_some, m_goes0, Option.bind_some, if_pos rfl]
    refine OP.r (e := fun k y => k = 0 ∧ y = 1) (A := fun c => fX11_truncate 0 _ c) (B := fun m => fX12_truncate 362 _ m) (k := 0) (v := 0) ?_ hB (h'.st0 1) MFr.s ⟨rfl, ldI_stI_s⟩
    show fX11_truncate 0 x c = _
    unfold fX11_truncate fX11_demand
    rw [if_pos e1, if_pos rfl, Option.bind_some, xbr]
  · obtain ⟨x', x1, rfl⟩ := nI_of e1
    by_cases e2 : l < x'
    · have hB : fX12_truncate 362 (nI x') m = some (0, stI m 362 0 1) := by
        unfold fX12_truncate
        rw [b3, hin, bI_f (fun q => nI_ge e2 x1 q.2), Option.bind_some, m_goes0, Option.bind_some, if_pos rfl]
      refine OP.r (e := fun k y => k = 0 ∧ y = 1) (A := fun c => fX11_truncate 0 _ c) (B := fun m => fX12_truncate 362 _ m) (k := 0) (v := 0) ?_ hB (h'.st0 1) MFr.s ⟨rfl, ldI_stI_s⟩
      show fX11_truncate 0 (nI x') c = _
      unfold fX11_truncate fX11_demand
      rw [if_neg e1, h3.1.1, Option.bind_some, b2, if_pos (nI_lt e2 x1), if_pos rfl, Option.bind_some, xbr]
    · have hB : fX12_truncate 362 (nI x') m = some (nI x', stI (stI m 362 0 0) 362 2 (nI x')) := by
        unfold fX12_truncate
        rw [b3, hin, bI_t ⟨nI_le (Nat.zero_le _) x1, nI_le (by omega) (by omega)⟩, Option.bind_some, m_goes1, Option.bind_some, if_neg one0, nm_b]
      refine ⟨.inl (nI x'), stI c 1 1 (nI x'), nI x', stI (stI m 362 0 0) 362 2 (nI x'), ?_, hB, ?_, SE.sI (by decide), MFr.tr MFr.s MFr.s, Or.inl ⟨rfl, ?_⟩⟩
      · show fX11_truncate 0 (nI x') c = _
        unfold fX11_truncate fX11_demand
        rw [if_neg e1, h3.1.1, Option.bind_some, b2, if_neg (nI_nlt (by omega) (by omega)), if_neg one0, Option.bind_some, xbl, h3.1.1, Option.bind_some, nm_b]
      · refine h'.bf ⟨x', by omega, ldI_stI_s, ldI_stI_s, fun i hi => ?_⟩ (SE.sI (Or.inl rfl)) rfl (by rw [ldI_stI, if_neg (by decide)]) (by rw [ldI_stI, if_neg (by decide)]) (SE.tr (SE.sI (Or.inl rfl)) (SE.sI (Or.inl rfl))) rfl (fun k hk => by rw [ldI_stI, if_neg (by omega), ldI_stI, if_neg (by omega)])
        rw [ldI_stI_ne (by decide), ldI_stI_ne (by decide), ldI_stI_ne (by decide)]
        exact b4 i (by omega)
      · rw [ldI_stI, if_neg (by decide), ldI_stI_s]
end OPSS
