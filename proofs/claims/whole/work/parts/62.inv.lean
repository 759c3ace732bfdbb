/-! the law: what class and reference agree on between two calls -/
section INVS
variable {c c' m m' : Mem} {n : Nat} {ν : Nat → Int64}
theorem FR.same {o : Nat} {σ : Sg} (h : FR c o σ ν) (e : ∀ a, RG o a → ldI c' a = ldI c a ∧ ldJ c' a = ldJ c a ∧ ldP c' a = ldP c a) : FR c' o σ ν := h.out (S := fun a => ¬ RG o a) (fun a ha => e a (Classical.not_not.mp ha)) (fun a ha q => q ha)
theorem FA.same {o : Nat} (h : FA c o) (e : ∀ a, RG o a → ldI c' a = ldI c a ∧ ldJ c' a = ldJ c a ∧ ldP c' a = ldP c a) : FA c' o := by
  obtain ⟨σ, ν, h⟩ := h
  exact ⟨σ, ν, h.same e⟩
theorem okN.cg {σ σ' : Sg} (h : okN n σ) (e : ∀ j, j < 196 → σ' j = σ j) : okN n σ' := by
  obtain ⟨h1, h2, h3, h4, h5⟩ := h
  refine ⟨h1, by rw [e 0 (by decide)]; exact h2, by rw [e 1 (by decide)]; exact h3, fun f hf => ?_, fun f hf hf8 w hw => by rw [e _ (by omega)]; exact h5 f hf hf8 w hw⟩
  obtain ⟨g1, p, a, g2, g3, g4, g5, g6⟩ := h4 f hf
  refine ⟨fun w hw => by rw [e _ (by omega)]; exact g1 w hw, p, a, by rw [e _ (by omega)]; exact g2, by rw [e _ (by omega)]; exact g3, g4, g5, fun k hk => ?_⟩
  rw [e _ (by omega), e _ (by omega)]
  exact g6 k hk
/-- the class's pointers -/
def CI (c : Mem) : Prop := (ldP c 0 0 = some 1 ∧ ldP c 0 1 = some 3 ∧ ldP c 0 2 = some 66 ∧ ldP c 0 3 = some 95 ∧ ldP c 0 4 = some 124 ∧ ldP c 0 5 = some 153 ∧ ldP c 0 6 = some 184 ∧ ldP c 0 7 = some 360) ∧ ldP c 1 0 = some 2 ∧ PC c ∧ (ldP c 153 0 = some 154 ∧ ldP c 153 1 = some 183) ∧ ldP c 184 0 = some 185 ∧ ldP c 360 0 = some 361 ∧ FA c 95 ∧ FA c 154
/-- the reference's -/
def MPt (m : Mem) : Prop := (ldP m 362 1 = some 363 ∧ ldP m 362 13 = some 364 ∧ ldP m 362 14 = some 365 ∧ ldP m 362 15 = some 366 ∧ ldP m 362 16 = some 367 ∧ ldP m 362 17 = some 368) ∧ (ldP m 362 18 = some 369 ∧ ldP m 362 19 = some 370 ∧ ldP m 362 20 = some 371 ∧ ldP m 362 26 = some 372) ∧ PRw m ∧ ldP m 362 34 = some 378 ∧ ldP m 362 35 = some 379 ∧ ldP m 362 39 = some 380
/-- the class's history: its rows, in some order -/
def HP (π : Nat → Nat) (c : Mem) : Prop := (∀ i, i < 6 → ∃ j, j < 6 ∧ π i = 186 + 29 * j) ∧ (∀ i j, i < 6 → j < 6 → π i = π j → i = j) ∧ ∀ i, i < 6 → ldP c 185 i = some (π i) ∧ FA c (π i)
def HV (n : Nat) (ν : Nat → Int64) (π : Nat → Nat) (u : Nat) (c m : Mem) : Prop := u ≤ 6 ∧ ldI c 184 1 = nI u ∧ ldI m 362 21 = nI u ∧ ∀ i, i < u → FR c (π i) (fun j => ldI m 368 (196 * i + j)) ν ∧ okN n (fun j => ldI m 368 (196 * i + j))
def HI (n : Nat) (ν : Nat → Int64) (c m : Mem) : Prop := ∃ π u, HP π c ∧ HV n ν π u c m
/-- what is saved -/
def SV (c m : Mem) : Prop := (ldI c 0 8 = 0 ∧ ldI m 362 22 = 0 ∧ FA c 124) ∨ (ldI c 0 8 = 1 ∧ ldI m 362 22 = 1 ∧ ∃ n ν, FR c 124 (ldI m 365) ν ∧ okN n (ldI m 365) ∧ NMS n ν (ldJ m 370))
/-- the text so far -/
def BF (c m : Mem) : Prop := ∃ l, l ≤ 600 ∧ ldI c 1 1 = nI l ∧ ldI m 362 2 = nI l ∧ ∀ i, i < l → ∃ b, b < 256 ∧ ldI c 2 i &&& 255 = nI b ∧ ldI m 363 i = nI b
def EV (c m : Mem) : Prop := ldI c 1 2 = ldI m 362 10 ∧ ldI c 1 3 = ldI m 362 11
/-- the report -/
def SH (c m : Mem) : Prop := ∃ l, l ≤ 176 ∧ ldI c 360 1 = nI l ∧ ((ldI m 362 41 = 0 ∧ l = 0) ∨ (ldI m 362 41 = 1 ∧ ldI m 362 40 = nI l)) ∧ ∀ i, i < l → ∃ b, b < 256 ∧ ldI c 361 i &&& 255 = nI b ∧ ldI m 380 i = nI b
def RS (n : Nat) (ν : Nat → Int64) (c m : Mem) : Prop := CI c ∧ MPt m ∧ NMS n ν (ldJ m 369) ∧ HI n ν c m ∧ SV c m ∧ BF c m ∧ EV c m ∧ SH c m
def INV (c m : Mem) : Prop := ∃ n ν, FR c 66 (ldI m 364) ν ∧ okN n (ldI m 364) ∧ RS n ν c m
/-- what these need of the class's cells .. -/
def Kc (c c' : Mem) : Prop := (∀ a, (a = 0 ∨ a = 2 ∨ RG 124 a ∨ (184 ≤ a ∧ a < 362)) → ldI c' a = ldI c a ∧ ldJ c' a = ldJ c a ∧ ldP c' a = ldP c a) ∧ (∀ a, (a = 1 ∨ a = 3 ∨ a = 4 ∨ a = 153) → ldP c' a = ldP c a) ∧ (FA c 95 → FA c' 95) ∧ (FA c 154 → FA c' 154) ∧ ∀ k, 1 ≤ k → k ≤ 3 → ldI c' 1 k = ldI c 1 k
/-- .. and of the reference's -/
def Km (m m' : Mem) : Prop := ldP m' 362 = ldP m 362 ∧ (∀ a, (a = 363 ∨ a = 365 ∨ a = 368 ∨ a = 380) → ldI m' a = ldI m a) ∧ (∀ a, (a = 369 ∨ a = 370) → ldJ m' a = ldJ m a) ∧ ∀ k, (k = 2 ∨ k = 10 ∨ k = 11 ∨ k = 21 ∨ k = 22 ∨ k = 40 ∨ k = 41) → ldI m' 362 k = ldI m 362 k
/-- the pointers alone -/
def Kp (c c' : Mem) : Prop := (∀ a, (a = 0 ∨ a = 1 ∨ a = 3 ∨ a = 4 ∨ a = 153 ∨ a = 184 ∨ a = 360) → ldP c' a = ldP c a) ∧ (FA c 95 → FA c' 95) ∧ (FA c 154 → FA c' 154)
theorem Kc.p (k : Kc c c') : Kp c c' := ⟨fun a ha => by
  by_cases e : a = 0 ∨ 184 ≤ a
  · exact (k.1 a (by omega)).2.2
  · exact k.2.1 a (by omega), k.2.2.1, k.2.2.2.1⟩
theorem CI.cg (h : CI c) (k : Kp c c') : CI c' := by
  obtain ⟨⟨a1, a2, a3, a4, a5, a6, a7, a8⟩, h2, ⟨p1, p2, p3⟩, ⟨h4, h5⟩, h6, h7, h8, h9⟩ := h
  obtain ⟨k1, k3, k4⟩ := k
  have e0 := k1 0 (Or.inl rfl)
  refine ⟨⟨by rw [e0]; exact a1, by rw [e0]; exact a2, by rw [e0]; exact a3, by rw [e0]; exact a4, by rw [e0]; exact a5, by rw [e0]; exact a6, by rw [e0]; exact a7, by rw [e0]; exact a8⟩, by rw [k1 1 (by decide)]; exact h2, ⟨by rw [k1 3 (by decide)]; exact p1, by rw [k1 3 (by decide)]; exact p2, fun i hi => by rw [k1 4 (by decide)]; exact p3 i hi⟩, ⟨by rw [k1 153 (by decide)]; exact h4, by rw [k1 153 (by decide)]; exact h5⟩, by rw [k1 184 (by decide)]; exact h6, by rw [k1 360 (by decide)]; exact h7, k3 h8, k4 h9⟩
theorem MPt.cg (h : MPt m) (k : ldP m' 362 = ldP m 362) : MPt m' := by
  unfold MPt PRw at h ⊢
  rw [k]; exact h
theorem HI.cg (h : HI n ν c m) (kc : ∀ a, (184 ≤ a ∧ a < 362) → ldI c' a = ldI c a ∧ ldJ c' a = ldJ c a ∧ ldP c' a = ldP c a) (k1 : ldI m' 368 = ldI m 368) (k2 : ldI m' 362 21 = ldI m 362 21) : HI n ν c' m' := by
  obtain ⟨π, u, ⟨h1, h2, h3⟩, h4, h5, h6, h7⟩ := h
  have hr : ∀ i, i < 6 → ∀ a, RG (π i) a → ldI c' a = ldI c a ∧ ldJ c' a = ldJ c a ∧ ldP c' a = ldP c a := by
    intro i hi a ha
    obtain ⟨j, j1, j2⟩ := h1 i hi
    unfold RG at ha
    exact kc a (by omega)
  refine ⟨π, u, ⟨h1, h2, fun i hi => ⟨by rw [(kc 185 (by omega)).2.2]; exact (h3 i hi).1, (h3 i hi).2.same (hr i hi)⟩⟩, h4, by rw [(kc 184 (by omega)).1]; exact h5, by rw [k2]; exact h6, fun i hi => ?_⟩
  rw [k1]
  exact ⟨(h7 i hi).1.same (hr i (by omega)), (h7 i hi).2⟩
theorem SV.cg (h : SV c m) (e0 : ldI c' 0 8 = ldI c 0 8) (kc : ∀ a, RG 124 a → ldI c' a = ldI c a ∧ ldJ c' a = ldJ c a ∧ ldP c' a = ldP c a) (k1 : ldI m' 365 = ldI m 365) (k2 : ldJ m' 370 = ldJ m 370) (k3 : ldI m' 362 22 = ldI m 362 22) : SV c' m' := by
  rcases h with ⟨h1, h2, h3⟩ | ⟨h1, h2, n, ν, h3, h4, h5⟩
  · exact Or.inl ⟨e0.trans h1, k3.trans h2, h3.same kc⟩
  · exact Or.inr ⟨e0.trans h1, k3.trans h2, n, ν, by rw [k1]; exact h3.same kc, by rw [k1]; exact h4, by rw [k2]; exact h5⟩
theorem BF.cg (h : BF c m) (e1 : ldI c' 1 1 = ldI c 1 1) (e2 : ldI c' 2 = ldI c 2) (k1 : ldI m' 363 = ldI m 363) (k2 : ldI m' 362 2 = ldI m 362 2) : BF c' m' := by
  obtain ⟨l, h1, h2, h3, h4⟩ := h
  exact ⟨l, h1, e1.trans h2, k2.trans h3, fun i hi => by rw [e2, k1]; exact h4 i hi⟩
theorem SH.cg (h : SH c m) (e1 : ldI c' 360 1 = ldI c 360 1) (e2 : ldI c' 361 = ldI c 361) (k1 : ldI m' 380 = ldI m 380) (k2 : ldI m' 362 40 = ldI m 362 40) (k3 : ldI m' 362 41 = ldI m 362 41) : SH c' m' := by
  obtain ⟨l, h1, h2, h3, h4⟩ := h
  exact ⟨l, h1, e1.trans h2, by rw [k2, k3]; exact h3, fun i hi => by rw [e2, k1]; exact h4 i hi⟩
theorem RS.cg (h : RS n ν c m) (kc : Kc c c') (km : Km m m') : RS n ν c' m' := by
  obtain ⟨h1, h2, h3, h4, h5, h6, h7, h8⟩ := h
  refine ⟨h1.cg kc.p, h2.cg km.1, by rw [km.2.2.1 369 (by decide)]; exact h3, h4.cg (fun a ha => kc.1 a (by omega)) (km.2.1 368 (by decide)) (km.2.2.2 21 (by decide)), h5.cg (by rw [(kc.1 0 (by omega)).1]) (fun a ha => kc.1 a (Or.inr (Or.inr (Or.inl ha)))) (km.2.1 365 (by decide)) (km.2.2.1 370 (by decide)) (km.2.2.2 22 (by decide)), h6.cg (kc.2.2.2.2 1 (by decide) (by decide)) (kc.1 2 (by omega)).1 (km.2.1 363 (by decide)) (km.2.2.2 2 (by decide)), ⟨?_, ?_⟩, h8.cg (by rw [(kc.1 360 (by omega)).1]) (kc.1 361 (by omega)).1 (km.2.1 380 (by decide)) (km.2.2.2 40 (by decide)) (km.2.2.2 41 (by decide))⟩
  · rw [kc.2.2.2.2 2 (by decide) (by decide), km.2.2.2 10 (by decide)]; exact h7.1
  · rw [kc.2.2.2.2 3 (by decide) (by decide), km.2.2.2 11 (by decide)]; exact h7.2
/-- what a call of the class may change, and what one of the reference -/
def CFr (c c' : Mem) : Prop := SE (fun a => a < 362) c c'
def MFr (m m' : Mem) : Prop := SE (fun a => 362 ≤ a ∧ a < 381) m m'
theorem Kc.of (h : SE (fun a => ¬ a < 362) c c') : Kc c c' := by
  have hs : ∀ o, o + 29 ≤ 362 → FA c o → FA c' o := fun o ho h' => h'.same (fun a ha => h a (fun q => by unfold RG at ha; omega))
  exact ⟨fun a ha => h a (fun q => by unfold RG at ha; omega), fun a ha => (h a (fun q => by omega)).2.2, hs 95 (by decide), hs 154 (by decide), fun k _ _ => by rw [(h 1 (fun q => by omega)).1]⟩
theorem Km.of (h : SE (fun a => a < 362 ∨ 381 ≤ a) m m') : Km m m' := ⟨(h 362 (fun q => by omega)).2.2, fun a ha => (h a (fun q => by omega)).1, fun a ha => (h a (fun q => by omega)).2.1, fun k _ => by rw [(h 362 (fun q => by omega)).1]⟩
theorem INV.cg (h : INV c m) (kc : SE (fun a => ¬ a < 362) c c') (km : SE (fun a => a < 362 ∨ 381 ≤ a) m m') : INV c' m' := by
  obtain ⟨n, ν, h1, h2, h3⟩ := h
  have e := (km 364 (fun q => by omega)).1
  exact ⟨n, ν, by rw [e]; exact h1.same (fun a ha => kc a (fun q => by unfold RG at ha; omega)), by rw [e]; exact h2, h3.cg (Kc.of kc) (Km.of km)⟩
end INVS
