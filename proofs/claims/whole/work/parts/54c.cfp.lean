/-! the class's Fight: copies -/
section CFP
variable {μ μ' : Mem} {o : Nat} {σ σ' : Sg} {ν : Nat → Int64}
theorem FR.setJ (h : FR μ o σ ν) {f : Nat} {v : Int64} (hf : f < 8) : FR (stJ μ (o + 5 + 3 * f) 4 v) o σ (fun g => if g = f then v else ν g) := by
  obtain ⟨h1, h2, ⟨n1, n2, n3, n4⟩, h4, h5⟩ := h
  refine ⟨h1, h2, ⟨n1, n2, ?_, n4⟩, h4, fun g hg => ?_⟩
  · rw [ldJ_stJ, if_neg (by omega)]; exact n3
  · rw [ldJ_stJ]
    by_cases e : g = f
    · subst e; rw [if_pos ⟨rfl, rfl⟩]; exact (if_pos rfl).symm
    · rw [if_neg (by omega)]; exact (h5 g hg).trans (if_neg e).symm
/-- the three objects of a fighter -/
def OF (o f a : Nat) : Prop := a = o + 5 + 3 * f ∨ a = o + 6 + 3 * f ∨ a = o + 7 + 3 * f
def rowK (σ : Sg) (f : Nat) (K : Nat → Int32) (j i : Nat) : Int32 := if 100 + 6 * f ≤ i ∧ i < 100 + 6 * f + j then K (i - (100 + 6 * f)) else σ i
def rowA (σ : Sg) (f : Nat) (A : Nat → Int32) (j i : Nat) : Int32 := if 148 + 6 * f ≤ i ∧ i < 148 + 6 * f + j then A (i - (148 + 6 * f)) else σ i
theorem c_copyK (h : FR μ o σ ν) {f c : Nat} {K : Nat → Int32} (hf : f < 8) (hc : Ln c = 6) (hn : ¬ c = o + 6 + 3 * f) (hK : ∀ k, k < 6 → ldI μ c k = K k) : ∃ μ', fX3_copyActs c (o + 6 + 3 * f) μ = some μ' ∧ FR μ' o (rowK σ f K 6) ν ∧ SE (fun a => a = o + 6 + 3 * f) μ μ' := by
  unfold fX3_copyActs fX3_copyActs_2
  refine zl2_fob (N := 6) (I := fun j m => FR m o (rowK σ f K j) ν ∧ SE (fun a => a = o + 6 + 3 * f) μ m) (Qr := fun r => ∃ μ', r = some μ' ∧ FR μ' o (rowK σ f K 6) ν ∧ SE (fun a => a = o + 6 + 3 * f) μ μ') (by decide) ⟨h.cg (fun j _ => if_neg (by omega)) (fun _ _ => rfl), SE.rf⟩ (fun j m self hj hI => ?_) (fun m self hI => ?_)
  · obtain ⟨h1, h2⟩ := hI
    have e6 : Int32.ofNat 6 = nI 6 := rfl
    simp only [gX3_copyActs_2, hc, h.lnk hf, e6, if_neg (nI_ge hj (by decide)), gd_t (inB_nI hj (by decide)), nI_clamp (show j < 2 ^ 31 by omega), nm_b, nI_1]
    refine Or.inl ⟨_, rfl, (h1.setK hf hj).cg (fun i hi => ?_) (fun _ _ => rfl), h2.tr (SE.sI rfl)⟩
    unfold rowK
    by_cases e : i = 100 + 6 * f + j
    · subst e
      rw [upd_s, if_pos (by omega), (h2 c hn).1, hK j hj]
      exact congrArg K (by omega)
    · rw [upd_n e]
      by_cases e2 : 100 + 6 * f ≤ i ∧ i < 100 + 6 * f + j
      · rw [if_pos e2, if_pos (by omega)]
      · rw [if_neg e2, if_neg (by omega)]
  · have e6 : Int32.ofNat 6 = nI 6 := rfl
    simp only [gX3_copyActs_2, hc, e6, if_pos (show nI 6 ≤ nI 6 from nI_le (Nat.le_refl _) (by decide))]
    exact ⟨_, rfl, hI⟩
theorem c_copyA (h : FR μ o σ ν) {f c : Nat} {K : Nat → Int32} (hf : f < 8) (hc : Ln c = 6) (hn : ¬ c = o + 7 + 3 * f) (hK : ∀ k, k < 6 → ldI μ c k = K k) : ∃ μ', fX3_copyActs c (o + 7 + 3 * f) μ = some μ' ∧ FR μ' o (rowA σ f K 6) ν ∧ SE (fun a => a = o + 7 + 3 * f) μ μ' := by
  unfold fX3_copyActs fX3_copyActs_2
  refine zl2_fob (N := 6) (I := fun j m => FR m o (rowA σ f K j) ν ∧ SE (fun a => a = o + 7 + 3 * f) μ m) (Qr := fun r => ∃ μ', r = some μ' ∧ FR μ' o (rowA σ f K 6) ν ∧ SE (fun a => a = o + 7 + 3 * f) μ μ') (by decide) ⟨h.cg (fun j _ => if_neg (by omega)) (fun _ _ => rfl), SE.rf⟩ (fun j m self hj hI => ?_) (fun m self hI => ?_)
  · obtain ⟨h1, h2⟩ := hI
    have e6 : Int32.ofNat 6 = nI 6 := rfl
    simp only [gX3_copyActs_2, hc, h.lna hf, e6, if_neg (nI_ge hj (by decide)), gd_t (inB_nI hj (by decide)), nI_clamp (show j < 2 ^ 31 by omega), nm_b, nI_1]
    refine Or.inl ⟨_, rfl, (h1.setA hf hj).cg (fun i hi => ?_) (fun _ _ => rfl), h2.tr (SE.sI rfl)⟩
    unfold rowA
    by_cases e : i = 148 + 6 * f + j
    · subst e
      rw [upd_s, if_pos (by omega), (h2 c hn).1, hK j hj]
      exact congrArg K (by omega)
    · rw [upd_n e]
      by_cases e2 : 148 + 6 * f ≤ i ∧ i < 148 + 6 * f + j
      · rw [if_pos e2, if_pos (by omega)]
      · rw [if_neg e2, if_neg (by omega)]
  · have e6 : Int32.ofNat 6 = nI 6 := rfl
    simp only [gX3_copyActs_2, hc, e6, if_pos (show nI 6 ≤ nI 6 from nI_le (Nat.le_refl _) (by decide))]
    exact ⟨_, rfl, hI⟩
/-- the object c with its two rows shows this fighter -/
def FT (μ : Mem) (c ck ca : Nat) (s K A : Nat → Int32) (v : Int64) : Prop := ldP μ c 1 = some ck ∧ ldP μ c 2 = some ca ∧ Ln ck = 6 ∧ Ln ca = 6 ∧ (∀ w, w < 12 → ldI μ c (fw w) = s w) ∧ (∀ k, k < 6 → ldI μ ck k = K k) ∧ (∀ k, k < 6 → ldI μ ca k = A k) ∧ ldJ μ c 4 = v
/-- σ with this fighter for f -/
def sp_cp (σ : Sg) (f : Nat) (s K A : Nat → Int32) (i : Nat) : Int32 := if 4 + 12 * f ≤ i ∧ i < 4 + 12 * f + 12 then s (i - (4 + 12 * f)) else if 100 + 6 * f ≤ i ∧ i < 100 + 6 * f + 6 then K (i - (100 + 6 * f)) else if 148 + 6 * f ≤ i ∧ i < 148 + 6 * f + 6 then A (i - (148 + 6 * f)) else σ i
theorem c_copyF (h : FR μ o σ ν) {f c ck ca : Nat} {s K A : Nat → Int32} {v : Int64} (hf : f < 8) (hs : FT μ c ck ca s K A v) (d1 : ¬ OF o f c) (d2 : ¬ OF o f ck) (d3 : ¬ OF o f ca) : ∃ μ', fX3_copyFrom (o + 5 + 3 * f) c μ = some μ' ∧ FR μ' o (sp_cp σ f s K A) (fun g => if g = f then v else ν g) ∧ SE (OF o f) μ μ' := by
  obtain ⟨s1, s2, s3, s4, s5, s6, s7, s8⟩ := hs
  unfold fX3_copyFrom
  have c1 : ¬ c = o + 5 + 3 * f := fun e => d1 (Or.inl e)
  rw [nm_b, show ldI μ c 3 = s 8 from s5 8 (by decide)]
  have h1 := h.set (w := 8) (v := s 8) hf (by decide)
  have t1 : SE (OF o f) μ (stI μ (o + 5 + 3 * f) 3 (s 8)) := SE.sI (Or.inl rfl)
  have e8 : fw 8 = 3 := rfl
  rw [e8] at h1
  rw [(t1 c d1).2.2, s1, Option.bind_some, h1.pk hf, Option.bind_some]
  obtain ⟨m2, q2, h2, t2⟩ := c_copyK (K := K) h1 hf s3 (fun e => d2 (Or.inr (Or.inl e))) (fun k hk => by rw [(t1 ck d2).1]; exact s6 k hk)
  have t2 := t1.tr (t2.mono (S' := OF o f) (fun a ha => Or.inr (Or.inl ha)))
  rw [q2, Option.bind_some, (t2 c d1).2.2, s2, Option.bind_some, h2.pa hf, Option.bind_some]
  obtain ⟨m3, q3, h3, t3⟩ := c_copyA (K := A) h2 hf s4 (fun e => d3 (Or.inr (Or.inr e))) (fun k hk => by rw [(t2 ca d3).1]; exact s7 k hk)
  have t3 := t2.tr (t3.mono (S' := OF o f) (fun a ha => Or.inr (Or.inr ha)))
  rw [q3, Option.bind_some]
  simp only [nm_b, ldI_stI_ne c1, ldI_stJ, (t3 c d1).1, (t3 c d1).2.1, s8, show ldI μ c 5 = s 0 from s5 0 (by decide), show ldI μ c 6 = s 1 from s5 1 (by decide), show ldI μ c 7 = s 2 from s5 2 (by decide), show ldI μ c 8 = s 3 from s5 3 (by decide), show ldI μ c 9 = s 4 from s5 4 (by decide), show ldI μ c 10 = s 5 from s5 5 (by decide), show ldI μ c 11 = s 6 from s5 6 (by decide), show ldI μ c 12 = s 7 from s5 7 (by decide), show ldI μ c 13 = s 9 from s5 9 (by decide), show ldI μ c 14 = s 10 from s5 10 (by decide), show ldI μ c 15 = s 11 from s5 11 (by decide)]
  have h4 := h3.setJ (v := v) hf
  have h5 := ((((((((((h4.set (w := 0) (v := s 0) hf (by decide)).set (w := 1) (v := s 1) hf (by decide)).set (w := 2) (v := s 2) hf (by decide)).set (w := 3) (v := s 3) hf (by decide)).set (w := 4) (v := s 4) hf (by decide)).set (w := 5) (v := s 5) hf (by decide)).set (w := 6) (v := s 6) hf (by decide)).set (w := 7) (v := s 7) hf (by decide)).set (w := 9) (v := s 9) hf (by decide)).set (w := 10) (v := s 10) hf (by decide)).set (w := 11) (v := s 11) hf (by decide)
  have t5 : SE (OF o f) μ (stI (stI (stI (stI (stI (stI (stI (stI (stI (stI (stI (stJ m3 (o + 5 + 3 * f) 4 v) (o + 5 + 3 * f) 5 (s 0)) (o + 5 + 3 * f) 6 (s 1)) (o + 5 + 3 * f) 7 (s 2)) (o + 5 + 3 * f) 8 (s 3)) (o + 5 + 3 * f) 9 (s 4)) (o + 5 + 3 * f) 10 (s 5)) (o + 5 + 3 * f) 11 (s 6)) (o + 5 + 3 * f) 12 (s 7)) (o + 5 + 3 * f) 13 (s 9)) (o + 5 + 3 * f) 14 (s 10)) (o + 5 + 3 * f) 15 (s 11)) :=
    t3.tr (((((((((((SE.sJ (Or.inl rfl)).tr (SE.sI (Or.inl rfl))).tr (SE.sI (Or.inl rfl))).tr (SE.sI (Or.inl rfl))).tr (SE.sI (Or.inl rfl))).tr (SE.sI (Or.inl rfl))).tr (SE.sI (Or.inl rfl))).tr (SE.sI (Or.inl rfl))).tr (SE.sI (Or.inl rfl))).tr (SE.sI (Or.inl rfl))).tr (SE.sI (Or.inl rfl)) |>.tr (SE.sI (Or.inl rfl)))
  refine ⟨_, rfl, FR.cg (σ := _) (ν := fun g => if g = f then v else ν g) h5 (fun i hi => ?_) (fun _ _ => rfl), t5⟩
  by_cases e : 4 + 12 * f ≤ i ∧ i < 4 + 12 * f + 12
  · obtain ⟨w, hw, rfl⟩ : ∃ w, w < 12 ∧ i = 4 + 12 * f + w := ⟨i - (4 + 12 * f), by omega, by omega⟩
    unfold sp_cp
    rw [if_pos e, show 4 + 12 * f + w - (4 + 12 * f) = w by omega]
    have hd : ∀ a b : Nat, a ≠ b → 4 + 12 * f + a ≠ 4 + 12 * f + b := fun a b h => by omega
    rcases w with _ | _ | _ | _ | _ | _ | _ | _ | _ | _ | _ | _ | w
    · rw [upd_n (hd 0 11 (by decide)), upd_n (hd 0 10 (by decide)), upd_n (hd 0 9 (by decide)), upd_n (hd 0 7 (by decide)), upd_n (hd 0 6 (by decide)), upd_n (hd 0 5 (by decide)), upd_n (hd 0 4 (by decide)), upd_n (hd 0 3 (by decide)), upd_n (hd 0 2 (by decide)), upd_n (hd 0 1 (by decide)), upd_s]
    · rw [upd_n (hd 1 11 (by decide)), upd_n (hd 1 10 (by decide)), upd_n (hd 1 9 (by decide)), upd_n (hd 1 7 (by decide)), upd_n (hd 1 6 (by decide)), upd_n (hd 1 5 (by decide)), upd_n (hd 1 4 (by decide)), upd_n (hd 1 3 (by decide)), upd_n (hd 1 2 (by decide)), upd_s]
    · rw [upd_n (hd 2 11 (by decide)), upd_n (hd 2 10 (by decide)), upd_n (hd 2 9 (by decide)), upd_n (hd 2 7 (by decide)), upd_n (hd 2 6 (by decide)), upd_n (hd 2 5 (by decide)), upd_n (hd 2 4 (by decide)), upd_n (hd 2 3 (by decide)), upd_s]
    · rw [upd_n (hd 3 11 (by decide)), upd_n (hd 3 10 (by decide)), upd_n (hd 3 9 (by decide)), upd_n (hd 3 7 (by decide)), upd_n (hd 3 6 (by decide)), upd_n (hd 3 5 (by decide)), upd_n (hd 3 4 (by decide)), upd_s]
    · rw [upd_n (hd 4 11 (by decide)), upd_n (hd 4 10 (by decide)), upd_n (hd 4 9 (by decide)), upd_n (hd 4 7 (by decide)), upd_n (hd 4 6 (by decide)), upd_n (hd 4 5 (by decide)), upd_s]
    · rw [upd_n (hd 5 11 (by decide)), upd_n (hd 5 10 (by decide)), upd_n (hd 5 9 (by decide)), upd_n (hd 5 7 (by decide)), upd_n (hd 5 6 (by decide)), upd_s]
    · rw [upd_n (hd 6 11 (by decide)), upd_n (hd 6 10 (by decide)), upd_n (hd 6 9 (by decide)), upd_n (hd 6 7 (by decide)), upd_s]
    · rw [upd_n (hd 7 11 (by decide)), upd_n (hd 7 10 (by decide)), upd_n (hd 7 9 (by decide)), upd_s]
    · rw [upd_n (hd 8 11 (by decide)), upd_n (hd 8 10 (by decide)), upd_n (hd 8 9 (by decide)), upd_n (hd 8 7 (by decide)), upd_n (hd 8 6 (by decide)), upd_n (hd 8 5 (by decide)), upd_n (hd 8 4 (by decide)), upd_n (hd 8 3 (by decide)), upd_n (hd 8 2 (by decide)), upd_n (hd 8 1 (by decide)), upd_n (hd 8 0 (by decide))]
      unfold rowA
      rw [if_neg (by omega)]
      unfold rowK
      rw [if_neg (by omega), upd_s]
    · rw [upd_n (hd 9 11 (by decide)), upd_n (hd 9 10 (by decide)), upd_s]
    · rw [upd_n (hd 10 11 (by decide)), upd_s]
    · rw [upd_s]
    · omega
  · have hd : ∀ w, w < 12 → i ≠ 4 + 12 * f + w := fun w hw e2 => e ⟨by omega, by omega⟩
    rw [upd_n (hd 11 (by decide)), upd_n (hd 10 (by decide)), upd_n (hd 9 (by decide)), upd_n (hd 7 (by decide)), upd_n (hd 6 (by decide)), upd_n (hd 5 (by decide)), upd_n (hd 4 (by decide)), upd_n (hd 3 (by decide)), upd_n (hd 2 (by decide)), upd_n (hd 1 (by decide)), upd_n (hd 0 (by decide))]
    unfold sp_cp
    rw [if_neg e]
    unfold rowA
    by_cases e2 : 148 + 6 * f ≤ i ∧ i < 148 + 6 * f + 6
    · rw [if_pos e2, if_neg (by omega), if_pos e2]
    · rw [if_neg e2, if_neg e2]
      unfold rowK
      by_cases e3 : 100 + 6 * f ≤ i ∧ i < 100 + 6 * f + 6
      · rw [if_pos e3, if_pos e3]
      · rw [if_neg e3, if_neg e3, upd_n (hd 8 (by decide))]
end CFP
