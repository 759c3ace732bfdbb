/-! the class's Fight: its changes -/
/-- from μ the memory μ' is made, in which the fight at o shows σ'; nothing else has changed -/
def CH (μ : Mem) (o : Nat) (σ' : Sg) (ν : Nat → Int64) (μ' : Mem) : Prop := FR μ' o σ' ν ∧ SE (RG o) μ μ'
section CFC
variable {μ μ' μ2 : Mem} {o : Nat} {σ σ' σ2 : Sg} {ν : Nat → Int64}
theorem CH.rf (h : FR μ o σ ν) : CH μ o σ ν μ := ⟨h, SE.rf⟩
theorem CH.set (h : CH μ o σ ν μ') {f w : Nat} {v : Int32} (hf : f < 8) (hw : w < 12) : CH μ o (upd σ (4 + 12 * f + w) v) ν (stI μ' (o + 5 + 3 * f) (fw w) v) := ⟨h.1.set hf hw, h.2.tr (SE.sI ⟨by omega, by omega⟩)⟩
theorem CH.hd (h : CH μ o σ ν μ') {j : Nat} {v : Int32} (hj : j < 4) : CH μ o (upd σ j v) ν (stI μ' o (j + 2) v) := ⟨h.1.hd hj, h.2.tr (SE.sI ⟨by omega, by omega⟩)⟩
theorem CH.setK (h : CH μ o σ ν μ') {f k : Nat} {v : Int32} (hf : f < 8) (hk : k < 6) : CH μ o (upd σ (100 + 6 * f + k) v) ν (stI μ' (o + 6 + 3 * f) k v) := ⟨h.1.setK hf hk, h.2.tr (SE.sI ⟨by omega, by omega⟩)⟩
theorem CH.setA (h : CH μ o σ ν μ') {f k : Nat} {v : Int32} (hf : f < 8) (hk : k < 6) : CH μ o (upd σ (148 + 6 * f + k) v) ν (stI μ' (o + 7 + 3 * f) k v) := ⟨h.1.setA hf hk, h.2.tr (SE.sI ⟨by omega, by omega⟩)⟩
theorem CH.tr (h : CH μ o σ ν μ') (h2 : CH μ' o σ2 ν μ2) : CH μ o σ2 ν μ2 := ⟨h2.1, h.2.tr h2.2⟩
theorem FR.nobw (h : FR μ o σ ν) {w : Nat} (hw : w < 12) : FR (stI μ (o + 2) (fw w) 0) o σ ν := by
  have hk := fw_ok w hw
  obtain ⟨h1, ⟨p1, p2, p3, p4, p5⟩, ⟨n1, n2, n3, n4⟩, ⟨v1, v2⟩, h5⟩ := h
  refine ⟨h1, ⟨p1, p2, fun g hg => ⟨(p3 g hg).1, ?_, (p3 g hg).2.2⟩, p4, p5⟩, ⟨?_, fun w' hw' => ?_, n3, fun k hk => ⟨?_, ?_⟩⟩, ⟨fun j' hj' => ?_, fun g hg => ⟨fun w' hw' => ?_, fun k' hk' => ⟨?_, ?_⟩⟩⟩, h5⟩
  · rw [ldI_stI, if_neg (by omega)]; exact (p3 g hg).2.1
  · rw [ldI_stI, if_neg (by omega)]; exact n1
  · rw [ldI_stI]
    by_cases e : w' = w
    · subst e; rw [if_pos ⟨rfl, rfl⟩]
    · rw [if_neg (fun ⟨_, e2⟩ => e (fw_inj w' hw' w hw e2))]; exact n2 w' hw'
  · rw [ldI_stI, if_neg (by omega)]; exact (n4 _ ‹_›).1
  · rw [ldI_stI, if_neg (by omega)]; exact (n4 _ ‹_›).2
  · rw [ldI_stI, if_neg (by omega)]; exact v1 j' hj'
  · rw [ldI_stI, if_neg (by omega)]; exact (v2 g hg).1 w' hw'
  · rw [ldI_stI, if_neg (by omega)]; exact ((v2 g hg).2 k' hk').1
  · rw [ldI_stI, if_neg (by omega)]; exact ((v2 g hg).2 k' hk').2
theorem CH.nobw (h : CH μ o σ ν μ') {w : Nat} (hw : w < 12) : CH μ o σ ν (stI μ' (o + 2) (fw w) 0) := ⟨h.1.nobw hw, h.2.tr (SE.sI ⟨by omega, by omega⟩)⟩
theorem CH.nobz (h : CH μ o σ ν μ') {w : Nat} {v : Int32} (hw : w < 12) (hv : v = 0) : CH μ o σ ν (stI μ' (o + 2) (fw w) v) := by subst hv; exact h.nobw hw
theorem ldI_stI_s {o k : Nat} {v : Int32} : ldI (stI μ o k v) o k = v := by rw [ldI_stI, if_pos ⟨rfl, rfl⟩]
theorem jmin0 {x : Int32} (h : 0 ≤ x) : jmin x 0 = 0 := by
  unfold jmin
  by_cases h1 : 0 < x
  · rw [if_pos h1]
  · rw [if_neg h1]; rw [i32_lt] at h1; rw [i32_le] at h; exact Int32.toInt_inj.mp (by omega)
theorem jmax0 {x : Int32} : 0 ≤ jmax x 0 := by
  unfold jmax
  by_cases h1 : x < 0
  · rw [if_pos h1]; exact Int32.le_refl _
  · rw [if_neg h1]; rw [i32_lt] at h1; rw [i32_le]; omega
theorem c_pass (h : FR μ o σ ν) (t : Int32) : ∃ μ', fX2_pass o t μ = some μ' ∧ CH μ o (sp_pass σ t 8) ν μ' := by
  unfold fX2_pass fX2_pass_21
  simp only [nm_b]
  have hA := (CH.rf h).hd (j := 2) (v := σ 2 + t) (by decide)
  rw [h.tim]
  rw [hA.1.p0, Option.bind_some, hA.1.ln]
  refine zl2_fob (N := 8) (I := fun j m => CH μ o (sp_pass σ t j) ν m) (Qr := fun r => ∃ μ', r = some μ' ∧ CH μ o (sp_pass σ t 8) ν μ') (by decide) hA (fun j m self hj hI => ?_) (fun m self hI => ?_)
  · have hm := hI.1
    simp only [gX2_pass_21, if_neg (n8 hj), gd_t (hm.inb hj), cl8 hj, hm.pf hj, Option.bind_some, nm_b, nI_1, hm.lif hj, hm.gau hj, hm.spd hj, le0]
    by_cases h1 : 0 < sp_pass σ t j (4 + 12 * j + 2)
    · refine Or.inl ⟨_, by rw [if_neg (fun h => h h1)], ?_⟩
      simp only [sp_pass, lvN, if_pos h1]
      exact hI.set (w := 4) hj (by decide)
    · refine Or.inl ⟨_, by rw [if_pos h1], ?_⟩
      simp only [sp_pass, lvN, if_neg h1]
      exact hI
  · refine Or.inr ?_ |>.elim id id
    simp only [gX2_pass_21, if_pos (show nI 8 ≤ nI 8 from nI_le (Nat.le_refl _) (by decide))]
    exact ⟨_, rfl, hI⟩
theorem next_over (h : sp_over σ = true) : sp_next σ = (none, σ) := by unfold sp_next; rw [if_pos h]
theorem next_fx {f : Nat} (h : ¬ sp_over σ = true) (hx : sp_fx σ = some f) : sp_next σ = (some f, σ) := by unfold sp_next; rw [if_neg h, hx]
theorem next_rd (h : ¬ sp_over σ = true) (hx : sp_fx σ = none) : sp_next σ = (sp_rd (sp_pass σ (sp_lt σ 8) 8), sp_pass σ (sp_lt σ 8) 8) := by unfold sp_next; rw [if_neg h, hx]
theorem c_bringNext (h : FR μ o σ ν) (hsp : ∀ f, f < 8 → lvN σ f → 1 ≤ σ (4 + 12 * f + 1)) : ∃ μ', fX2_bringNext o μ = some (ob o (sp_next σ).1, μ') ∧ CH μ o (sp_next σ).2 ν μ' := by
  unfold fX2_bringNext
  rw [c_over h, Option.bind_some]
  by_cases ho : sp_over σ = true
  · rw [next_over ho, if_pos ho, if_neg (by decide), h.p1, Option.bind_some]
    exact ⟨_, rfl, CH.rf h⟩
  · rw [if_neg ho, if_pos rfl, c_firstX h, Option.bind_some, h.p1, Option.bind_some]
    cases hx : sp_fx σ with
    | some f =>
      rw [next_fx ho hx, if_neg (show ¬ ob o (some f) = o + 2 from ob_ne)]
      exact ⟨_, rfl, CH.rf h⟩
    | none =>
      rw [next_rd ho hx, if_pos (show ob o none = o + 2 from rfl), c_ticksToFirst h hsp, Option.bind_some]
      obtain ⟨m, h1, h2⟩ := c_pass h (sp_lt σ 8)
      rw [h1, Option.bind_some, c_firstReady h2.1, Option.bind_some]
      dsimp only
      exact ⟨m, rfl, h2⟩
/-- the fighter has an act in this place -/
abbrev sp_has (σ : Sg) (f : Nat) (p : Int32) : Prop := 0 ≤ p ∧ p < σ (4 + 12 * f + 8) ∧ p < 6
theorem c_hasAct (h : FR μ o σ ν) {f : Nat} (hf : f < 8) (p : Int32) : fX3_hasAct (o + 5 + 3 * f) p μ = some (if sp_has σ f p then 1 else 0) := by
  unfold fX3_hasAct
  rw [h.act hf]
  by_cases h1 : p < 0
  · rw [if_pos h1, if_neg (fun h2 => i32_nlt.mpr h2.1 h1)]
  · rw [if_neg h1]
    by_cases h2 : σ (4 + 12 * f + 8) ≤ p
    · rw [if_pos h2, if_neg (fun h3 => i32_nle.mpr h3.2.1 h2)]
    · rw [if_neg h2]
      by_cases h3 : 6 ≤ p
      · rw [if_pos h3, if_neg (fun h4 => i32_nle.mpr h4.2.2 h3)]
      · rw [if_neg h3, if_pos ⟨i32_nlt.mp h1, i32_nle.mp h2, i32_nle.mp h3⟩]
theorem c_hasActN (h : FR μ o σ ν) (p : Int32) : fX3_hasAct (o + 2) p μ = some 0 := by
  unfold fX3_hasAct
  rw [show ldI μ (o + 2) 3 = 0 from h.nob (w := 8) (by decide)]
  by_cases h1 : p < 0
  · rw [if_pos h1]
  · rw [if_neg h1, if_pos (i32_nlt.mp h1)]
theorem has_inb {f : Nat} {p : Int32} (h : sp_has σ f p) : inB p 6 = true ∧ p.toNatClampNeg < 6 := by
  obtain ⟨h1, h2, h3⟩ := h
  obtain ⟨j, hj, rfl⟩ := nI_of (i32_nlt.mpr h1)
  have : j < 6 := (nI_ltI hj (by decide)).mp h3
  rw [nI_clamp hj]
  exact ⟨inB_nI this (by decide), this⟩
theorem c_kindAt (h : FR μ o σ ν) {f : Nat} (hf : f < 8) (p : Int32) : fX3_kindAt (o + 5 + 3 * f) p μ = some (if sp_has σ f p then σ (100 + 6 * f + p.toNatClampNeg) else -1) := by
  unfold fX3_kindAt
  rw [c_hasAct h hf, Option.bind_some]
  by_cases h1 : sp_has σ f p
  · have := has_inb h1
    rw [if_pos h1, if_neg (by decide), if_pos h1, h.pk hf, Option.bind_some, h.lnk hf, gd_t this.1, h.knd hf this.2]
  · rw [if_neg h1, if_pos rfl, if_neg h1]
theorem c_amountAt (h : FR μ o σ ν) {f : Nat} (hf : f < 8) (p : Int32) : fX3_amountAt (o + 5 + 3 * f) p μ = some (if sp_has σ f p then σ (148 + 6 * f + p.toNatClampNeg) else -1) := by
  unfold fX3_amountAt
  rw [c_hasAct h hf, Option.bind_some]
  by_cases h1 : sp_has σ f p
  · have := has_inb h1
    rw [if_pos h1, if_neg (by decide), if_pos h1, h.pa hf, Option.bind_some, h.lna hf, gd_t this.1, h.amt hf this.2]
  · rw [if_neg h1, if_pos rfl, if_neg h1]
theorem c_kindAtN (h : FR μ o σ ν) (p : Int32) : fX3_kindAt (o + 2) p μ = some (-1) := by
  unfold fX3_kindAt
  rw [c_hasActN h, Option.bind_some, if_pos rfl]
theorem c_amountAtN (h : FR μ o σ ν) (p : Int32) : fX3_amountAt (o + 2) p μ = some (-1) := by
  unfold fX3_amountAt
  rw [c_hasActN h, Option.bind_some, if_pos rfl]
theorem c_gainGauge (h : FR μ o σ ν) {f : Nat} (hf : f < 8) (hl : lvN σ f) (n : Int32) : ∃ μ', fX3_gainGauge (o + 5 + 3 * f) n μ = some μ' ∧ CH μ o (sp_raise σ f n) ν μ' := by
  have hl' : ¬ σ (4 + 12 * f + 2) ≤ 0 := i32_nle.mpr hl
  unfold fX3_gainGauge
  rw [h.lif hf, if_neg hl', nm_b, h.gau hf]
  exact ⟨_, rfl, (CH.rf h).set (w := 4) hf (by decide)⟩
theorem c_gainGaugeN (h : FR μ o σ ν) (n : Int32) : fX3_gainGauge (o + 2) n μ = some μ := by
  unfold fX3_gainGauge
  rw [show ldI μ (o + 2) 7 = 0 from h.nob (w := 2) (by decide), if_pos (by decide)]
theorem c_loseGauge (h : FR μ o σ ν) {f : Nat} (hf : f < 8) (n : Int32) : ∃ μ', fX3_loseGauge (o + 5 + 3 * f) n μ = some μ' ∧ CH μ o (sp_lower σ f n) ν μ' := by
  unfold fX3_loseGauge
  rw [nm_b, h.gau hf]
  exact ⟨_, rfl, (CH.rf h).set (w := 4) hf (by decide)⟩
theorem c_gainLife (h : FR μ o σ ν) {f : Nat} (hf : f < 8) (n : Int32) : ∃ μ', fX3_gainLife (o + 5 + 3 * f) n μ = some μ' ∧ CH μ o (sp_heal σ f n) ν μ' := by
  unfold fX3_gainLife
  rw [nm_b, h.lif hf]
  exact ⟨_, rfl, (CH.rf h).set (w := 2) hf (by decide)⟩
theorem c_gainExtras (h : FR μ o σ ν) {f : Nat} (hf : f < 8) (n : Int32) : ∃ μ', fX3_gainExtras (o + 5 + 3 * f) n μ = some μ' ∧ CH μ o (sp_xtr σ f n) ν μ' := by
  unfold fX3_gainExtras
  rw [nm_b, h.ext hf]
  exact ⟨_, rfl, (CH.rf h).set (w := 6) hf (by decide)⟩
/-- what a blow of n takes off f -/
def sp_loss (σ : Sg) (f : Nat) (n : Int32) : Int32 := jmin (jmax (n - σ (4 + 12 * f + 5)) 0) (σ (4 + 12 * f + 2))
def sp_cut (σ : Sg) (f : Nat) (n : Int32) : Sg :=
  if σ (4 + 12 * f + 2) - sp_loss σ f n = 0 then upd (upd (upd (upd σ (4 + 12 * f + 2) (σ (4 + 12 * f + 2) - sp_loss σ f n)) (4 + 12 * f + 4) 0) (4 + 12 * f + 5) 0) (4 + 12 * f + 6) 0 else upd σ (4 + 12 * f + 2) (σ (4 + 12 * f + 2) - sp_loss σ f n)
theorem sp_hit_eq {w f : Nat} {n : Int32} : sp_hit σ w f n = upd (sp_cut σ f n) (4 + 12 * w + 11) (σ (4 + 12 * w + 11) + sp_loss σ f n) := by
  unfold sp_hit sp_cut sp_loss
  simp only [upd_s]
theorem c_loseLife (h : FR μ o σ ν) {f : Nat} (hf : f < 8) (n : Int32) : ∃ μ', fX3_loseLife (o + 5 + 3 * f) n μ = some (sp_loss σ f n, μ') ∧ CH μ o (sp_cut σ f n) ν μ' := by
  unfold fX3_loseLife
  simp only [nm_b]
  rw [h.grd hf, h.lif hf, ldI_stI_s]
  have h1 := (CH.rf h).set (f := f) (w := 2) (v := σ (4 + 12 * f + 2) - sp_loss σ f n) hf (by decide)
  unfold sp_cut
  by_cases e : σ (4 + 12 * f + 2) - sp_loss σ f n = 0
  · rw [if_pos e]
    exact ⟨_, if_pos e, ((h1.set (w := 4) hf (by decide)).set (w := 5) hf (by decide)).set (w := 6) hf (by decide)⟩
  · rw [if_neg e]
    exact ⟨_, if_neg e, h1⟩
theorem c_loseLifeN (h : FR μ o σ ν) (n : Int32) : ∃ μ', fX3_loseLife (o + 2) n μ = some (0, μ') ∧ CH μ o σ ν μ' := by
  unfold fX3_loseLife
  simp only [nm_b]
  rw [show ldI μ (o + 2) 10 = 0 from h.nob (w := 5) (by decide), show ldI μ (o + 2) 7 = 0 from h.nob (w := 2) (by decide), jmin0 jmax0, ldI_stI_s, if_pos (by decide)]
  exact ⟨_, rfl, ((((CH.rf h).nobz (w := 2) (by decide) (by decide)).nobw (w := 4) (by decide)).nobw (w := 5) (by decide)).nobw (w := 6) (by decide)⟩
theorem c_emptiestFriend (h : FR μ o σ ν) {w : Nat} (hw : w < 8) : fX2_emptiestFriend o (o + 5 + 3 * w) μ = some (ob o (sp_lift σ w)) := by
  unfold fX2_emptiestFriend fX2_emptiestFriend_17
  rw [h.p1, Option.bind_some, h.p0, Option.bind_some, nm_b, h.ln]
  refine zl2_for (N := 8) (I := fun j a => a = ob o (sp_best (fun f => decide (f ≠ w) && sd_c σ (σ (4 + 12 * w)) f) (fun f b => decide (σ (4 + 12 * f + 4) < σ (4 + 12 * b + 4))) j)) (Qr := fun r => r = some (ob o (sp_lift σ w))) (by decide) rfl (fun j a self hj hI => ?_) (fun a self hI => ?_)
  · subst hI
    simp only [gX2_emptiestFriend_17, if_neg (n8 hj), gd_t (h.inb hj), cl8 hj, h.pf hj, Option.bind_some, nm_b, nI_1, h.lif hj, h.gau hj, h.sid hj, h.sid hw, h.p1, le0]
    by_cases h0 : j = w
    · refine Or.inl ⟨_, by rw [if_pos (by omega)], ?_⟩
      simp only [sp_best, h0, ne_eq, not_true_eq_false, decide_false, Bool.false_and]; rfl
    · rw [if_neg (by omega)]
      by_cases h1 : 0 < σ (4 + 12 * j + 2)
      · rw [if_neg (fun h => h h1)]
        by_cases h2 : σ (4 + 12 * j) = σ (4 + 12 * w)
        · have h3 : (decide (j ≠ w) && sd_c σ (σ (4 + 12 * w)) j) = true := by simp only [sd_c, lvN, decide_eq_true h1, decide_eq_true h2, decide_eq_true (show j ≠ w from h0), Bool.and_self]
          rw [if_pos h2]
          cases hb : sp_best (fun f => decide (f ≠ w) && sd_c σ (σ (4 + 12 * w)) f) (fun f b => decide (σ (4 + 12 * f + 4) < σ (4 + 12 * b + 4))) j with
          | none =>
            refine Or.inl ⟨_, by rw [if_pos (show ob o none = o + 2 from rfl)], ?_⟩
            simp only [sp_best, h3, hb, Bool.and_self, if_true]; rfl
          | some b =>
            have hb8 : b < 8 := by have := (best_lt hb).1; omega
            simp only [ob, if_neg ob_ne, h.gau hb8]
            by_cases h4 : σ (4 + 12 * b + 4) ≤ σ (4 + 12 * j + 4)
            · refine Or.inl ⟨_, by rw [if_pos h4], ?_⟩
              simp only [sp_best, h3, hb, decide_eq_false (i32_nlt.mpr h4), Bool.and_false]; rfl
            · refine Or.inl ⟨_, by rw [if_neg h4], ?_⟩
              simp only [sp_best, h3, hb, decide_eq_true (i32_nle.mp h4), Bool.and_self, if_true]
        · refine Or.inl ⟨_, by rw [if_neg h2], ?_⟩
          have h3 : (decide (j ≠ w) && sd_c σ (σ (4 + 12 * w)) j) = false := by simp only [sd_c, decide_eq_false h2, Bool.and_false]
          simp only [sp_best, h3, Bool.false_and]; rfl
      · refine Or.inl ⟨_, by rw [if_pos h1], ?_⟩
        have h3 : (decide (j ≠ w) && sd_c σ (σ (4 + 12 * w)) j) = false := by simp only [sd_c, lvN, decide_eq_false h1, Bool.false_and, Bool.and_false]
        simp only [sp_best, h3, Bool.false_and]; rfl
  · subst hI
    simp only [gX2_emptiestFriend_17, if_pos (show nI 8 ≤ nI 8 from nI_le (Nat.le_refl _) (by decide))]
    rfl
theorem lift_liv {w f : Nat} (h : sp_lift σ w = some f) : f < 8 ∧ lvN σ f := by
  obtain ⟨h1, h2⟩ := best_lt h
  refine ⟨h1, ?_⟩
  rw [Bool.and_eq_true] at h2
  have h3 := h2.2
  unfold sd_c at h3
  rw [Bool.and_eq_true] at h3
  exact of_decide_eq_true h3.1
end CFC
