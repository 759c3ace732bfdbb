/-! the next turn; so many turns -/
section PLAY
variable {σ σ' : Sg} {n f w : Nat}
theorem okN.pass (h : okN n σ) {T : Nat} (hT : sp_lt σ 8 = nI T) : ∀ j, j ≤ 8 → okN n (sp_pass σ (nI T) j) := by
  obtain ⟨T', t1, t2, t3, -⟩ := h.lt 8 (Nat.le_refl _)
  rw [hT] at t2
  intro j
  induction j with
  | zero => intro _; exact h.hd (Or.inl rfl)
  | succ j ih =>
    intro hj
    have ih := ih (by omega)
    simp only [sp_pass]
    by_cases e : lvN (sp_pass σ (nI T) j) j
    · rw [if_pos e]
      have hl : lvN σ j := by
        have : sp_pass σ (nI T) j (4 + 12 * j + 2) = σ (4 + 12 * j + 2) := pass_keep j (fun g hg => by omega) (by omega)
        unfold lvN at e; rw [this] at e; exact e
      have hjn := h.liv (by omega) hl
      refine ih.set hjn (by decide) (by decide) (by decide) (fun _ => ?_)
      rw [pass_keep j (fun g hg => by omega) (by omega), pass_keep j (fun g hg => by omega) (by omega)]
      obtain ⟨g, g1, g2, g3⟩ := h.gau hjn
      obtain ⟨v, v1, v2, v3⟩ := h.whl
      obtain ⟨s, s1, s2, s3⟩ := h.spd hjn
      obtain ⟨U, u1, u2, u3⟩ := h.tk hjn
      obtain ⟨U2, w1, w2, w3⟩ := t3 j (by omega) hl
      have e3 : U2 = U := (nI_eq (by omega) (by omega)).mp (w3.symm.trans u2)
      subst e3
      have u3 := (u3 g v s g3 v3 s3 g2 v2 s2).1
      rw [g3, s3, t2, pk_mul, nI_add]
      have : T' * s ≤ U2 * s := Nat.mul_le_mul_right _ w2
      exact ⟨_, Nat.zero_le _, by show _ ≤ 9999; omega, rfl⟩
    · rw [if_neg e]; exact ih
theorem best_none {c : Nat → Bool} {t : Nat → Nat → Bool} : ∀ {n : Nat}, sp_best c t n = none → ∀ f, f < n → c f = false := by
  intro n
  induction n with
  | zero => intro _ f hf; exact absurd hf (Nat.not_lt_zero _)
  | succ n ih =>
    intro h f hf
    unfold sp_best at h
    cases hb : sp_best c t n with
    | some b =>
      rw [hb] at h
      by_cases hc : (c n && t n b) = true
      · rw [if_pos hc] at h; cases h
      · rw [if_neg hc] at h; cases h
    | none =>
      rw [hb] at h
      by_cases hc : c n = true
      · rw [hc] at h; cases h
      · by_cases e : f = n
        · subst e; simpa using hc
        · exact ih hb f (by omega)
theorem any_liv {sd : Int32} : ∀ {n : Nat}, sp_any σ sd n = true → ∃ f, f < n ∧ lvN σ f ∧ σ (4 + 12 * f) = sd := by
  intro n
  induction n with
  | zero => intro h; cases h
  | succ n ih =>
    intro h
    unfold sp_any at h
    rw [Bool.or_eq_true, Bool.and_eq_true] at h
    rcases h with h | h
    · obtain ⟨f, f1, f2⟩ := ih h; exact ⟨f, by omega, f2⟩
    · exact ⟨n, by omega, of_decide_eq_true h.1, of_decide_eq_true h.2⟩
theorem okN.next (h : okN n σ) : okN n (sp_next σ).2 ∧ ∀ w, (sp_next σ).1 = some w → w < n ∧ lvN (sp_next σ).2 w ∧ rdy (sp_next σ).2 w := by
  by_cases ho : sp_over σ = true
  · rw [next_over ho]; exact ⟨h, fun w hw => by cases hw⟩
  · cases hx : sp_fx σ with
    | some f =>
      rw [next_fx ho hx]
      refine ⟨h, fun w hw => ?_⟩
      cases hw
      obtain ⟨h1, h2⟩ := first_lt hx
      unfold fx_c at h2
      rw [Bool.and_eq_true] at h2
      have hl : lvN σ f := of_decide_eq_true h2.1
      exact ⟨h.liv h1 hl, hl, Or.inl (of_decide_eq_true h2.2)⟩
    | none =>
      rw [next_rd ho hx]
      obtain ⟨T, t1, t2, -⟩ := h.lt 8 (Nat.le_refl _)
      have h3 := h.pass t2 8 (Nat.le_refl _)
      rw [← t2] at h3
      dsimp only
      refine ⟨h3, fun w hw => ?_⟩
      obtain ⟨h1, h2⟩ := best_lt hw
      unfold rd_c at h2
      rw [Bool.and_eq_true] at h2
      have hl : lvN (sp_pass σ (sp_lt σ 8) 8) w := of_decide_eq_true h2.1
      exact ⟨h3.liv h1 hl, hl, Or.inr (of_decide_eq_true h2.2)⟩
theorem okN.next_some (h : okN n σ) (ho : ¬ sp_over σ = true) : (sp_next σ).1 ≠ none := by
  intro hn
  cases hx : sp_fx σ with
  | some f => rw [next_fx ho hx] at hn; cases hn
  | none =>
    rw [next_rd ho hx] at hn
    dsimp only at hn
    have hl : ∃ f, f < 8 ∧ lvN σ f := by
      by_cases e : sp_any σ 0 8 = true
      · obtain ⟨f, f1, f2, -⟩ := any_liv e; exact ⟨f, f1, f2⟩
      · refine absurd ?_ ho
        unfold sp_over
        rw [show sp_any σ 0 8 = false by simpa using e]; rfl
    obtain ⟨f0, f1, f2⟩ := hl
    obtain ⟨T, t1, t2, t3, t4⟩ := h.lt 8 (Nat.le_refl _)
    have h5 : ∃ f, f < 8 ∧ lvN σ f ∧ sp_tk σ f = nI T := by
      rcases t4 with t4 | t4
      · obtain ⟨U, u1, u2, u3⟩ := t3 f0 f1 f2
        exact ⟨f0, f1, f2, by rw [u3]; exact congrArg nI (by omega)⟩
      · exact t4
    obtain ⟨f, p1, p2, p3⟩ := h5
    have hfn := h.liv p1 p2
    have h6 := best_none hn f p1
    obtain ⟨g, g1, g2, g3⟩ := h.gau hfn
    obtain ⟨v, v1, v2, v3⟩ := h.whl
    obtain ⟨s, s1, s2, s3⟩ := h.spd hfn
    obtain ⟨U, u1, u2, u3⟩ := h.tk hfn
    have e3 : U = T := (nI_eq (by omega) (by omega)).mp (u2.symm.trans p3)
    subst e3
    have u3 := u3 g v s g3 v3 s3 g2 v2 s2
    unfold rd_c at h6
    rw [Bool.and_eq_false_iff] at h6
    rcases h6 with h6 | h6
    · refine absurd ?_ (of_decide_eq_false h6)
      show 0 < sp_pass σ (sp_lt σ 8) 8 (4 + 12 * f + 2)
      rw [pass_keep 8 (fun g hg => by omega) (by omega)]
      exact p2
    · refine absurd ?_ (of_decide_eq_false h6)
      rw [pass_keep 8 (fun g hg => by omega) (by omega), pass_gau p2 8 p1, t2, g3, s3, v3, pk_mul, nI_add]
      have : max g (v + s - 1) ≤ 9999 + 999 + 99 := by omega
      exact nI_le u3.2 (by omega)
theorem okN.nsp (h : okN n σ) : ∀ f, f < 8 → lvN σ f → 1 ≤ σ (4 + 12 * f + 1) := fun _ h1 h2 => h.sp1 h1 h2
theorem play_none {k : Nat} (h : (sp_next σ).1 = none) : sp_play (k + 1) σ = (0, (sp_next σ).2) := by
  obtain ⟨a, b, e⟩ : ∃ a b, sp_next σ = (a, b) := ⟨_, _, rfl⟩
  rw [e] at h
  dsimp only at h
  subst h
  unfold sp_play
  rw [e]
theorem play_some {k w : Nat} (h : (sp_next σ).1 = some w) : sp_play (k + 1) σ = ((sp_play k (sp_take (sp_next σ).2 w)).1 + 1, (sp_play k (sp_take (sp_next σ).2 w)).2) := by
  obtain ⟨a, b, e⟩ : ∃ a b, sp_next σ = (a, b) := ⟨_, _, rfl⟩
  rw [e] at h
  dsimp only at h
  subst h
  rw [e]
  dsimp only
  generalize hx : sp_play k (sp_take b w) = x
  unfold sp_play
  rw [e]
  dsimp only
  rw [hx]
theorem okN.play : ∀ k {σ : Sg}, okN n σ → okN n (sp_play k σ).2 := by
  intro k
  induction k with
  | zero => intro σ h; exact h
  | succ k ih =>
    intro σ h
    cases hx : (sp_next σ).1 with
    | none => rw [play_none hx]; exact h.next.1
    | some w =>
      rw [play_some hx]
      obtain ⟨h1, h2⟩ := h.next
      obtain ⟨h3, h4, h5⟩ := h2 w hx
      exact ih (h1.take h3 h5)
theorem c_playOn {μ : Mem} {o : Nat} {ν : Nat → Int64} (h : FR μ o σ ν) (hok : okN n σ) {k : Nat} (hk : k < 1000000) : ∃ μ', fX2_playOn o (nI k) μ = some (nI (sp_play k σ).1, μ') ∧ CH μ o (sp_play k σ).2 ν μ' := by
  unfold fX2_playOn fX2_playOn_2
  refine zl2_fob (N := k) (I := fun j m => ∃ τ, okN n τ ∧ CH μ o τ ν m ∧ (sp_play k σ).1 = j + (sp_play (k - j) τ).1 ∧ (sp_play k σ).2 = (sp_play (k - j) τ).2) (Qr := fun r => ∃ μ', r = some (nI (sp_play k σ).1, μ') ∧ CH μ o (sp_play k σ).2 ν μ') (by omega) ⟨σ, hok, CH.rf h, by rw [Nat.zero_add, Nat.sub_zero], by rw [Nat.sub_zero]⟩ (fun j m self hj hI => ?_) (fun m self hI => ?_)
  · obtain ⟨τ, h1, h2, h3, h4⟩ := hI
    obtain ⟨m2, h5, h6⟩ := c_bringNext h2.1 h1.nsp
    obtain ⟨h7, h8⟩ := h1.next
    simp only [gX2_playOn_2, if_neg (nI_ge hj (by omega)), h5, Option.bind_some, h6.1.p1, nm_b, nI_1]
    rw [show k - j = (k - (j + 1)) + 1 by omega] at h3 h4
    cases hx : (sp_next τ).1 with
    | none =>
      rw [play_none hx] at h3 h4
      rw [if_pos (show ob o none = o + 2 from rfl)]
      refine Or.inr ⟨m2, by rw [h3]; rfl, ?_⟩
      rw [h4]; exact h2.tr h6
    | some w =>
      rw [play_some hx] at h3 h4
      obtain ⟨q1, q2, q3⟩ := h8 w hx
      have hw8 : w < 8 := by have := h1.le; omega
      rw [if_neg (show ¬ ob o (some w) = o + 2 from ob_ne)]
      obtain ⟨q, mm, k1, k2, k3, k4, k5, k6⟩ := h7.knum q1
      obtain ⟨m3, h9, h10⟩ := c_takeTurn h6.1 hw8 (h7.has q1) (by rw [k2]; exact nI_pos' (by omega))
      simp only [ob, h9, Option.bind_some]
      refine Or.inl ⟨m3, rfl, _, h7.take q1 q3, (h2.tr h6).tr h10, ?_, h4⟩
      rw [h3]; dsimp only; omega
  · obtain ⟨τ, h1, h2, h3, h4⟩ := hI
    rw [Nat.sub_self] at h3 h4
    simp only [gX2_playOn_2, if_pos (show nI k ≤ nI k from nI_le (Nat.le_refl _) (by omega))]
    refine ⟨m, ?_, ?_⟩
    · rw [h3]; rfl
    · rw [h4]; exact h2
end PLAY
