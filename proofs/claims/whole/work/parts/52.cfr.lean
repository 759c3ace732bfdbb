/-! the class's Fight: its cells show a row of numbers -/
def FO (o : Nat) : Prop := Ln (o + 1) = 8 ∧ ∀ f, f < 9 → Ln (o + 3 + 3 * f) = 6 ∧ Ln (o + 4 + 3 * f) = 6
def fw (w : Nat) : Nat := [5, 6, 7, 8, 9, 10, 11, 12, 3, 13, 14, 15].getD w 0
theorem fw_inj : ∀ a, a < 12 → ∀ b, b < 12 → fw a = fw b → a = b := by decide
theorem fw_ok : ∀ a, a < 12 → fw a ≠ 0 ∧ fw a ≠ 1 ∧ fw a ≠ 2 ∧ fw a ≠ 4 := by decide
def FRp (μ : Mem) (o : Nat) : Prop := ldP μ o 0 = some (o + 1) ∧ ldP μ o 1 = some (o + 2) ∧ (∀ f, f < 8 → ldP μ (o + 1) f = some (o + 5 + 3 * f) ∧ ldI μ (o + 5 + 3 * f) 0 = nI f ∧ ldP μ (o + 5 + 3 * f) 1 = some (o + 6 + 3 * f) ∧ ldP μ (o + 5 + 3 * f) 2 = some (o + 7 + 3 * f)) ∧ ldP μ (o + 2) 1 = some (o + 3) ∧ ldP μ (o + 2) 2 = some (o + 4)
def FRn (μ : Mem) (o : Nat) : Prop := ldI μ (o + 2) 0 = -1 ∧ (∀ w, w < 12 → ldI μ (o + 2) (fw w) = 0) ∧ ldJ μ (o + 2) 4 = 0 ∧ ∀ k, k < 6 → ldI μ (o + 3) k = 0 ∧ ldI μ (o + 4) k = 0
def FRv (μ : Mem) (o : Nat) (σ : Sg) : Prop := (∀ j, j < 4 → ldI μ o (j + 2) = σ j) ∧ ∀ f, f < 8 → (∀ w, w < 12 → ldI μ (o + 5 + 3 * f) (fw w) = σ (4 + 12 * f + w)) ∧ ∀ k, k < 6 → ldI μ (o + 6 + 3 * f) k = σ (100 + 6 * f + k) ∧ ldI μ (o + 7 + 3 * f) k = σ (148 + 6 * f + k)
def FR (μ : Mem) (o : Nat) (σ : Sg) (ν : Nat → Int64) : Prop := FO o ∧ FRp μ o ∧ FRn μ o ∧ FRv μ o σ ∧ ∀ f, f < 8 → ldJ μ (o + 5 + 3 * f) 4 = ν f
def RG (o a : Nat) : Prop := o ≤ a ∧ a < o + 29
section FRL
variable {μ : Mem} {o : Nat} {σ : Sg} {ν : Nat → Int64}
theorem FR.p0 (h : FR μ o σ ν) : ldP μ o 0 = some (o + 1) := h.2.1.1
theorem FR.p1 (h : FR μ o σ ν) : ldP μ o 1 = some (o + 2) := h.2.1.2.1
theorem FR.ln8 (h : FR μ o σ ν) : Ln (o + 1) = 8 := h.1.1
theorem FR.ln (h : FR μ o σ ν) : Int32.ofNat (Ln (o + 1)) = nI 8 := by rw [h.ln8]; rfl
theorem FR.pf (h : FR μ o σ ν) {f : Nat} (hf : f < 8) : ldP μ (o + 1) f = some (o + 5 + 3 * f) := (h.2.1.2.2.1 f hf).1
theorem FR.num (h : FR μ o σ ν) {f : Nat} (hf : f < 8) : ldI μ (o + 5 + 3 * f) 0 = nI f := (h.2.1.2.2.1 f hf).2.1
theorem FR.pk (h : FR μ o σ ν) {f : Nat} (hf : f < 8) : ldP μ (o + 5 + 3 * f) 1 = some (o + 6 + 3 * f) := (h.2.1.2.2.1 f hf).2.2.1
theorem FR.pa (h : FR μ o σ ν) {f : Nat} (hf : f < 8) : ldP μ (o + 5 + 3 * f) 2 = some (o + 7 + 3 * f) := (h.2.1.2.2.1 f hf).2.2.2
theorem FR.lnk (h : FR μ o σ ν) {f : Nat} (hf : f < 8) : Ln (o + 6 + 3 * f) = 6 := by
  have := (h.1.2 (f + 1) (by omega)).1
  rwa [show o + 3 + 3 * (f + 1) = o + 6 + 3 * f by omega] at this
theorem FR.lna (h : FR μ o σ ν) {f : Nat} (hf : f < 8) : Ln (o + 7 + 3 * f) = 6 := by
  have := (h.1.2 (f + 1) (by omega)).2
  rwa [show o + 4 + 3 * (f + 1) = o + 7 + 3 * f by omega] at this
theorem FR.cnt (h : FR μ o σ ν) : ldI μ o 2 = σ 0 := h.2.2.2.1.1 0 (by decide)
theorem FR.whl (h : FR μ o σ ν) : ldI μ o 3 = σ 1 := h.2.2.2.1.1 1 (by decide)
theorem FR.tim (h : FR μ o σ ν) : ldI μ o 4 = σ 2 := h.2.2.2.1.1 2 (by decide)
theorem FR.trn (h : FR μ o σ ν) : ldI μ o 5 = σ 3 := h.2.2.2.1.1 3 (by decide)
theorem FR.c (h : FR μ o σ ν) {f w : Nat} (hf : f < 8) (hw : w < 12) : ldI μ (o + 5 + 3 * f) (fw w) = σ (4 + 12 * f + w) := (h.2.2.2.1.2 f hf).1 w hw
theorem FR.sid (h : FR μ o σ ν) {f : Nat} (hf : f < 8) : ldI μ (o + 5 + 3 * f) 5 = σ (4 + 12 * f) := h.c (w := 0) hf (by decide)
theorem FR.spd (h : FR μ o σ ν) {f : Nat} (hf : f < 8) : ldI μ (o + 5 + 3 * f) 6 = σ (4 + 12 * f + 1) := h.c (w := 1) hf (by decide)
theorem FR.lif (h : FR μ o σ ν) {f : Nat} (hf : f < 8) : ldI μ (o + 5 + 3 * f) 7 = σ (4 + 12 * f + 2) := h.c (w := 2) hf (by decide)
theorem FR.luk (h : FR μ o σ ν) {f : Nat} (hf : f < 8) : ldI μ (o + 5 + 3 * f) 8 = σ (4 + 12 * f + 3) := h.c (w := 3) hf (by decide)
theorem FR.gau (h : FR μ o σ ν) {f : Nat} (hf : f < 8) : ldI μ (o + 5 + 3 * f) 9 = σ (4 + 12 * f + 4) := h.c (w := 4) hf (by decide)
theorem FR.grd (h : FR μ o σ ν) {f : Nat} (hf : f < 8) : ldI μ (o + 5 + 3 * f) 10 = σ (4 + 12 * f + 5) := h.c (w := 5) hf (by decide)
theorem FR.ext (h : FR μ o σ ν) {f : Nat} (hf : f < 8) : ldI μ (o + 5 + 3 * f) 11 = σ (4 + 12 * f + 6) := h.c (w := 6) hf (by decide)
theorem FR.plc (h : FR μ o σ ν) {f : Nat} (hf : f < 8) : ldI μ (o + 5 + 3 * f) 12 = σ (4 + 12 * f + 7) := h.c (w := 7) hf (by decide)
theorem FR.act (h : FR μ o σ ν) {f : Nat} (hf : f < 8) : ldI μ (o + 5 + 3 * f) 3 = σ (4 + 12 * f + 8) := h.c (w := 8) hf (by decide)
theorem FR.mad (h : FR μ o σ ν) {f : Nat} (hf : f < 8) : ldI μ (o + 5 + 3 * f) 13 = σ (4 + 12 * f + 9) := h.c (w := 9) hf (by decide)
theorem FR.xtr (h : FR μ o σ ν) {f : Nat} (hf : f < 8) : ldI μ (o + 5 + 3 * f) 14 = σ (4 + 12 * f + 10) := h.c (w := 10) hf (by decide)
theorem FR.hrm (h : FR μ o σ ν) {f : Nat} (hf : f < 8) : ldI μ (o + 5 + 3 * f) 15 = σ (4 + 12 * f + 11) := h.c (w := 11) hf (by decide)
theorem FR.knd (h : FR μ o σ ν) {f k : Nat} (hf : f < 8) (hk : k < 6) : ldI μ (o + 6 + 3 * f) k = σ (100 + 6 * f + k) := ((h.2.2.2.1.2 f hf).2 k hk).1
theorem FR.amt (h : FR μ o σ ν) {f k : Nat} (hf : f < 8) (hk : k < 6) : ldI μ (o + 7 + 3 * f) k = σ (148 + 6 * f + k) := ((h.2.2.2.1.2 f hf).2 k hk).2
theorem FR.nam (h : FR μ o σ ν) {f : Nat} (hf : f < 8) : ldJ μ (o + 5 + 3 * f) 4 = ν f := h.2.2.2.2 f hf
theorem FR.nob (h : FR μ o σ ν) {w : Nat} (hw : w < 12) : ldI μ (o + 2) (fw w) = 0 := h.2.2.1.2.1 w hw
/-- a fighter's cell anew -/
theorem FR.set (h : FR μ o σ ν) {f w : Nat} {v : Int32} (hf : f < 8) (hw : w < 12) : FR (stI μ (o + 5 + 3 * f) (fw w) v) o (upd σ (4 + 12 * f + w) v) ν := by
  obtain ⟨h1, ⟨p1, p2, p3, p4, p5⟩, ⟨n1, n2, n3, n4⟩, ⟨v1, v2⟩, h5⟩ := h
  have hk := fw_ok w hw
  refine ⟨h1, ⟨p1, p2, fun g hg => ⟨(p3 g hg).1, ?_, (p3 g hg).2.2⟩, p4, p5⟩, ⟨?_, fun w' hw' => ?_, n3, fun k hk => ⟨?_, ?_⟩⟩, ⟨fun j hj => ?_, fun g hg => ⟨fun w' hw' => ?_, fun k hk => ⟨?_, ?_⟩⟩⟩, h5⟩
  · rw [ldI_stI, if_neg (by omega)]; exact (p3 g hg).2.1
  · rw [ldI_stI, if_neg (by omega)]; exact n1
  · rw [ldI_stI, if_neg (by omega)]; exact n2 w' hw'
  · rw [ldI_stI, if_neg (by omega)]; exact (n4 k hk).1
  · rw [ldI_stI, if_neg (by omega)]; exact (n4 k hk).2
  · rw [ldI_stI, if_neg (by omega), upd_n (by omega)]; exact v1 j hj
  · rw [ldI_stI]
    by_cases e : g = f ∧ w' = w
    · obtain ⟨rfl, rfl⟩ := e
      rw [if_pos ⟨rfl, rfl⟩, upd_s]
    · rw [if_neg (fun ⟨e1, e2⟩ => e ⟨by omega, fw_inj w' hw' w hw e2⟩), upd_n (by omega)]
      exact (v2 g hg).1 w' hw'
  · rw [ldI_stI, if_neg (by omega), upd_n (by omega)]; exact ((v2 g hg).2 k hk).1
  · rw [ldI_stI, if_neg (by omega), upd_n (by omega)]; exact ((v2 g hg).2 k hk).2
theorem FR.hd (h : FR μ o σ ν) {j : Nat} {v : Int32} (hj : j < 4) : FR (stI μ o (j + 2) v) o (upd σ j v) ν := by
  obtain ⟨h1, ⟨p1, p2, p3, p4, p5⟩, ⟨n1, n2, n3, n4⟩, ⟨v1, v2⟩, h5⟩ := h
  refine ⟨h1, ⟨p1, p2, fun g hg => ⟨(p3 g hg).1, ?_, (p3 g hg).2.2⟩, p4, p5⟩, ⟨?_, fun w' hw' => ?_, n3, fun k hk => ⟨?_, ?_⟩⟩, ⟨fun j' hj' => ?_, fun g hg => ⟨fun w' hw' => ?_, fun k hk => ⟨?_, ?_⟩⟩⟩, h5⟩
  · rw [ldI_stI, if_neg (by omega)]; exact (p3 g hg).2.1
  · rw [ldI_stI, if_neg (by omega)]; exact n1
  · rw [ldI_stI, if_neg (by omega)]; exact n2 w' hw'
  · rw [ldI_stI, if_neg (by omega)]; exact (n4 k hk).1
  · rw [ldI_stI, if_neg (by omega)]; exact (n4 k hk).2
  · rw [ldI_stI]
    by_cases e : j' = j
    · subst e
      rw [if_pos ⟨rfl, rfl⟩, upd_s]
    · rw [if_neg (by omega), upd_n e]
      exact v1 j' hj'
  · rw [ldI_stI, if_neg (by omega), upd_n (by omega)]; exact (v2 g hg).1 w' hw'
  · rw [ldI_stI, if_neg (by omega), upd_n (by omega)]; exact ((v2 g hg).2 k hk).1
  · rw [ldI_stI, if_neg (by omega), upd_n (by omega)]; exact ((v2 g hg).2 k hk).2
theorem FR.setK (h : FR μ o σ ν) {f k : Nat} {v : Int32} (hf : f < 8) (hk : k < 6) : FR (stI μ (o + 6 + 3 * f) k v) o (upd σ (100 + 6 * f + k) v) ν := by
  obtain ⟨h1, ⟨p1, p2, p3, p4, p5⟩, ⟨n1, n2, n3, n4⟩, ⟨v1, v2⟩, h5⟩ := h
  refine ⟨h1, ⟨p1, p2, fun g hg => ⟨(p3 g hg).1, ?_, (p3 g hg).2.2⟩, p4, p5⟩, ⟨?_, fun w' hw' => ?_, n3, fun k hk => ⟨?_, ?_⟩⟩, ⟨fun j' hj' => ?_, fun g hg => ⟨fun w' hw' => ?_, fun k' hk' => ⟨?_, ?_⟩⟩⟩, h5⟩
  · rw [ldI_stI, if_neg (by omega)]; exact (p3 g hg).2.1
  · rw [ldI_stI, if_neg (by omega)]; exact n1
  · rw [ldI_stI, if_neg (by omega)]; exact n2 w' hw'
  · rw [ldI_stI, if_neg (by omega)]; exact (n4 _ ‹_›).1
  · rw [ldI_stI, if_neg (by omega)]; exact (n4 _ ‹_›).2
  · rw [ldI_stI, if_neg (by omega), upd_n (by omega)]; exact v1 j' hj'
  · rw [ldI_stI, if_neg (by omega), upd_n (by omega)]; exact (v2 g hg).1 w' hw'
  · rw [ldI_stI]
    by_cases e : g = f ∧ k' = k
    · obtain ⟨rfl, rfl⟩ := e
      rw [if_pos ⟨rfl, rfl⟩, upd_s]
    · rw [if_neg (fun ⟨e1, e2⟩ => e ⟨by omega, e2⟩), upd_n (by omega)]
      exact ((v2 g hg).2 k' hk').1
  · rw [ldI_stI, if_neg (by omega), upd_n (by omega)]; exact ((v2 g hg).2 k' hk').2
theorem FR.setA (h : FR μ o σ ν) {f k : Nat} {v : Int32} (hf : f < 8) (hk : k < 6) : FR (stI μ (o + 7 + 3 * f) k v) o (upd σ (148 + 6 * f + k) v) ν := by
  obtain ⟨h1, ⟨p1, p2, p3, p4, p5⟩, ⟨n1, n2, n3, n4⟩, ⟨v1, v2⟩, h5⟩ := h
  refine ⟨h1, ⟨p1, p2, fun g hg => ⟨(p3 g hg).1, ?_, (p3 g hg).2.2⟩, p4, p5⟩, ⟨?_, fun w' hw' => ?_, n3, fun k hk => ⟨?_, ?_⟩⟩, ⟨fun j' hj' => ?_, fun g hg => ⟨fun w' hw' => ?_, fun k' hk' => ⟨?_, ?_⟩⟩⟩, h5⟩
  · rw [ldI_stI, if_neg (by omega)]; exact (p3 g hg).2.1
  · rw [ldI_stI, if_neg (by omega)]; exact n1
  · rw [ldI_stI, if_neg (by omega)]; exact n2 w' hw'
  · rw [ldI_stI, if_neg (by omega)]; exact (n4 _ ‹_›).1
  · rw [ldI_stI, if_neg (by omega)]; exact (n4 _ ‹_›).2
  · rw [ldI_stI, if_neg (by omega), upd_n (by omega)]; exact v1 j' hj'
  · rw [ldI_stI, if_neg (by omega), upd_n (by omega)]; exact (v2 g hg).1 w' hw'
  · rw [ldI_stI, if_neg (by omega), upd_n (by omega)]; exact ((v2 g hg).2 k' hk').1
  · rw [ldI_stI]
    by_cases e : g = f ∧ k' = k
    · obtain ⟨rfl, rfl⟩ := e
      rw [if_pos ⟨rfl, rfl⟩, upd_s]
    · rw [if_neg (fun ⟨e1, e2⟩ => e ⟨by omega, e2⟩), upd_n (by omega)]
      exact ((v2 g hg).2 k' hk').2
/-- what is made outside leaves it -/
theorem FR.out {S : Nat → Prop} {μ' : Mem} (h : FR μ o σ ν) (hS : SE S μ μ') (hd : ∀ a, RG o a → ¬ S a) : FR μ' o σ ν := by
  have hI : ∀ a, RG o a → ldI μ' a = ldI μ a := fun a ha => (hS a (hd a ha)).1
  have hJ : ∀ a, RG o a → ldJ μ' a = ldJ μ a := fun a ha => (hS a (hd a ha)).2.1
  have hP : ∀ a, RG o a → ldP μ' a = ldP μ a := fun a ha => (hS a (hd a ha)).2.2
  obtain ⟨h1, ⟨p1, p2, p3, p4, p5⟩, ⟨n1, n2, n3, n4⟩, ⟨v1, v2⟩, h5⟩ := h
  refine ⟨h1, ⟨?_, ?_, fun g hg => ⟨?_, ?_, ?_, ?_⟩, ?_, ?_⟩, ⟨?_, fun w' hw' => ?_, ?_, fun k hk => ⟨?_, ?_⟩⟩, ⟨fun j' hj' => ?_, fun g hg => ⟨fun w' hw' => ?_, fun k' hk' => ⟨?_, ?_⟩⟩⟩, fun g hg => ?_⟩
  · rw [hP _ ⟨by omega, by omega⟩]; exact p1
  · rw [hP _ ⟨by omega, by omega⟩]; exact p2
  · rw [hP _ ⟨by omega, by omega⟩]; exact (p3 g hg).1
  · rw [hI _ ⟨by omega, by omega⟩]; exact (p3 g hg).2.1
  · rw [hP _ ⟨by omega, by omega⟩]; exact (p3 g hg).2.2.1
  · rw [hP _ ⟨by omega, by omega⟩]; exact (p3 g hg).2.2.2
  · rw [hP _ ⟨by omega, by omega⟩]; exact p4
  · rw [hP _ ⟨by omega, by omega⟩]; exact p5
  · rw [hI _ ⟨by omega, by omega⟩]; exact n1
  · rw [hI _ ⟨by omega, by omega⟩]; exact n2 w' hw'
  · rw [hJ _ ⟨by omega, by omega⟩]; exact n3
  · rw [hI _ ⟨by omega, by omega⟩]; exact (n4 k hk).1
  · rw [hI _ ⟨by omega, by omega⟩]; exact (n4 k hk).2
  · rw [hI _ ⟨by omega, by omega⟩]; exact v1 j' hj'
  · rw [hI _ ⟨by omega, by omega⟩]; exact (v2 g hg).1 w' hw'
  · rw [hI _ ⟨by omega, by omega⟩]; exact ((v2 g hg).2 k' hk').1
  · rw [hI _ ⟨by omega, by omega⟩]; exact ((v2 g hg).2 k' hk').2
  · rw [hJ _ ⟨by omega, by omega⟩]; exact h5 g hg
theorem FR.cg {σ' : Sg} {ν' : Nat → Int64} (h : FR μ o σ ν) (hs : ∀ j, j < 196 → σ' j = σ j) (hn : ∀ f, f < 8 → ν' f = ν f) : FR μ o σ' ν' := by
  obtain ⟨h1, h2, h3, ⟨v1, v2⟩, h5⟩ := h
  refine ⟨h1, h2, h3, ⟨fun j hj => ?_, fun g hg => ⟨fun w hw => ?_, fun k hk => ⟨?_, ?_⟩⟩⟩, fun f hf => ?_⟩
  · rw [hs _ (by omega)]; exact v1 j hj
  · rw [hs _ (by omega)]; exact (v2 g hg).1 w hw
  · rw [hs _ (by omega)]; exact ((v2 g hg).2 k hk).1
  · rw [hs _ (by omega)]; exact ((v2 g hg).2 k hk).2
  · rw [hn f hf]; exact h5 f hf
end FRL
