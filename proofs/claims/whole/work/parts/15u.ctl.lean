/-! new objects and rows, final fields, constructors -/
def clr (μ : Mem) (o : Nat) : Mem := (fun a b => if a = o then 0 else μ.1 a b, fun a b => if a = o then 0 else μ.2.1 a b, fun a b => if a = o then none else μ.2.2 a b)
theorem clr_I {μ : Mem} {o : Nat} : ldI (clr μ o) o = fun _ => 0 := by funext b; simp [ldI, clr]
theorem clr_J {μ : Mem} {o : Nat} : ldJ (clr μ o) o = fun _ => 0 := by funext b; simp [ldJ, clr]
theorem clr_P {μ : Mem} {o : Nat} : ldP (clr μ o) o = fun _ => none := by funext b; simp [ldP, clr]
theorem clr_In {μ : Mem} {o a : Nat} (h : a ≠ o) : ldI (clr μ o) a = ldI μ a := by funext b; simp [ldI, clr, h]
theorem clr_Jn {μ : Mem} {o a : Nat} (h : a ≠ o) : ldJ (clr μ o) a = ldJ μ a := by funext b; simp [ldJ, clr, h]
theorem clr_Pn {μ : Mem} {o a : Nat} (h : a ≠ o) : ldP (clr μ o) a = ldP μ a := by funext b; simp [ldP, clr, h]
theorem ik_up {n n' o c : Nat} (h : isK n o c) (hn : n ≤ n') : isK n' o c := ⟨Nat.lt_of_lt_of_le h.1 hn, h.2⟩
theorem ik_new {n o c : Nat} (h : decide (Kd n = c) = true) (ho : o = n) : isK (n + 1) o c := ⟨by omega, by rw [ho]; exact of_decide_eq_true h⟩
theorem wl_clr {B : Nat} {cT : Nat → ClassId} {n : Nat} {μ : Mem} : wl B cT (n + 1) (clr μ n) = wl B cT n μ ++ [(B + n, ent B cT (fun _ => 0) (fun _ => 0) (fun _ => none) (Ln n) (Kd n))] := by
  rw [wl, List.range_succ, List.map_append]
  congr 1
  · refine List.map_congr_left (fun o ho => ?_)
    have h : o ≠ n := by have := List.mem_range.mp ho; omega
    rw [entM, entM, clr_In h, clr_Jn h, clr_Pn h]
  · show [(B + n, entM B cT (clr μ n) n)] = _
    rw [entM, clr_I, clr_J, clr_P]
theorem WT_clr {n : Nat} {μ : Mem} (h : WT n μ) : WT (n + 1) (clr μ n) := by
  refine ⟨fun a b q ha hb => ?_, fun a b ha hb => ?_⟩
  · by_cases e : a = n
    · rw [e, clr_P] at hb; cases hb
    · rw [clr_Pn e] at hb
      exact ik_up (h.1 a b q (by omega) hb) (by omega)
  · by_cases e : a = n
    · rw [e, clr_I]; exact Or.inl rfl
    · rw [clr_In e]
      exact h.2 a b (by omega) hb
/-- what a 'new' needs of the tables -/
def LN (own : String) (idx cl N : Nat) : Prop := ∃ (C : String) (T : u_T) (ty : Nat → FieldType), CF cl C T N ty ∧ Cond.classLink own idx C ∈ gw ∧ Cond.instantiable C N ∈ gw ∧ Cond.initialized C ∈ gw
theorem va_lt {D : va_G} {B n : Nat} {cT : Nat → ClassId} {μ : Mem} {H : Heap} (hP : va_P D vwK (wl B cT n μ) H) (hn : 0 < n) : B + n ≤ H.size := by
  have h2 := wl_at (B := B) (cT := cT) (μ := μ) (show n - 1 < n by omega)
  have h3 : B + (n - 1) < H.size := (hP _ _ h2).lt
  omega
def MC (l : Launch) (y : MethodName) (b : ByteArray) (mL : Nat) (rm : Room) (B : Nat) (D : va_G) (cT : Nat → ClassId) (XS : State → Heap → Prop) (n : Nat) (av : List Value) (μ res : Mem) (n' : Nat) : Prop :=
  Met l y (Cond.code y b mL none :: gw) rm (va_Pc av (Wz B D cT XS n μ (B + n))) (va_Qv (fun u => u = res) (Wq B D cT n') (fr B)) rm.cells rm.slots (fr B)
abbrev QC (B : Nat) (D : va_G) (cT : Nat → ClassId) (n' mc ms : Nat) (below : List Frame) (args : Array Value) (s : State) (res : Mem) : State → Prop := MQ below (va_Qv (fun u => u = res) (Wq B D cT n') (fr B)) args s mc ms (fr B)
def MTc (y : MethodName) (b : ByteArray) (mL k : Nat) : Prop := MTx y b mL none k ∧ Cond.instanceMethod y ∈ gw ∧ y.name = "<init>"
theorem oj_i : Cond.instanceMethod Lib.objectInit ∈ gw := (gw_mem (mt1 (at_l 31 rfl)) rfl)
theorem oj_c : Cond.code Lib.objectInit ⟨#[0xb1]⟩ 1 none ∈ gw := (gw_mem (mt1 (at_l 32 rfl)) rfl)
section TCTOR
variable {p : Program} {l : Launch} {e : Env} {R : Room} {s : State} {m : MethodId} {args : Array Value} {below : List Frame} {meth : Method} {c : Code} {Q : State → Prop} {nL B : Nat} {D : va_G} {cT : Nat → ClassId} {n kc ks : Nat} {μ : Mem} {pc : Nat} {lv : List (Nat × Value)} {st rest : List Value} {cc : ByteArray} {own : String} {XS : State → Heap → Prop} {adK adV : Nat → Nat}
theorem tt_new (E : EE p s m args c cc nL own B D cT XS) {idx cl N : Nat} (hL : LN own idx cl N) (hz : s.heap.size + kc = B + n) (h0 : 0 < n ∨ kc = 0) (hk : decide (Kd n = cl) = true) (hc : kc + 1 ≤ R.cells) (hs : ks + N ≤ R.slots) (hdg : decode cc pc = .ok (.new idx, 3)) (kk : TT p l e R s m args below meth c Q nL B D cT (n + 1) (kc + 1) (ks + N) (clr μ n) (pc + 3) lv (.ref (B + n) :: st)) : TT p l e R s m args below meth c Q nL B D cT n kc ks μ pc lv st := by
  obtain ⟨C, T, ty, ⟨hcl, h10, hN, hin, hty, hnm, hft⟩, hl1, hl2, hl3⟩ := hL
  intro H locs ls hP hW hS hl
  refine W_size (fun hsz => ?_)
  have hge : B + n ≤ H.size := by
    rcases Nat.eq_zero_or_pos n with h | h
    · rcases h0 with h1 | h1
      · omega
      · have := hS.1; omega
    · exact va_lt hP h
  have hHs : H.size = B + n := by omega
  have hKn := E.2.1.1 cl _ hcl
  refine W.newcK E.1.1 E.1.2.1 E.1.2.2.2.1 (E.1.2.2.2.2 _ hl1) (E.1.2.2.2.2 _ hl2) (E.1.2.2.2.2 _ hl3) rfl hdg hc hs hKn.2.1 hHs fun H1 kC hkC e1 z1 o1 => ?_
  have hk9 : ∀ (k : Nat) (x : Nat × va_E), (wl B cT n μ)[k]? = some x → H1[x.1]? = H[x.1]? := fun k x hx => o1 x.1 (by have := (hP k x hx).lt; omega)
  have hP1 : va_P D vwK (wl B cT (n + 1) (clr μ n)) H1 := by
    rw [wl_clr]
    refine (hP.kept hk9).app (fun k x hx => ?_)
    have hz9 : k < 1 := (List.getElem?_eq_some_iff.mp hx).1
    rw [show k = 0 by omega] at hx
    cases hx
    show va_at D vwK (B + n, ent B cT _ _ _ (Ln n) (Kd n)) H1
    rw [of_decide_eq_true hk, ent_cls h10]
    refine ⟨_, hcl, (u_born ty E.1.2.2.2.2 hin hKn hkC e1 hty).to (fun j hj => ?_)⟩
    have hj2 : j < FL cl := by rw [hN]; exact hj
    show defaultValue (ty j) = (fs B cl (fun _ => 0) (fun _ => 0) (fun _ => none)).getD j .null
    rw [List.getD_eq_getElem?_getD, fs_get hj2]
    have h9 := hft j hj
    show defaultValue (ty j) = fv B (FTy cl j) (fun _ => 0) (fun _ => 0) (fun _ => none) j
    generalize FTy cl j = q at h9 ⊢
    generalize ty j = w at h9 ⊢
    match q, h9 with
    | 0, h9 => rw [okTy0 h9]; rfl
    | 1, h9 => rw [okTy1 h9]; rfl
    | 2, h9 => cases w <;> first | rfl | cases h9
    | 3, h9 => rw [okTy3 h9]; rfl
    | k + 4, h9 => cases h9
  exact kk H1 locs ls hP1 (WT_clr hW) ⟨Nat.le_trans hS.1 (by omega), fun x h1 h2 => (o1 x (by omega)).trans (hS.2.1 x h1 h2), hS.2.2⟩ hl
theorem tt_newa10 (E : EE p s m args c cc nL own B D cT XS) {len : Int32} {N : Nat} (hL : Cond.arrayClass .byte ∈ gw) (hz : s.heap.size + kc = B + n) (h0 : 0 < n ∨ kc = 0) (hk : decide (Kd n = 10) = true) (hNl : Ln n = N) (hln : decide (¬ len < 0 ∧ len.toNatClampNeg = Ln n ∧ Ln n ≤ 10000) = true) (hc : kc + 1 ≤ R.cells) (hs : ks + N ≤ R.slots) (hdg : decode cc pc = .ok (.newarray .byte, 2)) (kk : TT p l e R s m args below meth c Q nL B D cT (n + 1) (kc + 1) (ks + N) (clr μ n) (pc + 2) lv (.ref (B + n) :: st)) : TT p l e R s m args below meth c Q nL B D cT n kc ks μ pc lv (.int len :: st) := by
  subst hNl
  obtain ⟨hn0, hN, hb⟩ := of_decide_eq_true hln
  intro H locs ls hP hW hS hl
  refine W_size (fun hsz => ?_)
  have hge : B + n ≤ H.size := by
    rcases Nat.eq_zero_or_pos n with h | h
    · rcases h0 with h1 | h1
      · omega
      · have := hS.1; omega
    · exact va_lt hP h
  have hHs : H.size = B + n := by omega
  refine va_newaK E.1.1 E.1.2.1 (atype := .byte) (E.1.2.2.2.2 _ hL) rfl hdg rfl hn0 hN (Nat.le_trans (Nat.mul_le_mul_right _ hb) (by decide)) hc hs hHs fun H1 cA e1 z1 o1 hAr hNm => ?_
  have hk9 : ∀ (k : Nat) (x : Nat × va_E), (wl B cT n μ)[k]? = some x → H1[x.1]? = H[x.1]? := fun k x hx => o1 x.1 (by have := (hP k x hx).lt; omega)
  have hcA : cA = cT 0 := Option.some.inj (hNm.symm.trans ((E.2.1.2 0 _ rfl).2))
  have hP1 : va_P D vwK (wl B cT (n + 1) (clr μ n)) H1 := by
    rw [wl_clr]
    refine (hP.kept hk9).app (fun k x hx => ?_)
    have hz9 : k < 1 := (List.getElem?_eq_some_iff.mp hx).1
    rw [show k = 0 by omega] at hx
    cases hx
    show va_at D vwK (B + n, ent B cT _ _ _ (Ln n) (Kd n)) H1
    rw [of_decide_eq_true hk]
    show H1[B + n]? = some (vp_cell (cT 0) _)
    rw [e1, hcA]; rfl
  exact kk H1 locs ls hP1 (WT_clr hW) ⟨Nat.le_trans hS.1 (by omega), fun x h1 h2 => (o1 x (by omega)).trans (hS.2.1 x h1 h2), hS.2.2⟩ hl
theorem tt_newa11 (E : EE p s m args c cc nL own B D cT XS) {len : Int32} {N : Nat} (hL : Cond.arrayClass .int ∈ gw) (hz : s.heap.size + kc = B + n) (h0 : 0 < n ∨ kc = 0) (hk : decide (Kd n = 11) = true) (hNl : Ln n = N) (hln : decide (¬ len < 0 ∧ len.toNatClampNeg = Ln n ∧ Ln n ≤ 10000) = true) (hc : kc + 1 ≤ R.cells) (hs : ks + N ≤ R.slots) (hdg : decode cc pc = .ok (.newarray .int, 2)) (kk : TT p l e R s m args below meth c Q nL B D cT (n + 1) (kc + 1) (ks + N) (clr μ n) (pc + 2) lv (.ref (B + n) :: st)) : TT p l e R s m args below meth c Q nL B D cT n kc ks μ pc lv (.int len :: st) := by
  subst hNl
  obtain ⟨hn0, hN, hb⟩ := of_decide_eq_true hln
  intro H locs ls hP hW hS hl
  refine W_size (fun hsz => ?_)
  have hge : B + n ≤ H.size := by
    rcases Nat.eq_zero_or_pos n with h | h
    · rcases h0 with h1 | h1
      · omega
      · have := hS.1; omega
    · exact va_lt hP h
  have hHs : H.size = B + n := by omega
  refine va_newaK E.1.1 E.1.2.1 (atype := .int) (E.1.2.2.2.2 _ hL) rfl hdg rfl hn0 hN (Nat.le_trans (Nat.mul_le_mul_right _ hb) (by decide)) hc hs hHs fun H1 cA e1 z1 o1 hAr hNm => ?_
  have hk9 : ∀ (k : Nat) (x : Nat × va_E), (wl B cT n μ)[k]? = some x → H1[x.1]? = H[x.1]? := fun k x hx => o1 x.1 (by have := (hP k x hx).lt; omega)
  have hcA : cA = cT 1 := Option.some.inj (hNm.symm.trans ((E.2.1.2 1 _ rfl).2))
  have hP1 : va_P D vwK (wl B cT (n + 1) (clr μ n)) H1 := by
    rw [wl_clr]
    refine (hP.kept hk9).app (fun k x hx => ?_)
    have hz9 : k < 1 := (List.getElem?_eq_some_iff.mp hx).1
    rw [show k = 0 by omega] at hx
    cases hx
    show va_at D vwK (B + n, ent B cT _ _ _ (Ln n) (Kd n)) H1
    rw [of_decide_eq_true hk]
    show H1[B + n]? = some (vp_cell (cT 1) _)
    rw [e1, hcA]; rfl
  exact kk H1 locs ls hP1 (WT_clr hW) ⟨Nat.le_trans hS.1 (by omega), fun x h1 h2 => (o1 x (by omega)).trans (hS.2.1 x h1 h2), hS.2.2⟩ hl
theorem tt_newa12 (E : EE p s m args c cc nL own B D cT XS) {len : Int32} {N : Nat} (hL : Cond.arrayClass .long ∈ gw) (hz : s.heap.size + kc = B + n) (h0 : 0 < n ∨ kc = 0) (hk : decide (Kd n = 12) = true) (hNl : Ln n = N) (hln : decide (¬ len < 0 ∧ len.toNatClampNeg = Ln n ∧ Ln n ≤ 10000) = true) (hc : kc + 1 ≤ R.cells) (hs : ks + N ≤ R.slots) (hdg : decode cc pc = .ok (.newarray .long, 2)) (kk : TT p l e R s m args below meth c Q nL B D cT (n + 1) (kc + 1) (ks + N) (clr μ n) (pc + 2) lv (.ref (B + n) :: st)) : TT p l e R s m args below meth c Q nL B D cT n kc ks μ pc lv (.int len :: st) := by
  subst hNl
  obtain ⟨hn0, hN, hb⟩ := of_decide_eq_true hln
  intro H locs ls hP hW hS hl
  refine W_size (fun hsz => ?_)
  have hge : B + n ≤ H.size := by
    rcases Nat.eq_zero_or_pos n with h | h
    · rcases h0 with h1 | h1
      · omega
      · have := hS.1; omega
    · exact va_lt hP h
  have hHs : H.size = B + n := by omega
  refine va_newaK E.1.1 E.1.2.1 (atype := .long) (E.1.2.2.2.2 _ hL) rfl hdg rfl hn0 hN (Nat.le_trans (Nat.mul_le_mul_right _ hb) (by decide)) hc hs hHs fun H1 cA e1 z1 o1 hAr hNm => ?_
  have hk9 : ∀ (k : Nat) (x : Nat × va_E), (wl B cT n μ)[k]? = some x → H1[x.1]? = H[x.1]? := fun k x hx => o1 x.1 (by have := (hP k x hx).lt; omega)
  have hcA : cA = cT 2 := Option.some.inj (hNm.symm.trans ((E.2.1.2 2 _ rfl).2))
  have hP1 : va_P D vwK (wl B cT (n + 1) (clr μ n)) H1 := by
    rw [wl_clr]
    refine (hP.kept hk9).app (fun k x hx => ?_)
    have hz9 : k < 1 := (List.getElem?_eq_some_iff.mp hx).1
    rw [show k = 0 by omega] at hx
    cases hx
    show va_at D vwK (B + n, ent B cT _ _ _ (Ln n) (Kd n)) H1
    rw [of_decide_eq_true hk]
    show H1[B + n]? = some (vp_cell (cT 2) _)
    rw [e1, hcA]; rfl
  exact kk H1 locs ls hP1 (WT_clr hW) ⟨Nat.le_trans hS.1 (by omega), fun x h1 h2 => (o1 x (by omega)).trans (hS.2.1 x h1 h2), hS.2.2⟩ hl
theorem tt_anewa13 (E : EE p s m args c cc nL own B D cT (XW B adK adV)) {idx : Nat} {len : Int32} {N : Nat} (hL : Cond.classLink own idx RX1 ∈ gw) (hA : RX1 ∈ xAO) (hz : s.heap.size + kc = B + n) (h0 : 0 < n ∨ kc = 0) (hk : decide (Kd n = 13) = true) (hNl : Ln n = N) (hln : decide (¬ len < 0 ∧ len.toNatClampNeg = Ln n ∧ Ln n ≤ 10000) = true) (hc : kc + 1 ≤ R.cells) (hs : ks + N ≤ R.slots) (hdg : decode cc pc = .ok (.anewarray idx, 3)) (kk : TT p l e R s m args below meth c Q nL B D cT (n + 1) (kc + 1) (ks + N) (clr μ n) (pc + 3) lv (.ref (B + n) :: st)) : TT p l e R s m args below meth c Q nL B D cT n kc ks μ pc lv (.int len :: st) := by
  subst hNl
  obtain ⟨hn0, hN, hb⟩ := of_decide_eq_true hln
  intro H locs ls hP hW hS hl
  refine W_size (fun hsz => ?_)
  have hge : B + n ≤ H.size := by
    rcases Nat.eq_zero_or_pos n with h | h
    · rcases h0 with h1 | h1
      · omega
      · have := hS.1; omega
    · exact va_lt hP h
  have hHs : H.size = B + n := by omega
  rw [← hN] at hs
  refine W.anew E.1.1 E.1.2.1 E.1.2.2.2.1 (E.1.2.2.2.2 _ hL) (va_AO.use (E.2.2.1.2.2.2.2.2.2.2.1 _ hA)) rfl hdg rfl hn0 (Nat.le_trans (Nat.mul_le_mul_right _ (by rw [hN]; exact hb)) (by decide)) hc hs fun cA kA comp f1 f2 f3 f4 => ?_
  generalize hH1 : H.push ({ cls := cA, slots := Array.replicate len.toNatClampNeg .null, vm := .none } : Cell) = H1
  have z1 : H1.size = H.size + 1 := by rw [← hH1, Array.size_push]
  have e1 : H1[H.size]? = some (arrV cA len.toNatClampNeg (fun _ => .null)) := by rw [← hH1, Array.getElem?_push_size, ← arrV_new]
  have o1 : ∀ q : Nat, q < H.size → H1[q]? = H[q]? := fun q hq => by rw [← hH1, Array.getElem?_push, if_neg (Nat.ne_of_lt hq)]
  have hk9 : ∀ (k : Nat) (x : Nat × va_E), (wl B cT n μ)[k]? = some x → H1[x.1]? = H[x.1]? := fun k x hx => o1 x.1 (by have := (hP k x hx).lt; omega)
  obtain ⟨kA2, comp2, g1, g2, g3, g4⟩ := (E.2.1.2 3 _ rfl).2
  have hcA : cA = cT 3 := Option.some.inj (f1.symm.trans g4)
  have hP1 : va_P D vwK (wl B cT (n + 1) (clr μ n)) H1 := by
    rw [wl_clr]
    refine (hP.kept hk9).app (fun k x hx => ?_)
    have hz9 : k < 1 := (List.getElem?_eq_some_iff.mp hx).1
    rw [show k = 0 by omega] at hx
    cases hx
    show va_at D vwK (B + n, ent B cT _ _ _ (Ln n) (Kd n)) H1
    rw [of_decide_eq_true hk]
    show H1[B + n]? = some (vp_cell (cT 3) _)
    rw [← hHs, e1, hcA, ← hN]; rfl
  have := kk H1 locs ls hP1 (WT_clr hW) ⟨Nat.le_trans hS.1 (by omega), fun x h1 h2 => (o1 x (by omega)).trans (hS.2.1 x h1 h2), hS.2.2⟩ hl
  rw [← hHs, ← hN] at this
  exact this
theorem tt_anewa14 (E : EE p s m args c cc nL own B D cT (XW B adK adV)) {idx : Nat} {len : Int32} {N : Nat} (hL : Cond.classLink own idx RX2 ∈ gw) (hA : RX2 ∈ xAO) (hz : s.heap.size + kc = B + n) (h0 : 0 < n ∨ kc = 0) (hk : decide (Kd n = 14) = true) (hNl : Ln n = N) (hln : decide (¬ len < 0 ∧ len.toNatClampNeg = Ln n ∧ Ln n ≤ 10000) = true) (hc : kc + 1 ≤ R.cells) (hs : ks + N ≤ R.slots) (hdg : decode cc pc = .ok (.anewarray idx, 3)) (kk : TT p l e R s m args below meth c Q nL B D cT (n + 1) (kc + 1) (ks + N) (clr μ n) (pc + 3) lv (.ref (B + n) :: st)) : TT p l e R s m args below meth c Q nL B D cT n kc ks μ pc lv (.int len :: st) := by
  subst hNl
  obtain ⟨hn0, hN, hb⟩ := of_decide_eq_true hln
  intro H locs ls hP hW hS hl
  refine W_size (fun hsz => ?_)
  have hge : B + n ≤ H.size := by
    rcases Nat.eq_zero_or_pos n with h | h
    · rcases h0 with h1 | h1
      · omega
      · have := hS.1; omega
    · exact va_lt hP h
  have hHs : H.size = B + n := by omega
  rw [← hN] at hs
  refine W.anew E.1.1 E.1.2.1 E.1.2.2.2.1 (E.1.2.2.2.2 _ hL) (va_AO.use (E.2.2.1.2.2.2.2.2.2.2.1 _ hA)) rfl hdg rfl hn0 (Nat.le_trans (Nat.mul_le_mul_right _ (by rw [hN]; exact hb)) (by decide)) hc hs fun cA kA comp f1 f2 f3 f4 => ?_
  generalize hH1 : H.push ({ cls := cA, slots := Array.replicate len.toNatClampNeg .null, vm := .none } : Cell) = H1
  have z1 : H1.size = H.size + 1 := by rw [← hH1, Array.size_push]
  have e1 : H1[H.size]? = some (arrV cA len.toNatClampNeg (fun _ => .null)) := by rw [← hH1, Array.getElem?_push_size, ← arrV_new]
  have o1 : ∀ q : Nat, q < H.size → H1[q]? = H[q]? := fun q hq => by rw [← hH1, Array.getElem?_push, if_neg (Nat.ne_of_lt hq)]
  have hk9 : ∀ (k : Nat) (x : Nat × va_E), (wl B cT n μ)[k]? = some x → H1[x.1]? = H[x.1]? := fun k x hx => o1 x.1 (by have := (hP k x hx).lt; omega)
  obtain ⟨kA2, comp2, g1, g2, g3, g4⟩ := (E.2.1.2 4 _ rfl).2
  have hcA : cA = cT 4 := Option.some.inj (f1.symm.trans g4)
  have hP1 : va_P D vwK (wl B cT (n + 1) (clr μ n)) H1 := by
    rw [wl_clr]
    refine (hP.kept hk9).app (fun k x hx => ?_)
    have hz9 : k < 1 := (List.getElem?_eq_some_iff.mp hx).1
    rw [show k = 0 by omega] at hx
    cases hx
    show va_at D vwK (B + n, ent B cT _ _ _ (Ln n) (Kd n)) H1
    rw [of_decide_eq_true hk]
    show H1[B + n]? = some (vp_cell (cT 4) _)
    rw [← hHs, e1, hcA, ← hN]; rfl
  have := kk H1 locs ls hP1 (WT_clr hW) ⟨Nat.le_trans hS.1 (by omega), fun x h1 h2 => (o1 x (by omega)).trans (hS.2.1 x h1 h2), hS.2.2⟩ hl
  rw [← hHs, ← hN] at this
  exact this
theorem tt_anewa15 (E : EE p s m args c cc nL own B D cT (XW B adK adV)) {idx : Nat} {len : Int32} {N : Nat} (hL : Cond.classLink own idx RX3 ∈ gw) (hA : RX3 ∈ xAO) (hz : s.heap.size + kc = B + n) (h0 : 0 < n ∨ kc = 0) (hk : decide (Kd n = 15) = true) (hNl : Ln n = N) (hln : decide (¬ len < 0 ∧ len.toNatClampNeg = Ln n ∧ Ln n ≤ 10000) = true) (hc : kc + 1 ≤ R.cells) (hs : ks + N ≤ R.slots) (hdg : decode cc pc = .ok (.anewarray idx, 3)) (kk : TT p l e R s m args below meth c Q nL B D cT (n + 1) (kc + 1) (ks + N) (clr μ n) (pc + 3) lv (.ref (B + n) :: st)) : TT p l e R s m args below meth c Q nL B D cT n kc ks μ pc lv (.int len :: st) := by
  subst hNl
  obtain ⟨hn0, hN, hb⟩ := of_decide_eq_true hln
  intro H locs ls hP hW hS hl
  refine W_size (fun hsz => ?_)
  have hge : B + n ≤ H.size := by
    rcases Nat.eq_zero_or_pos n with h | h
    · rcases h0 with h1 | h1
      · omega
      · have := hS.1; omega
    · exact va_lt hP h
  have hHs : H.size = B + n := by omega
  rw [← hN] at hs
  refine W.anew E.1.1 E.1.2.1 E.1.2.2.2.1 (E.1.2.2.2.2 _ hL) (va_AO.use (E.2.2.1.2.2.2.2.2.2.2.1 _ hA)) rfl hdg rfl hn0 (Nat.le_trans (Nat.mul_le_mul_right _ (by rw [hN]; exact hb)) (by decide)) hc hs fun cA kA comp f1 f2 f3 f4 => ?_
  generalize hH1 : H.push ({ cls := cA, slots := Array.replicate len.toNatClampNeg .null, vm := .none } : Cell) = H1
  have z1 : H1.size = H.size + 1 := by rw [← hH1, Array.size_push]
  have e1 : H1[H.size]? = some (arrV cA len.toNatClampNeg (fun _ => .null)) := by rw [← hH1, Array.getElem?_push_size, ← arrV_new]
  have o1 : ∀ q : Nat, q < H.size → H1[q]? = H[q]? := fun q hq => by rw [← hH1, Array.getElem?_push, if_neg (Nat.ne_of_lt hq)]
  have hk9 : ∀ (k : Nat) (x : Nat × va_E), (wl B cT n μ)[k]? = some x → H1[x.1]? = H[x.1]? := fun k x hx => o1 x.1 (by have := (hP k x hx).lt; omega)
  obtain ⟨kA2, comp2, g1, g2, g3, g4⟩ := (E.2.1.2 5 _ rfl).2
  have hcA : cA = cT 5 := Option.some.inj (f1.symm.trans g4)
  have hP1 : va_P D vwK (wl B cT (n + 1) (clr μ n)) H1 := by
    rw [wl_clr]
    refine (hP.kept hk9).app (fun k x hx => ?_)
    have hz9 : k < 1 := (List.getElem?_eq_some_iff.mp hx).1
    rw [show k = 0 by omega] at hx
    cases hx
    show va_at D vwK (B + n, ent B cT _ _ _ (Ln n) (Kd n)) H1
    rw [of_decide_eq_true hk]
    show H1[B + n]? = some (vp_cell (cT 5) _)
    rw [← hHs, e1, hcA, ← hN]; rfl
  have := kk H1 locs ls hP1 (WT_clr hW) ⟨Nat.le_trans hS.1 (by omega), fun x h1 h2 => (o1 x (by omega)).trans (hS.2.1 x h1 h2), hS.2.2⟩ hl
  rw [← hHs, ← hN] at this
  exact this
theorem tt_putFI (E : EE p s m args c cc nL own B D cT XS) (hin2 : meth.name = "<init>") {idx cl k o : Nat} {v : Int32} (hL : LF own idx cl k true) (hd : ∀ (C : String) (T : u_T) (N : Nat), vwK[cl]? = some (C, T, N) → (T k).1 = own) (hf : FTy cl k = 0) (ho : isK n o cl) (hdg : decode cc pc = .ok (.putfield idx, 3)) (kk : TT p l e R s m args below meth c Q nL B D cT n kc ks (stI μ o k v) (pc + 3) lv st) : TT p l e R s m args below meth c Q nL B D cT n kc ks μ pc lv (.int v :: .ref (B + o) :: st) := by
  obtain ⟨C, T, N, ty, ⟨hc, h10, hN, hin, hty, hnm, hft⟩, hk, hlk, hfin⟩ := hL
  intro H locs ls hP hW hS hl
  have he := wl_ent (B := B) (cT := cT) (μ := μ) ho
  rw [ent_cls h10] at he
  have h0 : ty k = .int := okTy0 (by have := hft k hk; rwa [hf] at this)
  refine va_putF E.1.1 E.1.2.1 E.1.2.2.2.2 hin ty hty hnm E.1.2.2.2.1 E.2.1 hP wl_D hS o he hc k hk (E.1.2.2.2.2 _ hlk) (fun _ h => h) hfin hin2 (hd _ _ _ hc) (hty k hk) (by rw [h0]; rfl) (by rw [h0]; rfl) (by rw [fs_len]; omega) hdg (fun H1 locs1 hP1 hD1 hS1 => ?_)
  have hw : (wl B cT n μ).set o (B + o, .inr (cl, (fs B cl (ldI μ o) (ldJ μ o) (ldP μ o)).set k (.int v))) = wl B cT n (stI μ o k v) := by
    refine wl_set ho.1 ?_ (fun j hj => by rw [entM, entM, ldI_stI_ne hj]; rfl)
    rw [entM, ho.2, ent_cls h10, ldI_stI_self]
    exact congrArg (fun z => Sum.inr (cl, z)) (fs_set (by omega) (by rw [hf]; show _ = Value.int _; simp [upd]) (fun j hj => by unfold fv; split <;> first | rfl | simp [upd, hj]))
  rw [hw] at hP1
  exact kk H1 locs1 ls hP1 (WT_stI hW (fun _ h => by rw [ho.2, hf] at h; cases h)) hS1 hl
theorem tt_putFP (E : EE p s m args c cc nL own B D cT XS) (hin2 : meth.name = "<init>") {idx cl k o q : Nat} (hL : LF own idx cl k true) (hd : ∀ (C : String) (T : u_T) (N : Nat), vwK[cl]? = some (C, T, N) → (T k).1 = own) (hf : FTy cl k = 2) (ho : isK n o cl) (hq : isK n q (tg cl k)) (hdg : decode cc pc = .ok (.putfield idx, 3)) (kk : TT p l e R s m args below meth c Q nL B D cT n kc ks (stP μ o k (some q)) (pc + 3) lv st) : TT p l e R s m args below meth c Q nL B D cT n kc ks μ pc lv (.ref (B + q) :: .ref (B + o) :: st) := by
  obtain ⟨C, T, N, ty, ⟨hc, h10, hN, hin, hty, hnm, hft⟩, hk, hlk, hfin⟩ := hL
  intro H locs ls hP hW hS hl
  have he := wl_ent (B := B) (cT := cT) (μ := μ) ho
  rw [ent_cls h10] at he
  have h0 : refTy (ty k) = true := by have := hft k hk; rw [hf] at this; exact this
  refine va_putF E.1.1 E.1.2.1 E.1.2.2.2.2 hin ty hty hnm E.1.2.2.2.1 E.2.1 hP wl_D hS o he hc k hk (E.1.2.2.2.2 _ hlk) (fun _ h => h) hfin hin2 (hd _ _ _ hc) (hty k hk) (by generalize ty k = w at h0; cases w <;> first | rfl | cases h0) (by generalize ty k = w at h0; cases w <;> first | rfl | cases h0) (by rw [fs_len]; omega) hdg (fun H1 locs1 hP1 hD1 hS1 => ?_)
  have hw : (wl B cT n μ).set o (B + o, .inr (cl, (fs B cl (ldI μ o) (ldJ μ o) (ldP μ o)).set k (.ref (B + q)))) = wl B cT n (stP μ o k (some q)) := by
    refine wl_set ho.1 ?_ (fun j hj => by rw [entM, entM, ldP_stP_ne hj]; rfl)
    rw [entM, ho.2, ent_cls h10, ldP_stP_self]
    exact congrArg (fun z => Sum.inr (cl, z)) (fs_set (by omega) (by rw [hf]; show _ = va_rf _; simp [va_rf]) (fun j hj => by unfold fv; split <;> first | rfl | simp [hj]))
  rw [hw] at hP1
  exact kk H1 locs1 ls hP1 (WT_stP hW (fun _ => by rw [ho.2]; exact hq)) hS1 hl
theorem tt_objInit (E : EE p s m args c cc nL own B D cT XS) {idx : Nat} {a : Nat} (hL : Cond.methodLink own idx Lib.objectInit ∈ gw) (h1 : 1 ≤ R.frames) (h2 : (st.map fun v => v.category).sum + 12 ≤ R.locals) (hdg : decode cc pc = .ok (.invokespecial idx, 3)) (kk : TT p l e R s m args below meth c Q nL B D cT n kc ks μ (pc + 3) lv st) : TT p l e R s m args below meth c Q nL B D cT n kc ks μ pc lv (.ref a :: st) :=
  fun H locs ls hP hW hS hl => W.objInit E.1.1 E.1.2.1 E.1.2.2.2.1 (E.1.2.2.2.2 _ hL) (E.1.2.2.2.2 _ oj_i) (E.1.2.2.2.2 _ oj_c) rfl (hl.1.trans E.1.2.2.1.symm) rfl hdg h1 (by show 2 * 0 + _ + 12 ≤ _; omega) (kk H locs ls hP hW hS hl)
theorem tt_cC (E : EE p s m args c cc nL own B D cT (XW B adK adV)) {idx mL k o n' : Nat} {y : MethodName} {b : ByteArray} {rm : Room} {As : List Value} {res : Mem} (hL : LM own idx y) (hV : MTc y b mL k) (hM : MC l y b mL rm B D cT (XW B adK adV) n (.ref (B + o) :: As) μ res n') (hz : s.heap.size + kc = B + n) (h0 : 0 < n ∨ kc = 0) (hn : As.length = k) (hst : As.reverse ++ .ref (B + o) :: rest = st) (hW8 : (rest.map fun v => v.category).sum ≤ 8) (hR : rm.frames + 1 ≤ R.frames ∧ 8 + (mL + 11) + rm.locals ≤ R.locals) (hcs : kc + rm.cells ≤ R.cells ∧ ks + rm.slots ≤ R.slots) (hdg : decode cc pc = .ok (.invokespecial idx, 3)) (kk : TT p l e R s m args below meth c Q nL B D cT n' (kc + rm.cells) (ks + rm.slots) res (pc + 3) lv rest) : TT p l e R s m args below meth c Q nL B D cT n kc ks μ pc lv st := by
  intro H locs ls hP hW hS hl
  obtain ⟨⟨h1, h2, h3, h4⟩, h5, h6⟩ := hV
  refine W_size (fun hsz => ?_)
  have hge : B + n ≤ H.size := by
    rcases Nat.eq_zero_or_pos n with h | h
    · rcases h0 with h1 | h1
      · omega
      · have := hS.1; omega
    · exact va_lt hP h
  have hHs : H.size = B + n := by omega
  refine va_callv (st0 := st) (va_runI E.1 hM (cwI k E.1.2.2.2.2 (gw_in fun w hw => ?_) rfl rfl rfl (E.1.2.2.2.2 _ h1) (E.1.2.2.2.2 _ hL) (E.1.2.2.2.2 _ h5) h6 h3 hR) ⟨Wz_blind, fun U hU hv => ⟨rfl, E_Wd E hP hW hS hU hv, by rw [hU]; exact hHs⟩⟩ rfl hn hl.1 hst.symm (lv_room hW8) hdg hcs) hS (fun q _ h => h) (fun q h => h) (fun u t H1 locs1 ht hvm hpost hB hz1 hk1 hS1 => ?_)
  · rcases List.mem_cons.mp hw with rfl | hw
    · exact h2
    · exact hw
  · obtain rfl := hpost
    exact kk H1 locs1 ls (by rw [← ht]; exact hB.1) hB.2 hS1 hl
theorem tt_cCN (E : EE p s m args c cc nL own B D cT (XW B adK adV)) {host : String} {idx mL k o n' : Nat} {y : MethodName} {b : ByteArray} {rm : Room} {As : List Value} {res : Mem} (hL : Cond.methodLinkNest own idx y host ∈ xNl) (hV : MTc y b mL k) (hM : MC l y b mL rm B D cT (XW B adK adV) n (.ref (B + o) :: As) μ res n') (hz : s.heap.size + kc = B + n) (h0 : 0 < n ∨ kc = 0) (hn : As.length = k) (hst : As.reverse ++ .ref (B + o) :: rest = st) (hW8 : (rest.map fun v => v.category).sum ≤ 8) (hR : rm.frames + 1 ≤ R.frames ∧ 8 + (mL + 11) + rm.locals ≤ R.locals) (hcs : kc + rm.cells ≤ R.cells ∧ ks + rm.slots ≤ R.slots) (hdg : decode cc pc = .ok (.invokespecial idx, 3)) (kk : TT p l e R s m args below meth c Q nL B D cT n' (kc + rm.cells) (ks + rm.slots) res (pc + 3) lv rest) : TT p l e R s m args below meth c Q nL B D cT n kc ks μ pc lv st := by
  intro H locs ls hP hW hS hl
  obtain ⟨⟨h1, h2, h3, h4⟩, h5, h6⟩ := hV
  refine W_size (fun hsz => ?_)
  have hge : B + n ≤ H.size := by
    rcases Nat.eq_zero_or_pos n with h | h
    · rcases h0 with h1 | h1
      · omega
      · have := hS.1; omega
    · exact va_lt hP h
  have hHs : H.size = B + n := by omega
  refine va_callv (st0 := st) (va_runIN E.1 hM ⟨va_cnB k E.1.2.2.2.2 (gw_in fun w hw => ?_) rfl rfl rfl (E.2.2.1.2.2.2.2.2.2.1 _ hL) (E.1.2.2.2.2 _ h1) h3 hR, h6, E.1.2.2.2.2 _ h5⟩ ⟨Wz_blind, fun U hU hv => ⟨rfl, E_Wd E hP hW hS hU hv, by rw [hU]; exact hHs⟩⟩ rfl hn hl.1 hst.symm (lv_room hW8) hdg hcs) hS (fun q _ h => h) (fun q h => h) (fun u t H1 locs1 ht hvm hpost hB hz1 hk1 hS1 => ?_)
  · rcases List.mem_cons.mp hw with rfl | hw
    · exact h2
    · exact hw
  · obtain rfl := hpost
    exact kk H1 locs1 ls (by rw [← ht]; exact hB.1) hB.2 hS1 hl
theorem tt_ofC {y : MethodName} {b : ByteArray} {mL : Nat} {rm : Room} {av : List Value} {res : Mem} {n' : Nat} {lv0 : List (Nat × Value)} {k : Nat} (hM : MTc y b mL k) (hlen : (lg_sl av).length ≤ mL) (hlv : lv_args 0 av = lv0)
    (body : ∀ (p : Program) (e : Env) (s : State) (m : MethodId) (below : List Frame) (meth : Method) (c : Code), EE p s m av.toArray c b mL y.cls B D cT XS → meth.sig.returnType = none → meth.locks = false → meth.name = "<init>" → s.heap.size + 0 = B + n → TT p l e rm s m av.toArray below meth c (QC B D cT n' rm.cells rm.slots below av.toArray s res) mL B D cT n 0 0 μ 0 lv0 []) :
    MC l y b mL rm B D cT XS n av μ res n' := by
  refine Met.ofW (cc := b) (maxL := mL) (ret := none) hM.1.2.2.2 rfl ?_
  intro p e s m args below meth c s₁ B0 hml hv
  obtain ⟨rfl, ⟨hP, hWT, hK, hX, hXM⟩, hsz⟩ := hv
  have hts := atoms_spec (ws := Cond.code y b mL none :: gw) B0.pre
  have hl := lv_entry av (n := mL) hlen
  rw [hlv] at hl
  rw [lg_entry_eq]
  have hin : meth.name = "<init>" := ((name_of_methodNamed B0.named B0.method).1).trans hM.2.2
  exact body p e s m below meth c ⟨⟨B0.exec, B0.bytes, hml, findClass_of_methodNamed B0.named, fun w hw => hts w (List.mem_cons_of_mem _ hw)⟩, hK, hX, hXM⟩ B0.returns B0.notSynchronized hin hsz s.heap [] _ hP hWT va_S.rf hl
theorem tt_cret (E : EE p s m args c cc nL own B D cT XS) {mc ms n' : Nat} {res : Mem} (hr : meth.sig.returnType = none) (hlk : meth.locks = false) (hdg : decode cc pc = .ok (.return_, 1)) (hf : some (μ, n, kc, ks) = some (res, n', mc, ms)) : TT p l e R s m args below meth c (QC B D cT n' mc ms below args s res) nL B D cT n kc ks μ pc lv [] := by
  cases hf
  exact tt_vret E hr hlk hdg (Nat.le_refl _) (Nat.le_refl _) rfl
end TCTOR
