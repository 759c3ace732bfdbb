/-! the start: fights (c) -/
theorem z273 : FR zC 273 sp_clr (fun _ => 0) := by
  unfold FR FO FRp FRn FRv
  decide +kernel
theorem z302 : FR zC 302 sp_clr (fun _ => 0) := by
  unfold FR FO FRp FRn FRv
  decide +kernel
theorem z331 : FR zC 331 sp_clr (fun _ => 0) := by
  unfold FR FO FRp FRn FRv
  decide +kernel
