/-! the start: fights (a) -/
theorem z66 : FR zC 66 sp_clr (fun _ => 0) := by
  unfold FR FO FRp FRn FRv
  decide +kernel
theorem z95 : FR zC 95 sp_clr (fun _ => 0) := by
  unfold FR FO FRp FRn FRv
  decide +kernel
theorem z124 : FR zC 124 sp_clr (fun _ => 0) := by
  unfold FR FO FRp FRn FRv
  decide +kernel
theorem z154 : FR zC 154 sp_clr (fun _ => 0) := by
  unfold FR FO FRp FRn FRv
  decide +kernel
