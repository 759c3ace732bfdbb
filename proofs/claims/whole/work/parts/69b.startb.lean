/-! the start: fights (b) -/
theorem z186 : FR zC 186 sp_clr (fun _ => 0) := by
  unfold FR FO FRp FRn FRv
  decide +kernel
theorem z215 : FR zC 215 sp_clr (fun _ => 0) := by
  unfold FR FO FRp FRn FRv
  decide +kernel
theorem z244 : FR zC 244 sp_clr (fun _ => 0) := by
  unfold FR FO FRp FRn FRv
  decide +kernel
