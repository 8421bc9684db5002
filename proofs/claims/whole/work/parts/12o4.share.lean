/-! Call share: every number by computation. -/
theorem sok_32 : allb (fun j => sok (2 * j + 4) 32) 29 = true := by decide +kernel
theorem sok_33 : allb (fun j => sok (2 * j + 4) 33) 29 = true := by decide +kernel
theorem sok_34 : allb (fun j => sok (2 * j + 4) 34) 29 = true := by decide +kernel
theorem sok_35 : allb (fun j => sok (2 * j + 4) 35) 29 = true := by decide +kernel
theorem sok_36 : allb (fun j => sok (2 * j + 4) 36) 29 = true := by decide +kernel
theorem sok_37 : allb (fun j => sok (2 * j + 4) 37) 29 = true := by decide +kernel
theorem sok_38 : allb (fun j => sok (2 * j + 4) 38) 29 = true := by decide +kernel
theorem sok_39 : allb (fun j => sok (2 * j + 4) 39) 29 = true := by decide +kernel
theorem sok_40 : allb (fun j => sok (2 * j + 4) 40) 29 = true := by decide +kernel
