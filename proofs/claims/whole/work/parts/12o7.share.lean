/-! Call share: every number by computation. -/
theorem sok_55 : allb (fun j => sok (2 * j + 4) 55) 29 = true := by decide +kernel
theorem sok_56 : allb (fun j => sok (2 * j + 4) 56) 29 = true := by decide +kernel
theorem sok_57 : allb (fun j => sok (2 * j + 4) 57) 29 = true := by decide +kernel
theorem sok_58 : allb (fun j => sok (2 * j + 4) 58) 29 = true := by decide +kernel
theorem sok_59 : allb (fun j => sok (2 * j + 4) 59) 29 = true := by decide +kernel
theorem sok_60 : allb (fun j => sok (2 * j + 4) 60) 29 = true := by decide +kernel
