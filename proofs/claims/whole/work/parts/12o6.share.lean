/-! Call share: every number by computation. -/
theorem sok_49 : allb (fun j => sok (2 * j + 4) 49) 29 = true := by decide +kernel
theorem sok_50 : allb (fun j => sok (2 * j + 4) 50) 29 = true := by decide +kernel
theorem sok_51 : allb (fun j => sok (2 * j + 4) 51) 29 = true := by decide +kernel
theorem sok_52 : allb (fun j => sok (2 * j + 4) 52) 29 = true := by decide +kernel
theorem sok_53 : allb (fun j => sok (2 * j + 4) 53) 29 = true := by decide +kernel
theorem sok_54 : allb (fun j => sok (2 * j + 4) 54) 29 = true := by decide +kernel
