/-! Call share: every number by computation. -/
theorem sok_13 : allb (fun j => sok (2 * j + 4) 13) 29 = true := by decide +kernel
theorem sok_14 : allb (fun j => sok (2 * j + 4) 14) 29 = true := by decide +kernel
theorem sok_15 : allb (fun j => sok (2 * j + 4) 15) 29 = true := by decide +kernel
theorem sok_16 : allb (fun j => sok (2 * j + 4) 16) 29 = true := by decide +kernel
theorem sok_17 : allb (fun j => sok (2 * j + 4) 17) 29 = true := by decide +kernel
theorem sok_18 : allb (fun j => sok (2 * j + 4) 18) 29 = true := by decide +kernel
theorem sok_19 : allb (fun j => sok (2 * j + 4) 19) 29 = true := by decide +kernel
theorem sok_20 : allb (fun j => sok (2 * j + 4) 20) 29 = true := by decide +kernel
theorem sok_21 : allb (fun j => sok (2 * j + 4) 21) 29 = true := by decide +kernel
theorem sok_22 : allb (fun j => sok (2 * j + 4) 22) 29 = true := by decide +kernel
