/-! Call share: every number by computation. -/
theorem sok_23 : allb (fun j => sok (2 * j + 4) 23) 29 = true := by decide +kernel
theorem sok_24 : allb (fun j => sok (2 * j + 4) 24) 29 = true := by decide +kernel
theorem sok_25 : allb (fun j => sok (2 * j + 4) 25) 29 = true := by decide +kernel
theorem sok_26 : allb (fun j => sok (2 * j + 4) 26) 29 = true := by decide +kernel
theorem sok_27 : allb (fun j => sok (2 * j + 4) 27) 29 = true := by decide +kernel
theorem sok_28 : allb (fun j => sok (2 * j + 4) 28) 29 = true := by decide +kernel
theorem sok_29 : allb (fun j => sok (2 * j + 4) 29) 29 = true := by decide +kernel
theorem sok_30 : allb (fun j => sok (2 * j + 4) 30) 29 = true := by decide +kernel
theorem sok_31 : allb (fun j => sok (2 * j + 4) 31) 29 = true := by decide +kernel
