/-! Call share: every number by computation. -/
theorem sok_1 : allb (fun j => sok (2 * j + 4) 1) 29 = true := by decide +kernel
theorem sok_2 : allb (fun j => sok (2 * j + 4) 2) 29 = true := by decide +kernel
theorem sok_3 : allb (fun j => sok (2 * j + 4) 3) 29 = true := by decide +kernel
theorem sok_4 : allb (fun j => sok (2 * j + 4) 4) 29 = true := by decide +kernel
theorem sok_5 : allb (fun j => sok (2 * j + 4) 5) 29 = true := by decide +kernel
theorem sok_6 : allb (fun j => sok (2 * j + 4) 6) 29 = true := by decide +kernel
theorem sok_7 : allb (fun j => sok (2 * j + 4) 7) 29 = true := by decide +kernel
theorem sok_8 : allb (fun j => sok (2 * j + 4) 8) 29 = true := by decide +kernel
theorem sok_9 : allb (fun j => sok (2 * j + 4) 9) 29 = true := by decide +kernel
theorem sok_10 : allb (fun j => sok (2 * j + 4) 10) 29 = true := by decide +kernel
theorem sok_11 : allb (fun j => sok (2 * j + 4) 11) 29 = true := by decide +kernel
theorem sok_12 : allb (fun j => sok (2 * j + 4) 12) 29 = true := by decide +kernel
