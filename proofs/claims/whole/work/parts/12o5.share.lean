/-! Call share: every number by computation. -/
theorem sok_41 : allb (fun j => sok (2 * j + 4) 41) 29 = true := by decide +kernel
theorem sok_42 : allb (fun j => sok (2 * j + 4) 42) 29 = true := by decide +kernel
theorem sok_43 : allb (fun j => sok (2 * j + 4) 43) 29 = true := by decide +kernel
theorem sok_44 : allb (fun j => sok (2 * j + 4) 44) 29 = true := by decide +kernel
theorem sok_45 : allb (fun j => sok (2 * j + 4) 45) 29 = true := by decide +kernel
theorem sok_46 : allb (fun j => sok (2 * j + 4) 46) 29 = true := by decide +kernel
theorem sok_47 : allb (fun j => sok (2 * j + 4) 47) 29 = true := by decide +kernel
theorem sok_48 : allb (fun j => sok (2 * j + 4) 48) 29 = true := by decide +kernel
