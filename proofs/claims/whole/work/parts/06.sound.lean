theorem tp_okMs0 : (List.range 10).all tp_okM = true := by decide +kernel
theorem tp_okMs1 : (List.range 158).all tp_okM = true := by decide +kernel
theorem tp_okMs2 : tp_okM 150 = true := by decide +kernel
theorem tp_okMs3 : tp_okM 157 = true := by decide +kernel
