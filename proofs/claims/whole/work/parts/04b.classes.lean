theorem tp_cl0 : ∀ w ∈ wsX00, w ∈ tp_gt := by decide +kernel
theorem tp_cl1 : ∀ w ∈ wsX10, w ∈ tp_gt := by decide +kernel
theorem tp_cl2 : ∀ w ∈ wsX20, w ∈ tp_gt := by decide +kernel
theorem tp_cl3 : ∀ w ∈ wsX30, w ∈ tp_gt := by decide +kernel
theorem tp_cl4 : ∀ w ∈ wsX40, w ∈ tp_gt := by decide +kernel
theorem tp_cl5 : ∀ w ∈ wsX50, w ∈ tp_gt := by decide +kernel
theorem tp_cl6 : ∀ w ∈ wsX60, w ∈ tp_gt := by decide +kernel
theorem tp_cl7 : ∀ w ∈ wsX70, w ∈ tp_gt := by decide +kernel
theorem tp_cl8 : ∀ w ∈ wsX80, w ∈ tp_gt := by decide +kernel
theorem tp_cl9 : ∀ w ∈ wsX90, w ∈ tp_gt := by decide +kernel
theorem tp_cl10 : ∀ w ∈ wsX100, w ∈ tp_gt := by decide +kernel
theorem tp_str28 : ∀ a, a < tp_law → tp_rk a = 28 → (tp_y a).cls = "java/lang/String" := by decide +kernel
