theorem tst_1 : px_ans 30 1000 50 [.ref 0, .int 3] (px_C0, []) = some 0 := by decide +kernel
theorem tst_2 : px_ans 30 1000 61 [.ref 0, .int 0, .int 3] (px_C0, []) = px_ans 30 1000 168 [.ref 1000, .int 0, .int 3] ([], px_M0) := by decide +kernel
theorem tst_3 : px_ans 30 1000 103 [.ref 0, .int 3] (px_C0, []) = some 3 := by decide +kernel
