theorem ts_1 : (xex xsg xpr 2 40 [.ref 0] [.inr (6, [.int 5, .ref 1, .int 7])]).isSome = true := by decide +kernel
theorem ts_2 : ((xex xsg xpr 2 36 [.ref 0, .int 600, .int 4000] [.inr (6, xdf6)]).map (fun r => r.1)) = some none := by decide +kernel
theorem ts_3 : ((xex xsg xpr 10 45 [.ref 0] [.inr (9, xdf9)]).map (fun r => r.2.1.length)) = some 17 := by decide +kernel
