theorem jm_d182_0 : ((jm_c182.drop 0).take 40).all (fun r => decide (decode method_12_code r.1 = .ok r.2)) = true := by decide +kernel
theorem jm_d183_0 : ((jm_c183.drop 0).take 40).all (fun r => decide (decode method_13_code r.1 = .ok r.2)) = true := by decide +kernel
theorem jm_d184_0 : ((jm_c184.drop 0).take 40).all (fun r => decide (decode method_14_code r.1 = .ok r.2)) = true := by decide +kernel
theorem jm_d185_0 : ((jm_c185.drop 0).take 40).all (fun r => decide (decode method_15_code r.1 = .ok r.2)) = true := by decide +kernel
theorem jm_d186_0 : ((jm_c186.drop 0).take 40).all (fun r => decide (decode method_16_code r.1 = .ok r.2)) = true := by decide +kernel
theorem jm_d187_0 : ((jm_c187.drop 0).take 40).all (fun r => decide (decode method_17_code r.1 = .ok r.2)) = true := by decide +kernel
theorem jm_d188_0 : ((jm_c188.drop 0).take 40).all (fun r => decide (decode method_18_code r.1 = .ok r.2)) = true := by decide +kernel
theorem jm_d189_0 : ((jm_c189.drop 0).take 40).all (fun r => decide (decode prog_23_method_103_code r.1 = .ok r.2)) = true := by decide +kernel
