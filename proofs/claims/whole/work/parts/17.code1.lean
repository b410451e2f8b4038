/-! every instruction is where the tables say -/
theorem am_tc19 : (List.range' 19 1).all (fun m => am_cgo m 0 (am_code.getD m [])) = true := by decide +kernel
theorem am_tc20 : (List.range' 20 2).all (fun m => am_cgo m 0 (am_code.getD m [])) = true := by decide +kernel
theorem am_tc22 : (List.range' 22 2).all (fun m => am_cgo m 0 (am_code.getD m [])) = true := by decide +kernel
theorem am_tb24_0 : am_cgo 24 0 (((am_code.getD 24 []).drop 0).take 90) = true := by decide +kernel
theorem am_tb24_90 : am_cgo 24 90 (((am_code.getD 24 []).drop 90).take 62) = true := by decide +kernel
theorem am_tb25_0 : am_cgo 25 0 (((am_code.getD 25 []).drop 0).take 90) = true := by decide +kernel
theorem am_tb25_90 : am_cgo 25 90 (((am_code.getD 25 []).drop 90).take 82) = true := by decide +kernel
theorem am_tc26 : (List.range' 26 2).all (fun m => am_cgo m 0 (am_code.getD m [])) = true := by decide +kernel
theorem am_tc28 : (List.range' 28 1).all (fun m => am_cgo m 0 (am_code.getD m [])) = true := by decide +kernel
theorem am_tb29_0 : am_cgo 29 0 (((am_code.getD 29 []).drop 0).take 90) = true := by decide +kernel
theorem am_tb29_90 : am_cgo 29 90 (((am_code.getD 29 []).drop 90).take 90) = true := by decide +kernel
theorem am_tb29_180 : am_cgo 29 180 (((am_code.getD 29 []).drop 180).take 24) = true := by decide +kernel
theorem am_tc30 : (List.range' 30 3).all (fun m => am_cgo m 0 (am_code.getD m [])) = true := by decide +kernel
theorem am_tc33 : (List.range' 33 7).all (fun m => am_cgo m 0 (am_code.getD m [])) = true := by decide +kernel
theorem am_tc40 : (List.range' 40 6).all (fun m => am_cgo m 0 (am_code.getD m [])) = true := by decide +kernel
theorem am_tc46 : (List.range' 46 4).all (fun m => am_cgo m 0 (am_code.getD m [])) = true := by decide +kernel
theorem am_tc50 : (List.range' 50 4).all (fun m => am_cgo m 0 (am_code.getD m [])) = true := by decide +kernel
theorem am_tc54 : (List.range' 54 1).all (fun m => am_cgo m 0 (am_code.getD m [])) = true := by decide +kernel
theorem am_tc55 : (List.range' 55 7).all (fun m => am_cgo m 0 (am_code.getD m [])) = true := by decide +kernel
theorem am_tc62 : (List.range' 62 2).all (fun m => am_cgo m 0 (am_code.getD m [])) = true := by decide +kernel
theorem am_tc64 : (List.range' 64 1).all (fun m => am_cgo m 0 (am_code.getD m [])) = true := by decide +kernel
theorem am_tb65_0 : am_cgo 65 0 (((am_code.getD 65 []).drop 0).take 90) = true := by decide +kernel
theorem am_tb65_90 : am_cgo 65 90 (((am_code.getD 65 []).drop 90).take 54) = true := by decide +kernel
