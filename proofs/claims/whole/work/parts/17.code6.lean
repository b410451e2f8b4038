/-! every instruction is where the tables say -/
theorem am_tc170 : (List.range' 170 1).all (fun m => am_cgo m 0 (am_code.getD m [])) = true := by decide +kernel
theorem am_tc171 : (List.range' 171 1).all (fun m => am_cgo m 0 (am_code.getD m [])) = true := by decide +kernel
theorem am_tc172 : (List.range' 172 1).all (fun m => am_cgo m 0 (am_code.getD m [])) = true := by decide +kernel
theorem am_tc173 : (List.range' 173 2).all (fun m => am_cgo m 0 (am_code.getD m [])) = true := by decide +kernel
theorem am_tc175 : (List.range' 175 1).all (fun m => am_cgo m 0 (am_code.getD m [])) = true := by decide +kernel
theorem am_tc176 : (List.range' 176 1).all (fun m => am_cgo m 0 (am_code.getD m [])) = true := by decide +kernel
theorem am_tc177 : (List.range' 177 2).all (fun m => am_cgo m 0 (am_code.getD m [])) = true := by decide +kernel
theorem am_tc179 : (List.range' 179 1).all (fun m => am_cgo m 0 (am_code.getD m [])) = true := by decide +kernel
theorem am_tb180_0 : am_cgo 180 0 (((am_code.getD 180 []).drop 0).take 90) = true := by decide +kernel
theorem am_tb180_90 : am_cgo 180 90 (((am_code.getD 180 []).drop 90).take 90) = true := by decide +kernel
theorem am_tb180_180 : am_cgo 180 180 (((am_code.getD 180 []).drop 180).take 8) = true := by decide +kernel
theorem am_tc181 : (List.range' 181 1).all (fun m => am_cgo m 0 (am_code.getD m [])) = true := by decide +kernel
theorem am_tc182 : (List.range' 182 1).all (fun m => am_cgo m 0 (am_code.getD m [])) = true := by decide +kernel
theorem am_tc183 : (List.range' 183 1).all (fun m => am_cgo m 0 (am_code.getD m [])) = true := by decide +kernel
theorem am_tc184 : (List.range' 184 1).all (fun m => am_cgo m 0 (am_code.getD m [])) = true := by decide +kernel
theorem am_tc185 : (List.range' 185 3).all (fun m => am_cgo m 0 (am_code.getD m [])) = true := by decide +kernel
theorem am_tc188 : (List.range' 188 1).all (fun m => am_cgo m 0 (am_code.getD m [])) = true := by decide +kernel
theorem am_tb189_0 : am_cgo 189 0 (((am_code.getD 189 []).drop 0).take 90) = true := by decide +kernel
theorem am_tb189_90 : am_cgo 189 90 (((am_code.getD 189 []).drop 90).take 90) = true := by decide +kernel
theorem am_tb189_180 : am_cgo 189 180 (((am_code.getD 189 []).drop 180).take 33) = true := by decide +kernel
theorem am_tb190_0 : am_cgo 190 0 (((am_code.getD 190 []).drop 0).take 90) = true := by decide +kernel
theorem am_tb190_90 : am_cgo 190 90 (((am_code.getD 190 []).drop 90).take 66) = true := by decide +kernel
theorem am_tc191 : (List.range' 191 2).all (fun m => am_cgo m 0 (am_code.getD m [])) = true := by decide +kernel
