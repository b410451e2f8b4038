/-! the tables are the launch's: together -/
theorem am_rng {f : Nat → Bool} {a n x : Nat} (h : (List.range' a n).all f = true) (h1 : a ≤ x) (h2 : x < a + n) : f x = true :=
  List.all_eq_true.mp h x (List.mem_range'_1.mpr ⟨h1, h2⟩)
theorem am_tF (x : Nat) (h0 : 0 ≤ x) (h9 : x < 137) : am_flx x = true := by
  by_cases h0 : x < 20
  · exact am_rng am_tf0 (by omega) (by omega)
  by_cases h20 : x < 40
  · exact am_rng am_tf20 (by omega) (by omega)
  by_cases h40 : x < 60
  · exact am_rng am_tf40 (by omega) (by omega)
  by_cases h60 : x < 80
  · exact am_rng am_tf60 (by omega) (by omega)
  by_cases h80 : x < 100
  · exact am_rng am_tf80 (by omega) (by omega)
  by_cases h100 : x < 120
  · exact am_rng am_tf100 (by omega) (by omega)
  exact am_rng am_tf120 (by omega) (by omega)
theorem am_tL (x : Nat) (h0 : 0 ≤ x) (h9 : x < 278) : am_lkx x = true := by
  by_cases h0 : x < 20
  · exact am_rng am_tl0 (by omega) (by omega)
  by_cases h20 : x < 40
  · exact am_rng am_tl20 (by omega) (by omega)
  by_cases h40 : x < 60
  · exact am_rng am_tl40 (by omega) (by omega)
  by_cases h60 : x < 80
  · exact am_rng am_tl60 (by omega) (by omega)
  by_cases h80 : x < 100
  · exact am_rng am_tl80 (by omega) (by omega)
  by_cases h100 : x < 120
  · exact am_rng am_tl100 (by omega) (by omega)
  by_cases h120 : x < 140
  · exact am_rng am_tl120 (by omega) (by omega)
  by_cases h140 : x < 160
  · exact am_rng am_tl140 (by omega) (by omega)
  by_cases h160 : x < 180
  · exact am_rng am_tl160 (by omega) (by omega)
  by_cases h180 : x < 200
  · exact am_rng am_tl180 (by omega) (by omega)
  by_cases h200 : x < 220
  · exact am_rng am_tl200 (by omega) (by omega)
  by_cases h220 : x < 240
  · exact am_rng am_tl220 (by omega) (by omega)
  by_cases h240 : x < 260
  · exact am_rng am_tl240 (by omega) (by omega)
  exact am_rng am_tl260 (by omega) (by omega)
theorem am_tM (x : Nat) (h0 : 1 ≤ x) (h9 : x < 227) : am_mk x = true := by
  by_cases h1 : x < 13
  · exact am_rng am_tm1 (by omega) (by omega)
  by_cases h13 : x < 25
  · exact am_rng am_tm13 (by omega) (by omega)
  by_cases h25 : x < 37
  · exact am_rng am_tm25 (by omega) (by omega)
  by_cases h37 : x < 49
  · exact am_rng am_tm37 (by omega) (by omega)
  by_cases h49 : x < 61
  · exact am_rng am_tm49 (by omega) (by omega)
  by_cases h61 : x < 73
  · exact am_rng am_tm61 (by omega) (by omega)
  by_cases h73 : x < 85
  · exact am_rng am_tm73 (by omega) (by omega)
  by_cases h85 : x < 97
  · exact am_rng am_tm85 (by omega) (by omega)
  by_cases h97 : x < 109
  · exact am_rng am_tm97 (by omega) (by omega)
  by_cases h109 : x < 121
  · exact am_rng am_tm109 (by omega) (by omega)
  by_cases h121 : x < 133
  · exact am_rng am_tm121 (by omega) (by omega)
  by_cases h133 : x < 145
  · exact am_rng am_tm133 (by omega) (by omega)
  by_cases h145 : x < 157
  · exact am_rng am_tm145 (by omega) (by omega)
  by_cases h157 : x < 169
  · exact am_rng am_tm157 (by omega) (by omega)
  by_cases h169 : x < 181
  · exact am_rng am_tm169 (by omega) (by omega)
  by_cases h181 : x < 193
  · exact am_rng am_tm181 (by omega) (by omega)
  by_cases h193 : x < 205
  · exact am_rng am_tm193 (by omega) (by omega)
  by_cases h205 : x < 217
  · exact am_rng am_tm205 (by omega) (by omega)
  exact am_rng am_tm217 (by omega) (by omega)
theorem am_cgo_app {mid a : Nat} {l1 l2 : List (Option am_I)} (h1 : am_cgo mid a l1 = true) (h2 : am_cgo mid (a + l1.length) l2 = true) : am_cgo mid a (l1 ++ l2) = true := by
  induction l1 generalizing a with
  | nil => exact h2
  | cons e l ih =>
    have h1 : (am_ce1 mid a e && am_cgo mid (a + 1) l) = true := h1
    rw [Bool.and_eq_true] at h1
    show (am_ce1 mid a e && am_cgo mid (a + 1) (l ++ l2)) = true
    rw [Bool.and_eq_true]
    refine ⟨h1.1, ih h1.2 ?_⟩
    have e9 : a + (e :: l).length = a + 1 + l.length := by rw [List.length_cons]; omega
    rw [← e9]
    exact h2
theorem am_cgo_cut {mid a n : Nat} {l : List (Option am_I)} (h1 : am_cgo mid a (l.take n) = true) (h2 : am_cgo mid (a + n) (l.drop n) = true) (hn : n ≤ l.length) : am_cgo mid a l = true := by
  rw [← List.take_append_drop n l]
  refine am_cgo_app h1 ?_
  rw [List.length_take, Nat.min_eq_left hn]
  exact h2
theorem am_cgo_nil {mid a n : Nat} {l : List (Option am_I)} (h : l.length ≤ n) : am_cgo mid a (l.drop n) = true := by
  rw [List.drop_eq_nil_of_le h]
  rfl
theorem am_cgo_at {mid a : Nat} {l : List (Option am_I)} (h : am_cgo mid a l = true) {j : Nat} {e : Option am_I} (hj : l[j]? = some e) : am_ce1 mid (a + j) e = true := by
  induction l generalizing a j with
  | nil => simp at hj
  | cons z l ih =>
    have h : (am_ce1 mid a z && am_cgo mid (a + 1) l) = true := h
    rw [Bool.and_eq_true] at h
    cases j with
    | zero =>
      have hj : some z = some e := hj
      cases hj
      exact h.1
    | succ j =>
      have hj : l[j]? = some e := hj
      have := ih h.2 hj
      rw [show a + (j + 1) = a + 1 + j by omega]
      exact this
theorem am_tL0 : (am_code.getD 0 []).length = 1016 := by decide +kernel
theorem am_tc0 : (List.range' 0 1).all (fun m => am_cgo m 0 (am_code.getD m [])) = true := by
  have h : am_cgo 0 0 (am_code.getD 0 []) = true := by
    refine am_cgo_cut (n := 90) am_tb0_0 ?_ (by rw [am_tL0]; omega)
    refine am_cgo_cut (n := 90) am_tb0_90 ?_ (by rw [List.length_drop]; rw [am_tL0]; omega)
    rw [List.drop_drop]
    refine am_cgo_cut (n := 90) am_tb0_180 ?_ (by rw [List.length_drop]; rw [am_tL0]; omega)
    rw [List.drop_drop]
    refine am_cgo_cut (n := 90) am_tb0_270 ?_ (by rw [List.length_drop]; rw [am_tL0]; omega)
    rw [List.drop_drop]
    refine am_cgo_cut (n := 90) am_tb0_360 ?_ (by rw [List.length_drop]; rw [am_tL0]; omega)
    rw [List.drop_drop]
    refine am_cgo_cut (n := 90) am_tb0_450 ?_ (by rw [List.length_drop]; rw [am_tL0]; omega)
    rw [List.drop_drop]
    refine am_cgo_cut (n := 90) am_tb0_540 ?_ (by rw [List.length_drop]; rw [am_tL0]; omega)
    rw [List.drop_drop]
    refine am_cgo_cut (n := 90) am_tb0_630 ?_ (by rw [List.length_drop]; rw [am_tL0]; omega)
    rw [List.drop_drop]
    refine am_cgo_cut (n := 90) am_tb0_720 ?_ (by rw [List.length_drop]; rw [am_tL0]; omega)
    rw [List.drop_drop]
    refine am_cgo_cut (n := 90) am_tb0_810 ?_ (by rw [List.length_drop]; rw [am_tL0]; omega)
    rw [List.drop_drop]
    refine am_cgo_cut (n := 90) am_tb0_900 ?_ (by rw [List.length_drop]; rw [am_tL0]; omega)
    rw [List.drop_drop]
    refine am_cgo_cut (n := 26) am_tb0_990 ?_ (by rw [List.length_drop]; rw [am_tL0]; omega)
    rw [List.drop_drop]
    exact am_cgo_nil (by rw [am_tL0]; omega)
  show (am_cgo 0 0 (am_code.getD 0 []) && true) = true
  rw [h]
  rfl
theorem am_tL24 : (am_code.getD 24 []).length = 152 := by decide +kernel
theorem am_tc24 : (List.range' 24 1).all (fun m => am_cgo m 0 (am_code.getD m [])) = true := by
  have h : am_cgo 24 0 (am_code.getD 24 []) = true := by
    refine am_cgo_cut (n := 90) am_tb24_0 ?_ (by rw [am_tL24]; omega)
    refine am_cgo_cut (n := 62) am_tb24_90 ?_ (by rw [List.length_drop]; rw [am_tL24]; omega)
    rw [List.drop_drop]
    exact am_cgo_nil (by rw [am_tL24]; omega)
  show (am_cgo 24 0 (am_code.getD 24 []) && true) = true
  rw [h]
  rfl
theorem am_tL25 : (am_code.getD 25 []).length = 172 := by decide +kernel
theorem am_tc25 : (List.range' 25 1).all (fun m => am_cgo m 0 (am_code.getD m [])) = true := by
  have h : am_cgo 25 0 (am_code.getD 25 []) = true := by
    refine am_cgo_cut (n := 90) am_tb25_0 ?_ (by rw [am_tL25]; omega)
    refine am_cgo_cut (n := 82) am_tb25_90 ?_ (by rw [List.length_drop]; rw [am_tL25]; omega)
    rw [List.drop_drop]
    exact am_cgo_nil (by rw [am_tL25]; omega)
  show (am_cgo 25 0 (am_code.getD 25 []) && true) = true
  rw [h]
  rfl
theorem am_tL29 : (am_code.getD 29 []).length = 204 := by decide +kernel
theorem am_tc29 : (List.range' 29 1).all (fun m => am_cgo m 0 (am_code.getD m [])) = true := by
  have h : am_cgo 29 0 (am_code.getD 29 []) = true := by
    refine am_cgo_cut (n := 90) am_tb29_0 ?_ (by rw [am_tL29]; omega)
    refine am_cgo_cut (n := 90) am_tb29_90 ?_ (by rw [List.length_drop]; rw [am_tL29]; omega)
    rw [List.drop_drop]
    refine am_cgo_cut (n := 24) am_tb29_180 ?_ (by rw [List.length_drop]; rw [am_tL29]; omega)
    rw [List.drop_drop]
    exact am_cgo_nil (by rw [am_tL29]; omega)
  show (am_cgo 29 0 (am_code.getD 29 []) && true) = true
  rw [h]
  rfl
theorem am_tL65 : (am_code.getD 65 []).length = 144 := by decide +kernel
theorem am_tc65 : (List.range' 65 1).all (fun m => am_cgo m 0 (am_code.getD m [])) = true := by
  have h : am_cgo 65 0 (am_code.getD 65 []) = true := by
    refine am_cgo_cut (n := 90) am_tb65_0 ?_ (by rw [am_tL65]; omega)
    refine am_cgo_cut (n := 54) am_tb65_90 ?_ (by rw [List.length_drop]; rw [am_tL65]; omega)
    rw [List.drop_drop]
    exact am_cgo_nil (by rw [am_tL65]; omega)
  show (am_cgo 65 0 (am_code.getD 65 []) && true) = true
  rw [h]
  rfl
theorem am_tL82 : (am_code.getD 82 []).length = 217 := by decide +kernel
theorem am_tc82 : (List.range' 82 1).all (fun m => am_cgo m 0 (am_code.getD m [])) = true := by
  have h : am_cgo 82 0 (am_code.getD 82 []) = true := by
    refine am_cgo_cut (n := 90) am_tb82_0 ?_ (by rw [am_tL82]; omega)
    refine am_cgo_cut (n := 90) am_tb82_90 ?_ (by rw [List.length_drop]; rw [am_tL82]; omega)
    rw [List.drop_drop]
    refine am_cgo_cut (n := 37) am_tb82_180 ?_ (by rw [List.length_drop]; rw [am_tL82]; omega)
    rw [List.drop_drop]
    exact am_cgo_nil (by rw [am_tL82]; omega)
  show (am_cgo 82 0 (am_code.getD 82 []) && true) = true
  rw [h]
  rfl
theorem am_tL105 : (am_code.getD 105 []).length = 154 := by decide +kernel
theorem am_tc105 : (List.range' 105 1).all (fun m => am_cgo m 0 (am_code.getD m [])) = true := by
  have h : am_cgo 105 0 (am_code.getD 105 []) = true := by
    refine am_cgo_cut (n := 90) am_tb105_0 ?_ (by rw [am_tL105]; omega)
    refine am_cgo_cut (n := 64) am_tb105_90 ?_ (by rw [List.length_drop]; rw [am_tL105]; omega)
    rw [List.drop_drop]
    exact am_cgo_nil (by rw [am_tL105]; omega)
  show (am_cgo 105 0 (am_code.getD 105 []) && true) = true
  rw [h]
  rfl
theorem am_tL109 : (am_code.getD 109 []).length = 150 := by decide +kernel
theorem am_tc109 : (List.range' 109 1).all (fun m => am_cgo m 0 (am_code.getD m [])) = true := by
  have h : am_cgo 109 0 (am_code.getD 109 []) = true := by
    refine am_cgo_cut (n := 90) am_tb109_0 ?_ (by rw [am_tL109]; omega)
    refine am_cgo_cut (n := 60) am_tb109_90 ?_ (by rw [List.length_drop]; rw [am_tL109]; omega)
    rw [List.drop_drop]
    exact am_cgo_nil (by rw [am_tL109]; omega)
  show (am_cgo 109 0 (am_code.getD 109 []) && true) = true
  rw [h]
  rfl
theorem am_tL113 : (am_code.getD 113 []).length = 145 := by decide +kernel
theorem am_tc113 : (List.range' 113 1).all (fun m => am_cgo m 0 (am_code.getD m [])) = true := by
  have h : am_cgo 113 0 (am_code.getD 113 []) = true := by
    refine am_cgo_cut (n := 90) am_tb113_0 ?_ (by rw [am_tL113]; omega)
    refine am_cgo_cut (n := 55) am_tb113_90 ?_ (by rw [List.length_drop]; rw [am_tL113]; omega)
    rw [List.drop_drop]
    exact am_cgo_nil (by rw [am_tL113]; omega)
  show (am_cgo 113 0 (am_code.getD 113 []) && true) = true
  rw [h]
  rfl
theorem am_tL125 : (am_code.getD 125 []).length = 144 := by decide +kernel
theorem am_tc125 : (List.range' 125 1).all (fun m => am_cgo m 0 (am_code.getD m [])) = true := by
  have h : am_cgo 125 0 (am_code.getD 125 []) = true := by
    refine am_cgo_cut (n := 90) am_tb125_0 ?_ (by rw [am_tL125]; omega)
    refine am_cgo_cut (n := 54) am_tb125_90 ?_ (by rw [List.length_drop]; rw [am_tL125]; omega)
    rw [List.drop_drop]
    exact am_cgo_nil (by rw [am_tL125]; omega)
  show (am_cgo 125 0 (am_code.getD 125 []) && true) = true
  rw [h]
  rfl
theorem am_tL141 : (am_code.getD 141 []).length = 195 := by decide +kernel
theorem am_tc141 : (List.range' 141 1).all (fun m => am_cgo m 0 (am_code.getD m [])) = true := by
  have h : am_cgo 141 0 (am_code.getD 141 []) = true := by
    refine am_cgo_cut (n := 90) am_tb141_0 ?_ (by rw [am_tL141]; omega)
    refine am_cgo_cut (n := 90) am_tb141_90 ?_ (by rw [List.length_drop]; rw [am_tL141]; omega)
    rw [List.drop_drop]
    refine am_cgo_cut (n := 15) am_tb141_180 ?_ (by rw [List.length_drop]; rw [am_tL141]; omega)
    rw [List.drop_drop]
    exact am_cgo_nil (by rw [am_tL141]; omega)
  show (am_cgo 141 0 (am_code.getD 141 []) && true) = true
  rw [h]
  rfl
theorem am_tL147 : (am_code.getD 147 []).length = 188 := by decide +kernel
theorem am_tc147 : (List.range' 147 1).all (fun m => am_cgo m 0 (am_code.getD m [])) = true := by
  have h : am_cgo 147 0 (am_code.getD 147 []) = true := by
    refine am_cgo_cut (n := 90) am_tb147_0 ?_ (by rw [am_tL147]; omega)
    refine am_cgo_cut (n := 90) am_tb147_90 ?_ (by rw [List.length_drop]; rw [am_tL147]; omega)
    rw [List.drop_drop]
    refine am_cgo_cut (n := 8) am_tb147_180 ?_ (by rw [List.length_drop]; rw [am_tL147]; omega)
    rw [List.drop_drop]
    exact am_cgo_nil (by rw [am_tL147]; omega)
  show (am_cgo 147 0 (am_code.getD 147 []) && true) = true
  rw [h]
  rfl
theorem am_tL158 : (am_code.getD 158 []).length = 479 := by decide +kernel
theorem am_tc158 : (List.range' 158 1).all (fun m => am_cgo m 0 (am_code.getD m [])) = true := by
  have h : am_cgo 158 0 (am_code.getD 158 []) = true := by
    refine am_cgo_cut (n := 90) am_tb158_0 ?_ (by rw [am_tL158]; omega)
    refine am_cgo_cut (n := 90) am_tb158_90 ?_ (by rw [List.length_drop]; rw [am_tL158]; omega)
    rw [List.drop_drop]
    refine am_cgo_cut (n := 90) am_tb158_180 ?_ (by rw [List.length_drop]; rw [am_tL158]; omega)
    rw [List.drop_drop]
    refine am_cgo_cut (n := 90) am_tb158_270 ?_ (by rw [List.length_drop]; rw [am_tL158]; omega)
    rw [List.drop_drop]
    refine am_cgo_cut (n := 90) am_tb158_360 ?_ (by rw [List.length_drop]; rw [am_tL158]; omega)
    rw [List.drop_drop]
    refine am_cgo_cut (n := 29) am_tb158_450 ?_ (by rw [List.length_drop]; rw [am_tL158]; omega)
    rw [List.drop_drop]
    exact am_cgo_nil (by rw [am_tL158]; omega)
  show (am_cgo 158 0 (am_code.getD 158 []) && true) = true
  rw [h]
  rfl
theorem am_tL166 : (am_code.getD 166 []).length = 167 := by decide +kernel
theorem am_tc166 : (List.range' 166 1).all (fun m => am_cgo m 0 (am_code.getD m [])) = true := by
  have h : am_cgo 166 0 (am_code.getD 166 []) = true := by
    refine am_cgo_cut (n := 90) am_tb166_0 ?_ (by rw [am_tL166]; omega)
    refine am_cgo_cut (n := 77) am_tb166_90 ?_ (by rw [List.length_drop]; rw [am_tL166]; omega)
    rw [List.drop_drop]
    exact am_cgo_nil (by rw [am_tL166]; omega)
  show (am_cgo 166 0 (am_code.getD 166 []) && true) = true
  rw [h]
  rfl
theorem am_tL180 : (am_code.getD 180 []).length = 188 := by decide +kernel
theorem am_tc180 : (List.range' 180 1).all (fun m => am_cgo m 0 (am_code.getD m [])) = true := by
  have h : am_cgo 180 0 (am_code.getD 180 []) = true := by
    refine am_cgo_cut (n := 90) am_tb180_0 ?_ (by rw [am_tL180]; omega)
    refine am_cgo_cut (n := 90) am_tb180_90 ?_ (by rw [List.length_drop]; rw [am_tL180]; omega)
    rw [List.drop_drop]
    refine am_cgo_cut (n := 8) am_tb180_180 ?_ (by rw [List.length_drop]; rw [am_tL180]; omega)
    rw [List.drop_drop]
    exact am_cgo_nil (by rw [am_tL180]; omega)
  show (am_cgo 180 0 (am_code.getD 180 []) && true) = true
  rw [h]
  rfl
theorem am_tL189 : (am_code.getD 189 []).length = 213 := by decide +kernel
theorem am_tc189 : (List.range' 189 1).all (fun m => am_cgo m 0 (am_code.getD m [])) = true := by
  have h : am_cgo 189 0 (am_code.getD 189 []) = true := by
    refine am_cgo_cut (n := 90) am_tb189_0 ?_ (by rw [am_tL189]; omega)
    refine am_cgo_cut (n := 90) am_tb189_90 ?_ (by rw [List.length_drop]; rw [am_tL189]; omega)
    rw [List.drop_drop]
    refine am_cgo_cut (n := 33) am_tb189_180 ?_ (by rw [List.length_drop]; rw [am_tL189]; omega)
    rw [List.drop_drop]
    exact am_cgo_nil (by rw [am_tL189]; omega)
  show (am_cgo 189 0 (am_code.getD 189 []) && true) = true
  rw [h]
  rfl
theorem am_tL190 : (am_code.getD 190 []).length = 156 := by decide +kernel
theorem am_tc190 : (List.range' 190 1).all (fun m => am_cgo m 0 (am_code.getD m [])) = true := by
  have h : am_cgo 190 0 (am_code.getD 190 []) = true := by
    refine am_cgo_cut (n := 90) am_tb190_0 ?_ (by rw [am_tL190]; omega)
    refine am_cgo_cut (n := 66) am_tb190_90 ?_ (by rw [List.length_drop]; rw [am_tL190]; omega)
    rw [List.drop_drop]
    exact am_cgo_nil (by rw [am_tL190]; omega)
  show (am_cgo 190 0 (am_code.getD 190 []) && true) = true
  rw [h]
  rfl
theorem am_tL199 : (am_code.getD 199 []).length = 161 := by decide +kernel
theorem am_tc199 : (List.range' 199 1).all (fun m => am_cgo m 0 (am_code.getD m [])) = true := by
  have h : am_cgo 199 0 (am_code.getD 199 []) = true := by
    refine am_cgo_cut (n := 90) am_tb199_0 ?_ (by rw [am_tL199]; omega)
    refine am_cgo_cut (n := 71) am_tb199_90 ?_ (by rw [List.length_drop]; rw [am_tL199]; omega)
    rw [List.drop_drop]
    exact am_cgo_nil (by rw [am_tL199]; omega)
  show (am_cgo 199 0 (am_code.getD 199 []) && true) = true
  rw [h]
  rfl
theorem am_tC (x : Nat) (h0 : 0 ≤ x) (h9 : x < 228) : (fun m => am_cgo m 0 (am_code.getD m [])) x = true := by
  by_cases h0 : x < 1
  · exact am_rng am_tc0 (by omega) (by omega)
  by_cases h1 : x < 5
  · exact am_rng am_tc1 (by omega) (by omega)
  by_cases h5 : x < 6
  · exact am_rng am_tc5 (by omega) (by omega)
  by_cases h6 : x < 7
  · exact am_rng am_tc6 (by omega) (by omega)
  by_cases h7 : x < 10
  · exact am_rng am_tc7 (by omega) (by omega)
  by_cases h10 : x < 11
  · exact am_rng am_tc10 (by omega) (by omega)
  by_cases h11 : x < 12
  · exact am_rng am_tc11 (by omega) (by omega)
  by_cases h12 : x < 13
  · exact am_rng am_tc12 (by omega) (by omega)
  by_cases h13 : x < 14
  · exact am_rng am_tc13 (by omega) (by omega)
  by_cases h14 : x < 15
  · exact am_rng am_tc14 (by omega) (by omega)
  by_cases h15 : x < 17
  · exact am_rng am_tc15 (by omega) (by omega)
  by_cases h17 : x < 19
  · exact am_rng am_tc17 (by omega) (by omega)
  by_cases h19 : x < 20
  · exact am_rng am_tc19 (by omega) (by omega)
  by_cases h20 : x < 22
  · exact am_rng am_tc20 (by omega) (by omega)
  by_cases h22 : x < 24
  · exact am_rng am_tc22 (by omega) (by omega)
  by_cases h24 : x < 25
  · exact am_rng am_tc24 (by omega) (by omega)
  by_cases h25 : x < 26
  · exact am_rng am_tc25 (by omega) (by omega)
  by_cases h26 : x < 28
  · exact am_rng am_tc26 (by omega) (by omega)
  by_cases h28 : x < 29
  · exact am_rng am_tc28 (by omega) (by omega)
  by_cases h29 : x < 30
  · exact am_rng am_tc29 (by omega) (by omega)
  by_cases h30 : x < 33
  · exact am_rng am_tc30 (by omega) (by omega)
  by_cases h33 : x < 40
  · exact am_rng am_tc33 (by omega) (by omega)
  by_cases h40 : x < 46
  · exact am_rng am_tc40 (by omega) (by omega)
  by_cases h46 : x < 50
  · exact am_rng am_tc46 (by omega) (by omega)
  by_cases h50 : x < 54
  · exact am_rng am_tc50 (by omega) (by omega)
  by_cases h54 : x < 55
  · exact am_rng am_tc54 (by omega) (by omega)
  by_cases h55 : x < 62
  · exact am_rng am_tc55 (by omega) (by omega)
  by_cases h62 : x < 64
  · exact am_rng am_tc62 (by omega) (by omega)
  by_cases h64 : x < 65
  · exact am_rng am_tc64 (by omega) (by omega)
  by_cases h65 : x < 66
  · exact am_rng am_tc65 (by omega) (by omega)
  by_cases h66 : x < 68
  · exact am_rng am_tc66 (by omega) (by omega)
  by_cases h68 : x < 69
  · exact am_rng am_tc68 (by omega) (by omega)
  by_cases h69 : x < 70
  · exact am_rng am_tc69 (by omega) (by omega)
  by_cases h70 : x < 74
  · exact am_rng am_tc70 (by omega) (by omega)
  by_cases h74 : x < 76
  · exact am_rng am_tc74 (by omega) (by omega)
  by_cases h76 : x < 77
  · exact am_rng am_tc76 (by omega) (by omega)
  by_cases h77 : x < 78
  · exact am_rng am_tc77 (by omega) (by omega)
  by_cases h78 : x < 79
  · exact am_rng am_tc78 (by omega) (by omega)
  by_cases h79 : x < 80
  · exact am_rng am_tc79 (by omega) (by omega)
  by_cases h80 : x < 81
  · exact am_rng am_tc80 (by omega) (by omega)
  by_cases h81 : x < 82
  · exact am_rng am_tc81 (by omega) (by omega)
  by_cases h82 : x < 83
  · exact am_rng am_tc82 (by omega) (by omega)
  by_cases h83 : x < 85
  · exact am_rng am_tc83 (by omega) (by omega)
  by_cases h85 : x < 86
  · exact am_rng am_tc85 (by omega) (by omega)
  by_cases h86 : x < 87
  · exact am_rng am_tc86 (by omega) (by omega)
  by_cases h87 : x < 88
  · exact am_rng am_tc87 (by omega) (by omega)
  by_cases h88 : x < 89
  · exact am_rng am_tc88 (by omega) (by omega)
  by_cases h89 : x < 90
  · exact am_rng am_tc89 (by omega) (by omega)
  by_cases h90 : x < 91
  · exact am_rng am_tc90 (by omega) (by omega)
  by_cases h91 : x < 92
  · exact am_rng am_tc91 (by omega) (by omega)
  by_cases h92 : x < 93
  · exact am_rng am_tc92 (by omega) (by omega)
  by_cases h93 : x < 94
  · exact am_rng am_tc93 (by omega) (by omega)
  by_cases h94 : x < 95
  · exact am_rng am_tc94 (by omega) (by omega)
  by_cases h95 : x < 96
  · exact am_rng am_tc95 (by omega) (by omega)
  by_cases h96 : x < 98
  · exact am_rng am_tc96 (by omega) (by omega)
  by_cases h98 : x < 99
  · exact am_rng am_tc98 (by omega) (by omega)
  by_cases h99 : x < 100
  · exact am_rng am_tc99 (by omega) (by omega)
  by_cases h100 : x < 101
  · exact am_rng am_tc100 (by omega) (by omega)
  by_cases h101 : x < 103
  · exact am_rng am_tc101 (by omega) (by omega)
  by_cases h103 : x < 104
  · exact am_rng am_tc103 (by omega) (by omega)
  by_cases h104 : x < 105
  · exact am_rng am_tc104 (by omega) (by omega)
  by_cases h105 : x < 106
  · exact am_rng am_tc105 (by omega) (by omega)
  by_cases h106 : x < 108
  · exact am_rng am_tc106 (by omega) (by omega)
  by_cases h108 : x < 109
  · exact am_rng am_tc108 (by omega) (by omega)
  by_cases h109 : x < 110
  · exact am_rng am_tc109 (by omega) (by omega)
  by_cases h110 : x < 111
  · exact am_rng am_tc110 (by omega) (by omega)
  by_cases h111 : x < 112
  · exact am_rng am_tc111 (by omega) (by omega)
  by_cases h112 : x < 113
  · exact am_rng am_tc112 (by omega) (by omega)
  by_cases h113 : x < 114
  · exact am_rng am_tc113 (by omega) (by omega)
  by_cases h114 : x < 115
  · exact am_rng am_tc114 (by omega) (by omega)
  by_cases h115 : x < 116
  · exact am_rng am_tc115 (by omega) (by omega)
  by_cases h116 : x < 117
  · exact am_rng am_tc116 (by omega) (by omega)
  by_cases h117 : x < 120
  · exact am_rng am_tc117 (by omega) (by omega)
  by_cases h120 : x < 121
  · exact am_rng am_tc120 (by omega) (by omega)
  by_cases h121 : x < 123
  · exact am_rng am_tc121 (by omega) (by omega)
  by_cases h123 : x < 125
  · exact am_rng am_tc123 (by omega) (by omega)
  by_cases h125 : x < 126
  · exact am_rng am_tc125 (by omega) (by omega)
  by_cases h126 : x < 132
  · exact am_rng am_tc126 (by omega) (by omega)
  by_cases h132 : x < 134
  · exact am_rng am_tc132 (by omega) (by omega)
  by_cases h134 : x < 136
  · exact am_rng am_tc134 (by omega) (by omega)
  by_cases h136 : x < 138
  · exact am_rng am_tc136 (by omega) (by omega)
  by_cases h138 : x < 139
  · exact am_rng am_tc138 (by omega) (by omega)
  by_cases h139 : x < 141
  · exact am_rng am_tc139 (by omega) (by omega)
  by_cases h141 : x < 142
  · exact am_rng am_tc141 (by omega) (by omega)
  by_cases h142 : x < 144
  · exact am_rng am_tc142 (by omega) (by omega)
  by_cases h144 : x < 146
  · exact am_rng am_tc144 (by omega) (by omega)
  by_cases h146 : x < 147
  · exact am_rng am_tc146 (by omega) (by omega)
  by_cases h147 : x < 148
  · exact am_rng am_tc147 (by omega) (by omega)
  by_cases h148 : x < 149
  · exact am_rng am_tc148 (by omega) (by omega)
  by_cases h149 : x < 150
  · exact am_rng am_tc149 (by omega) (by omega)
  by_cases h150 : x < 151
  · exact am_rng am_tc150 (by omega) (by omega)
  by_cases h151 : x < 152
  · exact am_rng am_tc151 (by omega) (by omega)
  by_cases h152 : x < 154
  · exact am_rng am_tc152 (by omega) (by omega)
  by_cases h154 : x < 156
  · exact am_rng am_tc154 (by omega) (by omega)
  by_cases h156 : x < 158
  · exact am_rng am_tc156 (by omega) (by omega)
  by_cases h158 : x < 159
  · exact am_rng am_tc158 (by omega) (by omega)
  by_cases h159 : x < 160
  · exact am_rng am_tc159 (by omega) (by omega)
  by_cases h160 : x < 162
  · exact am_rng am_tc160 (by omega) (by omega)
  by_cases h162 : x < 163
  · exact am_rng am_tc162 (by omega) (by omega)
  by_cases h163 : x < 164
  · exact am_rng am_tc163 (by omega) (by omega)
  by_cases h164 : x < 165
  · exact am_rng am_tc164 (by omega) (by omega)
  by_cases h165 : x < 166
  · exact am_rng am_tc165 (by omega) (by omega)
  by_cases h166 : x < 167
  · exact am_rng am_tc166 (by omega) (by omega)
  by_cases h167 : x < 168
  · exact am_rng am_tc167 (by omega) (by omega)
  by_cases h168 : x < 169
  · exact am_rng am_tc168 (by omega) (by omega)
  by_cases h169 : x < 170
  · exact am_rng am_tc169 (by omega) (by omega)
  by_cases h170 : x < 171
  · exact am_rng am_tc170 (by omega) (by omega)
  by_cases h171 : x < 172
  · exact am_rng am_tc171 (by omega) (by omega)
  by_cases h172 : x < 173
  · exact am_rng am_tc172 (by omega) (by omega)
  by_cases h173 : x < 175
  · exact am_rng am_tc173 (by omega) (by omega)
  by_cases h175 : x < 176
  · exact am_rng am_tc175 (by omega) (by omega)
  by_cases h176 : x < 177
  · exact am_rng am_tc176 (by omega) (by omega)
  by_cases h177 : x < 179
  · exact am_rng am_tc177 (by omega) (by omega)
  by_cases h179 : x < 180
  · exact am_rng am_tc179 (by omega) (by omega)
  by_cases h180 : x < 181
  · exact am_rng am_tc180 (by omega) (by omega)
  by_cases h181 : x < 182
  · exact am_rng am_tc181 (by omega) (by omega)
  by_cases h182 : x < 183
  · exact am_rng am_tc182 (by omega) (by omega)
  by_cases h183 : x < 184
  · exact am_rng am_tc183 (by omega) (by omega)
  by_cases h184 : x < 185
  · exact am_rng am_tc184 (by omega) (by omega)
  by_cases h185 : x < 188
  · exact am_rng am_tc185 (by omega) (by omega)
  by_cases h188 : x < 189
  · exact am_rng am_tc188 (by omega) (by omega)
  by_cases h189 : x < 190
  · exact am_rng am_tc189 (by omega) (by omega)
  by_cases h190 : x < 191
  · exact am_rng am_tc190 (by omega) (by omega)
  by_cases h191 : x < 193
  · exact am_rng am_tc191 (by omega) (by omega)
  by_cases h193 : x < 195
  · exact am_rng am_tc193 (by omega) (by omega)
  by_cases h195 : x < 196
  · exact am_rng am_tc195 (by omega) (by omega)
  by_cases h196 : x < 197
  · exact am_rng am_tc196 (by omega) (by omega)
  by_cases h197 : x < 198
  · exact am_rng am_tc197 (by omega) (by omega)
  by_cases h198 : x < 199
  · exact am_rng am_tc198 (by omega) (by omega)
  by_cases h199 : x < 200
  · exact am_rng am_tc199 (by omega) (by omega)
  by_cases h200 : x < 201
  · exact am_rng am_tc200 (by omega) (by omega)
  by_cases h201 : x < 202
  · exact am_rng am_tc201 (by omega) (by omega)
  by_cases h202 : x < 204
  · exact am_rng am_tc202 (by omega) (by omega)
  by_cases h204 : x < 207
  · exact am_rng am_tc204 (by omega) (by omega)
  by_cases h207 : x < 210
  · exact am_rng am_tc207 (by omega) (by omega)
  by_cases h210 : x < 211
  · exact am_rng am_tc210 (by omega) (by omega)
  by_cases h211 : x < 212
  · exact am_rng am_tc211 (by omega) (by omega)
  by_cases h212 : x < 214
  · exact am_rng am_tc212 (by omega) (by omega)
  by_cases h214 : x < 216
  · exact am_rng am_tc214 (by omega) (by omega)
  by_cases h216 : x < 217
  · exact am_rng am_tc216 (by omega) (by omega)
  by_cases h217 : x < 221
  · exact am_rng am_tc217 (by omega) (by omega)
  exact am_rng am_tc221 (by omega) (by omega)
theorem am_flLen : am_fl.length = 137 := by decide +kernel
theorem am_clLen : am_cl.length = 278 := by decide +kernel
theorem am_codeLen : am_code.length = 228 := by decide +kernel
theorem am_hFL : am_FLs := by
  intro x q hq
  have hx := (List.getElem?_eq_some_iff.mp hq).1
  rw [am_flLen] at hx
  have h := am_tF x (Nat.zero_le _) hx
  unfold am_flx at h
  rw [hq] at h
  exact h
theorem am_hCL : ∀ (x : Nat) (q : String × Nat × Nat × List (Nat × Nat)) (z : Nat × MethodName × String × Nat), am_cl[x]? = some q → am_cx[x]? = some z → am_lk (am_cix.getD x []) q z = true := by
  intro x q z hq hz
  have hx := (List.getElem?_eq_some_iff.mp hq).1
  rw [am_clLen] at hx
  have h := am_tL x (Nat.zero_le _) hx
  unfold am_lkx at h
  rw [hq, hz] at h
  exact h
theorem am_hMK : ∀ t, 0 < t → t < am_oi → am_mk t = true := fun t h1 h2 => am_tM t h1 h2
theorem am_hCD : ∀ mid pc i n x, am_ins mid pc = some (i, n, x) → decode (am_b mid) pc = .ok (i, n) ∧ am_ck mid pc i n x = true ∧ am_ckc mid i x = true := by
  intro mid pc i n x h
  have hm : mid < 228 := by
    rcases Nat.lt_or_ge mid 228 with h1 | h1
    · exact h1
    · exfalso
      unfold am_ins at h
      have e0 : am_code.getD mid [] = [] := by rw [List.getD_eq_getElem?_getD, List.getElem?_eq_none (by rw [am_codeLen]; exact h1)]; rfl
      rw [e0] at h
      cases h
  have hc := am_tC mid (Nat.zero_le _) hm
  have he : (am_code.getD mid [])[pc]? = some (some (i, n, x)) := by
    unfold am_ins at h
    rw [List.getD_eq_getElem?_getD] at h
    cases hq : (am_code.getD mid [])[pc]? with
    | none => rw [hq] at h; cases h
    | some e =>
      rw [hq] at h
      have h : e = some (i, n, x) := h
      rw [h]
  have h2 := am_cgo_at hc he
  rw [Nat.zero_add] at h2
  unfold am_ce1 at h2
  simp only [Bool.and_eq_true] at h2
  obtain ⟨h3, h4, h5⟩ := h2
  refine ⟨?_, h4, h5⟩
  cases hd : decode (am_b mid) pc with
  | ok z =>
    rw [hd] at h3
    have h3 : decide (z = (i, n)) = true := h3
    rw [decide_eq_true_eq] at h3
    rw [h3]
  | error e =>
    rw [hd] at h3
    cases h3
theorem am_co0 : am_CO 0 (RX0, TX0, 3) tyX0 := by
  refine ⟨rfl, by decide +kernel, ?_, am_inI_tb (i := 602) (by decide +kernel), am_inI_tb (i := 105) (by decide +kernel), tyX0_ok, nmX0, by decide +kernel⟩
  intro w hw
  have h : u_ws RX0 TX0 3 = (am_lix.getD 0 []).filterMap (fun i => lw_tbl[i]?) := by decide +kernel
  have hg : (u_ws RX0 TX0 3).all goodWord = true := by decide +kernel
  have hw : w ∈ u_ws RX0 TX0 3 := hw
  refine List.mem_filter.mpr ⟨?_, List.all_eq_true.mp hg w hw⟩
  rw [h] at hw
  obtain ⟨i, -, hi⟩ := List.mem_filterMap.mp hw
  exact List.mem_of_getElem? hi
theorem am_co1 : am_CO 1 (RX1, TX1, 10) tyX1 := by
  refine ⟨rfl, by decide +kernel, ?_, am_inI_tb (i := 158) (by decide +kernel), am_inI_tb (i := 92) (by decide +kernel), tyX1_ok, nmX1, by decide +kernel⟩
  intro w hw
  have h : u_ws RX1 TX1 10 = (am_lix.getD 1 []).filterMap (fun i => lw_tbl[i]?) := by decide +kernel
  have hg : (u_ws RX1 TX1 10).all goodWord = true := by decide +kernel
  have hw : w ∈ u_ws RX1 TX1 10 := hw
  refine List.mem_filter.mpr ⟨?_, List.all_eq_true.mp hg w hw⟩
  rw [h] at hw
  obtain ⟨i, -, hi⟩ := List.mem_filterMap.mp hw
  exact List.mem_of_getElem? hi
theorem am_co2 : am_CO 2 (RX2, TX2, 3) tyX2 := by
  refine ⟨rfl, by decide +kernel, ?_, am_inI_tb (i := 582) (by decide +kernel), am_inI_tb (i := 103) (by decide +kernel), tyX2_ok, nmX2, by decide +kernel⟩
  intro w hw
  have h : u_ws RX2 TX2 3 = (am_lix.getD 2 []).filterMap (fun i => lw_tbl[i]?) := by decide +kernel
  have hg : (u_ws RX2 TX2 3).all goodWord = true := by decide +kernel
  have hw : w ∈ u_ws RX2 TX2 3 := hw
  refine List.mem_filter.mpr ⟨?_, List.all_eq_true.mp hg w hw⟩
  rw [h] at hw
  obtain ⟨i, -, hi⟩ := List.mem_filterMap.mp hw
  exact List.mem_of_getElem? hi
theorem am_co3 : am_CO 3 (RX3, TX3, 14) tyX3 := by
  refine ⟨rfl, by decide +kernel, ?_, am_inI_tb (i := 123) (by decide +kernel), am_inI_tb (i := 90) (by decide +kernel), tyX3_ok, nmX3, by decide +kernel⟩
  intro w hw
  have h : u_ws RX3 TX3 14 = (am_lix.getD 3 []).filterMap (fun i => lw_tbl[i]?) := by decide +kernel
  have hg : (u_ws RX3 TX3 14).all goodWord = true := by decide +kernel
  have hw : w ∈ u_ws RX3 TX3 14 := hw
  refine List.mem_filter.mpr ⟨?_, List.all_eq_true.mp hg w hw⟩
  rw [h] at hw
  obtain ⟨i, -, hi⟩ := List.mem_filterMap.mp hw
  exact List.mem_of_getElem? hi
theorem am_co4 : am_CO 4 (RX4, TX4, 3) tyX4 := by
  refine ⟨rfl, by decide +kernel, ?_, am_inI_tb (i := 197) (by decide +kernel), am_inI_tb (i := 93) (by decide +kernel), tyX4_ok, nmX4, by decide +kernel⟩
  intro w hw
  have h : u_ws RX4 TX4 3 = (am_lix.getD 4 []).filterMap (fun i => lw_tbl[i]?) := by decide +kernel
  have hg : (u_ws RX4 TX4 3).all goodWord = true := by decide +kernel
  have hw : w ∈ u_ws RX4 TX4 3 := hw
  refine List.mem_filter.mpr ⟨?_, List.all_eq_true.mp hg w hw⟩
  rw [h] at hw
  obtain ⟨i, -, hi⟩ := List.mem_filterMap.mp hw
  exact List.mem_of_getElem? hi
theorem am_co5 : am_CO 5 (RX5, TX5, 3) tyX5 := by
  refine ⟨rfl, by decide +kernel, ?_, am_inI_tb (i := 552) (by decide +kernel), am_inI_tb (i := 100) (by decide +kernel), tyX5_ok, nmX5, by decide +kernel⟩
  intro w hw
  have h : u_ws RX5 TX5 3 = (am_lix.getD 5 []).filterMap (fun i => lw_tbl[i]?) := by decide +kernel
  have hg : (u_ws RX5 TX5 3).all goodWord = true := by decide +kernel
  have hw : w ∈ u_ws RX5 TX5 3 := hw
  refine List.mem_filter.mpr ⟨?_, List.all_eq_true.mp hg w hw⟩
  rw [h] at hw
  obtain ⟨i, -, hi⟩ := List.mem_filterMap.mp hw
  exact List.mem_of_getElem? hi
theorem am_co6 : am_CO 6 (RX6, TX6, 3) tyX6 := by
  refine ⟨rfl, by decide +kernel, ?_, am_inI_tb (i := 562) (by decide +kernel), am_inI_tb (i := 101) (by decide +kernel), tyX6_ok, nmX6, by decide +kernel⟩
  intro w hw
  have h : u_ws RX6 TX6 3 = (am_lix.getD 6 []).filterMap (fun i => lw_tbl[i]?) := by decide +kernel
  have hg : (u_ws RX6 TX6 3).all goodWord = true := by decide +kernel
  have hw : w ∈ u_ws RX6 TX6 3 := hw
  refine List.mem_filter.mpr ⟨?_, List.all_eq_true.mp hg w hw⟩
  rw [h] at hw
  obtain ⟨i, -, hi⟩ := List.mem_filterMap.mp hw
  exact List.mem_of_getElem? hi
theorem am_co7 : am_CO 7 (RX7, TX7, 4) tyX7 := by
  refine ⟨rfl, by decide +kernel, ?_, am_inI_tb (i := 129) (by decide +kernel), am_inI_tb (i := 91) (by decide +kernel), tyX7_ok, nmX7, by decide +kernel⟩
  intro w hw
  have h : u_ws RX7 TX7 4 = (am_lix.getD 7 []).filterMap (fun i => lw_tbl[i]?) := by decide +kernel
  have hg : (u_ws RX7 TX7 4).all goodWord = true := by decide +kernel
  have hw : w ∈ u_ws RX7 TX7 4 := hw
  refine List.mem_filter.mpr ⟨?_, List.all_eq_true.mp hg w hw⟩
  rw [h] at hw
  obtain ⟨i, -, hi⟩ := List.mem_filterMap.mp hw
  exact List.mem_of_getElem? hi
theorem am_co8 : am_CO 8 (RX8, TX8, 3) tyX8 := by
  refine ⟨rfl, by decide +kernel, ?_, am_inI_tb (i := 572) (by decide +kernel), am_inI_tb (i := 102) (by decide +kernel), tyX8_ok, nmX8, by decide +kernel⟩
  intro w hw
  have h : u_ws RX8 TX8 3 = (am_lix.getD 8 []).filterMap (fun i => lw_tbl[i]?) := by decide +kernel
  have hg : (u_ws RX8 TX8 3).all goodWord = true := by decide +kernel
  have hw : w ∈ u_ws RX8 TX8 3 := hw
  refine List.mem_filter.mpr ⟨?_, List.all_eq_true.mp hg w hw⟩
  rw [h] at hw
  obtain ⟨i, -, hi⟩ := List.mem_filterMap.mp hw
  exact List.mem_of_getElem? hi
theorem am_co9 : am_CO 9 (RX9, TX9, 3) tyX9 := by
  refine ⟨rfl, by decide +kernel, ?_, am_inI_tb (i := 592) (by decide +kernel), am_inI_tb (i := 104) (by decide +kernel), tyX9_ok, nmX9, by decide +kernel⟩
  intro w hw
  have h : u_ws RX9 TX9 3 = (am_lix.getD 9 []).filterMap (fun i => lw_tbl[i]?) := by decide +kernel
  have hg : (u_ws RX9 TX9 3).all goodWord = true := by decide +kernel
  have hw : w ∈ u_ws RX9 TX9 3 := hw
  refine List.mem_filter.mpr ⟨?_, List.all_eq_true.mp hg w hw⟩
  rw [h] at hw
  obtain ⟨i, -, hi⟩ := List.mem_filterMap.mp hw
  exact List.mem_of_getElem? hi
theorem am_co10 : am_CO 10 (RX10, TX10, 14) tyX10 := by
  refine ⟨rfl, by decide +kernel, ?_, am_inI_tb (i := 117) (by decide +kernel), am_inI_tb (i := 89) (by decide +kernel), tyX10_ok, nmX10, by decide +kernel⟩
  intro w hw
  have h : u_ws RX10 TX10 14 = (am_lix.getD 10 []).filterMap (fun i => lw_tbl[i]?) := by decide +kernel
  have hg : (u_ws RX10 TX10 14).all goodWord = true := by decide +kernel
  have hw : w ∈ u_ws RX10 TX10 14 := hw
  refine List.mem_filter.mpr ⟨?_, List.all_eq_true.mp hg w hw⟩
  rw [h] at hw
  obtain ⟨i, -, hi⟩ := List.mem_filterMap.mp hw
  exact List.mem_of_getElem? hi
theorem am_co11 : am_CO 11 (RX11, TX11, 9) tyX11 := by
  refine ⟨rfl, by decide +kernel, ?_, am_inI_tb (i := 109) (by decide +kernel), am_inI_tb (i := 88) (by decide +kernel), tyX11_ok, nmX11, by decide +kernel⟩
  intro w hw
  have h : u_ws RX11 TX11 9 = (am_lix.getD 11 []).filterMap (fun i => lw_tbl[i]?) := by decide +kernel
  have hg : (u_ws RX11 TX11 9).all goodWord = true := by decide +kernel
  have hw : w ∈ u_ws RX11 TX11 9 := hw
  refine List.mem_filter.mpr ⟨?_, List.all_eq_true.mp hg w hw⟩
  rw [h] at hw
  obtain ⟨i, -, hi⟩ := List.mem_filterMap.mp hw
  exact List.mem_of_getElem? hi
theorem am_co12 : am_CO 12 (RX12, TX12, 36) tyX12 := by
  refine ⟨rfl, by decide +kernel, ?_, am_inI_tb (i := 1049) (by decide +kernel), am_inI_tb (i := 94) (by decide +kernel), tyX12_ok, nmX12, by decide +kernel⟩
  intro w hw
  have h : u_ws RX12 TX12 36 = (am_lix.getD 12 []).filterMap (fun i => lw_tbl[i]?) := by decide +kernel
  have hg : (u_ws RX12 TX12 36).all goodWord = true := by decide +kernel
  have hw : w ∈ u_ws RX12 TX12 36 := hw
  refine List.mem_filter.mpr ⟨?_, List.all_eq_true.mp hg w hw⟩
  rw [h] at hw
  obtain ⟨i, -, hi⟩ := List.mem_filterMap.mp hw
  exact List.mem_of_getElem? hi
theorem am_hCO : am_COs := by
  intro c hc
  match c, hc with
  | 0, _ => exact ⟨_, _, am_co0⟩
  | 1, _ => exact ⟨_, _, am_co1⟩
  | 2, _ => exact ⟨_, _, am_co2⟩
  | 3, _ => exact ⟨_, _, am_co3⟩
  | 4, _ => exact ⟨_, _, am_co4⟩
  | 5, _ => exact ⟨_, _, am_co5⟩
  | 6, _ => exact ⟨_, _, am_co6⟩
  | 7, _ => exact ⟨_, _, am_co7⟩
  | 8, _ => exact ⟨_, _, am_co8⟩
  | 9, _ => exact ⟨_, _, am_co9⟩
  | 10, _ => exact ⟨_, _, am_co10⟩
  | 11, _ => exact ⟨_, _, am_co11⟩
  | 12, _ => exact ⟨_, _, am_co12⟩
  | k + 13, h => omega
theorem am_hAC : ∀ t : FieldType, t = .int ∨ t = .long ∨ t = .boolean → Cond.arrayClass t ∈ am_tb := by
  rintro t (rfl | rfl | rfl)
  · exact am_inI_tb (i := 152) (by decide +kernel)
  · exact am_inI_tb (i := 378) (by decide +kernel)
  · exact am_inI_tb (i := 1162) (by decide +kernel)
theorem am_hLK : am_LK := ⟨am_hCO, am_hFL, am_hAC, am_hCL, am_hCD, ⟨am_inI_tb (i := 728) (by decide +kernel), am_inI_tb (i := 727) (by decide +kernel), am_inI_tb (i := 106) (by decide +kernel)⟩, am_inI_tb (i := 114) (by decide +kernel), am_inI_tb (i := 115) (by decide +kernel), am_hMK⟩
