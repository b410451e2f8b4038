/-! the tables are the launch's: together -/
theorem am_rng {f : Nat → Bool} {a n x : Nat} (h : (List.range' a n).all f = true) (h1 : a ≤ x) (h2 : x < a + n) : f x = true :=
  List.all_eq_true.mp h x (List.mem_range'_1.mpr ⟨h1, h2⟩)
theorem am_tF (x : Nat) (h0 : 0 ≤ x) (h9 : x < 136) : am_flx x = true := by
  by_cases h0 : x < 20
  · exact am_rng am_tf0 (by omega) (by omega)
  by_cases h20 : x < 40
  · exact am_rng am_tf20 (by omega) (by omega)
  by_cases h40 : x < 60
  · exact am_rng am_tf40 (by omega) (by omega)
  by_cases h60 : x < 80
  · exact am_rng am_tf60 (by omega) (by omega)
  by_cases h80 : x < 100
  · exact am_rng am_tf80 (by omega) (by omega)
  by_cases h100 : x < 120
  · exact am_rng am_tf100 (by omega) (by omega)
  exact am_rng am_tf120 (by omega) (by omega)
theorem am_tL (x : Nat) (h0 : 0 ≤ x) (h9 : x < 277) : am_lkx x = true := by
  by_cases h0 : x < 20
  · exact am_rng am_tl0 (by omega) (by omega)
  by_cases h20 : x < 40
  · exact am_rng am_tl20 (by omega) (by omega)
  by_cases h40 : x < 60
  · exact am_rng am_tl40 (by omega) (by omega)
  by_cases h60 : x < 80
  · exact am_rng am_tl60 (by omega) (by omega)
  by_cases h80 : x < 100
  · exact am_rng am_tl80 (by omega) (by omega)
  by_cases h100 : x < 120
  · exact am_rng am_tl100 (by omega) (by omega)
  by_cases h120 : x < 140
  · exact am_rng am_tl120 (by omega) (by omega)
  by_cases h140 : x < 160
  · exact am_rng am_tl140 (by omega) (by omega)
  by_cases h160 : x < 180
  · exact am_rng am_tl160 (by omega) (by omega)
  by_cases h180 : x < 200
  · exact am_rng am_tl180 (by omega) (by omega)
  by_cases h200 : x < 220
  · exact am_rng am_tl200 (by omega) (by omega)
  by_cases h220 : x < 240
  · exact am_rng am_tl220 (by omega) (by omega)
  by_cases h240 : x < 260
  · exact am_rng am_tl240 (by omega) (by omega)
  exact am_rng am_tl260 (by omega) (by omega)
theorem am_tM (x : Nat) (h0 : 1 ≤ x) (h9 : x < 227) : am_mk x = true := by
  by_cases h1 : x < 13
  · exact am_rng am_tm1 (by omega) (by omega)
  by_cases h13 : x < 25
  · exact am_rng am_tm13 (by omega) (by omega)
  by_cases h25 : x < 37
  · exact am_rng am_tm25 (by omega) (by omega)
  by_cases h37 : x < 49
  · exact am_rng am_tm37 (by omega) (by omega)
  by_cases h49 : x < 61
  · exact am_rng am_tm49 (by omega) (by omega)
  by_cases h61 : x < 73
  · exact am_rng am_tm61 (by omega) (by omega)
  by_cases h73 : x < 85
  · exact am_rng am_tm73 (by omega) (by omega)
  by_cases h85 : x < 97
  · exact am_rng am_tm85 (by omega) (by omega)
  by_cases h97 : x < 109
  · exact am_rng am_tm97 (by omega) (by omega)
  by_cases h109 : x < 121
  · exact am_rng am_tm109 (by omega) (by omega)
  by_cases h121 : x < 133
  · exact am_rng am_tm121 (by omega) (by omega)
  by_cases h133 : x < 145
  · exact am_rng am_tm133 (by omega) (by omega)
  by_cases h145 : x < 157
  · exact am_rng am_tm145 (by omega) (by omega)
  by_cases h157 : x < 169
  · exact am_rng am_tm157 (by omega) (by omega)
  by_cases h169 : x < 181
  · exact am_rng am_tm169 (by omega) (by omega)
  by_cases h181 : x < 193
  · exact am_rng am_tm181 (by omega) (by omega)
  by_cases h193 : x < 205
  · exact am_rng am_tm193 (by omega) (by omega)
  by_cases h205 : x < 217
  · exact am_rng am_tm205 (by omega) (by omega)
  exact am_rng am_tm217 (by omega) (by omega)
theorem am_tC (x : Nat) (h0 : 0 ≤ x) (h9 : x < 228) : am_cdx x = true := by
  by_cases h0 : x < 1
  · exact am_rng am_tc0 (by omega) (by omega)
  by_cases h1 : x < 11
  · exact am_rng am_tc1 (by omega) (by omega)
  by_cases h11 : x < 17
  · exact am_rng am_tc11 (by omega) (by omega)
  by_cases h17 : x < 24
  · exact am_rng am_tc17 (by omega) (by omega)
  by_cases h24 : x < 28
  · exact am_rng am_tc24 (by omega) (by omega)
  by_cases h28 : x < 39
  · exact am_rng am_tc28 (by omega) (by omega)
  by_cases h39 : x < 54
  · exact am_rng am_tc39 (by omega) (by omega)
  by_cases h54 : x < 65
  · exact am_rng am_tc54 (by omega) (by omega)
  by_cases h65 : x < 71
  · exact am_rng am_tc65 (by omega) (by omega)
  by_cases h71 : x < 78
  · exact am_rng am_tc71 (by omega) (by omega)
  by_cases h78 : x < 82
  · exact am_rng am_tc78 (by omega) (by omega)
  by_cases h82 : x < 87
  · exact am_rng am_tc82 (by omega) (by omega)
  by_cases h87 : x < 92
  · exact am_rng am_tc87 (by omega) (by omega)
  by_cases h92 : x < 99
  · exact am_rng am_tc92 (by omega) (by omega)
  by_cases h99 : x < 105
  · exact am_rng am_tc99 (by omega) (by omega)
  by_cases h105 : x < 110
  · exact am_rng am_tc105 (by omega) (by omega)
  by_cases h110 : x < 115
  · exact am_rng am_tc110 (by omega) (by omega)
  by_cases h115 : x < 125
  · exact am_rng am_tc115 (by omega) (by omega)
  by_cases h125 : x < 137
  · exact am_rng am_tc125 (by omega) (by omega)
  by_cases h137 : x < 142
  · exact am_rng am_tc137 (by omega) (by omega)
  by_cases h142 : x < 149
  · exact am_rng am_tc142 (by omega) (by omega)
  by_cases h149 : x < 154
  · exact am_rng am_tc149 (by omega) (by omega)
  by_cases h154 : x < 158
  · exact am_rng am_tc154 (by omega) (by omega)
  by_cases h158 : x < 159
  · exact am_rng am_tc158 (by omega) (by omega)
  by_cases h159 : x < 164
  · exact am_rng am_tc159 (by omega) (by omega)
  by_cases h164 : x < 168
  · exact am_rng am_tc164 (by omega) (by omega)
  by_cases h168 : x < 173
  · exact am_rng am_tc168 (by omega) (by omega)
  by_cases h173 : x < 180
  · exact am_rng am_tc173 (by omega) (by omega)
  by_cases h180 : x < 184
  · exact am_rng am_tc180 (by omega) (by omega)
  by_cases h184 : x < 190
  · exact am_rng am_tc184 (by omega) (by omega)
  by_cases h190 : x < 195
  · exact am_rng am_tc190 (by omega) (by omega)
  by_cases h195 : x < 199
  · exact am_rng am_tc195 (by omega) (by omega)
  by_cases h199 : x < 205
  · exact am_rng am_tc199 (by omega) (by omega)
  by_cases h205 : x < 215
  · exact am_rng am_tc205 (by omega) (by omega)
  exact am_rng am_tc215 (by omega) (by omega)
theorem am_flLen : am_fl.length = 136 := by decide +kernel
theorem am_clLen : am_cl.length = 277 := by decide +kernel
theorem am_codeLen : am_code.length = 228 := by decide +kernel
theorem am_hFL : am_FLs := by
  intro x q hq
  have hx := (List.getElem?_eq_some_iff.mp hq).1
  rw [am_flLen] at hx
  have h := am_tF x (Nat.zero_le _) hx
  unfold am_flx at h
  rw [hq] at h
  exact h
theorem am_hCL : ∀ (x : Nat) (q : String × Nat × Nat × List (Nat × Nat)) (z : Nat × MethodName × String × Nat), am_cl[x]? = some q → am_cx[x]? = some z → am_lk (am_cix.getD x []) q z = true := by
  intro x q z hq hz
  have hx := (List.getElem?_eq_some_iff.mp hq).1
  rw [am_clLen] at hx
  have h := am_tL x (Nat.zero_le _) hx
  unfold am_lkx at h
  rw [hq, hz] at h
  exact h
theorem am_hMK : ∀ t, 0 < t → t < am_oi → am_mk t = true := fun t h1 h2 => am_tM t h1 h2
theorem am_hCD : ∀ mid pc i n x, am_ins mid pc = some (i, n, x) → decode (am_b mid) pc = .ok (i, n) ∧ am_ck mid pc i n x = true ∧ am_ckc mid i x = true := by
  intro mid pc i n x h
  have hm : mid < 228 := by
    rcases Nat.lt_or_ge mid 228 with h1 | h1
    · exact h1
    · exfalso
      unfold am_ins at h
      rw [List.getD_eq_getElem?_getD, List.getElem?_eq_none (by rw [am_codeLen]; exact h1)] at h
      cases h
  have hc := am_tC mid (Nat.zero_le _) hm
  unfold am_cdx at hc
  have hp : pc < (am_code.getD mid []).length := by
    rcases Nat.lt_or_ge pc (am_code.getD mid []).length with h1 | h1
    · exact h1
    · exfalso
      unfold am_ins at h
      rw [List.getD_eq_getElem?_getD (l := am_code.getD mid []), List.getElem?_eq_none h1] at h
      cases h
  have h2 := List.all_eq_true.mp hc pc (List.mem_range.mpr hp)
  rw [h] at h2
  simp only [Bool.and_eq_true] at h2
  obtain ⟨h3, h4, h5⟩ := h2
  refine ⟨?_, h4, h5⟩
  cases hd : decode (am_b mid) pc with
  | ok z =>
    rw [hd] at h3
    have h3 : decide (z = (i, n)) = true := h3
    rw [decide_eq_true_eq] at h3
    rw [h3]
  | error e =>
    rw [hd] at h3
    cases h3
theorem am_co0 : am_CO 0 (RX0, TX0, 3) tyX0 := by
  refine ⟨rfl, by decide +kernel, ?_, am_inI_tb (i := 599) (by decide +kernel), am_inI_tb (i := 105) (by decide +kernel), tyX0_ok, nmX0, by decide +kernel⟩
  intro w hw
  have h : u_ws RX0 TX0 3 = (am_lix.getD 0 []).filterMap (fun i => lw_tbl[i]?) := by decide +kernel
  have hg : (u_ws RX0 TX0 3).all goodWord = true := by decide +kernel
  have hw : w ∈ u_ws RX0 TX0 3 := hw
  refine List.mem_filter.mpr ⟨?_, List.all_eq_true.mp hg w hw⟩
  rw [h] at hw
  obtain ⟨i, -, hi⟩ := List.mem_filterMap.mp hw
  exact List.mem_of_getElem? hi
theorem am_co1 : am_CO 1 (RX1, TX1, 10) tyX1 := by
  refine ⟨rfl, by decide +kernel, ?_, am_inI_tb (i := 152) (by decide +kernel), am_inI_tb (i := 91) (by decide +kernel), tyX1_ok, nmX1, by decide +kernel⟩
  intro w hw
  have h : u_ws RX1 TX1 10 = (am_lix.getD 1 []).filterMap (fun i => lw_tbl[i]?) := by decide +kernel
  have hg : (u_ws RX1 TX1 10).all goodWord = true := by decide +kernel
  have hw : w ∈ u_ws RX1 TX1 10 := hw
  refine List.mem_filter.mpr ⟨?_, List.all_eq_true.mp hg w hw⟩
  rw [h] at hw
  obtain ⟨i, -, hi⟩ := List.mem_filterMap.mp hw
  exact List.mem_of_getElem? hi
theorem am_co2 : am_CO 2 (RX2, TX2, 3) tyX2 := by
  refine ⟨rfl, by decide +kernel, ?_, am_inI_tb (i := 579) (by decide +kernel), am_inI_tb (i := 103) (by decide +kernel), tyX2_ok, nmX2, by decide +kernel⟩
  intro w hw
  have h : u_ws RX2 TX2 3 = (am_lix.getD 2 []).filterMap (fun i => lw_tbl[i]?) := by decide +kernel
  have hg : (u_ws RX2 TX2 3).all goodWord = true := by decide +kernel
  have hw : w ∈ u_ws RX2 TX2 3 := hw
  refine List.mem_filter.mpr ⟨?_, List.all_eq_true.mp hg w hw⟩
  rw [h] at hw
  obtain ⟨i, -, hi⟩ := List.mem_filterMap.mp hw
  exact List.mem_of_getElem? hi
theorem am_co3 : am_CO 3 (RX3, TX3, 14) tyX3 := by
  refine ⟨rfl, by decide +kernel, ?_, am_inI_tb (i := 117) (by decide +kernel), am_inI_tb (i := 89) (by decide +kernel), tyX3_ok, nmX3, by decide +kernel⟩
  intro w hw
  have h : u_ws RX3 TX3 14 = (am_lix.getD 3 []).filterMap (fun i => lw_tbl[i]?) := by decide +kernel
  have hg : (u_ws RX3 TX3 14).all goodWord = true := by decide +kernel
  have hw : w ∈ u_ws RX3 TX3 14 := hw
  refine List.mem_filter.mpr ⟨?_, List.all_eq_true.mp hg w hw⟩
  rw [h] at hw
  obtain ⟨i, -, hi⟩ := List.mem_filterMap.mp hw
  exact List.mem_of_getElem? hi
theorem am_co4 : am_CO 4 (RX4, TX4, 3) tyX4 := by
  refine ⟨rfl, by decide +kernel, ?_, am_inI_tb (i := 191) (by decide +kernel), am_inI_tb (i := 92) (by decide +kernel), tyX4_ok, nmX4, by decide +kernel⟩
  intro w hw
  have h : u_ws RX4 TX4 3 = (am_lix.getD 4 []).filterMap (fun i => lw_tbl[i]?) := by decide +kernel
  have hg : (u_ws RX4 TX4 3).all goodWord = true := by decide +kernel
  have hw : w ∈ u_ws RX4 TX4 3 := hw
  refine List.mem_filter.mpr ⟨?_, List.all_eq_true.mp hg w hw⟩
  rw [h] at hw
  obtain ⟨i, -, hi⟩ := List.mem_filterMap.mp hw
  exact List.mem_of_getElem? hi
theorem am_co5 : am_CO 5 (RX5, TX5, 3) tyX5 := by
  refine ⟨rfl, by decide +kernel, ?_, am_inI_tb (i := 549) (by decide +kernel), am_inI_tb (i := 100) (by decide +kernel), tyX5_ok, nmX5, by decide +kernel⟩
  intro w hw
  have h : u_ws RX5 TX5 3 = (am_lix.getD 5 []).filterMap (fun i => lw_tbl[i]?) := by decide +kernel
  have hg : (u_ws RX5 TX5 3).all goodWord = true := by decide +kernel
  have hw : w ∈ u_ws RX5 TX5 3 := hw
  refine List.mem_filter.mpr ⟨?_, List.all_eq_true.mp hg w hw⟩
  rw [h] at hw
  obtain ⟨i, -, hi⟩ := List.mem_filterMap.mp hw
  exact List.mem_of_getElem? hi
theorem am_co6 : am_CO 6 (RX6, TX6, 3) tyX6 := by
  refine ⟨rfl, by decide +kernel, ?_, am_inI_tb (i := 559) (by decide +kernel), am_inI_tb (i := 101) (by decide +kernel), tyX6_ok, nmX6, by decide +kernel⟩
  intro w hw
  have h : u_ws RX6 TX6 3 = (am_lix.getD 6 []).filterMap (fun i => lw_tbl[i]?) := by decide +kernel
  have hg : (u_ws RX6 TX6 3).all goodWord = true := by decide +kernel
  have hw : w ∈ u_ws RX6 TX6 3 := hw
  refine List.mem_filter.mpr ⟨?_, List.all_eq_true.mp hg w hw⟩
  rw [h] at hw
  obtain ⟨i, -, hi⟩ := List.mem_filterMap.mp hw
  exact List.mem_of_getElem? hi
theorem am_co7 : am_CO 7 (RX7, TX7, 4) tyX7 := by
  refine ⟨rfl, by decide +kernel, ?_, am_inI_tb (i := 123) (by decide +kernel), am_inI_tb (i := 90) (by decide +kernel), tyX7_ok, nmX7, by decide +kernel⟩
  intro w hw
  have h : u_ws RX7 TX7 4 = (am_lix.getD 7 []).filterMap (fun i => lw_tbl[i]?) := by decide +kernel
  have hg : (u_ws RX7 TX7 4).all goodWord = true := by decide +kernel
  have hw : w ∈ u_ws RX7 TX7 4 := hw
  refine List.mem_filter.mpr ⟨?_, List.all_eq_true.mp hg w hw⟩
  rw [h] at hw
  obtain ⟨i, -, hi⟩ := List.mem_filterMap.mp hw
  exact List.mem_of_getElem? hi
theorem am_co8 : am_CO 8 (RX8, TX8, 3) tyX8 := by
  refine ⟨rfl, by decide +kernel, ?_, am_inI_tb (i := 569) (by decide +kernel), am_inI_tb (i := 102) (by decide +kernel), tyX8_ok, nmX8, by decide +kernel⟩
  intro w hw
  have h : u_ws RX8 TX8 3 = (am_lix.getD 8 []).filterMap (fun i => lw_tbl[i]?) := by decide +kernel
  have hg : (u_ws RX8 TX8 3).all goodWord = true := by decide +kernel
  have hw : w ∈ u_ws RX8 TX8 3 := hw
  refine List.mem_filter.mpr ⟨?_, List.all_eq_true.mp hg w hw⟩
  rw [h] at hw
  obtain ⟨i, -, hi⟩ := List.mem_filterMap.mp hw
  exact List.mem_of_getElem? hi
theorem am_co9 : am_CO 9 (RX9, TX9, 3) tyX9 := by
  refine ⟨rfl, by decide +kernel, ?_, am_inI_tb (i := 589) (by decide +kernel), am_inI_tb (i := 104) (by decide +kernel), tyX9_ok, nmX9, by decide +kernel⟩
  intro w hw
  have h : u_ws RX9 TX9 3 = (am_lix.getD 9 []).filterMap (fun i => lw_tbl[i]?) := by decide +kernel
  have hg : (u_ws RX9 TX9 3).all goodWord = true := by decide +kernel
  have hw : w ∈ u_ws RX9 TX9 3 := hw
  refine List.mem_filter.mpr ⟨?_, List.all_eq_true.mp hg w hw⟩
  rw [h] at hw
  obtain ⟨i, -, hi⟩ := List.mem_filterMap.mp hw
  exact List.mem_of_getElem? hi
theorem am_co10 : am_CO 10 (RX10, TX10, 14) tyX10 := by
  refine ⟨rfl, by decide +kernel, ?_, am_inI_tb (i := 289) (by decide +kernel), am_inI_tb (i := 93) (by decide +kernel), tyX10_ok, nmX10, by decide +kernel⟩
  intro w hw
  have h : u_ws RX10 TX10 14 = (am_lix.getD 10 []).filterMap (fun i => lw_tbl[i]?) := by decide +kernel
  have hg : (u_ws RX10 TX10 14).all goodWord = true := by decide +kernel
  have hw : w ∈ u_ws RX10 TX10 14 := hw
  refine List.mem_filter.mpr ⟨?_, List.all_eq_true.mp hg w hw⟩
  rw [h] at hw
  obtain ⟨i, -, hi⟩ := List.mem_filterMap.mp hw
  exact List.mem_of_getElem? hi
theorem am_co11 : am_CO 11 (RX11, TX11, 9) tyX11 := by
  refine ⟨rfl, by decide +kernel, ?_, am_inI_tb (i := 109) (by decide +kernel), am_inI_tb (i := 88) (by decide +kernel), tyX11_ok, nmX11, by decide +kernel⟩
  intro w hw
  have h : u_ws RX11 TX11 9 = (am_lix.getD 11 []).filterMap (fun i => lw_tbl[i]?) := by decide +kernel
  have hg : (u_ws RX11 TX11 9).all goodWord = true := by decide +kernel
  have hw : w ∈ u_ws RX11 TX11 9 := hw
  refine List.mem_filter.mpr ⟨?_, List.all_eq_true.mp hg w hw⟩
  rw [h] at hw
  obtain ⟨i, -, hi⟩ := List.mem_filterMap.mp hw
  exact List.mem_of_getElem? hi
theorem am_co12 : am_CO 12 (RX12, TX12, 36) tyX12 := by
  refine ⟨rfl, by decide +kernel, ?_, am_inI_tb (i := 1046) (by decide +kernel), am_inI_tb (i := 94) (by decide +kernel), tyX12_ok, nmX12, by decide +kernel⟩
  intro w hw
  have h : u_ws RX12 TX12 36 = (am_lix.getD 12 []).filterMap (fun i => lw_tbl[i]?) := by decide +kernel
  have hg : (u_ws RX12 TX12 36).all goodWord = true := by decide +kernel
  have hw : w ∈ u_ws RX12 TX12 36 := hw
  refine List.mem_filter.mpr ⟨?_, List.all_eq_true.mp hg w hw⟩
  rw [h] at hw
  obtain ⟨i, -, hi⟩ := List.mem_filterMap.mp hw
  exact List.mem_of_getElem? hi
theorem am_hCO : am_COs := by
  intro c hc
  match c, hc with
  | 0, _ => exact ⟨_, _, am_co0⟩
  | 1, _ => exact ⟨_, _, am_co1⟩
  | 2, _ => exact ⟨_, _, am_co2⟩
  | 3, _ => exact ⟨_, _, am_co3⟩
  | 4, _ => exact ⟨_, _, am_co4⟩
  | 5, _ => exact ⟨_, _, am_co5⟩
  | 6, _ => exact ⟨_, _, am_co6⟩
  | 7, _ => exact ⟨_, _, am_co7⟩
  | 8, _ => exact ⟨_, _, am_co8⟩
  | 9, _ => exact ⟨_, _, am_co9⟩
  | 10, _ => exact ⟨_, _, am_co10⟩
  | 11, _ => exact ⟨_, _, am_co11⟩
  | 12, _ => exact ⟨_, _, am_co12⟩
  | k + 13, h => omega
theorem am_hAC : ∀ t : FieldType, t = .int ∨ t = .long ∨ t = .boolean → Cond.arrayClass t ∈ am_tb := by
  rintro t (rfl | rfl | rfl)
  · exact am_inI_tb (i := 146) (by decide +kernel)
  · exact am_inI_tb (i := 375) (by decide +kernel)
  · exact am_inI_tb (i := 1159) (by decide +kernel)
theorem am_hLK : am_LK := ⟨am_hCO, am_hFL, am_hAC, am_hCL, am_hCD, ⟨am_inI_tb (i := 725) (by decide +kernel), am_inI_tb (i := 724) (by decide +kernel), am_inI_tb (i := 106) (by decide +kernel)⟩, am_inI_tb (i := 114) (by decide +kernel), am_inI_tb (i := 115) (by decide +kernel), am_hMK⟩
