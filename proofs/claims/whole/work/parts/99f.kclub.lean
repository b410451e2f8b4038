/-! THE CLASS: club -/
def k_E : List (Nat × Nat) := [(1, 10), (20, 10), (20, 10), (20, 10), (20, 100)]
theorem k_E_at {D : List (Nat × Nat)} {i : Nat} {s : Nat × Nat} (h : k_E[i]? = some s) : (am_S ++ (D ++ k_E))[124 + D.length + i]? = some s := by
  rw [← List.append_assoc, List.getElem?_append_right (by rw [List.length_append, am_S_124]; omega), List.length_append, am_S_124, Nat.add_sub_cancel_left]
  exact h
theorem c_clk_old {D E : List (Nat × Nat)} {ρ ρ' : Nat → Nat → Option Nat} {c : Nat} (h : c_clk D ρ c) (hr : ∀ j, ρ' c j = ρ c j) : c_clk (D ++ E) ρ' c := by
  obtain ⟨⟨s0, s1, s2, s3, s4⟩, h2⟩ := h
  have := c_clk_cg (ρ' := ρ') ⟨⟨s0, s1, s2, s3, s4⟩, h2⟩ hr
  exact ⟨⟨am_old_at s0, am_old_at s1, am_old_at s2, am_old_at s3, am_old_at s4⟩, this.2⟩
theorem k_init2 {X : Nat × (Nat → Int)} {D : List (Nat × Nat)} {I J : Nat → Nat → Int} {ρ : Nat → Nat → Option Nat} (d : Nat) : am_E X (d + 1) 5 0 [(0, .inr (.inr (.inl (some (124 + D.length)))))] [] (am_mm (D ++ [(1, 10)]) I J ρ) (fun r => ∃ I2 J2 ρ2, r = (none, am_mm (D ++ k_E) I2 J2 ρ2) ∧ (∀ c j, c < 124 + D.length → I2 c j = I c j ∧ ρ2 c j = ρ c j) ∧ c_clk (D ++ k_E) ρ2 (124 + D.length)) := by
  have hl : (D ++ [(1, 10)]).length = D.length + 1 := by simp
  refine (k_init d (k := 124 + D.length) (by omega) (by rw [hl]; omega) am_new_at).imp ?_
  rintro r ⟨I2, J2, ρ2, rfl, h1, r4, r5, r6, r7⟩
  rw [hl] at h1 r4 r5 r6 r7
  have eD : D ++ [(1, 10)] ++ [(20, 10)] ++ [(20, 10)] ++ [(20, 10)] ++ [(20, 100)] = D ++ k_E := by simp [k_E]
  rw [eD]
  have hm : ∀ j, am_Rf ρ2 (124 + D.length) j = ρ2 (124 + D.length) j := fun j => if_pos (am_mut_ge (by omega))
  refine ⟨I2, J2, ρ2, rfl, fun c j h => h1 c j (by omega) (by omega), ⟨k_E_at (i := 0) rfl, k_E_at (i := 1) rfl, k_E_at (i := 2) rfl, k_E_at (i := 3) rfl, k_E_at (i := 4) rfl⟩, ?_, ?_, ?_, ?_⟩
  · rw [hm, r4]; exact congrArg some (by omega)
  · rw [hm, r5]; exact congrArg some (by omega)
  · rw [hm, r6]; exact congrArg some (by omega)
  · rw [hm, r7]; exact congrArg some (by omega)
theorem k_ct_ccs {I0 K : Nat → Nat → Int} {hs : Nat → Int} {z c q : Nat} {cs : List ps_C} (h : k_ct I0 K hs z c cs q) (h2 : K c 2 = (cs.length : Int)) : c_cs K c cs := ⟨h2, h.2.2.2.2.1, h.2.2.2.2.2.2.1⟩
theorem c_clubN {X : Nat × (Nat → Int)} {D : List (Nat × Nat)} {I J : Nat → Nat → Int} {ρ : Nat → Nat → Option Nat} (d : Nat) {S T : Nat → Int} {hi ran : Int} {row : Nat → Int} (hrel : c_rel D I ρ S T hi ran row) (h21 : S 21 = 5) : am_E X d 89 0 [(0, .inr (.inr (.inl (some 0))))] [] (am_mm D I J ρ) (fun r => r = (some (.inl (-4)), (am_mm D I J ρ))) := by
  have h16 : I 1 6 = S 21 := hrel.1.1.2.2.1
  refine am_e_ss 4 (q := (8, [(0, .inr (.inr (.inl (some 0))))], [.inl 5, .inl ((I 1 6))], (am_mm D I J ρ))) rfl ?_
  refine am_e_icmp2 rfl ⟨by omega, by omega⟩ ⟨by omega, by omega⟩ (fun (hw1 : (I 1 6) < 5) => ?_) (fun (hw1 : ¬ ((I 1 6) < 5)) => ?_)
  · show am_E _ _ _ 14 [(0, .inr (.inr (.inl (some 0))))] [] (am_mm D I J ρ) _
    exfalso
    omega
  · show am_E _ _ _ 11 [(0, .inr (.inr (.inl (some 0))))] [] (am_mm D I J ρ) _
    refine am_e_ss 1 (q := (13, [(0, .inr (.inr (.inl (some 0))))], [.inl (-4)], (am_mm D I J ρ))) rfl ?_
    refine am_e_ireturn rfl rfl ?_
    rfl
theorem c_clubF {X : Nat × (Nat → Int)} {D : List (Nat × Nat)} {I J : Nat → Nat → Int} {ρ : Nat → Nat → Option Nat} (d : Nat) {S S2 T : Nat → Int} {B hi ran : Int} {row : Nat → Int} {a q : Nat} (hok : r_ok S B) (hokT : hi = 1 → r_ok T B) (hrel : c_rel D I ρ S T hi ran row) (h21 : S 21 = (a : Int)) (ha : a < 5) (h24a : S 24 < (a : Int)) (hF : sp_cF S S2 a) (hP : pt_cs (sp_tx S) (S 23).toNat 10 0 [] = (q, none)) : am_E X (d + 20) 89 0 [(0, .inr (.inr (.inl (some 0))))] [] (am_mm D I J ρ) (fun r => ∃ K ρ2, r = (some (.inl (-10 - (q : Int))), am_mm D K J ρ2) ∧ c_rel D K ρ2 S2 T hi ran row ∧ ρ2 35 5 = ρ 35 5 ∧ ∀ c j, 107 ≤ c → c < 124 → K c j = I c j) := by
  have hh := hrel.1
  have h16 : I 1 6 = S 21 := hh.1.2.2.1
  have h18 : I 1 8 = S 23 := hh.1.2.2.2.1
  have htp : ∀ i, i < (S 23).toNat → I 17 i = S (68 + i) := hh.2.2.1.1
  obtain ⟨c, hsp7, hclk0, hcc, hs4x, hs5x⟩ := hrel.2.2.2.2
  obtain ⟨tx1, tx2, tx3⟩ := sp_tx_ok hok
  have hokx := hok
  obtain ⟨o0, oG, oH, oD, o19, o20, o21, o22, o23, o24, oK, oV, oP, oM, oS, oY, oHd, oT, oC, oN⟩ := hokx
  have hl4 := am_lt_at hclk0.1.2.2.2.2
  have hclk := hclk0
  obtain ⟨⟨hsc, hs1, hs2, hs3, hs4⟩, hr1, hr2, hr3, hr4⟩ := hclk
  refine am_e_ss 4 (q := (8, [(0, .inr (.inr (.inl (some 0))))], [.inl 5, .inl ((I 1 6))], (am_mm D I J ρ))) rfl ?_
  refine am_e_icmp2 rfl ⟨by omega, by omega⟩ ⟨by omega, by omega⟩ (fun (hw1 : (I 1 6) < 5) => ?_) (fun (hw1 : ¬ ((I 1 6) < 5)) => ?_)
  · show am_E _ _ _ 14 [(0, .inr (.inr (.inl (some 0))))] [] (am_mm D I J ρ) _
    refine am_e_ss 1 (q := (15, [(0, .inr (.inr (.inl (some 0))))], [.inr (.inr (.inl (some 0)))], (am_mm D I J ρ))) rfl ?_
    refine am_e_getR (c := 11) (m := 9) (f := 7) (w := c) rfl rfl rfl (by decide) (by decide) rfl rfl hsp7 ?_
    show am_E _ _ _ 18 [(0, .inr (.inr (.inl (some 0))))] [.inr (.inr (.inl (some c)))] (am_mm D I J ρ) _
    refine am_e_ss 6 (q := (32, [(0, .inr (.inr (.inl (some 0))))], [.inl ((I 1 8)), .inr (.inr (.inl (some 17))), .inr (.inr (.inl (some c)))], (am_mm D I J ρ))) rfl ?_
    rw [show I 1 8 = (((S 23).toNat : Nat) : Int) by omega]
    show am_E _ _ _ 32 [(0, .inr (.inr (.inl (some 0))))] [.inl ((S 23).toNat : Int), .inr (.inr (.inl (some 17))), .inr (.inr (.inl (some c)))] (am_mm D I J ρ) _
    refine am_e_virtual (Q := fun r => ∃ K1, r = (some (.inl ((am_bi ((pt_cs (sp_tx S) (S 23).toNat 10 0 []).2.isSome = true)))), (am_mm D K1 J (am_up ρ c 8 (some 17)))) ∧ k_pR I K1 (sp_tx S) (S 23).toNat c (pt_cs (sp_tx S) (S 23).toNat 10 0 [])) rfl rfl (Nat.le_of_ble_eq_true rfl) (am_kd_of hsc (by decide)) rfl (Nat.le_of_ble_eq_true rfl) (Nat.le_of_ble_eq_true rfl) (k_parse _ (hs := sp_tx S) (z := (S 23).toNat) hclk0 hcc (by omega) (fun i hi => (htp i hi).trans (tx1 i hi)) tx2 tx3) ?_
    rintro r ⟨K1, rfl, gP⟩
    rw [hP] at gP
    show am_E _ _ _ 35 [(0, .inr (.inr (.inl (some 0))))] [.inl ((am_bi ((pt_cs (sp_tx S) (S 23).toNat 10 0 []).2.isSome = true)))] (am_mm D K1 J (am_up ρ c 8 (some 17))) _
    refine am_e_ss 6 (q := (45, [(1, .inl ((am_bi ((pt_cs (sp_tx S) (S 23).toNat 10 0 []).2.isSome = true)))), (0, .inr (.inr (.inl (some 0))))], [.inl ((am_bi ((pt_cs (sp_tx S) (S 23).toNat 10 0 []).2.isSome = true)))], (am_mm D (am_up K1 1 8 0) J (am_up ρ c 8 (some 17))))) rfl ?_
    refine am_e_ifne rfl (fun hw2 => ?_) (fun hw2 => ?_)
    · show am_E _ _ _ 59 [(1, .inl ((am_bi ((pt_cs (sp_tx S) (S 23).toNat 10 0 []).2.isSome = true)))), (0, .inr (.inr (.inl (some 0))))] [] (am_mm D (am_up K1 1 8 0) J (am_up ρ c 8 (some 17))) _
      exfalso
      rw [hP] at hw2
      exact absurd hw2 (show ¬ (false = true) by decide)
    · show am_E _ _ _ 48 [(1, .inl ((am_bi ((pt_cs (sp_tx S) (S 23).toNat 10 0 []).2.isSome = true)))), (0, .inr (.inr (.inl (some 0))))] [] (am_mm D (am_up K1 1 8 0) J (am_up ρ c 8 (some 17))) _
      refine am_e_ss 2 (q := (51, [(1, .inl ((am_bi ((pt_cs (sp_tx S) (S 23).toNat 10 0 []).2.isSome = true)))), (0, .inr (.inr (.inl (some 0))))], [.inr (.inr (.inl (some 0))), .inl (-10)], (am_mm D (am_up K1 1 8 0) J (am_up ρ c 8 (some 17))))) rfl ?_
      refine am_e_getR (c := 11) (m := 9) (f := 7) (w := c) rfl rfl rfl (by decide) (by decide) rfl rfl ((am_ux_ne (by omega)).trans hsp7) ?_
      show am_E _ _ _ 54 [(1, .inl ((am_bi ((pt_cs (sp_tx S) (S 23).toNat 10 0 []).2.isSome = true)))), (0, .inr (.inr (.inl (some 0))))] [.inr (.inr (.inl (some c))), .inl (-10)] (am_mm D (am_up K1 1 8 0) J (am_up ρ c 8 (some 17))) _
      refine am_e_getfield (c := 1) (m := 10) (f := 1) rfl hsc rfl (by decide) (by decide) ?_
      show am_E _ _ _ 57 [(1, .inl ((am_bi ((pt_cs (sp_tx S) (S 23).toNat 10 0 []).2.isSome = true)))), (0, .inr (.inr (.inl (some 0))))] [.inl (((am_up K1 1 8 0) c 1)), .inl (-10)] (am_mm D (am_up K1 1 8 0) J (am_up ρ c 8 (some 17))) _
      refine am_e_ss 1 (q := (58, [(1, .inl ((am_bi ((pt_cs (sp_tx S) (S 23).toNat 10 0 []).2.isSome = true)))), (0, .inr (.inr (.inl (some 0))))], [.inl ((-10) - ((am_up K1 1 8 0) c 1))], (am_mm D (am_up K1 1 8 0) J (am_up ρ c 8 (some 17))))) rfl ?_
      refine am_e_ireturn rfl rfl ?_
      have e1 : am_up K1 1 8 0 c 1 = (q : Int) := (am_up_ne2 (by omega)).trans gP.2
      rw [e1]
      refine ⟨_, _, rfl, c_rel_F hok hokT hrel ha h24a hF hsp7 (fun k j h1 h2 => (am_up_ne2 (by omega)).trans (gP.1 k j h1)) am_up_at2 rfl, am_ux_ne (by omega), fun k j h1 h2 => (am_up_ne2 (by omega)).trans (gP.1 k j (by unfold k_p2; omega))⟩
  · show am_E _ _ _ 11 [(0, .inr (.inr (.inl (some 0))))] [] (am_mm D I J ρ) _
    exfalso
    omega
theorem c_clubS {X : Nat × (Nat → Int)} {D : List (Nat × Nat)} {I J : Nat → Nat → Int} {ρ : Nat → Nat → Option Nat} (d : Nat) {S S2 T : Nat → Int} {B hi ran : Int} {row : Nat → Int} {a q : Nat} (hok : r_ok S B) (hokT : hi = 1 → r_ok T B) (hrel : c_rel D I ρ S T hi ran row) (h21 : S 21 = (a : Int)) (ha : a < 5) {cs : List ps_C} (hS : sp_cS S S2 a cs) (himg : ∀ e, ρ 35 5 = some e → e + 5 ≤ 124 + D.length) (hP : pt_cs (sp_tx S) (S 23).toNat 10 0 [] = (q, some cs)) : am_E X (d + 20) 89 0 [(0, .inr (.inr (.inl (some 0))))] [] (am_mm D I J ρ) (fun r => ∃ K J2 ρ2, r = (some (.inl (a : Int)), am_mm (D ++ k_E) K J2 ρ2) ∧ c_rel (D ++ k_E) K ρ2 S2 T hi ran row ∧ ρ2 35 5 = ρ 35 5 ∧ ∀ c j, 107 ≤ c → c < 124 → K c j = I c j) := by
  have hh := hrel.1
  have h16 : I 1 6 = S 21 := hh.1.2.2.1
  have h18 : I 1 8 = S 23 := hh.1.2.2.2.1
  have htp : ∀ i, i < (S 23).toNat → I 17 i = S (68 + i) := hh.2.2.1.1
  obtain ⟨c, hsp7, hclk0, hcc, hs4x, hs5x⟩ := hrel.2.2.2.2
  obtain ⟨tx1, tx2, tx3⟩ := sp_tx_ok hok
  have hokx := hok
  obtain ⟨o0, oG, oH, oD, o19, o20, o21, o22, o23, o24, oK, oV, oP, oM, oS, oY, oHd, oT, oC, oN⟩ := hokx
  have hl4 := am_lt_at hclk0.1.2.2.2.2
  have hclk := hclk0
  obtain ⟨⟨hsc, hs1, hs2, hs3, hs4⟩, hr1, hr2, hr3, hr4⟩ := hclk
  refine am_e_ss 4 (q := (8, [(0, .inr (.inr (.inl (some 0))))], [.inl 5, .inl ((I 1 6))], (am_mm D I J ρ))) rfl ?_
  refine am_e_icmp2 rfl ⟨by omega, by omega⟩ ⟨by omega, by omega⟩ (fun (hw1 : (I 1 6) < 5) => ?_) (fun (hw1 : ¬ ((I 1 6) < 5)) => ?_)
  · show am_E _ _ _ 14 [(0, .inr (.inr (.inl (some 0))))] [] (am_mm D I J ρ) _
    refine am_e_ss 1 (q := (15, [(0, .inr (.inr (.inl (some 0))))], [.inr (.inr (.inl (some 0)))], (am_mm D I J ρ))) rfl ?_
    refine am_e_getR (c := 11) (m := 9) (f := 7) (w := c) rfl rfl rfl (by decide) (by decide) rfl rfl hsp7 ?_
    show am_E _ _ _ 18 [(0, .inr (.inr (.inl (some 0))))] [.inr (.inr (.inl (some c)))] (am_mm D I J ρ) _
    refine am_e_ss 6 (q := (32, [(0, .inr (.inr (.inl (some 0))))], [.inl ((I 1 8)), .inr (.inr (.inl (some 17))), .inr (.inr (.inl (some c)))], (am_mm D I J ρ))) rfl ?_
    rw [show I 1 8 = (((S 23).toNat : Nat) : Int) by omega]
    show am_E _ _ _ 32 [(0, .inr (.inr (.inl (some 0))))] [.inl ((S 23).toNat : Int), .inr (.inr (.inl (some 17))), .inr (.inr (.inl (some c)))] (am_mm D I J ρ) _
    refine am_e_virtual (Q := fun r => ∃ K1, r = (some (.inl ((am_bi ((pt_cs (sp_tx S) (S 23).toNat 10 0 []).2.isSome = true)))), (am_mm D K1 J (am_up ρ c 8 (some 17)))) ∧ k_pR I K1 (sp_tx S) (S 23).toNat c (pt_cs (sp_tx S) (S 23).toNat 10 0 [])) rfl rfl (Nat.le_of_ble_eq_true rfl) (am_kd_of hsc (by decide)) rfl (Nat.le_of_ble_eq_true rfl) (Nat.le_of_ble_eq_true rfl) (k_parse _ (hs := sp_tx S) (z := (S 23).toNat) hclk0 hcc (by omega) (fun i hi => (htp i hi).trans (tx1 i hi)) tx2 tx3) ?_
    rintro r ⟨K1, rfl, gP⟩
    rw [hP] at gP
    show am_E _ _ _ 35 [(0, .inr (.inr (.inl (some 0))))] [.inl ((am_bi ((pt_cs (sp_tx S) (S 23).toNat 10 0 []).2.isSome = true)))] (am_mm D K1 J (am_up ρ c 8 (some 17))) _
    refine am_e_ss 6 (q := (45, [(1, .inl ((am_bi ((pt_cs (sp_tx S) (S 23).toNat 10 0 []).2.isSome = true)))), (0, .inr (.inr (.inl (some 0))))], [.inl ((am_bi ((pt_cs (sp_tx S) (S 23).toNat 10 0 []).2.isSome = true)))], (am_mm D (am_up K1 1 8 0) J (am_up ρ c 8 (some 17))))) rfl ?_
    refine am_e_ifne rfl (fun hw2 => ?_) (fun hw2 => ?_)
    · show am_E _ _ _ 59 [(1, .inl ((am_bi ((pt_cs (sp_tx S) (S 23).toNat 10 0 []).2.isSome = true)))), (0, .inr (.inr (.inl (some 0))))] [] (am_mm D (am_up K1 1 8 0) J (am_up ρ c 8 (some 17))) _
      refine am_e_ss 3 (q := (64, [(1, .inl ((am_bi ((pt_cs (sp_tx S) (S 23).toNat 10 0 []).2.isSome = true)))), (0, .inr (.inr (.inl (some 0))))], [.inr (.inr (.inl (some 0))), .inr (.inr (.inl (some 1)))], (am_mm D (am_up K1 1 8 0) J (am_up ρ c 8 (some 17))))) rfl ?_
      refine am_e_getR (c := 11) (m := 9) (f := 7) (w := c) rfl rfl rfl (by decide) (by decide) rfl rfl ((am_ux_ne (by omega)).trans hsp7) ?_
      show am_E _ _ _ 67 [(1, .inl ((am_bi ((pt_cs (sp_tx S) (S 23).toNat 10 0 []).2.isSome = true)))), (0, .inr (.inr (.inl (some 0))))] [.inr (.inr (.inl (some c))), .inr (.inr (.inl (some 1)))] (am_mm D (am_up K1 1 8 0) J (am_up ρ c 8 (some 17))) _
      refine am_e_putR (c := 3) (m := 14) (f := 5) rfl rfl rfl (by decide) (by decide) rfl rfl ?_
      show am_E _ _ _ 70 [(1, .inl ((am_bi ((pt_cs (sp_tx S) (S 23).toNat 10 0 []).2.isSome = true)))), (0, .inr (.inr (.inl (some 0))))] [] (am_mm D (am_up K1 1 8 0) J (am_up (am_up ρ c 8 (some 17)) 1 5 (some c))) _
      refine am_e_ss 1 (q := (71, [(1, .inl ((am_bi ((pt_cs (sp_tx S) (S 23).toNat 10 0 []).2.isSome = true)))), (0, .inr (.inr (.inl (some 0))))], [.inr (.inr (.inl (some 0)))], (am_mm D (am_up K1 1 8 0) J (am_up (am_up ρ c 8 (some 17)) 1 5 (some c))))) rfl ?_
      refine am_e_newR rfl (by decide) ?_
      show am_E _ _ _ 74 [(1, .inl ((am_bi ((pt_cs (sp_tx S) (S 23).toNat 10 0 []).2.isSome = true)))), (0, .inr (.inr (.inl (some 0))))] [.inr (.inr (.inl (some (124 + D.length)))), .inr (.inr (.inl (some 0)))] (am_mm (D ++ [(1, 10)]) (am_z (am_up K1 1 8 0) (124 + D.length) 0) (am_z J (124 + D.length) 0) (am_z (am_up (am_up ρ c 8 (some 17)) 1 5 (some c)) (124 + D.length) none)) _
      refine am_e_ss 1 (q := (75, [(1, .inl ((am_bi ((pt_cs (sp_tx S) (S 23).toNat 10 0 []).2.isSome = true)))), (0, .inr (.inr (.inl (some 0))))], [.inr (.inr (.inl (some (124 + D.length)))), .inr (.inr (.inl (some (124 + D.length)))), .inr (.inr (.inl (some 0)))], (am_mm (D ++ [(1, 10)]) (am_z (am_up K1 1 8 0) (124 + D.length) 0) (am_z J (124 + D.length) 0) (am_z (am_up (am_up ρ c 8 (some 17)) 1 5 (some c)) (124 + D.length) none)))) rfl ?_
      refine am_e_special (Q := fun r => ∃ I2 J2 ρ2, r = (none, (am_mm (D ++ k_E) I2 J2 ρ2)) ∧ (∀ c9 j9, c9 < 124 + D.length → I2 c9 j9 = (am_z (am_up K1 1 8 0) (124 + D.length) 0) c9 j9 ∧ ρ2 c9 j9 = (am_z (am_up (am_up ρ c 8 (some 17)) 1 5 (some c)) (124 + D.length) none) c9 j9) ∧ c_clk (D ++ k_E) ρ2 (124 + D.length)) rfl rfl (Nat.le_of_ble_eq_true rfl) (am_kd_of am_new_at (by decide)) rfl (by decide) (Nat.le_of_ble_eq_true rfl) (Nat.le_of_ble_eq_true rfl) (k_init2 _) ?_
      rintro r ⟨I2, J2, ρ2, rfl, ⟨hq, hclk2⟩⟩
      have m1 : ∀ k j, k < 124 + D.length → I2 k j = am_up K1 1 8 0 k j := fun k j h => ((hq k j h).1).trans (am_zx_ne (by omega))
      have r1 : ∀ k j, k < 124 + D.length → ρ2 k j = am_up (am_up ρ c 8 (some 17)) 1 5 (some c) k j := fun k j h => ((hq k j h).2).trans (am_zx_ne (by omega))
      show am_E _ _ _ 78 [(1, .inl ((am_bi ((pt_cs (sp_tx S) (S 23).toNat 10 0 []).2.isSome = true)))), (0, .inr (.inr (.inl (some 0))))] [.inr (.inr (.inl (some (124 + D.length)))), .inr (.inr (.inl (some 0)))] (am_mm (D ++ k_E) I2 J2 ρ2) _
      refine am_e_putR (c := 11) (m := 9) (f := 7) rfl rfl rfl (by decide) (by decide) rfl rfl ?_
      show am_E _ _ _ 81 [(1, .inl ((am_bi ((pt_cs (sp_tx S) (S 23).toNat 10 0 []).2.isSome = true)))), (0, .inr (.inr (.inl (some 0))))] [] (am_mm (D ++ k_E) I2 J2 (am_up ρ2 0 7 (some (124 + D.length)))) _
      refine am_e_ss 9 (q := (98, [(1, .inl ((am_bi ((pt_cs (sp_tx S) (S 23).toNat 10 0 []).2.isSome = true)))), (0, .inr (.inr (.inl (some 0))))], [.inr (.inr (.inl (some 1)))], (am_mm (D ++ k_E) (am_up I2 1 6 ((I2 1 6) + 1)) J2 (am_up ρ2 0 7 (some (124 + D.length)))))) rfl ?_
      have hMI : ∀ k j, k < 124 + D.length → k_p2 c k → ¬ (k = 1 ∧ (j = 8 ∨ j = 6)) → (am_up I2 1 6 ((I2 1 6) + 1)) k j = I k j := fun k j h1 h2 h3 => (am_up_ne2 (by omega)).trans ((m1 k j h1).trans ((am_up_ne2 (by omega)).trans (gP.1.1 k j h2)))
      have hM1 : ∀ k j, k < 124 + D.length → k ≠ 1 → (am_up I2 1 6 ((I2 1 6) + 1)) k j = K1 k j := fun k j h1 h2 => (am_up_ne2 (by omega)).trans ((m1 k j h1).trans (am_up_ne2 (by omega)))
      have e18 : (am_up I2 1 6 ((I2 1 6) + 1)) 1 8 = 0 := (am_up_ne2 (by omega)).trans ((m1 1 8 (by omega)).trans am_up_at2)
      have e16 : (am_up I2 1 6 ((I2 1 6) + 1)) 1 6 = (a : Int) + 1 := by
        rw [am_up_at2, m1 1 6 (by omega), am_up_ne2 (by omega), gP.1.1 1 6 (by unfold k_p2; omega), h16, h21]
      have er : ∀ k j, k < 124 + D.length → ¬ (k = c ∧ j = 8) → ¬ (k = 0 ∧ j = 7) → ¬ (k = 1 ∧ j = 5) → (am_up ρ2 0 7 (some (124 + D.length))) k j = ρ k j := fun k j h1 h2 h3 h4 => (am_ux_ne (by omega)).trans ((r1 k j h1).trans ((am_ux_ne (by omega)).trans (am_ux_ne (by omega))))
      have er5 : (am_up ρ2 0 7 (some (124 + D.length))) 1 5 = some c := (am_ux_ne (by omega)).trans ((r1 1 5 (by omega)).trans am_ux_at)
      have er7 : (am_up ρ2 0 7 (some (124 + D.length))) 0 7 = some (124 + D.length) := am_ux_at
      have ek : c_clk (D ++ k_E) (am_up ρ2 0 7 (some (124 + D.length))) c := c_clk_old (k_sh_up hclk0 (am_mut_8 hcc)).1 (fun j => (am_ux_ne (by omega)).trans ((r1 c j (by omega)).trans (am_ux_ne (by omega))))
      have ek2 : c_clk (D ++ k_E) (am_up ρ2 0 7 (some (124 + D.length))) (124 + D.length) := c_clk_cg hclk2 (fun j => am_ux_ne (by omega))
      have hwfc := (pt_wf tx2 (by omega) hP).2
      have ecs : c_cs (am_up I2 1 6 ((I2 1 6) + 1)) c cs := c_cs_cg (k_ct_ccs gP.1 gP.2) (fun j i hj => hM1 _ _ (by omega) (by omega))
      have hok2 := (sp_cS_ok hok ha hwfc hS).1
      have hcl := fun K9 => c_cl_hall (K := K9) (E := k_E) hok hh hS ha hwfc hcc hMI e18 e16 ek ((hM1 c 0 (by omega) (by omega)).trans gP.1.2.2.2.1) ecs er5 er (fun m k hm hk => hs5x 4 m k (Or.inl rfl) hm hk)
      refine am_e_virtual (Q := fun r => ∃ K9, r = (none, (am_mm (D ++ k_E) K9 J2 (am_up ρ2 0 7 (some (124 + D.length))))) ∧ (∀ c9 j9, c_lor c9 → K9 c9 j9 = (am_up I2 1 6 ((I2 1 6) + 1)) c9 j9) ∧ c_lo K9 0 S2) rfl rfl (Nat.le_of_ble_eq_true rfl) rfl rfl (Nat.le_of_ble_eq_true rfl) (Nat.le_of_ble_eq_true rfl) (c_ma _ (S := S2) hok2 (hcl I).1) ?_
      rintro r ⟨K9, rfl, ⟨hk1, hk2⟩⟩
      show am_E _ _ _ 101 [(1, .inl ((am_bi ((pt_cs (sp_tx S) (S 23).toNat 10 0 []).2.isSome = true)))), (0, .inr (.inr (.inl (some 0))))] [] (am_mm (D ++ k_E) K9 J2 (am_up ρ2 0 7 (some (124 + D.length)))) _
      refine am_e_ss 5 (q := (110, [(1, .inl ((am_bi ((pt_cs (sp_tx S) (S 23).toNat 10 0 []).2.isSome = true)))), (0, .inr (.inr (.inl (some 0))))], [.inl ((K9 1 6) - 1)], (am_mm (D ++ k_E) K9 J2 (am_up ρ2 0 7 (some (124 + D.length)))))) rfl ?_
      refine am_e_ireturn rfl rfl ?_
      have e1 : K9 1 6 = (a : Int) + 1 := (hk1 1 6 (by unfold c_lor; omega)).trans e16
      rw [show ((K9 1 6) - 1) = (a : Int) by rw [e1]; omega]
      refine ⟨K9, _, _, rfl, c_rel_S (I := I) (ρ := ρ) (S := S) (c := c) hokT hrel hsp7 himg rfl (fun k j h1 h2 h3 h4 => (hk1 k j h3).trans (hMI k j h1 h2 h4)) ek2 er7 er5 er ((hcl K9).2 hk1 hk2), er 35 5 (by omega) (by omega) (by omega) (by omega), fun k j h1 h2 => (hk1 k j (by unfold c_lor; omega)).trans (hMI k j (by omega) (by unfold k_p2; omega) (by omega))⟩
    · show am_E _ _ _ 48 [(1, .inl ((am_bi ((pt_cs (sp_tx S) (S 23).toNat 10 0 []).2.isSome = true)))), (0, .inr (.inr (.inl (some 0))))] [] (am_mm D (am_up K1 1 8 0) J (am_up ρ c 8 (some 17))) _
      exfalso
      exact hw2 (by rw [hP]; rfl)
  · show am_E _ _ _ 11 [(0, .inr (.inr (.inl (some 0))))] [] (am_mm D I J ρ) _
    exfalso
    omega
