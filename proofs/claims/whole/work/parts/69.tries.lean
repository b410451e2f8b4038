/-! THE CLASS: months tried -/
section
variable {D : List (Nat × Nat)} {I : Nat → Nat → Int} {ρ : Nat → Nat → Option Nat} {S S' : Nat → Int} {B : Int}
theorem c_vh_69 (hok : r_ok S B) (hh : c_hall D I ρ 0 S) (hal : sp_al S S') (hro : c_roll I 69 70 S') : c_vh D I ρ 69 S' := by
  have h19 := r_ok_19 hok
  obtain ⟨⟨a1, a2, a3, a4, a5⟩, ⟨b1, b2, b3, b4⟩, ⟨d1, d2⟩, e1, f1, g1, i1⟩ := hh
  refine ⟨a1.trans (hal 19 (by omega)), a2.trans (hal 20 (by omega)), hro.1, hro.2.1, hro.2.2.1, ?_, c_mems_al g1 hal⟩
  intro m b hm hb
  rw [← hal 19 (by omega)] at hm
  rw [← hal 20 (by omega)] at hb
  rw [← sp_like_cg hal (r_ok_24 hok) (by omega) (by omega)]
  exact (f1 m b hm hb).1
theorem c_mh_69 (hok : r_ok S B) (hh : c_hall D I ρ 0 S) (hal : sp_al S S') : c_mh D I ρ S' := by
  have h19 := r_ok_19 hok
  have h24 := r_ok_24 hok
  obtain ⟨h1, h2, h3, h4, c, g1, g2, g3, g4⟩ := c_hall_mh hh
  refine ⟨h1.trans (hal 19 (by omega)), h2.trans (hal 20 (by omega)), ?_, c_mems_al h4 hal, c, g1, g2, g3, by rw [← sp_come_cg hal h24]; exact g4⟩
  intro m b hm hb
  rw [← hal 19 (by omega)] at hm
  rw [← hal 20 (by omega)] at hb
  rw [← sp_like_cg hal h24 (by omega) (by omega), ← sp_odds_cg hal h24 (by omega) (by omega)]
  exact h3 m b hm hb
end
theorem c_monthI_69 {X : Nat × (Nat → Int)} {D : List (Nat × Nat)} {I J : Nat → Nat → Int} {ρ : Nat → Nat → Option Nat} (d : Nat) {S : Nat → Int} {B b : Int} (hok : r_ok S B) (hwf : sp_wfS S) (hB : B ≤ 1900000000) (h0 : S 0 ≤ 199) (hb : 0 ≤ b ∧ b < S 20) (hmh : c_mh D I ρ S) (hro : c_roll I 69 70 S) : am_E X (d + 3) 54 0 [(0, .inr (.inr (.inl (some 69)))), (1, .inr (.inr (.inl (some 1)))), (2, .inl b)] [] (am_mm D I J ρ) (fun q => ∃ Q, q = (some (.inl (sp_cmc S b (S 19).toNat)), am_mm D (am_wp uP69 I Q) J ρ) ∧ c_roll Q 69 70 (sp_go S b)) := by
  obtain ⟨n, rfl⟩ : ∃ n : Nat, b = (n : Int) := ⟨b.toNat, by omega⟩
  exact c_month_69 d hok hwf hB h0 (by omega) hmh hro
theorem c_try_l {X : Nat × (Nat → Int)} {D : List (Nat × Nat)} {I J : Nat → Nat → Int} {ρ : Nat → Nat → Option Nat} (d : Nat) {S T : Nat → Int} {A B way n : Int} (hok : r_ok S A) (hwf : sp_wfS S) (hh : c_hall D I ρ 0 S) (hal : sp_al S T) (hok2 : r_ok T B) (hro : c_roll I 69 70 T) (hway : 0 ≤ way ∧ way ≤ 5) {cc : Int} {i nn : Nat} (hn : n = (i : Int) + (nn : Int) ∧ n ≤ 6) (hB : B + 80050 * (nn : Int) ≤ 1900000000) (h0 : T 0 + (nn : Int) ≤ 199) : am_E X (d + 5) 110 19 [(4, .inl (i : Int)), (3, .inl cc), (2, .inl way), (1, .inl n), (0, .inr (.inr (.inl (some 0))))] [] (am_mm D I J ρ) (fun q => ∃ Q ρ2, q = (some (.inl (sp_rn way nn (T, cc)).2), am_mm D (am_wp uZ I Q) J ρ2) ∧ (∀ k j, k ≠ 71 → ρ2 k j = ρ k j) ∧ c_roll Q 69 70 (sp_rn way nn (T, cc)).1) := by
  have hwf2 := sp_wfS_cg hal (r_ok_24 hok) hwf
  have ob := sp_ops_b hok2
  have t19 := r_ok_19 hok2
  refine am_e_ss 2 (q := (22, [(4, .inl (i : Int)), (3, .inl cc), (2, .inl way), (1, .inl n), (0, .inr (.inr (.inl (some 0))))], [.inl n, .inl (i : Int)], (am_mm D I J ρ))) rfl ?_
  refine am_e_icmp2 rfl ⟨by omega, by omega⟩ ⟨by omega, by omega⟩ (fun (hw1 : n ≤ (i : Int)) => ?_) (fun (hw1 : ¬ (n ≤ (i : Int))) => ?_)
  · show am_E _ _ _ 77 [(4, .inl (i : Int)), (3, .inl cc), (2, .inl way), (1, .inl n), (0, .inr (.inr (.inl (some 0))))] [] (am_mm D I J ρ) _
    refine am_e_ss 1 (q := (78, [(4, .inl (i : Int)), (3, .inl cc), (2, .inl way), (1, .inl n), (0, .inr (.inr (.inl (some 0))))], [.inl cc], (am_mm D I J ρ))) rfl ?_
    refine am_e_ireturn rfl rfl ?_
    have er : sp_rn way nn (T, cc) = (T, cc) := by
      cases nn with
      | zero => rfl
      | succ n' => exact if_pos (show sp_ops T = 0 by omega)
    rw [er]
    exact ⟨I, ρ, am_r_wp uZ am_k_id, fun _ _ _ => rfl, hro⟩
  · show am_E _ _ _ 25 [(4, .inl (i : Int)), (3, .inl cc), (2, .inl way), (1, .inl n), (0, .inr (.inr (.inl (some 0))))] [] (am_mm D I J ρ) _
    refine am_e_ss 4 (q := (33, [(4, .inl (i : Int)), (3, .inl cc), (2, .inl way), (1, .inl n), (0, .inr (.inr (.inl (some 0))))], [.inr (.inr (.inl (some 69))), .inr (.inr (.inl (some 71)))], (am_mm D I J ρ))) rfl ?_
    refine am_e_virtual (Q := fun r => ∃ Q231, r = (none, (am_mm D (am_wp uC I Q231) J (am_up ρ 71 1 (some 69)))) ∧ c_ords Q231 T ∧ c_voi Q231 (sp_vl T 0) (T 19).toNat) rfl rfl (Nat.le_of_ble_eq_true rfl) rfl rfl (Nat.le_of_ble_eq_true rfl) (Nat.le_of_ble_eq_true rfl) (c_collect_69 _ hok2 (c_vh_69 hok hh hal hro) hwf2) ?_
    rintro r ⟨Q231, rfl, ⟨hord, hvoi⟩⟩
    show am_E _ _ _ 36 [(4, .inl (i : Int)), (3, .inl cc), (2, .inl way), (1, .inl n), (0, .inr (.inr (.inl (some 0))))] [] (am_mm D (am_wp uC I Q231) J (am_up ρ 71 1 (some 69))) _
    have ho3 := hord.1
    have hordK : c_ords (am_wp uC I Q231) T := ⟨hord.1, hord.2.1, fun j hj => am_rowl_cg (hord.2.2 j hj) (fun i _ => am_wp_in (show uC (74 + j) _ = true from (by rcases (show j = 0 ∨ j = 1 ∨ j = 2 ∨ j = 3 ∨ j = 4 ∨ j = 5 by omega) with rfl | rfl | rfl | rfl | rfl | rfl <;> rfl)))⟩
    have hvoiK : c_voi (am_wp uC I Q231) (sp_vl T 0) (T 19).toNat := ⟨hvoi.1, fun j hj hn => am_rowl_cg (hvoi.2.1 j hj hn) (fun i _ => am_wp_in (show uC (81 + j) _ = true from (by rcases (show j = 0 ∨ j = 1 ∨ j = 2 ∨ j = 3 ∨ j = 4 ∨ j = 5 by omega) with rfl | rfl | rfl | rfl | rfl | rfl <;> rfl))), hvoi.2.2.1, fun a b ha hb => (am_wp_in (show uC (91 + a) b = true from (by rcases (show a = 0 ∨ a = 1 ∨ a = 2 ∨ a = 3 ∨ a = 4 ∨ a = 5 by omega) with rfl | rfl | rfl | rfl | rfl | rfl <;> rfl))).trans (hvoi.2.2.2 a b ha hb)⟩
    have hhK : c_hall D (am_wp uC I Q231) (am_up ρ 71 1 (some 69)) 0 S := c_hall_cg hok (Or.inl rfl) hh (fun c i h => ((am_k_wp (uC_uZ) (am_k_id))) c i (uZ_fx h)) (fun k j hk => if_neg (by omega))
    have hvhK := c_vh_69 hok hhK hal hro
    have hmhK := c_mh_69 hok hhK hal
    refine am_e_ss 3 (q := (43, [(4, .inl (i : Int)), (3, .inl cc), (2, .inl way), (1, .inl n), (0, .inr (.inr (.inl (some 0))))], [.inl ((Q231 71 3))], (am_mm D (am_wp uC I Q231) J (am_up ρ 71 1 (some 69))))) rfl ?_
    refine am_e_if2 rfl ⟨by omega, by omega⟩ (fun (hw2 : ¬ (Q231 71 3) = 0) => ?_) (fun (hw2 : ¬ (¬ (Q231 71 3) = 0)) => ?_)
    · show am_E _ _ _ 49 [(4, .inl (i : Int)), (3, .inl cc), (2, .inl way), (1, .inl n), (0, .inr (.inr (.inl (some 0))))] [] (am_mm D (am_wp uC I Q231) J (am_up ρ 71 1 (some 69))) _
      refine am_e_ss 8 (q := (63, [(4, .inl (i : Int)), (3, .inl cc), (2, .inl way), (1, .inl n), (0, .inr (.inr (.inl (some 0))))], [.inl way, .inr (.inr (.inl (some 71))), .inr (.inr (.inl (some 1))), .inr (.inr (.inl (some 69))), .inl cc], (am_mm D (am_wp uC I Q231) J (am_up ρ 71 1 (some 69))))) rfl ?_
      refine am_e_virtual (Q := fun r => r = (some (.inl ((sp_cho T (sp_vl T 0) way))), (am_mm D (am_wp uC I Q231) J (am_up ρ 71 1 (some 69))))) rfl rfl (Nat.le_of_ble_eq_true rfl) rfl rfl (Nat.le_of_ble_eq_true rfl) (Nat.le_of_ble_eq_true rfl) (c_pick_69 _ (VL := sp_vl T 0) hok2 hordK (fun _ => hvoiK) sp_vl_vcs ⟨by omega, by omega⟩ (if_pos ⟨rfl, rfl⟩) hvhK.1 hvhK.2.2.1 hvhK.2.2.2.1) ?_
      rintro r rfl
      show am_E _ _ _ 66 [(4, .inl (i : Int)), (3, .inl cc), (2, .inl way), (1, .inl n), (0, .inr (.inr (.inl (some 0))))] [.inl ((sp_cho T (sp_vl T 0) way)), .inr (.inr (.inl (some 1))), .inr (.inr (.inl (some 69))), .inl cc] (am_mm D (am_wp uC I Q231) J (am_up ρ 71 1 (some 69))) _
      have cb := sp_c0_b (way := way) hok2 (by omega)
      have cb2 : 0 ≤ sp_cho T (sp_vl T 0) way ∧ sp_cho T (sp_vl T 0) way < T 20 := cb
      have t20 := r_ok_19 hok2
      refine am_e_virtual (Q := fun r => ∃ Q232, r = (some (.inl ((sp_cmc T (sp_cho T (sp_vl T 0) way) (T 19).toNat))), (am_mm D (am_wp uP69 (am_wp uC I Q231) Q232) J (am_up ρ 71 1 (some 69)))) ∧ c_roll Q232 69 70 (sp_go T (sp_cho T (sp_vl T 0) way))) rfl rfl (Nat.le_of_ble_eq_true rfl) rfl rfl (Nat.le_of_ble_eq_true rfl) (Nat.le_of_ble_eq_true rfl) (c_monthI_69 _ (b := (sp_cho T (sp_vl T 0) way)) hok2 hwf2 (by omega) (by omega) ⟨by omega, by omega⟩ hmhK hro) ?_
      rintro r ⟨Q232, rfl, hrg⟩
      show am_E _ _ _ 69 [(4, .inl (i : Int)), (3, .inl cc), (2, .inl way), (1, .inl n), (0, .inr (.inr (.inl (some 0))))] [.inl ((sp_cmc T (sp_cho T (sp_vl T 0) way) (T 19).toNat)), .inl cc] (am_mm D (am_wp uP69 (am_wp uC I Q231) Q232) J (am_up ρ 71 1 (some 69))) _
      have hhK2 : c_hall D (am_wp uP69 (am_wp uC I Q231) Q232) (am_up ρ 71 1 (some 69)) 0 S := c_hall_cg hok (Or.inl rfl) hh (fun c i h => ((am_k_wp (uP69_uZ) (am_k_wp (uC_uZ) (am_k_id)))) c i (uZ_fx h)) (fun k j hk => if_neg (by omega))
      refine am_e_ss 4 (q := (19, [(4, .inl ((i : Int) + 1)), (3, .inl (cc + (sp_cmc T (sp_cho T (sp_vl T 0) way) (T 19).toNat))), (2, .inl way), (1, .inl n), (0, .inr (.inr (.inl (some 0))))], [], (am_mm D (am_wp uP69 (am_wp uC I Q231) Q232) J (am_up ρ 71 1 (some 69))))) rfl ?_
      obtain ⟨nn', rfl⟩ : ∃ nn', nn = nn' + 1 := ⟨nn - 1, by omega⟩
      have ga := sp_go_al (b := sp_c0 T way) hok2 ⟨cb.1, by omega⟩
      have hok3 := sp_go_ok (b := sp_c0 T way) hok2 hwf2 ⟨cb.1, by omega⟩ (by omega)
      have hg0 := sp_go_0 (S := T) (b := sp_c0 T way)
      have er : sp_rn way (nn' + 1) (T, cc) = sp_rn way nn' (sp_go T (sp_c0 T way), cc + sp_cmc T (sp_c0 T way) (T 19).toNat) := if_neg (show ¬ sp_ops T = 0 by omega)
      rw [er]
      refine (am_less (lv := [(4, .inl ((i + 1) : Int)), (3, .inl ((cc + (sp_cmc T (sp_cho T (sp_vl T 0) way) (T 19).toNat)))), (2, .inl way), (1, .inl n), (0, .inr (.inr (.inl (some 0))))]) rfl (List.forall_mem_cons.mpr ⟨rfl, List.forall_mem_cons.mpr ⟨rfl, List.forall_mem_cons.mpr ⟨rfl, List.forall_mem_cons.mpr ⟨rfl, List.forall_mem_cons.mpr ⟨rfl, List.forall_mem_nil _⟩⟩⟩⟩⟩) (c_try_l (I := am_wp uP69 (am_wp uC I Q231) Q232) d (i := i + 1) (nn := nn') (B := B + 80050) hok hwf hhK2 (sp_al_t hal ga) hok3 hrg hway (by omega) (by omega) (by omega))).imp ?_
      rintro q ⟨Q9, ρ9, rfl, hr9, h9⟩
      exact ⟨Q9, ρ9, am_r_wk uZ (am_k_wp (uP69_uZ) (am_k_wp (uC_uZ) (am_k_id))), fun k j hk => (hr9 k j hk).trans (if_neg (by omega)), h9⟩
    · show am_E _ _ _ 46 [(4, .inl (i : Int)), (3, .inl cc), (2, .inl way), (1, .inl n), (0, .inr (.inr (.inl (some 0))))] [] (am_mm D (am_wp uC I Q231) J (am_up ρ 71 1 (some 69))) _
      refine am_e_ss 2 (q := (78, [(4, .inl (i : Int)), (3, .inl cc), (2, .inl way), (1, .inl n), (0, .inr (.inr (.inl (some 0))))], [.inl cc], (am_mm D (am_wp uC I Q231) J (am_up ρ 71 1 (some 69))))) rfl ?_
      refine am_e_ireturn rfl rfl ?_
      have er : sp_rn way nn (T, cc) = (T, cc) := by
        cases nn with
        | zero => rfl
        | succ n' => exact if_pos (show sp_ops T = 0 by omega)
      rw [er]
      exact ⟨_, (am_up ρ 71 1 (some 69)), am_r_wp uZ (am_k_wp (uC_uZ) (am_k_id)), fun k j hk => if_neg (by omega), hro⟩
termination_by nn
decreasing_by all_goals omega
theorem c_try {X : Nat × (Nat → Int)} {D : List (Nat × Nat)} {I J : Nat → Nat → Int} {ρ : Nat → Nat → Option Nat} (d : Nat) {S : Nat → Int} {B : Int} (hok : r_ok S B) (hwf : sp_wfS S) (hh : c_hall D I ρ 0 S) {n way : Int} (hway : 0 ≤ way ∧ way ≤ 5) (hn : 0 ≤ n ∧ n ≤ 6) (hB : B + 480300 ≤ 1900000000) (h0 : S 0 ≤ 190) : am_E X (d + 5) 110 0 [(0, .inr (.inr (.inl (some 0)))), (1, .inl n), (2, .inl way)] [] (am_mm D I J ρ) (fun q => ∃ Q ρ2, q = (some (.inl (sp_rn way n.toNat (S, 0)).2), am_mm D (am_wp uZ I Q) J ρ2) ∧ (∀ k j, k ≠ 71 → ρ2 k j = ρ k j) ∧ c_roll Q 69 70 (sp_rn way n.toNat (S, 0)).1) := by
  have hh0 := hh
  obtain ⟨⟨h12, h14, h16, h18, h110⟩, ⟨hr0, hhr, hhd, hgl⟩, ⟨htp, hhn⟩, hbk, hlo, hmem, c, hρc, ⟨hsc0, hcc, hc0, hcs⟩⟩ := hh
  have hsc : (am_S ++ D)[c]? = some (1, 10) := hsc0.1.1
  have h12 : I 1 2 = S 19 := h12
  have h14 : I 1 4 = S 20 := h14
  have h16 : I 1 6 = S 21 := h16
  have h18 : I 1 8 = S 23 := h18
  have h110 : I 1 10 = S 22 := h110
  have hr0 : I 2 0 = S 0 := hr0
  have hhr : I 2 1 = am_bits (sp_hp S) 6 := hhr
  have hhd : I 2 2 = am_bits (sp_dp S) 6 := hhd
  have hgl : ∀ m, m < (S 19).toNat → I 3 m = S (1 + m) := hgl
  have htp : ∀ i, i < (S 23).toNat → I 17 i = S (68 + i) := htp
  have hhn : ∀ i, i < (S 22).toNat → I 18 i = S (62 + i) := hhn
  have hbk : ∀ b, b < (S 20).toNat → I (6 + b) 0 = S (38 + b) ∧ I (6 + b) 1 = S (44 + b) ∧ I (6 + b) 2 = S (50 + b) ∧ I (6 + b) 3 = S (56 + b) := hbk
  have hlo : ∀ m b : Nat, m < (S 19).toNat → b < (S 20).toNat → I (20 + m) b = sp_like S m b ∧ I (27 + m) b = sp_odds S m b := hlo
  have hmem : c_mems D I ρ 4 S := hmem
  have hρc : ρ 1 5 = some c := hρc
  have hh := hh0
  have h19 := r_ok_19 hok
  have hokx := hok
  obtain ⟨o0, oG, oH, oD, o19, o20, o21, o22, o23, o24, oK, oV, oP, oM, oS, oY, oHd, oT, oC, oN⟩ := hok
  have hok := hokx
  refine am_e_ss 5 (q := (11, [(0, .inr (.inr (.inl (some 0)))), (1, .inl n), (2, .inl way)], [.inr (.inr (.inl (some 2))), .inr (.inr (.inl (some 69)))], (am_mm D I J ρ))) rfl ?_
  refine am_e_virtual (Q := fun r => ∃ Q233, r = (none, (am_mm D (am_wp uK69 I Q233) J ρ)) ∧ Q233 69 0 = I 2 0 ∧ Q233 69 1 = I 2 1 ∧ Q233 69 2 = I 2 2 ∧ ∀ i, i < 6 → Q233 70 i = I 3 i) rfl rfl (Nat.le_of_ble_eq_true rfl) rfl rfl (Nat.le_of_ble_eq_true rfl) (Nat.le_of_ble_eq_true rfl) (c_copyRoll_69 _) ?_
  rintro r ⟨Q233, rfl, ⟨k1, k2, k3, k4⟩⟩
  show am_E _ _ _ 14 [(0, .inr (.inr (.inl (some 0)))), (1, .inl n), (2, .inl way)] [] (am_mm D (am_wp uK69 I Q233) J ρ) _
  refine am_e_ss 4 (q := (19, [(4, .inl 0), (3, .inl 0), (0, .inr (.inr (.inl (some 0)))), (1, .inl n), (2, .inl way)], [], (am_mm D (am_wp uK69 I Q233) J ρ))) rfl ?_
  have hhK : c_hall D (am_wp uK69 I Q233) ρ 0 S := c_hall_cg hok (Or.inl rfl) hh (fun c i h => ((am_k_wp (uK69_uZ) (am_k_id))) c i (uZ_fx h)) (fun _ _ _ => rfl)
  refine (am_less (lv := [(4, .inl (0 : Int)), (3, .inl 0), (2, .inl way), (1, .inl n), (0, .inr (.inr (.inl (some 0))))]) rfl (List.forall_mem_cons.mpr ⟨rfl, List.forall_mem_cons.mpr ⟨rfl, List.forall_mem_cons.mpr ⟨rfl, List.forall_mem_cons.mpr ⟨rfl, List.forall_mem_cons.mpr ⟨rfl, List.forall_mem_nil _⟩⟩⟩⟩⟩) (c_try_l (I := am_wp uK69 I Q233) d (T := S) (i := 0) (nn := n.toNat) (A := B) (B := B) hok hwf hhK sp_al_r hok ⟨k1.trans hr0, k2.trans hhr, k3.trans hhd, fun m hm => (k4 m (by omega)).trans (hgl m hm)⟩ hway (by omega) (by omega) (by omega))).imp ?_
  rintro q ⟨Q9, ρ9, rfl, hr9, h9⟩
  exact ⟨Q9, ρ9, am_r_wk uZ (am_k_wp (uK69_uZ) (am_k_id)), hr9, h9⟩
theorem c_run {X : Nat × (Nat → Int)} {D : List (Nat × Nat)} {I J : Nat → Nat → Int} {ρ : Nat → Nat → Option Nat} (d : Nat) {S : Nat → Int} {B : Int} (hok : r_ok S B) (hwf : sp_wfS S) (hh : c_hall D I ρ 0 S) {n way what : Int} (hn : -2147483648 ≤ n ∧ n < 2147483648) (hway : -2147483648 ≤ way ∧ way < 2147483648) (hwhat : -2147483648 ≤ what ∧ what < 2147483648) (hB : B + 480300 ≤ 1900000000) (h0 : S 0 ≤ 190) : am_E X (d + 6) 109 0 [(0, .inr (.inr (.inl (some 0)))), (1, .inl n), (2, .inl way), (3, .inl what)] [] (am_mm D I J ρ) (fun q => ∃ Q ρ2, q = (some (.inl (sp_run S n way what)), am_mm D (am_wp uZ I Q) J ρ2) ∧ ∀ k j, k ≠ 71 → ρ2 k j = ρ k j) := by
  have hh0 := hh
  obtain ⟨⟨h12, h14, h16, h18, h110⟩, ⟨hr0, hhr, hhd, hgl⟩, ⟨htp, hhn⟩, hbk, hlo, hmem, c, hρc, ⟨hsc0, hcc, hc0, hcs⟩⟩ := hh
  have hsc : (am_S ++ D)[c]? = some (1, 10) := hsc0.1.1
  have h12 : I 1 2 = S 19 := h12
  have h14 : I 1 4 = S 20 := h14
  have h16 : I 1 6 = S 21 := h16
  have h18 : I 1 8 = S 23 := h18
  have h110 : I 1 10 = S 22 := h110
  have hr0 : I 2 0 = S 0 := hr0
  have hhr : I 2 1 = am_bits (sp_hp S) 6 := hhr
  have hhd : I 2 2 = am_bits (sp_dp S) 6 := hhd
  have hgl : ∀ m, m < (S 19).toNat → I 3 m = S (1 + m) := hgl
  have htp : ∀ i, i < (S 23).toNat → I 17 i = S (68 + i) := htp
  have hhn : ∀ i, i < (S 22).toNat → I 18 i = S (62 + i) := hhn
  have hbk : ∀ b, b < (S 20).toNat → I (6 + b) 0 = S (38 + b) ∧ I (6 + b) 1 = S (44 + b) ∧ I (6 + b) 2 = S (50 + b) ∧ I (6 + b) 3 = S (56 + b) := hbk
  have hlo : ∀ m b : Nat, m < (S 19).toNat → b < (S 20).toNat → I (20 + m) b = sp_like S m b ∧ I (27 + m) b = sp_odds S m b := hlo
  have hmem : c_mems D I ρ 4 S := hmem
  have hρc : ρ 1 5 = some c := hρc
  have hh := hh0
  have h19 := r_ok_19 hok
  have hokx := hok
  obtain ⟨o0, oG, oH, oD, o19, o20, o21, o22, o23, o24, oK, oV, oP, oM, oS, oY, oHd, oT, oC, oN⟩ := hok
  have hok := hokx
  refine am_e_ss 2 (q := (3, [(0, .inr (.inr (.inl (some 0)))), (1, .inl n), (2, .inl way), (3, .inl what)], [.inl 10, .inl what], (am_mm D I J ρ))) rfl ?_
  refine am_e_icmp2 rfl ⟨by omega, by omega⟩ ⟨by omega, by omega⟩ (fun (hw1 : what < 10) => ?_) (fun (hw1 : ¬ (what < 10)) => ?_)
  · show am_E _ _ _ 24 [(0, .inr (.inr (.inl (some 0)))), (1, .inl n), (2, .inl way), (3, .inl what)] [] (am_mm D I J ρ) _
    refine am_e_ss 3 (q := (28, [(4, .inl 0), (0, .inr (.inr (.inl (some 0)))), (1, .inl n), (2, .inl way), (3, .inl what)], [.inl way], (am_mm D I J ρ))) rfl ?_
    refine am_e_static (Q := fun r => r = (some (.inl ((am_bi (0 ≤ way ∧ way ≤ 5)))), (am_mm D I J ρ))) rfl (Nat.le_of_ble_eq_true rfl) rfl (Nat.le_of_ble_eq_true rfl) (Nat.le_of_ble_eq_true rfl) (c_isWay _ (v := way) ⟨by omega, by omega⟩) ?_
    rintro r rfl
    show am_E _ _ _ 31 [(4, .inl 0), (0, .inr (.inr (.inl (some 0)))), (1, .inl n), (2, .inl way), (3, .inl what)] [.inl ((am_bi (0 ≤ way ∧ way ≤ 5)))] (am_mm D I J ρ) _
    refine am_e_ifeq rfl (fun hw2 => ?_) (fun hw2 => ?_)
    · show am_E _ _ _ 48 [(4, .inl 0), (0, .inr (.inr (.inl (some 0)))), (1, .inl n), (2, .inl way), (3, .inl what)] [] (am_mm D I J ρ) _
      refine am_e_ss 1 (q := (51, [(4, .inl 0), (0, .inr (.inr (.inl (some 0)))), (1, .inl n), (2, .inl way), (3, .inl what)], [.inl (-10001)], (am_mm D I J ρ))) rfl ?_
      refine am_e_ireturn rfl rfl ?_
      rw [show sp_run S n way what = (-10001) by (unfold sp_run; (repeat' split) <;> first | rfl | (exfalso; omega))]
      exact ⟨I, ρ, am_r_wp uZ am_k_id, fun _ _ _ => rfl⟩
    · show am_E _ _ _ 34 [(4, .inl 0), (0, .inr (.inr (.inl (some 0)))), (1, .inl n), (2, .inl way), (3, .inl what)] [] (am_mm D I J ρ) _
      refine am_e_ss 1 (q := (36, [(4, .inl 0), (0, .inr (.inr (.inl (some 0)))), (1, .inl n), (2, .inl way), (3, .inl what)], [.inl 0], (am_mm D I J ρ))) rfl ?_
      refine am_e_s (q := (39, [(4, .inl 0), (0, .inr (.inr (.inl (some 0)))), (1, .inl n), (2, .inl way), (3, .inl what)], [], (am_mm D I J ρ))) rfl rfl ?_
      refine am_e_ss 1 (q := (40, [(4, .inl 0), (0, .inr (.inr (.inl (some 0)))), (1, .inl n), (2, .inl way), (3, .inl what)], [.inl what], (am_mm D I J ρ))) rfl ?_
      refine am_e_if2 rfl ⟨by omega, by omega⟩ (fun (hw4 : what < 0) => ?_) (fun (hw4 : ¬ (what < 0)) => ?_)
      · show am_E _ _ _ 48 [(4, .inl 0), (0, .inr (.inr (.inl (some 0)))), (1, .inl n), (2, .inl way), (3, .inl what)] [] (am_mm D I J ρ) _
        refine am_e_ss 1 (q := (51, [(4, .inl 0), (0, .inr (.inr (.inl (some 0)))), (1, .inl n), (2, .inl way), (3, .inl what)], [.inl (-10001)], (am_mm D I J ρ))) rfl ?_
        refine am_e_ireturn rfl rfl ?_
        rw [show sp_run S n way what = (-10001) by (unfold sp_run; (repeat' split) <;> first | rfl | (exfalso; omega))]
        exact ⟨I, ρ, am_r_wp uZ am_k_id, fun _ _ _ => rfl⟩
      · show am_E _ _ _ 43 [(4, .inl 0), (0, .inr (.inr (.inl (some 0)))), (1, .inl n), (2, .inl way), (3, .inl what)] [] (am_mm D I J ρ) _
        refine am_e_ss 2 (q := (45, [(4, .inl 0), (0, .inr (.inr (.inl (some 0)))), (1, .inl n), (2, .inl way), (3, .inl what)], [.inl 2, .inl what], (am_mm D I J ρ))) rfl ?_
        refine am_e_icmp2 rfl ⟨by omega, by omega⟩ ⟨by omega, by omega⟩ (fun (hw5 : what ≤ 2) => ?_) (fun (hw5 : ¬ (what ≤ 2)) => ?_)
        · show am_E _ _ _ 52 [(4, .inl 0), (0, .inr (.inr (.inl (some 0)))), (1, .inl n), (2, .inl way), (3, .inl what)] [] (am_mm D I J ρ) _
          refine am_e_ss 1 (q := (53, [(4, .inl 0), (0, .inr (.inr (.inl (some 0)))), (1, .inl n), (2, .inl way), (3, .inl what)], [.inl n], (am_mm D I J ρ))) rfl ?_
          refine am_e_if2 rfl ⟨by omega, by omega⟩ (fun (hw6 : n < 0) => ?_) (fun (hw6 : ¬ (n < 0)) => ?_)
          · show am_E _ _ _ 62 [(4, .inl 0), (0, .inr (.inr (.inl (some 0)))), (1, .inl n), (2, .inl way), (3, .inl what)] [] (am_mm D I J ρ) _
            refine am_e_ss 1 (q := (65, [(4, .inl 0), (0, .inr (.inr (.inl (some 0)))), (1, .inl n), (2, .inl way), (3, .inl what)], [.inl (-10002)], (am_mm D I J ρ))) rfl ?_
            refine am_e_ireturn rfl rfl ?_
            rw [show sp_run S n way what = (-10002) by (unfold sp_run; (repeat' split) <;> first | rfl | (exfalso; omega))]
            exact ⟨I, ρ, am_r_wp uZ am_k_id, fun _ _ _ => rfl⟩
          · show am_E _ _ _ 56 [(4, .inl 0), (0, .inr (.inr (.inl (some 0)))), (1, .inl n), (2, .inl way), (3, .inl what)] [] (am_mm D I J ρ) _
            refine am_e_ss 2 (q := (59, [(4, .inl 0), (0, .inr (.inr (.inl (some 0)))), (1, .inl n), (2, .inl way), (3, .inl what)], [.inl 6, .inl n], (am_mm D I J ρ))) rfl ?_
            refine am_e_icmp2 rfl ⟨by omega, by omega⟩ ⟨by omega, by omega⟩ (fun (hw7 : n ≤ 6) => ?_) (fun (hw7 : ¬ (n ≤ 6)) => ?_)
            · show am_E _ _ _ 66 [(4, .inl 0), (0, .inr (.inr (.inl (some 0)))), (1, .inl n), (2, .inl way), (3, .inl what)] [] (am_mm D I J ρ) _
              refine am_e_ss 3 (q := (69, [(4, .inl 0), (0, .inr (.inr (.inl (some 0)))), (1, .inl n), (2, .inl way), (3, .inl what)], [.inl way, .inl n, .inr (.inr (.inl (some 0)))], (am_mm D I J ρ))) rfl ?_
              refine am_e_virtual (Q := fun r => ∃ Q234 ρ234, r = (some (.inl ((sp_rn way (n).toNat (S, 0)).2)), (am_mm D (am_wp uZ I Q234) J ρ234)) ∧ (∀ k j, k ≠ 71 → ρ234 k j = ρ k j) ∧ c_roll Q234 69 70 (sp_rn way (n).toNat (S, 0)).1) rfl rfl (Nat.le_of_ble_eq_true rfl) rfl rfl (Nat.le_of_ble_eq_true rfl) (Nat.le_of_ble_eq_true rfl) (c_try _ (n := n) (way := way) hok hwf hh ⟨by omega, by omega⟩ ⟨by omega, by omega⟩ (by omega) (by omega)) ?_
              rintro r ⟨Q234, ρ234, rfl, ⟨hrr, hrt⟩⟩
              show am_E _ _ _ 72 [(4, .inl 0), (0, .inr (.inr (.inl (some 0)))), (1, .inl n), (2, .inl way), (3, .inl what)] [.inl ((sp_rn way (n).toNat (S, 0)).2)] (am_mm D (am_wp uZ I Q234) J ρ234) _
              have hro2 := sp_rn_ok (way := way) n.toNat (S := S) (c := 0) hok hwf (by omega)
              have hokT := hro2.1
              have halT := hro2.2
              have hmhb := sp_mhk_b hokT ((sp_rn way n.toNat (S, 0)).1 20).toNat (by have := (r_ok_19 hokT).2; omega)
              have hbyT : ∀ b, b < ((sp_rn way n.toNat (S, 0)).1 20).toNat → (am_wp uZ I Q234) (6 + b) 3 = (sp_rn way n.toNat (S, 0)).1 (56 + b) := by
                intro b hb
                rw [← halT 20 (by omega)] at hb
                rw [← halT (56 + b) (by omega)]
                exact (am_wp_off (uZ_fx (Or.inl (by omega)))).trans (hbk b hb).2.2.2
              refine am_e_ss 2 (q := (75, [(5, .inl ((sp_rn way (n).toNat (S, 0)).2)), (4, .inl 0), (0, .inr (.inr (.inl (some 0)))), (1, .inl n), (2, .inl way), (3, .inl what)], [.inl what], (am_mm D (am_wp uZ I Q234) J ρ234))) rfl ?_
              rcases (show what < 0 ∨ what = 0 ∨ what = 1 ∨ what = 2 ∨ 2 < what by omega) with hw8 | hw8 | hw8 | hw8 | hw8
              · refine am_e_tabOut (t := 126) rfl ⟨by omega, by omega⟩ (by omega) rfl ?_
                refine am_e_ss 1 (q := (128, [(5, .inl ((sp_rn way (n).toNat (S, 0)).2)), (4, .inl 0), (0, .inr (.inr (.inl (some 0)))), (1, .inl n), (2, .inl way), (3, .inl what)], [.inl 0], (am_mm D (am_wp uZ I Q234) J ρ234))) rfl ?_
                refine am_e_s (q := (146, [(5, .inl ((sp_rn way (n).toNat (S, 0)).2)), (4, .inl 0), (0, .inr (.inr (.inl (some 0)))), (1, .inl n), (2, .inl way), (3, .inl what)], [], (am_mm D (am_wp uZ I Q234) J ρ234))) rfl rfl ?_
                refine am_e_ss 1 (q := (149, [(5, .inl ((sp_rn way (n).toNat (S, 0)).2)), (4, .inl 0), (0, .inr (.inr (.inl (some 0)))), (1, .inl n), (2, .inl way), (3, .inl what)], [.inl (-10001)], (am_mm D (am_wp uZ I Q234) J ρ234))) rfl ?_
                refine am_e_ireturn rfl rfl ?_
                exfalso; omega
              · refine am_e_tabIn (t := 100) (off := 25) rfl ⟨by omega, by omega⟩ (by omega) (by rw [hw8]; rfl) rfl ?_
                refine am_e_ss 3 (q := (107, [(5, .inl ((sp_rn way (n).toNat (S, 0)).2)), (4, .inl 0), (0, .inr (.inr (.inl (some 0)))), (1, .inl n), (2, .inl way), (3, .inl what)], [.inl ((Q234 69 1))], (am_mm D (am_wp uZ I Q234) J ρ234))) rfl ?_
                refine am_e_ireturn rfl rfl ?_
                have ev : sp_run S n way what = (Q234 69 1) := by
                  unfold sp_run
                  rw [if_neg (by omega), if_neg (by omega)]
                  rw [if_pos (by omega), sp_here_6 hokT]
                  exact hrt.2.1.symm
                rw [ev]
                exact ⟨Q234, ρ234, rfl, hrr⟩
              · refine am_e_tabIn (t := 108) (off := 33) rfl ⟨by omega, by omega⟩ (by omega) (by rw [hw8]; rfl) rfl ?_
                refine am_e_ss 1 (q := (110, [(5, .inl ((sp_rn way (n).toNat (S, 0)).2)), (4, .inl 0), (0, .inr (.inr (.inl (some 0)))), (1, .inl n), (2, .inl way), (3, .inl what)], [.inl ((sp_rn way (n).toNat (S, 0)).2)], (am_mm D (am_wp uZ I Q234) J ρ234))) rfl ?_
                refine am_e_ireturn rfl rfl ?_
                have ev : sp_run S n way what = (sp_rn way (n).toNat (S, 0)).2 := by
                  unfold sp_run
                  rw [if_neg (by omega), if_neg (by omega)]
                  rw [if_neg (by omega), if_pos (by omega)]
                rw [ev]
                exact ⟨Q234, ρ234, rfl, hrr⟩
              · refine am_e_tabIn (t := 111) (off := 36) rfl ⟨by omega, by omega⟩ (by omega) (by rw [hw8]; rfl) rfl ?_
                refine am_e_ss 4 (q := (119, [(5, .inl ((sp_rn way (n).toNat (S, 0)).2)), (4, .inl 0), (0, .inr (.inr (.inl (some 0)))), (1, .inl n), (2, .inl way), (3, .inl what)], [.inr (.inr (.inl (some 69))), .inr (.inr (.inl (some 1)))], (am_mm D (am_wp uZ I Q234) J ρ234))) rfl ?_
                refine am_e_virtual (Q := fun r => r = (some (.inl ((sp_mhk (sp_rn way n.toNat (S, 0)).1 ((sp_rn way n.toNat (S, 0)).1 20).toNat))), (am_mm D (am_wp uZ I Q234) J ρ234))) rfl rfl (Nat.le_of_ble_eq_true rfl) rfl rfl (Nat.le_of_ble_eq_true rfl) (Nat.le_of_ble_eq_true rfl) (c_putF _ (S := (sp_rn way n.toNat (S, 0)).1) hokT (h14.trans (halT 20 (by omega))) hrt.2.2.1 hbyT) ?_
                rintro r rfl
                show am_E _ _ _ 122 [(5, .inl ((sp_rn way (n).toNat (S, 0)).2)), (4, .inl 0), (0, .inr (.inr (.inl (some 0)))), (1, .inl n), (2, .inl way), (3, .inl what)] [.inl ((sp_mhk (sp_rn way n.toNat (S, 0)).1 ((sp_rn way n.toNat (S, 0)).1 20).toNat))] (am_mm D (am_wp uZ I Q234) J ρ234) _
                refine am_e_static (Q := fun r => r = (some (.inl ((am_pop (sp_mhk (sp_rn way n.toNat (S, 0)).1 ((sp_rn way n.toNat (S, 0)).1 20).toNat)))), (am_mm D (am_wp uZ I Q234) J ρ234))) rfl (Nat.le_of_ble_eq_true rfl) rfl (Nat.le_of_ble_eq_true rfl) (Nat.le_of_ble_eq_true rfl) (j_bitCount _ ⟨by omega, by omega⟩) ?_
                rintro r rfl
                show am_E _ _ _ 125 [(5, .inl ((sp_rn way (n).toNat (S, 0)).2)), (4, .inl 0), (0, .inr (.inr (.inl (some 0)))), (1, .inl n), (2, .inl way), (3, .inl what)] [.inl ((am_pop (sp_mhk (sp_rn way n.toNat (S, 0)).1 ((sp_rn way n.toNat (S, 0)).1 20).toNat)))] (am_mm D (am_wp uZ I Q234) J ρ234) _
                refine am_e_ireturn rfl rfl ?_
                have ev : sp_run S n way what = (am_pop (sp_mhk (sp_rn way n.toNat (S, 0)).1 ((sp_rn way n.toNat (S, 0)).1 20).toNat)) := by
                  unfold sp_run
                  rw [if_neg (by omega), if_neg (by omega)]
                  rw [if_neg (by omega), if_neg (by omega), if_pos (by omega)]
                  rfl
                rw [ev]
                exact ⟨Q234, ρ234, rfl, hrr⟩
              · refine am_e_tabOut (t := 126) rfl ⟨by omega, by omega⟩ (by omega) rfl ?_
                refine am_e_ss 1 (q := (128, [(5, .inl ((sp_rn way (n).toNat (S, 0)).2)), (4, .inl 0), (0, .inr (.inr (.inl (some 0)))), (1, .inl n), (2, .inl way), (3, .inl what)], [.inl 0], (am_mm D (am_wp uZ I Q234) J ρ234))) rfl ?_
                refine am_e_s (q := (146, [(5, .inl ((sp_rn way (n).toNat (S, 0)).2)), (4, .inl 0), (0, .inr (.inr (.inl (some 0)))), (1, .inl n), (2, .inl way), (3, .inl what)], [], (am_mm D (am_wp uZ I Q234) J ρ234))) rfl rfl ?_
                refine am_e_ss 1 (q := (149, [(5, .inl ((sp_rn way (n).toNat (S, 0)).2)), (4, .inl 0), (0, .inr (.inr (.inl (some 0)))), (1, .inl n), (2, .inl way), (3, .inl what)], [.inl (-10001)], (am_mm D (am_wp uZ I Q234) J ρ234))) rfl ?_
                refine am_e_ireturn rfl rfl ?_
                exfalso; omega
            · show am_E _ _ _ 62 [(4, .inl 0), (0, .inr (.inr (.inl (some 0)))), (1, .inl n), (2, .inl way), (3, .inl what)] [] (am_mm D I J ρ) _
              refine am_e_ss 1 (q := (65, [(4, .inl 0), (0, .inr (.inr (.inl (some 0)))), (1, .inl n), (2, .inl way), (3, .inl what)], [.inl (-10002)], (am_mm D I J ρ))) rfl ?_
              refine am_e_ireturn rfl rfl ?_
              rw [show sp_run S n way what = (-10002) by (unfold sp_run; (repeat' split) <;> first | rfl | (exfalso; omega))]
              exact ⟨I, ρ, am_r_wp uZ am_k_id, fun _ _ _ => rfl⟩
        · show am_E _ _ _ 48 [(4, .inl 0), (0, .inr (.inr (.inl (some 0)))), (1, .inl n), (2, .inl way), (3, .inl what)] [] (am_mm D I J ρ) _
          refine am_e_ss 1 (q := (51, [(4, .inl 0), (0, .inr (.inr (.inl (some 0)))), (1, .inl n), (2, .inl way), (3, .inl what)], [.inl (-10001)], (am_mm D I J ρ))) rfl ?_
          refine am_e_ireturn rfl rfl ?_
          rw [show sp_run S n way what = (-10001) by (unfold sp_run; (repeat' split) <;> first | rfl | (exfalso; omega))]
          exact ⟨I, ρ, am_r_wp uZ am_k_id, fun _ _ _ => rfl⟩
  · show am_E _ _ _ 6 [(0, .inr (.inr (.inl (some 0)))), (1, .inl n), (2, .inl way), (3, .inl what)] [] (am_mm D I J ρ) _
    refine am_e_ss 6 (q := (17, [(0, .inr (.inr (.inl (some 0)))), (1, .inl n), (2, .inl way), (3, .inl what)], [.inl (10 + (I 1 2)), .inl what], (am_mm D I J ρ))) rfl ?_
    refine am_e_icmp2 rfl ⟨by omega, by omega⟩ ⟨by omega, by omega⟩ (fun (hw11 : (10 + (I 1 2)) ≤ what) => ?_) (fun (hw11 : ¬ ((10 + (I 1 2)) ≤ what)) => ?_)
    · show am_E _ _ _ 24 [(0, .inr (.inr (.inl (some 0)))), (1, .inl n), (2, .inl way), (3, .inl what)] [] (am_mm D I J ρ) _
      refine am_e_ss 3 (q := (28, [(4, .inl 0), (0, .inr (.inr (.inl (some 0)))), (1, .inl n), (2, .inl way), (3, .inl what)], [.inl way], (am_mm D I J ρ))) rfl ?_
      refine am_e_static (Q := fun r => r = (some (.inl ((am_bi (0 ≤ way ∧ way ≤ 5)))), (am_mm D I J ρ))) rfl (Nat.le_of_ble_eq_true rfl) rfl (Nat.le_of_ble_eq_true rfl) (Nat.le_of_ble_eq_true rfl) (c_isWay _ (v := way) ⟨by omega, by omega⟩) ?_
      rintro r rfl
      show am_E _ _ _ 31 [(4, .inl 0), (0, .inr (.inr (.inl (some 0)))), (1, .inl n), (2, .inl way), (3, .inl what)] [.inl ((am_bi (0 ≤ way ∧ way ≤ 5)))] (am_mm D I J ρ) _
      refine am_e_ifeq rfl (fun hw12 => ?_) (fun hw12 => ?_)
      · show am_E _ _ _ 48 [(4, .inl 0), (0, .inr (.inr (.inl (some 0)))), (1, .inl n), (2, .inl way), (3, .inl what)] [] (am_mm D I J ρ) _
        refine am_e_ss 1 (q := (51, [(4, .inl 0), (0, .inr (.inr (.inl (some 0)))), (1, .inl n), (2, .inl way), (3, .inl what)], [.inl (-10001)], (am_mm D I J ρ))) rfl ?_
        refine am_e_ireturn rfl rfl ?_
        rw [show sp_run S n way what = (-10001) by (unfold sp_run; (repeat' split) <;> first | rfl | (exfalso; omega))]
        exact ⟨I, ρ, am_r_wp uZ am_k_id, fun _ _ _ => rfl⟩
      · show am_E _ _ _ 34 [(4, .inl 0), (0, .inr (.inr (.inl (some 0)))), (1, .inl n), (2, .inl way), (3, .inl what)] [] (am_mm D I J ρ) _
        refine am_e_ss 1 (q := (36, [(4, .inl 0), (0, .inr (.inr (.inl (some 0)))), (1, .inl n), (2, .inl way), (3, .inl what)], [.inl 0], (am_mm D I J ρ))) rfl ?_
        refine am_e_s (q := (39, [(4, .inl 0), (0, .inr (.inr (.inl (some 0)))), (1, .inl n), (2, .inl way), (3, .inl what)], [], (am_mm D I J ρ))) rfl rfl ?_
        refine am_e_ss 1 (q := (40, [(4, .inl 0), (0, .inr (.inr (.inl (some 0)))), (1, .inl n), (2, .inl way), (3, .inl what)], [.inl what], (am_mm D I J ρ))) rfl ?_
        refine am_e_if2 rfl ⟨by omega, by omega⟩ (fun (hw14 : what < 0) => ?_) (fun (hw14 : ¬ (what < 0)) => ?_)
        · show am_E _ _ _ 48 [(4, .inl 0), (0, .inr (.inr (.inl (some 0)))), (1, .inl n), (2, .inl way), (3, .inl what)] [] (am_mm D I J ρ) _
          refine am_e_ss 1 (q := (51, [(4, .inl 0), (0, .inr (.inr (.inl (some 0)))), (1, .inl n), (2, .inl way), (3, .inl what)], [.inl (-10001)], (am_mm D I J ρ))) rfl ?_
          refine am_e_ireturn rfl rfl ?_
          rw [show sp_run S n way what = (-10001) by (unfold sp_run; (repeat' split) <;> first | rfl | (exfalso; omega))]
          exact ⟨I, ρ, am_r_wp uZ am_k_id, fun _ _ _ => rfl⟩
        · show am_E _ _ _ 43 [(4, .inl 0), (0, .inr (.inr (.inl (some 0)))), (1, .inl n), (2, .inl way), (3, .inl what)] [] (am_mm D I J ρ) _
          refine am_e_ss 2 (q := (45, [(4, .inl 0), (0, .inr (.inr (.inl (some 0)))), (1, .inl n), (2, .inl way), (3, .inl what)], [.inl 2, .inl what], (am_mm D I J ρ))) rfl ?_
          refine am_e_icmp2 rfl ⟨by omega, by omega⟩ ⟨by omega, by omega⟩ (fun (hw15 : what ≤ 2) => ?_) (fun (hw15 : ¬ (what ≤ 2)) => ?_)
          · show am_E _ _ _ 52 [(4, .inl 0), (0, .inr (.inr (.inl (some 0)))), (1, .inl n), (2, .inl way), (3, .inl what)] [] (am_mm D I J ρ) _
            refine am_e_ss 1 (q := (53, [(4, .inl 0), (0, .inr (.inr (.inl (some 0)))), (1, .inl n), (2, .inl way), (3, .inl what)], [.inl n], (am_mm D I J ρ))) rfl ?_
            refine am_e_if2 rfl ⟨by omega, by omega⟩ (fun (hw16 : n < 0) => ?_) (fun (hw16 : ¬ (n < 0)) => ?_)
            · show am_E _ _ _ 62 [(4, .inl 0), (0, .inr (.inr (.inl (some 0)))), (1, .inl n), (2, .inl way), (3, .inl what)] [] (am_mm D I J ρ) _
              refine am_e_ss 1 (q := (65, [(4, .inl 0), (0, .inr (.inr (.inl (some 0)))), (1, .inl n), (2, .inl way), (3, .inl what)], [.inl (-10002)], (am_mm D I J ρ))) rfl ?_
              refine am_e_ireturn rfl rfl ?_
              rw [show sp_run S n way what = (-10002) by (unfold sp_run; (repeat' split) <;> first | rfl | (exfalso; omega))]
              exact ⟨I, ρ, am_r_wp uZ am_k_id, fun _ _ _ => rfl⟩
            · show am_E _ _ _ 56 [(4, .inl 0), (0, .inr (.inr (.inl (some 0)))), (1, .inl n), (2, .inl way), (3, .inl what)] [] (am_mm D I J ρ) _
              refine am_e_ss 2 (q := (59, [(4, .inl 0), (0, .inr (.inr (.inl (some 0)))), (1, .inl n), (2, .inl way), (3, .inl what)], [.inl 6, .inl n], (am_mm D I J ρ))) rfl ?_
              refine am_e_icmp2 rfl ⟨by omega, by omega⟩ ⟨by omega, by omega⟩ (fun (hw17 : n ≤ 6) => ?_) (fun (hw17 : ¬ (n ≤ 6)) => ?_)
              · show am_E _ _ _ 66 [(4, .inl 0), (0, .inr (.inr (.inl (some 0)))), (1, .inl n), (2, .inl way), (3, .inl what)] [] (am_mm D I J ρ) _
                refine am_e_ss 3 (q := (69, [(4, .inl 0), (0, .inr (.inr (.inl (some 0)))), (1, .inl n), (2, .inl way), (3, .inl what)], [.inl way, .inl n, .inr (.inr (.inl (some 0)))], (am_mm D I J ρ))) rfl ?_
                refine am_e_virtual (Q := fun r => ∃ Q235 ρ235, r = (some (.inl ((sp_rn way (n).toNat (S, 0)).2)), (am_mm D (am_wp uZ I Q235) J ρ235)) ∧ (∀ k j, k ≠ 71 → ρ235 k j = ρ k j) ∧ c_roll Q235 69 70 (sp_rn way (n).toNat (S, 0)).1) rfl rfl (Nat.le_of_ble_eq_true rfl) rfl rfl (Nat.le_of_ble_eq_true rfl) (Nat.le_of_ble_eq_true rfl) (c_try _ (n := n) (way := way) hok hwf hh ⟨by omega, by omega⟩ ⟨by omega, by omega⟩ (by omega) (by omega)) ?_
                rintro r ⟨Q235, ρ235, rfl, ⟨hrr, hrt⟩⟩
                show am_E _ _ _ 72 [(4, .inl 0), (0, .inr (.inr (.inl (some 0)))), (1, .inl n), (2, .inl way), (3, .inl what)] [.inl ((sp_rn way (n).toNat (S, 0)).2)] (am_mm D (am_wp uZ I Q235) J ρ235) _
                have hro2 := sp_rn_ok (way := way) n.toNat (S := S) (c := 0) hok hwf (by omega)
                have hokT := hro2.1
                have halT := hro2.2
                have hmhb := sp_mhk_b hokT ((sp_rn way n.toNat (S, 0)).1 20).toNat (by have := (r_ok_19 hokT).2; omega)
                have hbyT : ∀ b, b < ((sp_rn way n.toNat (S, 0)).1 20).toNat → (am_wp uZ I Q235) (6 + b) 3 = (sp_rn way n.toNat (S, 0)).1 (56 + b) := by
                  intro b hb
                  rw [← halT 20 (by omega)] at hb
                  rw [← halT (56 + b) (by omega)]
                  exact (am_wp_off (uZ_fx (Or.inl (by omega)))).trans (hbk b hb).2.2.2
                refine am_e_ss 2 (q := (75, [(5, .inl ((sp_rn way (n).toNat (S, 0)).2)), (4, .inl 0), (0, .inr (.inr (.inl (some 0)))), (1, .inl n), (2, .inl way), (3, .inl what)], [.inl what], (am_mm D (am_wp uZ I Q235) J ρ235))) rfl ?_
                rcases (show what < 0 ∨ what = 0 ∨ what = 1 ∨ what = 2 ∨ 2 < what by omega) with hw18 | hw18 | hw18 | hw18 | hw18
                · refine am_e_tabOut (t := 126) rfl ⟨by omega, by omega⟩ (by omega) rfl ?_
                  refine am_e_ss 1 (q := (128, [(5, .inl ((sp_rn way (n).toNat (S, 0)).2)), (4, .inl 0), (0, .inr (.inr (.inl (some 0)))), (1, .inl n), (2, .inl way), (3, .inl what)], [.inl 0], (am_mm D (am_wp uZ I Q235) J ρ235))) rfl ?_
                  refine am_e_s (q := (146, [(5, .inl ((sp_rn way (n).toNat (S, 0)).2)), (4, .inl 0), (0, .inr (.inr (.inl (some 0)))), (1, .inl n), (2, .inl way), (3, .inl what)], [], (am_mm D (am_wp uZ I Q235) J ρ235))) rfl rfl ?_
                  refine am_e_ss 1 (q := (149, [(5, .inl ((sp_rn way (n).toNat (S, 0)).2)), (4, .inl 0), (0, .inr (.inr (.inl (some 0)))), (1, .inl n), (2, .inl way), (3, .inl what)], [.inl (-10001)], (am_mm D (am_wp uZ I Q235) J ρ235))) rfl ?_
                  refine am_e_ireturn rfl rfl ?_
                  exfalso; omega
                · refine am_e_tabIn (t := 100) (off := 25) rfl ⟨by omega, by omega⟩ (by omega) (by rw [hw18]; rfl) rfl ?_
                  refine am_e_ss 3 (q := (107, [(5, .inl ((sp_rn way (n).toNat (S, 0)).2)), (4, .inl 0), (0, .inr (.inr (.inl (some 0)))), (1, .inl n), (2, .inl way), (3, .inl what)], [.inl ((Q235 69 1))], (am_mm D (am_wp uZ I Q235) J ρ235))) rfl ?_
                  refine am_e_ireturn rfl rfl ?_
                  have ev : sp_run S n way what = (Q235 69 1) := by
                    unfold sp_run
                    rw [if_neg (by omega), if_neg (by omega)]
                    rw [if_pos (by omega), sp_here_6 hokT]
                    exact hrt.2.1.symm
                  rw [ev]
                  exact ⟨Q235, ρ235, rfl, hrr⟩
                · refine am_e_tabIn (t := 108) (off := 33) rfl ⟨by omega, by omega⟩ (by omega) (by rw [hw18]; rfl) rfl ?_
                  refine am_e_ss 1 (q := (110, [(5, .inl ((sp_rn way (n).toNat (S, 0)).2)), (4, .inl 0), (0, .inr (.inr (.inl (some 0)))), (1, .inl n), (2, .inl way), (3, .inl what)], [.inl ((sp_rn way (n).toNat (S, 0)).2)], (am_mm D (am_wp uZ I Q235) J ρ235))) rfl ?_
                  refine am_e_ireturn rfl rfl ?_
                  have ev : sp_run S n way what = (sp_rn way (n).toNat (S, 0)).2 := by
                    unfold sp_run
                    rw [if_neg (by omega), if_neg (by omega)]
                    rw [if_neg (by omega), if_pos (by omega)]
                  rw [ev]
                  exact ⟨Q235, ρ235, rfl, hrr⟩
                · refine am_e_tabIn (t := 111) (off := 36) rfl ⟨by omega, by omega⟩ (by omega) (by rw [hw18]; rfl) rfl ?_
                  refine am_e_ss 4 (q := (119, [(5, .inl ((sp_rn way (n).toNat (S, 0)).2)), (4, .inl 0), (0, .inr (.inr (.inl (some 0)))), (1, .inl n), (2, .inl way), (3, .inl what)], [.inr (.inr (.inl (some 69))), .inr (.inr (.inl (some 1)))], (am_mm D (am_wp uZ I Q235) J ρ235))) rfl ?_
                  refine am_e_virtual (Q := fun r => r = (some (.inl ((sp_mhk (sp_rn way n.toNat (S, 0)).1 ((sp_rn way n.toNat (S, 0)).1 20).toNat))), (am_mm D (am_wp uZ I Q235) J ρ235))) rfl rfl (Nat.le_of_ble_eq_true rfl) rfl rfl (Nat.le_of_ble_eq_true rfl) (Nat.le_of_ble_eq_true rfl) (c_putF _ (S := (sp_rn way n.toNat (S, 0)).1) hokT (h14.trans (halT 20 (by omega))) hrt.2.2.1 hbyT) ?_
                  rintro r rfl
                  show am_E _ _ _ 122 [(5, .inl ((sp_rn way (n).toNat (S, 0)).2)), (4, .inl 0), (0, .inr (.inr (.inl (some 0)))), (1, .inl n), (2, .inl way), (3, .inl what)] [.inl ((sp_mhk (sp_rn way n.toNat (S, 0)).1 ((sp_rn way n.toNat (S, 0)).1 20).toNat))] (am_mm D (am_wp uZ I Q235) J ρ235) _
                  refine am_e_static (Q := fun r => r = (some (.inl ((am_pop (sp_mhk (sp_rn way n.toNat (S, 0)).1 ((sp_rn way n.toNat (S, 0)).1 20).toNat)))), (am_mm D (am_wp uZ I Q235) J ρ235))) rfl (Nat.le_of_ble_eq_true rfl) rfl (Nat.le_of_ble_eq_true rfl) (Nat.le_of_ble_eq_true rfl) (j_bitCount _ ⟨by omega, by omega⟩) ?_
                  rintro r rfl
                  show am_E _ _ _ 125 [(5, .inl ((sp_rn way (n).toNat (S, 0)).2)), (4, .inl 0), (0, .inr (.inr (.inl (some 0)))), (1, .inl n), (2, .inl way), (3, .inl what)] [.inl ((am_pop (sp_mhk (sp_rn way n.toNat (S, 0)).1 ((sp_rn way n.toNat (S, 0)).1 20).toNat)))] (am_mm D (am_wp uZ I Q235) J ρ235) _
                  refine am_e_ireturn rfl rfl ?_
                  have ev : sp_run S n way what = (am_pop (sp_mhk (sp_rn way n.toNat (S, 0)).1 ((sp_rn way n.toNat (S, 0)).1 20).toNat)) := by
                    unfold sp_run
                    rw [if_neg (by omega), if_neg (by omega)]
                    rw [if_neg (by omega), if_neg (by omega), if_pos (by omega)]
                    rfl
                  rw [ev]
                  exact ⟨Q235, ρ235, rfl, hrr⟩
                · refine am_e_tabOut (t := 126) rfl ⟨by omega, by omega⟩ (by omega) rfl ?_
                  refine am_e_ss 1 (q := (128, [(5, .inl ((sp_rn way (n).toNat (S, 0)).2)), (4, .inl 0), (0, .inr (.inr (.inl (some 0)))), (1, .inl n), (2, .inl way), (3, .inl what)], [.inl 0], (am_mm D (am_wp uZ I Q235) J ρ235))) rfl ?_
                  refine am_e_s (q := (146, [(5, .inl ((sp_rn way (n).toNat (S, 0)).2)), (4, .inl 0), (0, .inr (.inr (.inl (some 0)))), (1, .inl n), (2, .inl way), (3, .inl what)], [], (am_mm D (am_wp uZ I Q235) J ρ235))) rfl rfl ?_
                  refine am_e_ss 1 (q := (149, [(5, .inl ((sp_rn way (n).toNat (S, 0)).2)), (4, .inl 0), (0, .inr (.inr (.inl (some 0)))), (1, .inl n), (2, .inl way), (3, .inl what)], [.inl (-10001)], (am_mm D (am_wp uZ I Q235) J ρ235))) rfl ?_
                  refine am_e_ireturn rfl rfl ?_
                  exfalso; omega
              · show am_E _ _ _ 62 [(4, .inl 0), (0, .inr (.inr (.inl (some 0)))), (1, .inl n), (2, .inl way), (3, .inl what)] [] (am_mm D I J ρ) _
                refine am_e_ss 1 (q := (65, [(4, .inl 0), (0, .inr (.inr (.inl (some 0)))), (1, .inl n), (2, .inl way), (3, .inl what)], [.inl (-10002)], (am_mm D I J ρ))) rfl ?_
                refine am_e_ireturn rfl rfl ?_
                rw [show sp_run S n way what = (-10002) by (unfold sp_run; (repeat' split) <;> first | rfl | (exfalso; omega))]
                exact ⟨I, ρ, am_r_wp uZ am_k_id, fun _ _ _ => rfl⟩
          · show am_E _ _ _ 48 [(4, .inl 0), (0, .inr (.inr (.inl (some 0)))), (1, .inl n), (2, .inl way), (3, .inl what)] [] (am_mm D I J ρ) _
            refine am_e_ss 1 (q := (51, [(4, .inl 0), (0, .inr (.inr (.inl (some 0)))), (1, .inl n), (2, .inl way), (3, .inl what)], [.inl (-10001)], (am_mm D I J ρ))) rfl ?_
            refine am_e_ireturn rfl rfl ?_
            rw [show sp_run S n way what = (-10001) by (unfold sp_run; (repeat' split) <;> first | rfl | (exfalso; omega))]
            exact ⟨I, ρ, am_r_wp uZ am_k_id, fun _ _ _ => rfl⟩
    · show am_E _ _ _ 20 [(0, .inr (.inr (.inl (some 0)))), (1, .inl n), (2, .inl way), (3, .inl what)] [] (am_mm D I J ρ) _
      refine am_e_ss 4 (q := (28, [(4, .inl 1), (0, .inr (.inr (.inl (some 0)))), (1, .inl n), (2, .inl way), (3, .inl what)], [.inl way], (am_mm D I J ρ))) rfl ?_
      refine am_e_static (Q := fun r => r = (some (.inl ((am_bi (0 ≤ way ∧ way ≤ 5)))), (am_mm D I J ρ))) rfl (Nat.le_of_ble_eq_true rfl) rfl (Nat.le_of_ble_eq_true rfl) (Nat.le_of_ble_eq_true rfl) (c_isWay _ (v := way) ⟨by omega, by omega⟩) ?_
      rintro r rfl
      show am_E _ _ _ 31 [(4, .inl 1), (0, .inr (.inr (.inl (some 0)))), (1, .inl n), (2, .inl way), (3, .inl what)] [.inl ((am_bi (0 ≤ way ∧ way ≤ 5)))] (am_mm D I J ρ) _
      refine am_e_ifeq rfl (fun hw21 => ?_) (fun hw21 => ?_)
      · show am_E _ _ _ 48 [(4, .inl 1), (0, .inr (.inr (.inl (some 0)))), (1, .inl n), (2, .inl way), (3, .inl what)] [] (am_mm D I J ρ) _
        refine am_e_ss 1 (q := (51, [(4, .inl 1), (0, .inr (.inr (.inl (some 0)))), (1, .inl n), (2, .inl way), (3, .inl what)], [.inl (-10001)], (am_mm D I J ρ))) rfl ?_
        refine am_e_ireturn rfl rfl ?_
        rw [show sp_run S n way what = (-10001) by (unfold sp_run; (repeat' split) <;> first | rfl | (exfalso; omega))]
        exact ⟨I, ρ, am_r_wp uZ am_k_id, fun _ _ _ => rfl⟩
      · show am_E _ _ _ 34 [(4, .inl 1), (0, .inr (.inr (.inl (some 0)))), (1, .inl n), (2, .inl way), (3, .inl what)] [] (am_mm D I J ρ) _
        refine am_e_ss 1 (q := (36, [(4, .inl 1), (0, .inr (.inr (.inl (some 0)))), (1, .inl n), (2, .inl way), (3, .inl what)], [.inl 1], (am_mm D I J ρ))) rfl ?_
        refine am_e_s (q := (52, [(4, .inl 1), (0, .inr (.inr (.inl (some 0)))), (1, .inl n), (2, .inl way), (3, .inl what)], [], (am_mm D I J ρ))) rfl rfl ?_
        refine am_e_ss 1 (q := (53, [(4, .inl 1), (0, .inr (.inr (.inl (some 0)))), (1, .inl n), (2, .inl way), (3, .inl what)], [.inl n], (am_mm D I J ρ))) rfl ?_
        refine am_e_if2 rfl ⟨by omega, by omega⟩ (fun (hw23 : n < 0) => ?_) (fun (hw23 : ¬ (n < 0)) => ?_)
        · show am_E _ _ _ 62 [(4, .inl 1), (0, .inr (.inr (.inl (some 0)))), (1, .inl n), (2, .inl way), (3, .inl what)] [] (am_mm D I J ρ) _
          refine am_e_ss 1 (q := (65, [(4, .inl 1), (0, .inr (.inr (.inl (some 0)))), (1, .inl n), (2, .inl way), (3, .inl what)], [.inl (-10002)], (am_mm D I J ρ))) rfl ?_
          refine am_e_ireturn rfl rfl ?_
          rw [show sp_run S n way what = (-10002) by (unfold sp_run; (repeat' split) <;> first | rfl | (exfalso; omega))]
          exact ⟨I, ρ, am_r_wp uZ am_k_id, fun _ _ _ => rfl⟩
        · show am_E _ _ _ 56 [(4, .inl 1), (0, .inr (.inr (.inl (some 0)))), (1, .inl n), (2, .inl way), (3, .inl what)] [] (am_mm D I J ρ) _
          refine am_e_ss 2 (q := (59, [(4, .inl 1), (0, .inr (.inr (.inl (some 0)))), (1, .inl n), (2, .inl way), (3, .inl what)], [.inl 6, .inl n], (am_mm D I J ρ))) rfl ?_
          refine am_e_icmp2 rfl ⟨by omega, by omega⟩ ⟨by omega, by omega⟩ (fun (hw24 : n ≤ 6) => ?_) (fun (hw24 : ¬ (n ≤ 6)) => ?_)
          · show am_E _ _ _ 66 [(4, .inl 1), (0, .inr (.inr (.inl (some 0)))), (1, .inl n), (2, .inl way), (3, .inl what)] [] (am_mm D I J ρ) _
            refine am_e_ss 3 (q := (69, [(4, .inl 1), (0, .inr (.inr (.inl (some 0)))), (1, .inl n), (2, .inl way), (3, .inl what)], [.inl way, .inl n, .inr (.inr (.inl (some 0)))], (am_mm D I J ρ))) rfl ?_
            refine am_e_virtual (Q := fun r => ∃ Q236 ρ236, r = (some (.inl ((sp_rn way (n).toNat (S, 0)).2)), (am_mm D (am_wp uZ I Q236) J ρ236)) ∧ (∀ k j, k ≠ 71 → ρ236 k j = ρ k j) ∧ c_roll Q236 69 70 (sp_rn way (n).toNat (S, 0)).1) rfl rfl (Nat.le_of_ble_eq_true rfl) rfl rfl (Nat.le_of_ble_eq_true rfl) (Nat.le_of_ble_eq_true rfl) (c_try _ (n := n) (way := way) hok hwf hh ⟨by omega, by omega⟩ ⟨by omega, by omega⟩ (by omega) (by omega)) ?_
            rintro r ⟨Q236, ρ236, rfl, ⟨hrr, hrt⟩⟩
            show am_E _ _ _ 72 [(4, .inl 1), (0, .inr (.inr (.inl (some 0)))), (1, .inl n), (2, .inl way), (3, .inl what)] [.inl ((sp_rn way (n).toNat (S, 0)).2)] (am_mm D (am_wp uZ I Q236) J ρ236) _
            have hro2 := sp_rn_ok (way := way) n.toNat (S := S) (c := 0) hok hwf (by omega)
            have hokT := hro2.1
            have halT := hro2.2
            have hmhb := sp_mhk_b hokT ((sp_rn way n.toNat (S, 0)).1 20).toNat (by have := (r_ok_19 hokT).2; omega)
            have hbyT : ∀ b, b < ((sp_rn way n.toNat (S, 0)).1 20).toNat → (am_wp uZ I Q236) (6 + b) 3 = (sp_rn way n.toNat (S, 0)).1 (56 + b) := by
              intro b hb
              rw [← halT 20 (by omega)] at hb
              rw [← halT (56 + b) (by omega)]
              exact (am_wp_off (uZ_fx (Or.inl (by omega)))).trans (hbk b hb).2.2.2
            refine am_e_ss 2 (q := (75, [(5, .inl ((sp_rn way (n).toNat (S, 0)).2)), (4, .inl 1), (0, .inr (.inr (.inl (some 0)))), (1, .inl n), (2, .inl way), (3, .inl what)], [.inl what], (am_mm D (am_wp uZ I Q236) J ρ236))) rfl ?_
            rcases (show what < 0 ∨ what = 0 ∨ what = 1 ∨ what = 2 ∨ 2 < what by omega) with hw25 | hw25 | hw25 | hw25 | hw25
            · refine am_e_tabOut (t := 126) rfl ⟨by omega, by omega⟩ (by omega) rfl ?_
              refine am_e_ss 1 (q := (128, [(5, .inl ((sp_rn way (n).toNat (S, 0)).2)), (4, .inl 1), (0, .inr (.inr (.inl (some 0)))), (1, .inl n), (2, .inl way), (3, .inl what)], [.inl 1], (am_mm D (am_wp uZ I Q236) J ρ236))) rfl ?_
              refine am_e_s (q := (131, [(5, .inl ((sp_rn way (n).toNat (S, 0)).2)), (4, .inl 1), (0, .inr (.inr (.inl (some 0)))), (1, .inl n), (2, .inl way), (3, .inl what)], [], (am_mm D (am_wp uZ I Q236) J ρ236))) rfl rfl ?_
              refine am_e_ss 6 (q := (142, [(5, .inl ((sp_rn way (n).toNat (S, 0)).2)), (4, .inl 1), (0, .inr (.inr (.inl (some 0)))), (1, .inl n), (2, .inl way), (3, .inl what)], [.inl (what - 10), .inr (.inr (.inl (some 70)))], (am_mm D (am_wp uZ I Q236) J ρ236))) rfl ?_
              refine am_e_iaload (m := 6) rfl rfl (by omega) (by omega) (by omega) ?_
              show am_E _ _ _ 143 [(5, .inl ((sp_rn way (n).toNat (S, 0)).2)), (4, .inl 1), (0, .inr (.inr (.inl (some 0)))), (1, .inl n), (2, .inl way), (3, .inl what)] [.inl ((Q236 70 ((what - 10)).toNat))] (am_mm D (am_wp uZ I Q236) J ρ236) _
              refine am_e_ss 1 (q := (149, [(5, .inl ((sp_rn way (n).toNat (S, 0)).2)), (4, .inl 1), (0, .inr (.inr (.inl (some 0)))), (1, .inl n), (2, .inl way), (3, .inl what)], [.inl ((Q236 70 ((what - 10)).toNat))], (am_mm D (am_wp uZ I Q236) J ρ236))) rfl ?_
              refine am_e_ireturn rfl rfl ?_
              have ev : sp_run S n way what = (Q236 70 ((what - 10)).toNat) := by
                unfold sp_run
                rw [if_neg (by omega), if_neg (by omega)]
                rw [if_neg (by omega), if_neg (by omega), if_neg (by omega)]
                have hg := hrt.2.2.2 (what - 10).toNat (by rw [← halT 19 (by omega)]; omega)
                rw [show (what - 9).toNat = 1 + (what - 10).toNat by omega]
                exact hg.symm
              rw [ev]
              exact ⟨Q236, ρ236, rfl, hrr⟩
            · refine am_e_tabIn (t := 100) (off := 25) rfl ⟨by omega, by omega⟩ (by omega) (by rw [hw25]; rfl) rfl ?_
              refine am_e_ss 3 (q := (107, [(5, .inl ((sp_rn way (n).toNat (S, 0)).2)), (4, .inl 1), (0, .inr (.inr (.inl (some 0)))), (1, .inl n), (2, .inl way), (3, .inl what)], [.inl ((Q236 69 1))], (am_mm D (am_wp uZ I Q236) J ρ236))) rfl ?_
              refine am_e_ireturn rfl rfl ?_
              have ev : sp_run S n way what = (Q236 69 1) := by
                unfold sp_run
                rw [if_neg (by omega), if_neg (by omega)]
                rw [if_pos (by omega), sp_here_6 hokT]
                exact hrt.2.1.symm
              rw [ev]
              exact ⟨Q236, ρ236, rfl, hrr⟩
            · refine am_e_tabIn (t := 108) (off := 33) rfl ⟨by omega, by omega⟩ (by omega) (by rw [hw25]; rfl) rfl ?_
              refine am_e_ss 1 (q := (110, [(5, .inl ((sp_rn way (n).toNat (S, 0)).2)), (4, .inl 1), (0, .inr (.inr (.inl (some 0)))), (1, .inl n), (2, .inl way), (3, .inl what)], [.inl ((sp_rn way (n).toNat (S, 0)).2)], (am_mm D (am_wp uZ I Q236) J ρ236))) rfl ?_
              refine am_e_ireturn rfl rfl ?_
              have ev : sp_run S n way what = (sp_rn way (n).toNat (S, 0)).2 := by
                unfold sp_run
                rw [if_neg (by omega), if_neg (by omega)]
                rw [if_neg (by omega), if_pos (by omega)]
              rw [ev]
              exact ⟨Q236, ρ236, rfl, hrr⟩
            · refine am_e_tabIn (t := 111) (off := 36) rfl ⟨by omega, by omega⟩ (by omega) (by rw [hw25]; rfl) rfl ?_
              refine am_e_ss 4 (q := (119, [(5, .inl ((sp_rn way (n).toNat (S, 0)).2)), (4, .inl 1), (0, .inr (.inr (.inl (some 0)))), (1, .inl n), (2, .inl way), (3, .inl what)], [.inr (.inr (.inl (some 69))), .inr (.inr (.inl (some 1)))], (am_mm D (am_wp uZ I Q236) J ρ236))) rfl ?_
              refine am_e_virtual (Q := fun r => r = (some (.inl ((sp_mhk (sp_rn way n.toNat (S, 0)).1 ((sp_rn way n.toNat (S, 0)).1 20).toNat))), (am_mm D (am_wp uZ I Q236) J ρ236))) rfl rfl (Nat.le_of_ble_eq_true rfl) rfl rfl (Nat.le_of_ble_eq_true rfl) (Nat.le_of_ble_eq_true rfl) (c_putF _ (S := (sp_rn way n.toNat (S, 0)).1) hokT (h14.trans (halT 20 (by omega))) hrt.2.2.1 hbyT) ?_
              rintro r rfl
              show am_E _ _ _ 122 [(5, .inl ((sp_rn way (n).toNat (S, 0)).2)), (4, .inl 1), (0, .inr (.inr (.inl (some 0)))), (1, .inl n), (2, .inl way), (3, .inl what)] [.inl ((sp_mhk (sp_rn way n.toNat (S, 0)).1 ((sp_rn way n.toNat (S, 0)).1 20).toNat))] (am_mm D (am_wp uZ I Q236) J ρ236) _
              refine am_e_static (Q := fun r => r = (some (.inl ((am_pop (sp_mhk (sp_rn way n.toNat (S, 0)).1 ((sp_rn way n.toNat (S, 0)).1 20).toNat)))), (am_mm D (am_wp uZ I Q236) J ρ236))) rfl (Nat.le_of_ble_eq_true rfl) rfl (Nat.le_of_ble_eq_true rfl) (Nat.le_of_ble_eq_true rfl) (j_bitCount _ ⟨by omega, by omega⟩) ?_
              rintro r rfl
              show am_E _ _ _ 125 [(5, .inl ((sp_rn way (n).toNat (S, 0)).2)), (4, .inl 1), (0, .inr (.inr (.inl (some 0)))), (1, .inl n), (2, .inl way), (3, .inl what)] [.inl ((am_pop (sp_mhk (sp_rn way n.toNat (S, 0)).1 ((sp_rn way n.toNat (S, 0)).1 20).toNat)))] (am_mm D (am_wp uZ I Q236) J ρ236) _
              refine am_e_ireturn rfl rfl ?_
              have ev : sp_run S n way what = (am_pop (sp_mhk (sp_rn way n.toNat (S, 0)).1 ((sp_rn way n.toNat (S, 0)).1 20).toNat)) := by
                unfold sp_run
                rw [if_neg (by omega), if_neg (by omega)]
                rw [if_neg (by omega), if_neg (by omega), if_pos (by omega)]
                rfl
              rw [ev]
              exact ⟨Q236, ρ236, rfl, hrr⟩
            · refine am_e_tabOut (t := 126) rfl ⟨by omega, by omega⟩ (by omega) rfl ?_
              refine am_e_ss 1 (q := (128, [(5, .inl ((sp_rn way (n).toNat (S, 0)).2)), (4, .inl 1), (0, .inr (.inr (.inl (some 0)))), (1, .inl n), (2, .inl way), (3, .inl what)], [.inl 1], (am_mm D (am_wp uZ I Q236) J ρ236))) rfl ?_
              refine am_e_s (q := (131, [(5, .inl ((sp_rn way (n).toNat (S, 0)).2)), (4, .inl 1), (0, .inr (.inr (.inl (some 0)))), (1, .inl n), (2, .inl way), (3, .inl what)], [], (am_mm D (am_wp uZ I Q236) J ρ236))) rfl rfl ?_
              refine am_e_ss 6 (q := (142, [(5, .inl ((sp_rn way (n).toNat (S, 0)).2)), (4, .inl 1), (0, .inr (.inr (.inl (some 0)))), (1, .inl n), (2, .inl way), (3, .inl what)], [.inl (what - 10), .inr (.inr (.inl (some 70)))], (am_mm D (am_wp uZ I Q236) J ρ236))) rfl ?_
              refine am_e_iaload (m := 6) rfl rfl (by omega) (by omega) (by omega) ?_
              show am_E _ _ _ 143 [(5, .inl ((sp_rn way (n).toNat (S, 0)).2)), (4, .inl 1), (0, .inr (.inr (.inl (some 0)))), (1, .inl n), (2, .inl way), (3, .inl what)] [.inl ((Q236 70 ((what - 10)).toNat))] (am_mm D (am_wp uZ I Q236) J ρ236) _
              refine am_e_ss 1 (q := (149, [(5, .inl ((sp_rn way (n).toNat (S, 0)).2)), (4, .inl 1), (0, .inr (.inr (.inl (some 0)))), (1, .inl n), (2, .inl way), (3, .inl what)], [.inl ((Q236 70 ((what - 10)).toNat))], (am_mm D (am_wp uZ I Q236) J ρ236))) rfl ?_
              refine am_e_ireturn rfl rfl ?_
              have ev : sp_run S n way what = (Q236 70 ((what - 10)).toNat) := by
                unfold sp_run
                rw [if_neg (by omega), if_neg (by omega)]
                rw [if_neg (by omega), if_neg (by omega), if_neg (by omega)]
                have hg := hrt.2.2.2 (what - 10).toNat (by rw [← halT 19 (by omega)]; omega)
                rw [show (what - 9).toNat = 1 + (what - 10).toNat by omega]
                exact hg.symm
              rw [ev]
              exact ⟨Q236, ρ236, rfl, hrr⟩
          · show am_E _ _ _ 62 [(4, .inl 1), (0, .inr (.inr (.inl (some 0)))), (1, .inl n), (2, .inl way), (3, .inl what)] [] (am_mm D I J ρ) _
            refine am_e_ss 1 (q := (65, [(4, .inl 1), (0, .inr (.inr (.inl (some 0)))), (1, .inl n), (2, .inl way), (3, .inl what)], [.inl (-10002)], (am_mm D I J ρ))) rfl ?_
            refine am_e_ireturn rfl rfl ?_
            rw [show sp_run S n way what = (-10002) by (unfold sp_run; (repeat' split) <;> first | rfl | (exfalso; omega))]
            exact ⟨I, ρ, am_r_wp uZ am_k_id, fun _ _ _ => rfl⟩
theorem sp_bst_s {S : Nat → Int} {w : Nat} : sp_bst S (w + 1) = if sp_btv (sp_hn (sp_T S w)) (sp_G (sp_T S w)) (sp_bst S w).2.1 (sp_bst S w).2.2 = 1 then ((w : Int), (sp_hn (sp_T S w), sp_G (sp_T S w))) else sp_bst S w := rfl
theorem c_best_l {X : Nat × (Nat → Int)} {D : List (Nat × Nat)} {I J : Nat → Nat → Int} {ρ : Nat → Nat → Option Nat} (d : Nat) {S : Nat → Int} {B : Int} (hok : r_ok S B) (hwf : sp_wfS S) (hh : c_hall D I ρ 0 S) (hB : B + 480300 ≤ 300000000) (h0 : S 0 ≤ 190) {p bh bg : Int} {w : Nat} (hw : w ≤ 6) (hst : (p, (bh, bg)) = sp_bst S w) (hbh : -1 ≤ bh ∧ bh ≤ 6) (hbg : -2147483648 ≤ bg ∧ bg < 2147483648) : am_E X (d + 6) 111 9 [(4, .inl (w : Int)), (3, .inl bg), (2, .inl bh), (1, .inl p), (0, .inr (.inr (.inl (some 0))))] [] (am_mm D I J ρ) (fun q => ∃ Q ρ2, q = (some (.inl (sp_best S)), am_mm D (am_wp uZ I Q) J ρ2) ∧ ∀ k j, k ≠ 71 → ρ2 k j = ρ k j) := by
  have hh0 := hh
  obtain ⟨⟨h12, h14, h16, h18, h110⟩, ⟨hr0, hhr, hhd, hgl⟩, ⟨htp, hhn⟩, hbk, hlo, hmem, c, hρc, ⟨hsc0, hcc, hc0, hcs⟩⟩ := hh
  have hsc : (am_S ++ D)[c]? = some (1, 10) := hsc0.1.1
  have h12 : I 1 2 = S 19 := h12
  have h14 : I 1 4 = S 20 := h14
  have h16 : I 1 6 = S 21 := h16
  have h18 : I 1 8 = S 23 := h18
  have h110 : I 1 10 = S 22 := h110
  have hr0 : I 2 0 = S 0 := hr0
  have hhr : I 2 1 = am_bits (sp_hp S) 6 := hhr
  have hhd : I 2 2 = am_bits (sp_dp S) 6 := hhd
  have hgl : ∀ m, m < (S 19).toNat → I 3 m = S (1 + m) := hgl
  have htp : ∀ i, i < (S 23).toNat → I 17 i = S (68 + i) := htp
  have hhn : ∀ i, i < (S 22).toNat → I 18 i = S (62 + i) := hhn
  have hbk : ∀ b, b < (S 20).toNat → I (6 + b) 0 = S (38 + b) ∧ I (6 + b) 1 = S (44 + b) ∧ I (6 + b) 2 = S (50 + b) ∧ I (6 + b) 3 = S (56 + b) := hbk
  have hlo : ∀ m b : Nat, m < (S 19).toNat → b < (S 20).toNat → I (20 + m) b = sp_like S m b ∧ I (27 + m) b = sp_odds S m b := hlo
  have hmem : c_mems D I ρ 4 S := hmem
  have hρc : ρ 1 5 = some c := hρc
  have hh := hh0
  have h19 := r_ok_19 hok
  have hokx := hok
  obtain ⟨o0, oG, oH, oD, o19, o20, o21, o22, o23, o24, oK, oV, oP, oM, oS, oY, oHd, oT, oC, oN⟩ := hok
  have hok := hokx
  refine am_e_ss 2 (q := (13, [(4, .inl (w : Int)), (3, .inl bg), (2, .inl bh), (1, .inl p), (0, .inr (.inr (.inl (some 0))))], [.inl 6, .inl (w : Int)], (am_mm D I J ρ))) rfl ?_
  refine am_e_icmp2 rfl ⟨by omega, by omega⟩ ⟨by omega, by omega⟩ (fun (hw1 : 6 ≤ (w : Int)) => ?_) (fun (hw1 : ¬ (6 ≤ (w : Int))) => ?_)
  · show am_E _ _ _ 62 [(4, .inl (w : Int)), (3, .inl bg), (2, .inl bh), (1, .inl p), (0, .inr (.inr (.inl (some 0))))] [] (am_mm D I J ρ) _
    refine am_e_ss 1 (q := (63, [(4, .inl (w : Int)), (3, .inl bg), (2, .inl bh), (1, .inl p), (0, .inr (.inr (.inl (some 0))))], [.inl p], (am_mm D I J ρ))) rfl ?_
    refine am_e_ireturn rfl rfl ?_
    have ev : sp_best S = p := by unfold sp_best; rw [show 6 = w by omega, ← hst]
    rw [ev]
    exact ⟨I, ρ, am_r_wp uZ am_k_id, fun _ _ _ => rfl⟩
  · show am_E _ _ _ 16 [(4, .inl (w : Int)), (3, .inl bg), (2, .inl bh), (1, .inl p), (0, .inr (.inr (.inl (some 0))))] [] (am_mm D I J ρ) _
    refine am_e_ss 3 (q := (21, [(4, .inl (w : Int)), (3, .inl bg), (2, .inl bh), (1, .inl p), (0, .inr (.inr (.inl (some 0))))], [.inl (w : Int), .inl 6, .inr (.inr (.inl (some 0)))], (am_mm D I J ρ))) rfl ?_
    refine am_e_virtual (Q := fun r => ∃ Q237 ρ237, r = (some (.inl ((sp_rn (w : Int) 6 (S, 0)).2)), (am_mm D (am_wp uZ I Q237) J ρ237)) ∧ (∀ k j, k ≠ 71 → ρ237 k j = ρ k j) ∧ c_roll Q237 69 70 (sp_rn (w : Int) 6 (S, 0)).1) rfl rfl (Nat.le_of_ble_eq_true rfl) rfl rfl (Nat.le_of_ble_eq_true rfl) (Nat.le_of_ble_eq_true rfl) (c_try _ (n := 6) (way := (w : Int)) hok hwf hh ⟨by omega, by omega⟩ ⟨by omega, by omega⟩ (by omega) (by omega)) ?_
    rintro r ⟨Q237, ρ237, rfl, ⟨hrr, hrt⟩⟩
    show am_E _ _ _ 24 [(4, .inl (w : Int)), (3, .inl bg), (2, .inl bh), (1, .inl p), (0, .inr (.inr (.inl (some 0))))] [.inl ((sp_rn (w : Int) 6 (S, 0)).2)] (am_mm D (am_wp uZ I Q237) J ρ237) _
    have hto := sp_T_ok (w := w) hok hwf h0
    have hrt2 : c_roll (am_wp uZ I Q237) 69 70 (sp_T S w) := hrt
    have hnb := sp_hn_b hto.1
    have gbb := sp_G_b hto.1 (r_ok_B hto.1)
    have bv01 := sp_btv_01 (sp_hn (sp_T S w)) (sp_G (sp_T S w)) bh bg
    refine am_e_ss 5 (q := (31, [(4, .inl (w : Int)), (3, .inl bg), (2, .inl bh), (1, .inl p), (0, .inr (.inr (.inl (some 0))))], [.inl bg, .inl bh, .inr (.inr (.inl (some 69)))], (am_mm D (am_wp uZ I Q237) J ρ237))) rfl ?_
    refine am_e_virtual (Q := fun r => r = (some (.inl ((sp_btv (sp_hn (sp_T S w)) (sp_G (sp_T S w)) bh bg))), (am_mm D (am_wp uZ I Q237) J ρ237))) rfl rfl (Nat.le_of_ble_eq_true rfl) rfl rfl (Nat.le_of_ble_eq_true rfl) (Nat.le_of_ble_eq_true rfl) (c_isBetter _ (S := sp_T S w) hto.1 hB hrt2 ⟨by omega, by omega⟩ ⟨by omega, by omega⟩) ?_
    rintro r rfl
    show am_E _ _ _ 34 [(4, .inl (w : Int)), (3, .inl bg), (2, .inl bh), (1, .inl p), (0, .inr (.inr (.inl (some 0))))] [.inl ((sp_btv (sp_hn (sp_T S w)) (sp_G (sp_T S w)) bh bg))] (am_mm D (am_wp uZ I Q237) J ρ237) _
    refine am_e_if2 rfl ⟨by omega, by omega⟩ (fun (hw2 : (sp_btv (sp_hn (sp_T S w)) (sp_G (sp_T S w)) bh bg) = 0) => ?_) (fun (hw2 : ¬ ((sp_btv (sp_hn (sp_T S w)) (sp_G (sp_T S w)) bh bg) = 0)) => ?_)
    · show am_E _ _ _ 56 [(4, .inl (w : Int)), (3, .inl bg), (2, .inl bh), (1, .inl p), (0, .inr (.inr (.inl (some 0))))] [] (am_mm D (am_wp uZ I Q237) J ρ237) _
      refine am_e_ss 2 (q := (9, [(4, .inl ((w : Int) + 1)), (3, .inl bg), (2, .inl bh), (1, .inl p), (0, .inr (.inr (.inl (some 0))))], [], (am_mm D (am_wp uZ I Q237) J ρ237))) rfl ?_
      have eb : sp_btv (sp_hn (sp_T S w)) (sp_G (sp_T S w)) bh bg = 0 := by omega
      have eS : sp_bst S (w + 1) = sp_bst S w := by
        rw [sp_bst_s, ← hst]
        exact if_neg (by show ¬ sp_btv _ _ bh bg = 1; rw [eb]; omega)
      have hst2 : (p, (bh, bg)) = sp_bst S (w + 1) := by rw [eS]; exact hst
      have hhK : c_hall D (am_wp uZ I Q237) ρ237 0 S := c_hall_cg hok (Or.inl rfl) hh (fun c i h => ((am_k_wp am_k_sub (am_k_id))) c i (uZ_fx h)) hrr
      refine (am_less (lv := [(4, .inl ((w + 1) : Int)), (3, .inl bg), (2, .inl bh), (1, .inl p), (0, .inr (.inr (.inl (some 0))))]) rfl (List.forall_mem_cons.mpr ⟨rfl, List.forall_mem_cons.mpr ⟨rfl, List.forall_mem_cons.mpr ⟨rfl, List.forall_mem_cons.mpr ⟨rfl, List.forall_mem_cons.mpr ⟨rfl, List.forall_mem_nil _⟩⟩⟩⟩⟩) (c_best_l (I := am_wp uZ I Q237) d (w := w + 1) hok hwf hhK hB h0 (by omega) hst2 (by omega) (by omega))).imp ?_
      rintro q ⟨Q9, ρ9, rfl, hr9⟩
      exact ⟨Q9, ρ9, am_r_wk uZ (am_k_wp am_k_sub (am_k_id)), fun k j hk => (hr9 k j hk).trans (hrr k j hk)⟩
    · show am_E _ _ _ 37 [(4, .inl (w : Int)), (3, .inl bg), (2, .inl bh), (1, .inl p), (0, .inr (.inr (.inl (some 0))))] [] (am_mm D (am_wp uZ I Q237) J ρ237) _
      refine am_e_ss 4 (q := (44, [(1, .inl (w : Int)), (4, .inl (w : Int)), (3, .inl bg), (2, .inl bh), (0, .inr (.inr (.inl (some 0))))], [.inr (.inr (.inl (some 69)))], (am_mm D (am_wp uZ I Q237) J ρ237))) rfl ?_
      refine am_e_virtual (Q := fun r => r = (some (.inl ((sp_hn (sp_T S w)))), (am_mm D (am_wp uZ I Q237) J ρ237))) rfl rfl (Nat.le_of_ble_eq_true rfl) rfl rfl (Nat.le_of_ble_eq_true rfl) (Nat.le_of_ble_eq_true rfl) ((c_countHere_69 _ (p := sp_hp (sp_T S w)) hrt2.2.1).imp (fun q h => by rw [h, (sp_hn_cnt hto.1).1]; rfl)) ?_
      rintro r rfl
      show am_E _ _ _ 47 [(1, .inl (w : Int)), (4, .inl (w : Int)), (3, .inl bg), (2, .inl bh), (0, .inr (.inr (.inl (some 0))))] [.inl ((sp_hn (sp_T S w)))] (am_mm D (am_wp uZ I Q237) J ρ237) _
      refine am_e_ss 3 (q := (52, [(2, .inl ((sp_hn (sp_T S w)))), (1, .inl (w : Int)), (4, .inl (w : Int)), (3, .inl bg), (0, .inr (.inr (.inl (some 0))))], [.inr (.inr (.inl (some 69)))], (am_mm D (am_wp uZ I Q237) J ρ237))) rfl ?_
      refine am_e_virtual (Q := fun r => r = (some (.inl ((sp_G (sp_T S w)))), (am_mm D (am_wp uZ I Q237) J ρ237))) rfl rfl (Nat.le_of_ble_eq_true rfl) rfl rfl (Nat.le_of_ble_eq_true rfl) (Nat.le_of_ble_eq_true rfl) (c_sumGlad _ hto.1 hrt2) ?_
      rintro r rfl
      show am_E _ _ _ 55 [(2, .inl ((sp_hn (sp_T S w)))), (1, .inl (w : Int)), (4, .inl (w : Int)), (3, .inl bg), (0, .inr (.inr (.inl (some 0))))] [.inl ((sp_G (sp_T S w)))] (am_mm D (am_wp uZ I Q237) J ρ237) _
      refine am_e_ss 3 (q := (9, [(4, .inl ((w : Int) + 1)), (3, .inl ((sp_G (sp_T S w)))), (2, .inl ((sp_hn (sp_T S w)))), (1, .inl (w : Int)), (0, .inr (.inr (.inl (some 0))))], [], (am_mm D (am_wp uZ I Q237) J ρ237))) rfl ?_
      have eb : sp_btv (sp_hn (sp_T S w)) (sp_G (sp_T S w)) bh bg = 1 := by omega
      have eS : sp_bst S (w + 1) = ((w : Int), (sp_hn (sp_T S w), sp_G (sp_T S w))) := by
        rw [sp_bst_s, ← hst]
        exact if_pos eb
      have hst2 : ((w : Int), ((sp_hn (sp_T S w)), (sp_G (sp_T S w)))) = sp_bst S (w + 1) := by rw [eS]
      have hhK : c_hall D (am_wp uZ I Q237) ρ237 0 S := c_hall_cg hok (Or.inl rfl) hh (fun c i h => ((am_k_wp am_k_sub (am_k_id))) c i (uZ_fx h)) hrr
      refine (am_less (lv := [(4, .inl ((w + 1) : Int)), (3, .inl ((sp_G (sp_T S w)))), (2, .inl ((sp_hn (sp_T S w)))), (1, .inl ((w : Int))), (0, .inr (.inr (.inl (some 0))))]) rfl (List.forall_mem_cons.mpr ⟨rfl, List.forall_mem_cons.mpr ⟨rfl, List.forall_mem_cons.mpr ⟨rfl, List.forall_mem_cons.mpr ⟨rfl, List.forall_mem_cons.mpr ⟨rfl, List.forall_mem_nil _⟩⟩⟩⟩⟩) (c_best_l (I := am_wp uZ I Q237) d (w := w + 1) hok hwf hhK hB h0 (by omega) hst2 (by omega) (by omega))).imp ?_
      rintro q ⟨Q9, ρ9, rfl, hr9⟩
      exact ⟨Q9, ρ9, am_r_wk uZ (am_k_wp am_k_sub (am_k_id)), fun k j hk => (hr9 k j hk).trans (hrr k j hk)⟩
termination_by 6 - w
decreasing_by all_goals omega
theorem c_best {X : Nat × (Nat → Int)} {D : List (Nat × Nat)} {I J : Nat → Nat → Int} {ρ : Nat → Nat → Option Nat} (d : Nat) {S : Nat → Int} {B : Int} (hok : r_ok S B) (hwf : sp_wfS S) (hh : c_hall D I ρ 0 S) (hB : B + 480300 ≤ 300000000) (h0 : S 0 ≤ 190) : am_E X (d + 6) 111 0 [(0, .inr (.inr (.inl (some 0))))] [] (am_mm D I J ρ) (fun q => ∃ Q ρ2, q = (some (.inl (sp_best S)), am_mm D (am_wp uZ I Q) J ρ2) ∧ ∀ k j, k ≠ 71 → ρ2 k j = ρ k j) := by
  refine am_e_ss 8 (q := (9, [(4, .inl 0), (3, .inl 0), (2, .inl (-1)), (1, .inl 0), (0, .inr (.inr (.inl (some 0))))], [], (am_mm D I J ρ))) rfl ?_
  exact am_less (lv := [(4, .inl (0 : Int)), (3, .inl 0), (2, .inl ((-1))), (1, .inl 0), (0, .inr (.inr (.inl (some 0))))]) rfl (List.forall_mem_cons.mpr ⟨rfl, List.forall_mem_cons.mpr ⟨rfl, List.forall_mem_cons.mpr ⟨rfl, List.forall_mem_cons.mpr ⟨rfl, List.forall_mem_cons.mpr ⟨rfl, List.forall_mem_nil _⟩⟩⟩⟩⟩) (c_best_l d (w := 0) hok hwf hh hB h0 (by omega) rfl (by omega) (by omega))
