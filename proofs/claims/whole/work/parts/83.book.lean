def c_fz (c : Nat) : Prop := c_fy c ∨ (107 ≤ c ∧ c < 124)
/-! THE CLASS: book -/
theorem uH2_off {c j : Nat} (h : ¬ (c = 2 ∧ j = 2)) : uH2 c j = false := by
  cases e : uH2 c j with
  | false => rfl
  | true =>
    exfalso
    unfold uH2 at e
    simp at e
    omega
theorem c_addBook {X : Nat × (Nat → Int)} {D : List (Nat × Nat)} {I J : Nat → Nat → Int} {ρ : Nat → Nat → Option Nat} (d : Nat) {S : Nat → Int} {B : Int} (hok : r_ok S B) (hwf : sp_wfS S) (hh : c_hall D I ρ 0 S) {p o s y : Int} {n : Nat} (hn : S 20 = (n : Int)) (hn6 : n < 6) (hp : 0 ≤ p ∧ p ≤ 99) (ho : 0 ≤ o ∧ o ≤ 9) (hs : 0 ≤ s ∧ s ≤ 3) (hy : 0 ≤ y ∧ y ≤ 5)  : am_E X (d + 5) 27 0 [(0, .inr (.inr (.inl (some 1)))), (1, .inl p), (2, .inl o), (3, .inl s), (4, .inl y)] [] (am_mm D I J ρ) (fun z => ∃ K, z = (none, am_mm D K J ρ) ∧ (∀ c j, c_fz c → K c j = I c j) ∧ c_hall D K ρ 0 (sp_bk S n p o s y)) := by
  have hh0 := hh
  obtain ⟨⟨h12, h14, h16, h18, h110⟩, ⟨hr0, hhr, hhd, hgl⟩, ⟨htp, hhn⟩, hbk, hlo, hmem, c, hρc, ⟨hsc0, hcc, hc0, hcs⟩⟩ := hh
  have hsc : (am_S ++ D)[c]? = some (1, 10) := hsc0.1.1
  have h12 : I 1 2 = S 19 := h12
  have h14 : I 1 4 = S 20 := h14
  have h16 : I 1 6 = S 21 := h16
  have h18 : I 1 8 = S 23 := h18
  have h110 : I 1 10 = S 22 := h110
  have hr0 : I 2 0 = S 0 := hr0
  have hhr : I 2 1 = am_bits (sp_hp S) 6 := hhr
  have hhd : I 2 2 = am_bits (sp_dp S) 6 := hhd
  have hgl : ∀ m, m < (S 19).toNat → I 3 m = S (1 + m) := hgl
  have htp : ∀ i, i < (S 23).toNat → I 17 i = S (68 + i) := htp
  have hhn : ∀ i, i < (S 22).toNat → I 18 i = S (62 + i) := hhn
  have hbk : ∀ b, b < (S 20).toNat → I (6 + b) 0 = S (38 + b) ∧ I (6 + b) 1 = S (44 + b) ∧ I (6 + b) 2 = S (50 + b) ∧ I (6 + b) 3 = S (56 + b) := hbk
  have hlo : ∀ m b : Nat, m < (S 19).toNat → b < (S 20).toNat → I (20 + m) b = sp_like S m b ∧ I (27 + m) b = sp_odds S m b := hlo
  have hmem : c_mems D I ρ 4 S := hmem
  have hρc : ρ 1 5 = some c := hρc
  have hh := hh0
  have h19 := r_ok_19 hok
  have hokx := hok
  obtain ⟨o0, oG, oH, oD, o19, o20, o21, o22, o23, o24, oK, oV, oP, oM, oS, oY, oHd, oT, oC, oN⟩ := hok
  have hok := hokx
  refine am_e_ss 4 (q := (8, [(0, .inr (.inr (.inl (some 1)))), (1, .inl p), (2, .inl o), (3, .inl s), (4, .inl y)], [.inl ((I 1 4)), .inr (.inr (.inl (some 5)))], (am_mm D I J ρ))) rfl ?_
  refine am_e_aaload (m := 6) (c := 23) rfl rfl (by decide) (by omega) (by omega) (by omega) ?_
  rw [show ((am_mm D I J ρ)).2.2.2 5 ((I 1 4)).toNat = some (6 + ((I 1 4)).toNat) from (am_r5 (ρ := ρ) (by omega))]
  show am_E _ _ _ 9 [(0, .inr (.inr (.inl (some 1)))), (1, .inl p), (2, .inl o), (3, .inl s), (4, .inl y)] [.inr (.inr (.inl (some (6 + ((I 1 4)).toNat))))] (am_mm D I J ρ) _
  refine am_e_ss 4 (q := (15, [(5, .inr (.inr (.inl (some (6 + ((I 1 4)).toNat))))), (0, .inr (.inr (.inl (some 1)))), (1, .inl p), (2, .inl o), (3, .inl s), (4, .inl y)], [.inl p, .inl 0, .inr (.inr (.inl (some (6 + ((I 1 4)).toNat))))], (am_mm D I J ρ))) rfl ?_
  refine am_e_iastore (m := 4) rfl (am_k6 (by omega)) (by omega) (by omega) (by omega) ?_
  show am_E _ _ _ 16 [(5, .inr (.inr (.inl (some (6 + ((I 1 4)).toNat))))), (0, .inr (.inr (.inl (some 1)))), (1, .inl p), (2, .inl o), (3, .inl s), (4, .inl y)] [] (am_mm D (am_up I (6 + ((I 1 4)).toNat) 0 p) J ρ) _
  refine am_e_ss 3 (q := (20, [(5, .inr (.inr (.inl (some (6 + ((I 1 4)).toNat))))), (0, .inr (.inr (.inl (some 1)))), (1, .inl p), (2, .inl o), (3, .inl s), (4, .inl y)], [.inl o, .inl 1, .inr (.inr (.inl (some (6 + ((I 1 4)).toNat))))], (am_mm D (am_up I (6 + ((I 1 4)).toNat) 0 p) J ρ))) rfl ?_
  refine am_e_iastore (m := 4) rfl (am_k6 (by omega)) (by omega) (by omega) (by omega) ?_
  show am_E _ _ _ 21 [(5, .inr (.inr (.inl (some (6 + ((I 1 4)).toNat))))), (0, .inr (.inr (.inl (some 1)))), (1, .inl p), (2, .inl o), (3, .inl s), (4, .inl y)] [] (am_mm D (am_up (am_up I (6 + ((I 1 4)).toNat) 0 p) (6 + ((I 1 4)).toNat) 1 o) J ρ) _
  refine am_e_ss 3 (q := (25, [(5, .inr (.inr (.inl (some (6 + ((I 1 4)).toNat))))), (0, .inr (.inr (.inl (some 1)))), (1, .inl p), (2, .inl o), (3, .inl s), (4, .inl y)], [.inl s, .inl 2, .inr (.inr (.inl (some (6 + ((I 1 4)).toNat))))], (am_mm D (am_up (am_up I (6 + ((I 1 4)).toNat) 0 p) (6 + ((I 1 4)).toNat) 1 o) J ρ))) rfl ?_
  refine am_e_iastore (m := 4) rfl (am_k6 (by omega)) (by omega) (by omega) (by omega) ?_
  show am_E _ _ _ 26 [(5, .inr (.inr (.inl (some (6 + ((I 1 4)).toNat))))), (0, .inr (.inr (.inl (some 1)))), (1, .inl p), (2, .inl o), (3, .inl s), (4, .inl y)] [] (am_mm D (am_up (am_up (am_up I (6 + ((I 1 4)).toNat) 0 p) (6 + ((I 1 4)).toNat) 1 o) (6 + ((I 1 4)).toNat) 2 s) J ρ) _
  refine am_e_ss 3 (q := (31, [(5, .inr (.inr (.inl (some (6 + ((I 1 4)).toNat))))), (0, .inr (.inr (.inl (some 1)))), (1, .inl p), (2, .inl o), (3, .inl s), (4, .inl y)], [.inl y, .inl 3, .inr (.inr (.inl (some (6 + ((I 1 4)).toNat))))], (am_mm D (am_up (am_up (am_up I (6 + ((I 1 4)).toNat) 0 p) (6 + ((I 1 4)).toNat) 1 o) (6 + ((I 1 4)).toNat) 2 s) J ρ))) rfl ?_
  refine am_e_iastore (m := 4) rfl (am_k6 (by omega)) (by omega) (by omega) (by omega) ?_
  show am_E _ _ _ 32 [(5, .inr (.inr (.inl (some (6 + ((I 1 4)).toNat))))), (0, .inr (.inr (.inl (some 1)))), (1, .inl p), (2, .inl o), (3, .inl s), (4, .inl y)] [] (am_mm D (am_up (am_up (am_up (am_up I (6 + ((I 1 4)).toNat) 0 p) (6 + ((I 1 4)).toNat) 1 o) (6 + ((I 1 4)).toNat) 2 s) (6 + ((I 1 4)).toNat) 3 y) J ρ) _
  have en : (I 1 4).toNat = n := by omega
  have g14 : (am_up (am_up (am_up (am_up I (6 + ((I 1 4)).toNat) 0 p) (6 + ((I 1 4)).toNat) 1 o) (6 + ((I 1 4)).toNat) 2 s) (6 + ((I 1 4)).toNat) 3 y) 1 4 = S 20 := (am_up_ne2 (Or.inl (by omega))).trans ((am_up_ne2 (Or.inl (by omega))).trans ((am_up_ne2 (Or.inl (by omega))).trans ((am_up_ne2 (Or.inl (by omega))).trans (h14))))
  have g22 : (am_up (am_up (am_up (am_up I (6 + ((I 1 4)).toNat) 0 p) (6 + ((I 1 4)).toNat) 1 o) (6 + ((I 1 4)).toNat) 2 s) (6 + ((I 1 4)).toNat) 3 y) 2 2 = am_bits (sp_dp S) 6 := (am_up_ne2 (Or.inl (by omega))).trans ((am_up_ne2 (Or.inl (by omega))).trans ((am_up_ne2 (Or.inl (by omega))).trans ((am_up_ne2 (Or.inl (by omega))).trans (hhd))))
  have gn : (am_up (am_up (am_up (am_up I (6 + ((I 1 4)).toNat) 0 p) (6 + ((I 1 4)).toNat) 1 o) (6 + ((I 1 4)).toNat) 2 s) (6 + ((I 1 4)).toNat) 3 y) (6 + n) 0 = p ∧ (am_up (am_up (am_up (am_up I (6 + ((I 1 4)).toNat) 0 p) (6 + ((I 1 4)).toNat) 1 o) (6 + ((I 1 4)).toNat) 2 s) (6 + ((I 1 4)).toNat) 3 y) (6 + n) 1 = o ∧ (am_up (am_up (am_up (am_up I (6 + ((I 1 4)).toNat) 0 p) (6 + ((I 1 4)).toNat) 1 o) (6 + ((I 1 4)).toNat) 2 s) (6 + ((I 1 4)).toNat) 3 y) (6 + n) 2 = s ∧ (am_up (am_up (am_up (am_up I (6 + ((I 1 4)).toNat) 0 p) (6 + ((I 1 4)).toNat) 1 o) (6 + ((I 1 4)).toNat) 2 s) (6 + ((I 1 4)).toNat) 3 y) (6 + n) 3 = y := by
    rw [en]
    exact ⟨(am_up_ne2 (Or.inr (by omega))).trans ((am_up_ne2 (Or.inr (by omega))).trans ((am_up_ne2 (Or.inr (by omega))).trans am_up_at2)), (am_up_ne2 (Or.inr (by omega))).trans ((am_up_ne2 (Or.inr (by omega))).trans am_up_at2), (am_up_ne2 (Or.inr (by omega))).trans am_up_at2, am_up_at2⟩
  have gf : ∀ c j, c ≠ 6 + n → (am_up (am_up (am_up (am_up I (6 + ((I 1 4)).toNat) 0 p) (6 + ((I 1 4)).toNat) 1 o) (6 + ((I 1 4)).toNat) 2 s) (6 + ((I 1 4)).toNat) 3 y) c j = I c j := fun c j h => (am_up_ne2 (Or.inl (by omega))).trans ((am_up_ne2 (Or.inl (by omega))).trans ((am_up_ne2 (Or.inl (by omega))).trans ((am_up_ne2 (Or.inl (by omega))).trans (rfl))))
  refine am_e_ss 5 (q := (41, [(5, .inr (.inr (.inl (some (6 + ((I 1 4)).toNat))))), (0, .inr (.inr (.inl (some 1)))), (1, .inl p), (2, .inl o), (3, .inl s), (4, .inl y)], [.inl 0, .inl (((am_up (am_up (am_up (am_up I (6 + ((I 1 4)).toNat) 0 p) (6 + ((I 1 4)).toNat) 1 o) (6 + ((I 1 4)).toNat) 2 s) (6 + ((I 1 4)).toNat) 3 y) 1 4)), .inr (.inr (.inl (some 2)))], (am_mm D (am_up (am_up (am_up (am_up I (6 + ((I 1 4)).toNat) 0 p) (6 + ((I 1 4)).toNat) 1 o) (6 + ((I 1 4)).toNat) 2 s) (6 + ((I 1 4)).toNat) 3 y) J ρ))) rfl ?_
  refine am_e_virtual (Q := fun r => ∃ Q269, r = (none, (am_mm D (am_wp uH2 (am_up (am_up (am_up (am_up I (6 + ((I 1 4)).toNat) 0 p) (6 + ((I 1 4)).toNat) 1 o) (6 + ((I 1 4)).toNat) 2 s) (6 + ((I 1 4)).toNat) 3 y) Q269) J ρ)) ∧ Q269 2 2 = am_bits (fun x => if x = (((am_up (am_up (am_up (am_up I (6 + ((I 1 4)).toNat) 0 p) (6 + ((I 1 4)).toNat) 1 o) (6 + ((I 1 4)).toNat) 2 s) (6 + ((I 1 4)).toNat) 3 y) 1 4)).toNat then decide ((0 : Int) = 1) else sp_dp S x) 6) rfl rfl (Nat.le_of_ble_eq_true rfl) rfl rfl (Nat.le_of_ble_eq_true rfl) (Nat.le_of_ble_eq_true rfl) (c_setHadI_2 _ (z := 0) (y := ((am_up (am_up (am_up (am_up I (6 + ((I 1 4)).toNat) 0 p) (6 + ((I 1 4)).toNat) 1 o) (6 + ((I 1 4)).toNat) 2 s) (6 + ((I 1 4)).toNat) 3 y) 1 4)) (p := sp_dp S) (by omega) ⟨by omega, by omega⟩ g22) ?_
  rintro r ⟨Q269, rfl, hsh⟩
  show am_E _ _ _ 44 [(5, .inr (.inr (.inl (some (6 + ((I 1 4)).toNat))))), (0, .inr (.inr (.inl (some 1)))), (1, .inl p), (2, .inl o), (3, .inl s), (4, .inl y)] [] (am_mm D (am_wp uH2 (am_up (am_up (am_up (am_up I (6 + ((I 1 4)).toNat) 0 p) (6 + ((I 1 4)).toNat) 1 o) (6 + ((I 1 4)).toNat) 2 s) (6 + ((I 1 4)).toNat) 3 y) Q269) J ρ) _
  refine am_e_ss 6 (q := (54, [(5, .inr (.inr (.inl (some (6 + ((I 1 4)).toNat))))), (0, .inr (.inr (.inl (some 1)))), (1, .inl p), (2, .inl o), (3, .inl s), (4, .inl y)], [], (am_mm D (am_up (am_wp uH2 (am_up (am_up (am_up (am_up I (6 + ((I 1 4)).toNat) 0 p) (6 + ((I 1 4)).toNat) 1 o) (6 + ((I 1 4)).toNat) 2 s) (6 + ((I 1 4)).toNat) 3 y) Q269) 1 4 (((am_up (am_up (am_up (am_up I (6 + ((I 1 4)).toNat) 0 p) (6 + ((I 1 4)).toNat) 1 o) (6 + ((I 1 4)).toNat) 2 s) (6 + ((I 1 4)).toNat) 3 y) 1 4) + 1)) J ρ))) rfl ?_
  have hM : ∀ c j, ¬ (c = 2 ∧ j = 2) → c ≠ 6 + n → ¬ (c = 1 ∧ j = 4) → (am_up (am_wp uH2 (am_up (am_up (am_up (am_up I (6 + ((I 1 4)).toNat) 0 p) (6 + ((I 1 4)).toNat) 1 o) (6 + ((I 1 4)).toNat) 2 s) (6 + ((I 1 4)).toNat) 3 y) Q269) 1 4 (((am_up (am_up (am_up (am_up I (6 + ((I 1 4)).toNat) 0 p) (6 + ((I 1 4)).toNat) 1 o) (6 + ((I 1 4)).toNat) 2 s) (6 + ((I 1 4)).toNat) 3 y) 1 4) + 1)) c j = I c j := fun c j h1 h2 h3 => (if_neg h3).trans ((am_wp_off (uH2_off h1)).trans (gf c j h2))
  have hnew : (am_up (am_wp uH2 (am_up (am_up (am_up (am_up I (6 + ((I 1 4)).toNat) 0 p) (6 + ((I 1 4)).toNat) 1 o) (6 + ((I 1 4)).toNat) 2 s) (6 + ((I 1 4)).toNat) 3 y) Q269) 1 4 (((am_up (am_up (am_up (am_up I (6 + ((I 1 4)).toNat) 0 p) (6 + ((I 1 4)).toNat) 1 o) (6 + ((I 1 4)).toNat) 2 s) (6 + ((I 1 4)).toNat) 3 y) 1 4) + 1)) (6 + n) 0 = p ∧ (am_up (am_wp uH2 (am_up (am_up (am_up (am_up I (6 + ((I 1 4)).toNat) 0 p) (6 + ((I 1 4)).toNat) 1 o) (6 + ((I 1 4)).toNat) 2 s) (6 + ((I 1 4)).toNat) 3 y) Q269) 1 4 (((am_up (am_up (am_up (am_up I (6 + ((I 1 4)).toNat) 0 p) (6 + ((I 1 4)).toNat) 1 o) (6 + ((I 1 4)).toNat) 2 s) (6 + ((I 1 4)).toNat) 3 y) 1 4) + 1)) (6 + n) 1 = o ∧ (am_up (am_wp uH2 (am_up (am_up (am_up (am_up I (6 + ((I 1 4)).toNat) 0 p) (6 + ((I 1 4)).toNat) 1 o) (6 + ((I 1 4)).toNat) 2 s) (6 + ((I 1 4)).toNat) 3 y) Q269) 1 4 (((am_up (am_up (am_up (am_up I (6 + ((I 1 4)).toNat) 0 p) (6 + ((I 1 4)).toNat) 1 o) (6 + ((I 1 4)).toNat) 2 s) (6 + ((I 1 4)).toNat) 3 y) 1 4) + 1)) (6 + n) 2 = s ∧ (am_up (am_wp uH2 (am_up (am_up (am_up (am_up I (6 + ((I 1 4)).toNat) 0 p) (6 + ((I 1 4)).toNat) 1 o) (6 + ((I 1 4)).toNat) 2 s) (6 + ((I 1 4)).toNat) 3 y) Q269) 1 4 (((am_up (am_up (am_up (am_up I (6 + ((I 1 4)).toNat) 0 p) (6 + ((I 1 4)).toNat) 1 o) (6 + ((I 1 4)).toNat) 2 s) (6 + ((I 1 4)).toNat) 3 y) 1 4) + 1)) (6 + n) 3 = y := by
    have hz : ∀ j, (am_up (am_wp uH2 (am_up (am_up (am_up (am_up I (6 + ((I 1 4)).toNat) 0 p) (6 + ((I 1 4)).toNat) 1 o) (6 + ((I 1 4)).toNat) 2 s) (6 + ((I 1 4)).toNat) 3 y) Q269) 1 4 (((am_up (am_up (am_up (am_up I (6 + ((I 1 4)).toNat) 0 p) (6 + ((I 1 4)).toNat) 1 o) (6 + ((I 1 4)).toNat) 2 s) (6 + ((I 1 4)).toNat) 3 y) 1 4) + 1)) (6 + n) j = (am_up (am_up (am_up (am_up I (6 + ((I 1 4)).toNat) 0 p) (6 + ((I 1 4)).toNat) 1 o) (6 + ((I 1 4)).toNat) 2 s) (6 + ((I 1 4)).toNat) 3 y) (6 + n) j := fun j => (if_neg (by omega)).trans (am_wp_off (uH2_off (by omega)))
    rw [hz 0, hz 1, hz 2, hz 3]
    exact gn
  have g14b : (am_up (am_wp uH2 (am_up (am_up (am_up (am_up I (6 + ((I 1 4)).toNat) 0 p) (6 + ((I 1 4)).toNat) 1 o) (6 + ((I 1 4)).toNat) 2 s) (6 + ((I 1 4)).toNat) 3 y) Q269) 1 4 (((am_up (am_up (am_up (am_up I (6 + ((I 1 4)).toNat) 0 p) (6 + ((I 1 4)).toNat) 1 o) (6 + ((I 1 4)).toNat) 2 s) (6 + ((I 1 4)).toNat) 3 y) 1 4) + 1)) 1 4 = (n : Int) + 1 := by
    show (am_up (am_up (am_up (am_up I (6 + ((I 1 4)).toNat) 0 p) (6 + ((I 1 4)).toNat) 1 o) (6 + ((I 1 4)).toNat) 2 s) (6 + ((I 1 4)).toNat) 3 y) 1 4 + 1 = _
    rw [g14, hn]
  have g22b : (am_up (am_wp uH2 (am_up (am_up (am_up (am_up I (6 + ((I 1 4)).toNat) 0 p) (6 + ((I 1 4)).toNat) 1 o) (6 + ((I 1 4)).toNat) 2 s) (6 + ((I 1 4)).toNat) 3 y) Q269) 1 4 (((am_up (am_up (am_up (am_up I (6 + ((I 1 4)).toNat) 0 p) (6 + ((I 1 4)).toNat) 1 o) (6 + ((I 1 4)).toNat) 2 s) (6 + ((I 1 4)).toNat) 3 y) 1 4) + 1)) 2 2 = am_bits (fun x => if x = n then false else sp_dp S x) 6 := by
    show Q269 2 2 = _
    rw [hsh]
    refine am_bits_cg 6 (fun x _ => ?_)
    rw [g14, hn, show ((n : Int)).toNat = n by omega]
    rfl
  have hbkh := fun K => c_bk_hall (K := K) (p := p) (o := o) (s := s) (y := y) hok hn hn6 hh hM hnew g14b g22b
  have hok2 := sp_bk_ok (n := n) hok hn6 hp ho hs hy
  refine am_e_ss 1 (q := (55, [(5, .inr (.inr (.inl (some (6 + ((I 1 4)).toNat))))), (0, .inr (.inr (.inl (some 1)))), (1, .inl p), (2, .inl o), (3, .inl s), (4, .inl y)], [.inr (.inr (.inl (some 1)))], (am_mm D (am_up (am_wp uH2 (am_up (am_up (am_up (am_up I (6 + ((I 1 4)).toNat) 0 p) (6 + ((I 1 4)).toNat) 1 o) (6 + ((I 1 4)).toNat) 2 s) (6 + ((I 1 4)).toNat) 3 y) Q269) 1 4 (((am_up (am_up (am_up (am_up I (6 + ((I 1 4)).toNat) 0 p) (6 + ((I 1 4)).toNat) 1 o) (6 + ((I 1 4)).toNat) 2 s) (6 + ((I 1 4)).toNat) 3 y) 1 4) + 1)) J ρ))) rfl ?_
  refine am_e_virtual (Q := fun r => ∃ Q270, r = (none, (am_mm D Q270 J ρ)) ∧ (∀ c j, c_lor c → Q270 c j = (am_up (am_wp uH2 (am_up (am_up (am_up (am_up I (6 + ((I 1 4)).toNat) 0 p) (6 + ((I 1 4)).toNat) 1 o) (6 + ((I 1 4)).toNat) 2 s) (6 + ((I 1 4)).toNat) 3 y) Q269) 1 4 (((am_up (am_up (am_up (am_up I (6 + ((I 1 4)).toNat) 0 p) (6 + ((I 1 4)).toNat) 1 o) (6 + ((I 1 4)).toNat) 2 s) (6 + ((I 1 4)).toNat) 3 y) 1 4) + 1)) c j) ∧ c_lo Q270 0 (sp_bk S n p o s y)) rfl rfl (Nat.le_of_ble_eq_true rfl) rfl rfl (Nat.le_of_ble_eq_true rfl) (Nat.le_of_ble_eq_true rfl) (c_ma _ (S := sp_bk S n p o s y) hok2 (hbkh I).1) ?_
  rintro r ⟨Q270, rfl, ⟨hk1, hk2⟩⟩
  show am_E _ _ _ 58 [(5, .inr (.inr (.inl (some (6 + ((I 1 4)).toNat))))), (0, .inr (.inr (.inl (some 1)))), (1, .inl p), (2, .inl o), (3, .inl s), (4, .inl y)] [] (am_mm D Q270 J ρ) _
  refine am_e_return rfl rfl ?_
  refine ⟨Q270, rfl, fun c j h => ?_, (hbkh Q270).2 hk1 hk2⟩
  exact (hk1 c j (by unfold c_lor; unfold c_fz c_fy at h; omega)).trans (hM c j (by unfold c_fz c_fy at h; omega) (by unfold c_fz c_fy at h; omega) (by unfold c_fz c_fy at h; omega))
theorem c_book {X : Nat × (Nat → Int)} {D : List (Nat × Nat)} {I J : Nat → Nat → Int} {ρ : Nat → Nat → Option Nat} (d : Nat) {S : Nat → Int} {B : Int} (hok : r_ok S B) (hwf : sp_wfS S) (hh : c_hall D I ρ 0 S) {p o s y : Int} (hp : -2147483648 ≤ p ∧ p < 2147483648) (ho : -2147483648 ≤ o ∧ o < 2147483648) (hs : -2147483648 ≤ s ∧ s < 2147483648) (hy : -2147483648 ≤ y ∧ y < 2147483648) : am_E X (d + 6) 92 0 [(0, .inr (.inr (.inl (some 0)))), (1, .inl p), (2, .inl o), (3, .inl s), (4, .inl y)] [] (am_mm D I J ρ) (fun z => ∃ K, z = (some (.inl (sp_book S p o s y).1), am_mm D K J ρ) ∧ (∀ c j, c_fz c → K c j = I c j) ∧ c_hall D K ρ 0 (sp_book S p o s y).2) := by
  have hh0 := hh
  obtain ⟨⟨h12, h14, h16, h18, h110⟩, ⟨hr0, hhr, hhd, hgl⟩, ⟨htp, hhn⟩, hbk, hlo, hmem, c, hρc, ⟨hsc0, hcc, hc0, hcs⟩⟩ := hh
  have hsc : (am_S ++ D)[c]? = some (1, 10) := hsc0.1.1
  have h12 : I 1 2 = S 19 := h12
  have h14 : I 1 4 = S 20 := h14
  have h16 : I 1 6 = S 21 := h16
  have h18 : I 1 8 = S 23 := h18
  have h110 : I 1 10 = S 22 := h110
  have hr0 : I 2 0 = S 0 := hr0
  have hhr : I 2 1 = am_bits (sp_hp S) 6 := hhr
  have hhd : I 2 2 = am_bits (sp_dp S) 6 := hhd
  have hgl : ∀ m, m < (S 19).toNat → I 3 m = S (1 + m) := hgl
  have htp : ∀ i, i < (S 23).toNat → I 17 i = S (68 + i) := htp
  have hhn : ∀ i, i < (S 22).toNat → I 18 i = S (62 + i) := hhn
  have hbk : ∀ b, b < (S 20).toNat → I (6 + b) 0 = S (38 + b) ∧ I (6 + b) 1 = S (44 + b) ∧ I (6 + b) 2 = S (50 + b) ∧ I (6 + b) 3 = S (56 + b) := hbk
  have hlo : ∀ m b : Nat, m < (S 19).toNat → b < (S 20).toNat → I (20 + m) b = sp_like S m b ∧ I (27 + m) b = sp_odds S m b := hlo
  have hmem : c_mems D I ρ 4 S := hmem
  have hρc : ρ 1 5 = some c := hρc
  have hh := hh0
  have h19 := r_ok_19 hok
  have hokx := hok
  obtain ⟨o0, oG, oH, oD, o19, o20, o21, o22, o23, o24, oK, oV, oP, oM, oS, oY, oHd, oT, oC, oN⟩ := hok
  have hok := hokx
  refine am_e_ss 2 (q := (3, [(0, .inr (.inr (.inl (some 0)))), (1, .inl p), (2, .inl o), (3, .inl s), (4, .inl y)], [.inl y, .inr (.inr (.inl (some 0)))], (am_mm D I J ρ))) rfl ?_
  refine am_e_virtual (Q := fun r => r = (some (.inl ((am_bi (0 ≤ y ∧ y ≤ S 19 - 1)))), (am_mm D I J ρ))) rfl rfl (Nat.le_of_ble_eq_true rfl) rfl rfl (Nat.le_of_ble_eq_true rfl) (Nat.le_of_ble_eq_true rfl) (c_isMember _ (v := y) hok ⟨by omega, by omega⟩ h12) ?_
  rintro r rfl
  show am_E _ _ _ 6 [(0, .inr (.inr (.inl (some 0)))), (1, .inl p), (2, .inl o), (3, .inl s), (4, .inl y)] [.inl ((am_bi (0 ≤ y ∧ y ≤ S 19 - 1)))] (am_mm D I J ρ) _
  refine am_e_ifne rfl (fun hw1 => ?_) (fun hw1 => ?_)
  · show am_E _ _ _ 11 [(0, .inr (.inr (.inl (some 0)))), (1, .inl p), (2, .inl o), (3, .inl s), (4, .inl y)] [] (am_mm D I J ρ) _
    refine am_e_ss 1 (q := (12, [(0, .inr (.inr (.inl (some 0)))), (1, .inl p), (2, .inl o), (3, .inl s), (4, .inl y)], [.inl p], (am_mm D I J ρ))) rfl ?_
    refine am_e_if2 rfl ⟨by omega, by omega⟩ (fun (hw2 : p < 0) => ?_) (fun (hw2 : ¬ (p < 0)) => ?_)
    · show am_E _ _ _ 40 [(0, .inr (.inr (.inl (some 0)))), (1, .inl p), (2, .inl o), (3, .inl s), (4, .inl y)] [] (am_mm D I J ρ) _
      refine am_e_ss 1 (q := (42, [(0, .inr (.inr (.inl (some 0)))), (1, .inl p), (2, .inl o), (3, .inl s), (4, .inl y)], [.inl (-2)], (am_mm D I J ρ))) rfl ?_
      refine am_e_ireturn rfl rfl ?_
      rw [show sp_book S p o s y = ((-2), S) by (unfold sp_book; (repeat' split) <;> first | rfl | (exfalso; omega))]
      exact ⟨I, rfl, fun _ _ _ => rfl, hh⟩
    · show am_E _ _ _ 15 [(0, .inr (.inr (.inl (some 0)))), (1, .inl p), (2, .inl o), (3, .inl s), (4, .inl y)] [] (am_mm D I J ρ) _
      refine am_e_ss 2 (q := (18, [(0, .inr (.inr (.inl (some 0)))), (1, .inl p), (2, .inl o), (3, .inl s), (4, .inl y)], [.inl 99, .inl p], (am_mm D I J ρ))) rfl ?_
      refine am_e_icmp2 rfl ⟨by omega, by omega⟩ ⟨by omega, by omega⟩ (fun (hw3 : 99 < p) => ?_) (fun (hw3 : ¬ (99 < p)) => ?_)
      · show am_E _ _ _ 40 [(0, .inr (.inr (.inl (some 0)))), (1, .inl p), (2, .inl o), (3, .inl s), (4, .inl y)] [] (am_mm D I J ρ) _
        refine am_e_ss 1 (q := (42, [(0, .inr (.inr (.inl (some 0)))), (1, .inl p), (2, .inl o), (3, .inl s), (4, .inl y)], [.inl (-2)], (am_mm D I J ρ))) rfl ?_
        refine am_e_ireturn rfl rfl ?_
        rw [show sp_book S p o s y = ((-2), S) by (unfold sp_book; (repeat' split) <;> first | rfl | (exfalso; omega))]
        exact ⟨I, rfl, fun _ _ _ => rfl, hh⟩
      · show am_E _ _ _ 21 [(0, .inr (.inr (.inl (some 0)))), (1, .inl p), (2, .inl o), (3, .inl s), (4, .inl y)] [] (am_mm D I J ρ) _
        refine am_e_ss 1 (q := (22, [(0, .inr (.inr (.inl (some 0)))), (1, .inl p), (2, .inl o), (3, .inl s), (4, .inl y)], [.inl o], (am_mm D I J ρ))) rfl ?_
        refine am_e_if2 rfl ⟨by omega, by omega⟩ (fun (hw4 : o < 0) => ?_) (fun (hw4 : ¬ (o < 0)) => ?_)
        · show am_E _ _ _ 40 [(0, .inr (.inr (.inl (some 0)))), (1, .inl p), (2, .inl o), (3, .inl s), (4, .inl y)] [] (am_mm D I J ρ) _
          refine am_e_ss 1 (q := (42, [(0, .inr (.inr (.inl (some 0)))), (1, .inl p), (2, .inl o), (3, .inl s), (4, .inl y)], [.inl (-2)], (am_mm D I J ρ))) rfl ?_
          refine am_e_ireturn rfl rfl ?_
          rw [show sp_book S p o s y = ((-2), S) by (unfold sp_book; (repeat' split) <;> first | rfl | (exfalso; omega))]
          exact ⟨I, rfl, fun _ _ _ => rfl, hh⟩
        · show am_E _ _ _ 25 [(0, .inr (.inr (.inl (some 0)))), (1, .inl p), (2, .inl o), (3, .inl s), (4, .inl y)] [] (am_mm D I J ρ) _
          refine am_e_ss 2 (q := (28, [(0, .inr (.inr (.inl (some 0)))), (1, .inl p), (2, .inl o), (3, .inl s), (4, .inl y)], [.inl 9, .inl o], (am_mm D I J ρ))) rfl ?_
          refine am_e_icmp2 rfl ⟨by omega, by omega⟩ ⟨by omega, by omega⟩ (fun (hw5 : 9 < o) => ?_) (fun (hw5 : ¬ (9 < o)) => ?_)
          · show am_E _ _ _ 40 [(0, .inr (.inr (.inl (some 0)))), (1, .inl p), (2, .inl o), (3, .inl s), (4, .inl y)] [] (am_mm D I J ρ) _
            refine am_e_ss 1 (q := (42, [(0, .inr (.inr (.inl (some 0)))), (1, .inl p), (2, .inl o), (3, .inl s), (4, .inl y)], [.inl (-2)], (am_mm D I J ρ))) rfl ?_
            refine am_e_ireturn rfl rfl ?_
            rw [show sp_book S p o s y = ((-2), S) by (unfold sp_book; (repeat' split) <;> first | rfl | (exfalso; omega))]
            exact ⟨I, rfl, fun _ _ _ => rfl, hh⟩
          · show am_E _ _ _ 31 [(0, .inr (.inr (.inl (some 0)))), (1, .inl p), (2, .inl o), (3, .inl s), (4, .inl y)] [] (am_mm D I J ρ) _
            refine am_e_ss 1 (q := (32, [(0, .inr (.inr (.inl (some 0)))), (1, .inl p), (2, .inl o), (3, .inl s), (4, .inl y)], [.inl s], (am_mm D I J ρ))) rfl ?_
            refine am_e_if2 rfl ⟨by omega, by omega⟩ (fun (hw6 : s < 0) => ?_) (fun (hw6 : ¬ (s < 0)) => ?_)
            · show am_E _ _ _ 40 [(0, .inr (.inr (.inl (some 0)))), (1, .inl p), (2, .inl o), (3, .inl s), (4, .inl y)] [] (am_mm D I J ρ) _
              refine am_e_ss 1 (q := (42, [(0, .inr (.inr (.inl (some 0)))), (1, .inl p), (2, .inl o), (3, .inl s), (4, .inl y)], [.inl (-2)], (am_mm D I J ρ))) rfl ?_
              refine am_e_ireturn rfl rfl ?_
              rw [show sp_book S p o s y = ((-2), S) by (unfold sp_book; (repeat' split) <;> first | rfl | (exfalso; omega))]
              exact ⟨I, rfl, fun _ _ _ => rfl, hh⟩
            · show am_E _ _ _ 35 [(0, .inr (.inr (.inl (some 0)))), (1, .inl p), (2, .inl o), (3, .inl s), (4, .inl y)] [] (am_mm D I J ρ) _
              refine am_e_ss 2 (q := (37, [(0, .inr (.inr (.inl (some 0)))), (1, .inl p), (2, .inl o), (3, .inl s), (4, .inl y)], [.inl 3, .inl s], (am_mm D I J ρ))) rfl ?_
              refine am_e_icmp2 rfl ⟨by omega, by omega⟩ ⟨by omega, by omega⟩ (fun (hw7 : s ≤ 3) => ?_) (fun (hw7 : ¬ (s ≤ 3)) => ?_)
              · show am_E _ _ _ 43 [(0, .inr (.inr (.inl (some 0)))), (1, .inl p), (2, .inl o), (3, .inl s), (4, .inl y)] [] (am_mm D I J ρ) _
                refine am_e_ss 4 (q := (52, [(0, .inr (.inr (.inl (some 0)))), (1, .inl p), (2, .inl o), (3, .inl s), (4, .inl y)], [.inl 6, .inl ((I 1 4))], (am_mm D I J ρ))) rfl ?_
                refine am_e_icmp2 rfl ⟨by omega, by omega⟩ ⟨by omega, by omega⟩ (fun (hw8 : (I 1 4) < 6) => ?_) (fun (hw8 : ¬ ((I 1 4) < 6)) => ?_)
                · show am_E _ _ _ 58 [(0, .inr (.inr (.inl (some 0)))), (1, .inl p), (2, .inl o), (3, .inl s), (4, .inl y)] [] (am_mm D I J ρ) _
                  refine am_e_ss 6 (q := (67, [(0, .inr (.inr (.inl (some 0)))), (1, .inl p), (2, .inl o), (3, .inl s), (4, .inl y)], [.inl y, .inl s, .inl o, .inl p, .inr (.inr (.inl (some 1)))], (am_mm D I J ρ))) rfl ?_
                  refine am_e_virtual (Q := fun r => ∃ Q271, r = (none, (am_mm D Q271 J ρ)) ∧ (∀ c j, c_fz c → Q271 c j = I c j) ∧ c_hall D Q271 ρ 0 (sp_bk S (S 20).toNat p o s y)) rfl rfl (Nat.le_of_ble_eq_true rfl) rfl rfl (Nat.le_of_ble_eq_true rfl) (Nat.le_of_ble_eq_true rfl) (c_addBook _ (n := (S 20).toNat) hok hwf hh (by omega) (by omega) ⟨by omega, by omega⟩ ⟨by omega, by omega⟩ ⟨by omega, by omega⟩ ⟨by omega, by omega⟩) ?_
                  rintro r ⟨Q271, rfl, ⟨hk1, hk2⟩⟩
                  show am_E _ _ _ 70 [(0, .inr (.inr (.inl (some 0)))), (1, .inl p), (2, .inl o), (3, .inl s), (4, .inl y)] [] (am_mm D Q271 J ρ) _
                  refine am_e_ss 5 (q := (79, [(0, .inr (.inr (.inl (some 0)))), (1, .inl p), (2, .inl o), (3, .inl s), (4, .inl y)], [.inl ((Q271 1 4) - 1)], (am_mm D Q271 J ρ))) rfl ?_
                  refine am_e_ireturn rfl rfl ?_
                  have eb : (sp_book S p o s y).2 = sp_bk S (S 20).toNat p o s y := by
                    unfold sp_book sp_bk
                    rw [if_neg (by omega), if_neg (by omega), if_neg (by omega), if_neg (by omega), if_neg (by omega)]
                    rw [show (38 + S 20).toNat = 38 + (S 20).toNat by omega, show (44 + S 20).toNat = 44 + (S 20).toNat by omega, show (50 + S 20).toNat = 50 + (S 20).toNat by omega, show (56 + S 20).toNat = 56 + (S 20).toNat by omega, show (13 + S 20).toNat = 13 + (S 20).toNat by omega, show (((S 20).toNat : Nat) : Int) = S 20 by omega]
                  have e1 : (sp_book S p o s y).1 = S 20 := by
                    unfold sp_book
                    rw [if_neg (by omega), if_neg (by omega), if_neg (by omega), if_neg (by omega), if_neg (by omega)]
                  have e4 : Q271 1 4 = S 20 + 1 := hk2.1.2.1.trans ((sp_bk_at (by omega)).2.2.2.2.2.1.trans (by omega))
                  rw [e1, eb, show ((Q271 1 4) - 1) = S 20 by rw [e4]; omega]
                  exact ⟨Q271, rfl, hk1, hk2⟩
                · show am_E _ _ _ 55 [(0, .inr (.inr (.inl (some 0)))), (1, .inl p), (2, .inl o), (3, .inl s), (4, .inl y)] [] (am_mm D I J ρ) _
                  refine am_e_ss 1 (q := (57, [(0, .inr (.inr (.inl (some 0)))), (1, .inl p), (2, .inl o), (3, .inl s), (4, .inl y)], [.inl (-4)], (am_mm D I J ρ))) rfl ?_
                  refine am_e_ireturn rfl rfl ?_
                  rw [show sp_book S p o s y = ((-4), S) by (unfold sp_book; (repeat' split) <;> first | rfl | (exfalso; omega))]
                  exact ⟨I, rfl, fun _ _ _ => rfl, hh⟩
              · show am_E _ _ _ 40 [(0, .inr (.inr (.inl (some 0)))), (1, .inl p), (2, .inl o), (3, .inl s), (4, .inl y)] [] (am_mm D I J ρ) _
                refine am_e_ss 1 (q := (42, [(0, .inr (.inr (.inl (some 0)))), (1, .inl p), (2, .inl o), (3, .inl s), (4, .inl y)], [.inl (-2)], (am_mm D I J ρ))) rfl ?_
                refine am_e_ireturn rfl rfl ?_
                rw [show sp_book S p o s y = ((-2), S) by (unfold sp_book; (repeat' split) <;> first | rfl | (exfalso; omega))]
                exact ⟨I, rfl, fun _ _ _ => rfl, hh⟩
  · show am_E _ _ _ 9 [(0, .inr (.inr (.inl (some 0)))), (1, .inl p), (2, .inl o), (3, .inl s), (4, .inl y)] [] (am_mm D I J ρ) _
    refine am_e_ss 1 (q := (10, [(0, .inr (.inr (.inl (some 0)))), (1, .inl p), (2, .inl o), (3, .inl s), (4, .inl y)], [.inl (-1)], (am_mm D I J ρ))) rfl ?_
    refine am_e_ireturn rfl rfl ?_
    rw [show sp_book S p o s y = ((-1), S) by (unfold sp_book; (repeat' split) <;> first | rfl | (exfalso; omega))]
    exact ⟨I, rfl, fun _ _ _ => rfl, hh⟩
