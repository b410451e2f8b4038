/-! THE CLASS: what members say -/
def uS : Nat → Nat → Bool := fun c i => Nat.beq c 81 || Nat.beq c 82 || Nat.beq c 83 || Nat.beq c 84 || Nat.beq c 85 || Nat.beq c 86
theorem m_say_4_0 {X : Nat × (Nat → Int)} {D : List (Nat × Nat)} {I J : Nat → Nat → Int} {ρ : Nat → Nat → Option Nat} (d : Nat) {k : Nat} (hsk : (am_S ++ D)[k]? = some (4, 3)) {S : Nat → Int} {B : Int} (hok : r_ok S B) (hk124 : 124 ≤ k) (hk1 : I k 1 = 0) (h3 : I 71 3 = sp_ops S) (hO : ∀ j, j < (S 19).toNat → am_rowl (I (74 + j)) 0 (sp_ord S j)) (hm : 0 < (S 19).toNat)  : am_E X (d + 2) 37 0 [(0, .inr (.inr (.inl (some k)))), (1, .inr (.inr (.inl (some 71)))), (2, .inr (.inr (.inl (some 81))))] [] (am_mm D I J ρ) (fun q => ∃ Q, q = (none, am_mm D (am_wp (fun c _ => Nat.beq c 81) I Q) J ρ) ∧ am_rowl (Q 81) 0 (sp_ord S 0)) := by
  have ob := sp_ops_b hok
  have ol := sp_ord_len (S := S) (m := 0)
  refine am_e_ss 2 (q := (2, [(0, .inr (.inr (.inl (some k)))), (1, .inr (.inr (.inl (some 71)))), (2, .inr (.inr (.inl (some 81))))], [.inr (.inr (.inl (some k))), .inr (.inr (.inl (some 71)))], (am_mm D I J ρ))) rfl ?_
  refine am_e_getfield (c := 4) (m := 3) (f := 1) rfl hsk rfl (by decide) (by decide) ?_
  show am_E _ _ _ 5 [(0, .inr (.inr (.inl (some k)))), (1, .inr (.inr (.inl (some 71)))), (2, .inr (.inr (.inl (some 81))))] [.inl ((I k 1)), .inr (.inr (.inl (some 71)))] (am_mm D I J ρ) _
  refine am_e_ss 1 (q := (6, [(0, .inr (.inr (.inl (some k)))), (1, .inr (.inr (.inl (some 71)))), (2, .inr (.inr (.inl (some 81))))], [.inr (.inr (.inl (some 81))), .inl ((I k 1)), .inr (.inr (.inl (some 71)))], (am_mm D I J ρ))) rfl ?_
  refine am_e_virtual (Q := fun r => r = (none, (am_mm D (am_cpg I 81 0 (74 + 0) 0 6) J ρ))) rfl rfl (Nat.le_of_ble_eq_true rfl) rfl rfl (Nat.le_of_ble_eq_true rfl) (Nat.le_of_ble_eq_true rfl) (c_putOrderI _ (a := 0) (b := 0) (by omega) (by omega) (by omega)) ?_
  rintro r rfl
  show am_E _ _ _ 9 [(0, .inr (.inr (.inl (some k)))), (1, .inr (.inr (.inl (some 71)))), (2, .inr (.inr (.inl (some 81))))] [] (am_mm D (am_cpg I 81 0 (74 + 0) 0 6) J ρ) _
  refine am_e_return rfl rfl ?_
  exact ⟨_, am_r_wp (fun c _ => Nat.beq c 81) (am_k_cpg (fun _ => rfl) (am_k_id)), am_rowl_cpg (hO 0 hm) (by omega)⟩
theorem m_say_6_0 {X : Nat × (Nat → Int)} {D : List (Nat × Nat)} {I J : Nat → Nat → Int} {ρ : Nat → Nat → Option Nat} (d : Nat) {k : Nat} (hsk : (am_S ++ D)[k]? = some (6, 3)) {S : Nat → Int} {B : Int} (hok : r_ok S B) (hk124 : 124 ≤ k) (hk1 : I k 1 = 0) (h3 : I 71 3 = sp_ops S) (hO : ∀ j, j < (S 19).toNat → am_rowl (I (74 + j)) 0 (sp_ord S j)) (hm : 0 < (S 19).toNat)  : am_E X (d + 2) 37 0 [(0, .inr (.inr (.inl (some k)))), (1, .inr (.inr (.inl (some 71)))), (2, .inr (.inr (.inl (some 81))))] [] (am_mm D I J ρ) (fun q => ∃ Q, q = (none, am_mm D (am_wp (fun c _ => Nat.beq c 81) I Q) J ρ) ∧ am_rowl (Q 81) 0 (sp_ord S 0)) := by
  have ob := sp_ops_b hok
  have ol := sp_ord_len (S := S) (m := 0)
  refine am_e_ss 2 (q := (2, [(0, .inr (.inr (.inl (some k)))), (1, .inr (.inr (.inl (some 71)))), (2, .inr (.inr (.inl (some 81))))], [.inr (.inr (.inl (some k))), .inr (.inr (.inl (some 71)))], (am_mm D I J ρ))) rfl ?_
  refine am_e_getfield (c := 6) (m := 3) (f := 1) rfl hsk rfl (by decide) (by decide) ?_
  show am_E _ _ _ 5 [(0, .inr (.inr (.inl (some k)))), (1, .inr (.inr (.inl (some 71)))), (2, .inr (.inr (.inl (some 81))))] [.inl ((I k 1)), .inr (.inr (.inl (some 71)))] (am_mm D I J ρ) _
  refine am_e_ss 1 (q := (6, [(0, .inr (.inr (.inl (some k)))), (1, .inr (.inr (.inl (some 71)))), (2, .inr (.inr (.inl (some 81))))], [.inr (.inr (.inl (some 81))), .inl ((I k 1)), .inr (.inr (.inl (some 71)))], (am_mm D I J ρ))) rfl ?_
  refine am_e_virtual (Q := fun r => r = (none, (am_mm D (am_cpg I 81 0 (74 + 0) 0 6) J ρ))) rfl rfl (Nat.le_of_ble_eq_true rfl) rfl rfl (Nat.le_of_ble_eq_true rfl) (Nat.le_of_ble_eq_true rfl) (c_putOrderI _ (a := 0) (b := 0) (by omega) (by omega) (by omega)) ?_
  rintro r rfl
  show am_E _ _ _ 9 [(0, .inr (.inr (.inl (some k)))), (1, .inr (.inr (.inl (some 71)))), (2, .inr (.inr (.inl (some 81))))] [] (am_mm D (am_cpg I 81 0 (74 + 0) 0 6) J ρ) _
  refine am_e_return rfl rfl ?_
  exact ⟨_, am_r_wp (fun c _ => Nat.beq c 81) (am_k_cpg (fun _ => rfl) (am_k_id)), am_rowl_cpg (hO 0 hm) (by omega)⟩
theorem m_say_8_0 {X : Nat × (Nat → Int)} {D : List (Nat × Nat)} {I J : Nat → Nat → Int} {ρ : Nat → Nat → Option Nat} (d : Nat) {k : Nat} (hsk : (am_S ++ D)[k]? = some (8, 3)) {S : Nat → Int} {B : Int} (hok : r_ok S B) (hk124 : 124 ≤ k) (hk1 : I k 1 = 0) (h3 : I 71 3 = sp_ops S) (hO : ∀ j, j < (S 19).toNat → am_rowl (I (74 + j)) 0 (sp_ord S j)) (hm : 0 < (S 19).toNat)  : am_E X (d + 2) 37 0 [(0, .inr (.inr (.inl (some k)))), (1, .inr (.inr (.inl (some 71)))), (2, .inr (.inr (.inl (some 81))))] [] (am_mm D I J ρ) (fun q => ∃ Q, q = (none, am_mm D (am_wp (fun c _ => Nat.beq c 81) I Q) J ρ) ∧ am_rowl (Q 81) 0 (sp_ord S 0)) := by
  have ob := sp_ops_b hok
  have ol := sp_ord_len (S := S) (m := 0)
  refine am_e_ss 2 (q := (2, [(0, .inr (.inr (.inl (some k)))), (1, .inr (.inr (.inl (some 71)))), (2, .inr (.inr (.inl (some 81))))], [.inr (.inr (.inl (some k))), .inr (.inr (.inl (some 71)))], (am_mm D I J ρ))) rfl ?_
  refine am_e_getfield (c := 8) (m := 3) (f := 1) rfl hsk rfl (by decide) (by decide) ?_
  show am_E _ _ _ 5 [(0, .inr (.inr (.inl (some k)))), (1, .inr (.inr (.inl (some 71)))), (2, .inr (.inr (.inl (some 81))))] [.inl ((I k 1)), .inr (.inr (.inl (some 71)))] (am_mm D I J ρ) _
  refine am_e_ss 1 (q := (6, [(0, .inr (.inr (.inl (some k)))), (1, .inr (.inr (.inl (some 71)))), (2, .inr (.inr (.inl (some 81))))], [.inr (.inr (.inl (some 81))), .inl ((I k 1)), .inr (.inr (.inl (some 71)))], (am_mm D I J ρ))) rfl ?_
  refine am_e_virtual (Q := fun r => r = (none, (am_mm D (am_cpg I 81 0 (74 + 0) 0 6) J ρ))) rfl rfl (Nat.le_of_ble_eq_true rfl) rfl rfl (Nat.le_of_ble_eq_true rfl) (Nat.le_of_ble_eq_true rfl) (c_putOrderI _ (a := 0) (b := 0) (by omega) (by omega) (by omega)) ?_
  rintro r rfl
  show am_E _ _ _ 9 [(0, .inr (.inr (.inl (some k)))), (1, .inr (.inr (.inl (some 71)))), (2, .inr (.inr (.inl (some 81))))] [] (am_mm D (am_cpg I 81 0 (74 + 0) 0 6) J ρ) _
  refine am_e_return rfl rfl ?_
  exact ⟨_, am_r_wp (fun c _ => Nat.beq c 81) (am_k_cpg (fun _ => rfl) (am_k_id)), am_rowl_cpg (hO 0 hm) (by omega)⟩
theorem m_say_0_0 {X : Nat × (Nat → Int)} {D : List (Nat × Nat)} {I J : Nat → Nat → Int} {ρ : Nat → Nat → Option Nat} (d : Nat) {k : Nat} (hsk : (am_S ++ D)[k]? = some (0, 3)) {S : Nat → Int} {B : Int} (hok : r_ok S B) (hk124 : 124 ≤ k) (hk1 : I k 1 = 0) (h3 : I 71 3 = sp_ops S) (hO : ∀ j, j < (S 19).toNat → am_rowl (I (74 + j)) 0 (sp_ord S j)) (hm : 0 < (S 19).toNat)  : am_E X (d + 2) 37 0 [(0, .inr (.inr (.inl (some k)))), (1, .inr (.inr (.inl (some 71)))), (2, .inr (.inr (.inl (some 81))))] [] (am_mm D I J ρ) (fun q => ∃ Q, q = (none, am_mm D (am_wp (fun c _ => Nat.beq c 81) I Q) J ρ) ∧ am_rowl (Q 81) 0 (sp_ord S 0)) := by
  have ob := sp_ops_b hok
  have ol := sp_ord_len (S := S) (m := 0)
  refine am_e_ss 2 (q := (2, [(0, .inr (.inr (.inl (some k)))), (1, .inr (.inr (.inl (some 71)))), (2, .inr (.inr (.inl (some 81))))], [.inr (.inr (.inl (some k))), .inr (.inr (.inl (some 71)))], (am_mm D I J ρ))) rfl ?_
  refine am_e_getfield (c := 0) (m := 3) (f := 1) rfl hsk rfl (by decide) (by decide) ?_
  show am_E _ _ _ 5 [(0, .inr (.inr (.inl (some k)))), (1, .inr (.inr (.inl (some 71)))), (2, .inr (.inr (.inl (some 81))))] [.inl ((I k 1)), .inr (.inr (.inl (some 71)))] (am_mm D I J ρ) _
  refine am_e_ss 1 (q := (6, [(0, .inr (.inr (.inl (some k)))), (1, .inr (.inr (.inl (some 71)))), (2, .inr (.inr (.inl (some 81))))], [.inr (.inr (.inl (some 81))), .inl ((I k 1)), .inr (.inr (.inl (some 71)))], (am_mm D I J ρ))) rfl ?_
  refine am_e_virtual (Q := fun r => r = (none, (am_mm D (am_cpg I 81 0 (74 + 0) 0 6) J ρ))) rfl rfl (Nat.le_of_ble_eq_true rfl) rfl rfl (Nat.le_of_ble_eq_true rfl) (Nat.le_of_ble_eq_true rfl) (c_putOrderI _ (a := 0) (b := 0) (by omega) (by omega) (by omega)) ?_
  rintro r rfl
  show am_E _ _ _ 9 [(0, .inr (.inr (.inl (some k)))), (1, .inr (.inr (.inl (some 71)))), (2, .inr (.inr (.inl (some 81))))] [] (am_mm D (am_cpg I 81 0 (74 + 0) 0 6) J ρ) _
  refine am_e_return rfl rfl ?_
  exact ⟨_, am_r_wp (fun c _ => Nat.beq c 81) (am_k_cpg (fun _ => rfl) (am_k_id)), am_rowl_cpg (hO 0 hm) (by omega)⟩
theorem m_say_p5_0 {X : Nat × (Nat → Int)} {D : List (Nat × Nat)} {I J : Nat → Nat → Int} {ρ : Nat → Nat → Option Nat} (d : Nat) {k : Nat} (hsk : (am_S ++ D)[k]? = some (5, 3)) {S : Nat → Int} {B : Int} (hok : r_ok S B) (hk124 : 124 ≤ k) (hk1 : I k 1 = 0) (h3 : I 71 3 = sp_ops S) (hO : ∀ j, j < (S 19).toNat → am_rowl (I (74 + j)) 0 (sp_ord S j)) (hm : 0 < (S 19).toNat) (hfav : I 71 7 = sp_fav S) (ho : ¬ sp_ops S = 0)  : am_E X (d + 2) 43 0 [(0, .inr (.inr (.inl (some k)))), (1, .inr (.inr (.inl (some 71)))), (2, .inr (.inr (.inl (some 81))))] [] (am_mm D I J ρ) (fun q => ∃ Q, q = (none, am_mm D (am_wp (fun c _ => Nat.beq c 81) I Q) J ρ) ∧ am_rowl (Q 81) 0 (sp_sayl (sp_ord S 0) (if sp_hd S 0 = sp_first S then -1 else sp_first S))) := by
  have ob := sp_ops_b hok
  have ol := sp_ord_len (S := S) (m := 0)
  have fe := sp_fav_eq ho
  have fb := sp_first_b hok
  have hdb := sp_hd_b hok 0
  have hrd := hO 0 hm
  have hd0 : I (74 + 0) 0 = sp_hd S 0 := by
    unfold sp_hd
    cases hL : sp_ord S 0 with
    | nil => rw [hL] at ol; exact absurd (show (0 : Int) = sp_ops S from ol).symm ho
    | cons a r => rw [hL] at hrd; exact am_rowl_h hrd
  refine am_e_ss 2 (q := (2, [(0, .inr (.inr (.inl (some k)))), (1, .inr (.inr (.inl (some 71)))), (2, .inr (.inr (.inl (some 81))))], [.inr (.inr (.inl (some k))), .inr (.inr (.inl (some 71)))], (am_mm D I J ρ))) rfl ?_
  refine am_e_getfield (c := 5) (m := 3) (f := 1) rfl hsk rfl (by decide) (by decide) ?_
  show am_E _ _ _ 5 [(0, .inr (.inr (.inl (some k)))), (1, .inr (.inr (.inl (some 71)))), (2, .inr (.inr (.inl (some 81))))] [.inl ((I k 1)), .inr (.inr (.inl (some 71)))] (am_mm D I J ρ) _
  refine am_e_ss 1 (q := (6, [(0, .inr (.inr (.inl (some k)))), (1, .inr (.inr (.inl (some 71)))), (2, .inr (.inr (.inl (some 81))))], [.inr (.inr (.inl (some 81))), .inl ((I k 1)), .inr (.inr (.inl (some 71)))], (am_mm D I J ρ))) rfl ?_
  refine am_e_virtual (Q := fun r => r = (none, (am_mm D (am_cpg I 81 0 (74 + 0) 0 6) J ρ))) rfl rfl (Nat.le_of_ble_eq_true rfl) rfl rfl (Nat.le_of_ble_eq_true rfl) (Nat.le_of_ble_eq_true rfl) (c_putOrderI _ (a := 0) (b := 0) (by omega) (by omega) (by omega)) ?_
  rintro r rfl
  show am_E _ _ _ 9 [(0, .inr (.inr (.inl (some k)))), (1, .inr (.inr (.inl (some 71)))), (2, .inr (.inr (.inl (some 81))))] [] (am_mm D (am_cpg I 81 0 (74 + 0) 0 6) J ρ) _
  refine am_e_ss 3 (q := (12, [(0, .inr (.inr (.inl (some k)))), (1, .inr (.inr (.inl (some 71)))), (2, .inr (.inr (.inl (some 81))))], [.inl (((am_cpg I 81 0 (74 + 0) 0 6) 81 0))], (am_mm D (am_cpg I 81 0 (74 + 0) 0 6) J ρ))) rfl ?_
  have hr0 : ((am_cpg I 81 0 (74 + 0) 0 6) 81 0) = sp_hd S 0 := (if_pos ⟨rfl, by decide, by decide⟩).trans hd0
  refine am_e_ss 2 (q := (16, [(0, .inr (.inr (.inl (some k)))), (1, .inr (.inr (.inl (some 71)))), (2, .inr (.inr (.inl (some 81))))], [.inl ((I 71 7)), .inl (((am_cpg I 81 0 (74 + 0) 0 6) 81 0))], (am_mm D (am_cpg I 81 0 (74 + 0) 0 6) J ρ))) rfl ?_
  refine am_e_icmp2 rfl ⟨by omega, by omega⟩ ⟨by omega, by omega⟩ (fun (hw1 : ((am_cpg I 81 0 (74 + 0) 0 6) 81 0) = (I 71 7)) => ?_) (fun (hw1 : ¬ (((am_cpg I 81 0 (74 + 0) 0 6) 81 0) = (I 71 7))) => ?_)
  · show am_E _ _ _ 28 [(0, .inr (.inr (.inl (some k)))), (1, .inr (.inr (.inl (some 71)))), (2, .inr (.inr (.inl (some 81))))] [] (am_mm D (am_cpg I 81 0 (74 + 0) 0 6) J ρ) _
    refine am_e_return rfl rfl ?_
    have eL : sp_sayl (sp_ord S 0) (if sp_hd S 0 = sp_first S then -1 else sp_first S) = sp_ord S 0 := by
      rw [if_pos (by omega)]
      exact sp_sayl_no (fun x hx => by omega)
    rw [eL]
    exact ⟨_, am_r_wp (fun c _ => Nat.beq c 81) (am_k_cpg (fun _ => rfl) (am_k_id)), am_rowl_cpg (hO 0 hm) (by omega)⟩
  · show am_E _ _ _ 19 [(0, .inr (.inr (.inl (some k)))), (1, .inr (.inr (.inl (some 71)))), (2, .inr (.inr (.inl (some 81))))] [] (am_mm D (am_cpg I 81 0 (74 + 0) 0 6) J ρ) _
    refine am_e_ss 4 (q := (25, [(0, .inr (.inr (.inl (some k)))), (1, .inr (.inr (.inl (some 71)))), (2, .inr (.inr (.inl (some 81))))], [.inr (.inr (.inl (some 81))), .inl ((I 71 7)), .inr (.inr (.inl (some 71)))], (am_mm D (am_cpg I 81 0 (74 + 0) 0 6) J ρ))) rfl ?_
    refine am_e_virtual (Q := fun r => ∃ Q83, r = (none, (am_mm D (am_wp (fun c _ => Nat.beq c 81) (am_cpg I 81 0 (74 + 0) 0 6) Q83) J ρ)) ∧ am_rowl (Q83 81) 0 (sp_bub (I 71 7) (sp_ord S 0))) rfl rfl (Nat.le_of_ble_eq_true rfl) rfl rfl (Nat.le_of_ble_eq_true rfl) (Nat.le_of_ble_eq_true rfl) (c_putLast_0 _ (z := (I 71 7)) (L := sp_ord S 0) ⟨by omega, by omega⟩ (show I 71 3 = _ by omega) (by omega) (fun x hx => by have := sp_ord_mem.mp hx; have := (r_ok_19 hok).2; omega) (am_rowl_cpg (hO 0 hm) (by omega))) ?_
    rintro r ⟨Q83, rfl, hpl⟩
    show am_E _ _ _ 28 [(0, .inr (.inr (.inl (some k)))), (1, .inr (.inr (.inl (some 71)))), (2, .inr (.inr (.inl (some 81))))] [] (am_mm D (am_wp (fun c _ => Nat.beq c 81) (am_cpg I 81 0 (74 + 0) 0 6) Q83) J ρ) _
    refine am_e_return rfl rfl ?_
    have eL : sp_sayl (sp_ord S 0) (if sp_hd S 0 = sp_first S then -1 else sp_first S) = sp_bub (I 71 7) (sp_ord S 0) := by
      rw [if_neg (by omega), sp_bub_say sp_ord_nd, hfav, fe]
    rw [eL]
    exact ⟨_, am_r_wp (fun c _ => Nat.beq c 81) (am_k_wp am_k_sub (am_k_cpg (fun _ => rfl) (am_k_id))), hpl⟩
theorem m_say_p2_0 {X : Nat × (Nat → Int)} {D : List (Nat × Nat)} {I J : Nat → Nat → Int} {ρ : Nat → Nat → Option Nat} (d : Nat) {k : Nat} (hsk : (am_S ++ D)[k]? = some (2, 3)) {S : Nat → Int} {B : Int} (hok : r_ok S B) (hk124 : 124 ≤ k) (hk1 : I k 1 = 0) (h3 : I 71 3 = sp_ops S) (hO : ∀ j, j < (S 19).toNat → am_rowl (I (74 + j)) 0 (sp_ord S j)) (hm : 0 < (S 19).toNat) (hfav : I 71 7 = sp_fav S) (ho : ¬ sp_ops S = 0)  : am_E X (d + 2) 43 0 [(0, .inr (.inr (.inl (some k)))), (1, .inr (.inr (.inl (some 71)))), (2, .inr (.inr (.inl (some 81))))] [] (am_mm D I J ρ) (fun q => ∃ Q, q = (none, am_mm D (am_wp (fun c _ => Nat.beq c 81) I Q) J ρ) ∧ am_rowl (Q 81) 0 (sp_sayl (sp_ord S 0) (if sp_hd S 0 = sp_first S then -1 else sp_first S))) := by
  have ob := sp_ops_b hok
  have ol := sp_ord_len (S := S) (m := 0)
  have fe := sp_fav_eq ho
  have fb := sp_first_b hok
  have hdb := sp_hd_b hok 0
  have hrd := hO 0 hm
  have hd0 : I (74 + 0) 0 = sp_hd S 0 := by
    unfold sp_hd
    cases hL : sp_ord S 0 with
    | nil => rw [hL] at ol; exact absurd (show (0 : Int) = sp_ops S from ol).symm ho
    | cons a r => rw [hL] at hrd; exact am_rowl_h hrd
  refine am_e_ss 2 (q := (2, [(0, .inr (.inr (.inl (some k)))), (1, .inr (.inr (.inl (some 71)))), (2, .inr (.inr (.inl (some 81))))], [.inr (.inr (.inl (some k))), .inr (.inr (.inl (some 71)))], (am_mm D I J ρ))) rfl ?_
  refine am_e_getfield (c := 2) (m := 3) (f := 1) rfl hsk rfl (by decide) (by decide) ?_
  show am_E _ _ _ 5 [(0, .inr (.inr (.inl (some k)))), (1, .inr (.inr (.inl (some 71)))), (2, .inr (.inr (.inl (some 81))))] [.inl ((I k 1)), .inr (.inr (.inl (some 71)))] (am_mm D I J ρ) _
  refine am_e_ss 1 (q := (6, [(0, .inr (.inr (.inl (some k)))), (1, .inr (.inr (.inl (some 71)))), (2, .inr (.inr (.inl (some 81))))], [.inr (.inr (.inl (some 81))), .inl ((I k 1)), .inr (.inr (.inl (some 71)))], (am_mm D I J ρ))) rfl ?_
  refine am_e_virtual (Q := fun r => r = (none, (am_mm D (am_cpg I 81 0 (74 + 0) 0 6) J ρ))) rfl rfl (Nat.le_of_ble_eq_true rfl) rfl rfl (Nat.le_of_ble_eq_true rfl) (Nat.le_of_ble_eq_true rfl) (c_putOrderI _ (a := 0) (b := 0) (by omega) (by omega) (by omega)) ?_
  rintro r rfl
  show am_E _ _ _ 9 [(0, .inr (.inr (.inl (some k)))), (1, .inr (.inr (.inl (some 71)))), (2, .inr (.inr (.inl (some 81))))] [] (am_mm D (am_cpg I 81 0 (74 + 0) 0 6) J ρ) _
  refine am_e_ss 3 (q := (12, [(0, .inr (.inr (.inl (some k)))), (1, .inr (.inr (.inl (some 71)))), (2, .inr (.inr (.inl (some 81))))], [.inl (((am_cpg I 81 0 (74 + 0) 0 6) 81 0))], (am_mm D (am_cpg I 81 0 (74 + 0) 0 6) J ρ))) rfl ?_
  have hr0 : ((am_cpg I 81 0 (74 + 0) 0 6) 81 0) = sp_hd S 0 := (if_pos ⟨rfl, by decide, by decide⟩).trans hd0
  refine am_e_ss 2 (q := (16, [(0, .inr (.inr (.inl (some k)))), (1, .inr (.inr (.inl (some 71)))), (2, .inr (.inr (.inl (some 81))))], [.inl ((I 71 7)), .inl (((am_cpg I 81 0 (74 + 0) 0 6) 81 0))], (am_mm D (am_cpg I 81 0 (74 + 0) 0 6) J ρ))) rfl ?_
  refine am_e_icmp2 rfl ⟨by omega, by omega⟩ ⟨by omega, by omega⟩ (fun (hw1 : ((am_cpg I 81 0 (74 + 0) 0 6) 81 0) = (I 71 7)) => ?_) (fun (hw1 : ¬ (((am_cpg I 81 0 (74 + 0) 0 6) 81 0) = (I 71 7))) => ?_)
  · show am_E _ _ _ 28 [(0, .inr (.inr (.inl (some k)))), (1, .inr (.inr (.inl (some 71)))), (2, .inr (.inr (.inl (some 81))))] [] (am_mm D (am_cpg I 81 0 (74 + 0) 0 6) J ρ) _
    refine am_e_return rfl rfl ?_
    have eL : sp_sayl (sp_ord S 0) (if sp_hd S 0 = sp_first S then -1 else sp_first S) = sp_ord S 0 := by
      rw [if_pos (by omega)]
      exact sp_sayl_no (fun x hx => by omega)
    rw [eL]
    exact ⟨_, am_r_wp (fun c _ => Nat.beq c 81) (am_k_cpg (fun _ => rfl) (am_k_id)), am_rowl_cpg (hO 0 hm) (by omega)⟩
  · show am_E _ _ _ 19 [(0, .inr (.inr (.inl (some k)))), (1, .inr (.inr (.inl (some 71)))), (2, .inr (.inr (.inl (some 81))))] [] (am_mm D (am_cpg I 81 0 (74 + 0) 0 6) J ρ) _
    refine am_e_ss 4 (q := (25, [(0, .inr (.inr (.inl (some k)))), (1, .inr (.inr (.inl (some 71)))), (2, .inr (.inr (.inl (some 81))))], [.inr (.inr (.inl (some 81))), .inl ((I 71 7)), .inr (.inr (.inl (some 71)))], (am_mm D (am_cpg I 81 0 (74 + 0) 0 6) J ρ))) rfl ?_
    refine am_e_virtual (Q := fun r => ∃ Q84, r = (none, (am_mm D (am_wp (fun c _ => Nat.beq c 81) (am_cpg I 81 0 (74 + 0) 0 6) Q84) J ρ)) ∧ am_rowl (Q84 81) 0 (sp_bub (I 71 7) (sp_ord S 0))) rfl rfl (Nat.le_of_ble_eq_true rfl) rfl rfl (Nat.le_of_ble_eq_true rfl) (Nat.le_of_ble_eq_true rfl) (c_putLast_0 _ (z := (I 71 7)) (L := sp_ord S 0) ⟨by omega, by omega⟩ (show I 71 3 = _ by omega) (by omega) (fun x hx => by have := sp_ord_mem.mp hx; have := (r_ok_19 hok).2; omega) (am_rowl_cpg (hO 0 hm) (by omega))) ?_
    rintro r ⟨Q84, rfl, hpl⟩
    show am_E _ _ _ 28 [(0, .inr (.inr (.inl (some k)))), (1, .inr (.inr (.inl (some 71)))), (2, .inr (.inr (.inl (some 81))))] [] (am_mm D (am_wp (fun c _ => Nat.beq c 81) (am_cpg I 81 0 (74 + 0) 0 6) Q84) J ρ) _
    refine am_e_return rfl rfl ?_
    have eL : sp_sayl (sp_ord S 0) (if sp_hd S 0 = sp_first S then -1 else sp_first S) = sp_bub (I 71 7) (sp_ord S 0) := by
      rw [if_neg (by omega), sp_bub_say sp_ord_nd, hfav, fe]
    rw [eL]
    exact ⟨_, am_r_wp (fun c _ => Nat.beq c 81) (am_k_wp am_k_sub (am_k_cpg (fun _ => rfl) (am_k_id))), hpl⟩
theorem m_say_9_0 {X : Nat × (Nat → Int)} {D : List (Nat × Nat)} {I J : Nat → Nat → Int} {ρ : Nat → Nat → Option Nat} (d : Nat) {k : Nat} (hsk : (am_S ++ D)[k]? = some (9, 3)) {S : Nat → Int} {B : Int} (hok : r_ok S B) (hk124 : 124 ≤ k) (hk1 : I k 1 = 0) (h3 : I 71 3 = sp_ops S) (hO : ∀ j, j < (S 19).toNat → am_rowl (I (74 + j)) 0 (sp_ord S j)) (hm : 0 < (S 19).toNat) {v : Nat} (hk2 : I k 2 = (v : Int)) (hv9 : v ≤ 9)  : am_E X (d + 2) 62 0 [(0, .inr (.inr (.inl (some k)))), (1, .inr (.inr (.inl (some 71)))), (2, .inr (.inr (.inl (some 81))))] [] (am_mm D I J ρ) (fun q => ∃ Q, q = (none, am_mm D (am_wp (fun c _ => Nat.beq c 81) I Q) J ρ) ∧ am_rowl (Q 81) 0 (sp_sayl (sp_ord S 0) (v : Int))) := by
  have ob := sp_ops_b hok
  have ol := sp_ord_len (S := S) (m := 0)
  refine am_e_ss 2 (q := (2, [(0, .inr (.inr (.inl (some k)))), (1, .inr (.inr (.inl (some 71)))), (2, .inr (.inr (.inl (some 81))))], [.inr (.inr (.inl (some k))), .inr (.inr (.inl (some 71)))], (am_mm D I J ρ))) rfl ?_
  refine am_e_getfield (c := 9) (m := 3) (f := 1) rfl hsk rfl (by decide) (by decide) ?_
  show am_E _ _ _ 5 [(0, .inr (.inr (.inl (some k)))), (1, .inr (.inr (.inl (some 71)))), (2, .inr (.inr (.inl (some 81))))] [.inl ((I k 1)), .inr (.inr (.inl (some 71)))] (am_mm D I J ρ) _
  refine am_e_ss 1 (q := (6, [(0, .inr (.inr (.inl (some k)))), (1, .inr (.inr (.inl (some 71)))), (2, .inr (.inr (.inl (some 81))))], [.inr (.inr (.inl (some 81))), .inl ((I k 1)), .inr (.inr (.inl (some 71)))], (am_mm D I J ρ))) rfl ?_
  refine am_e_virtual (Q := fun r => r = (none, (am_mm D (am_cpg I 81 0 (74 + 0) 0 6) J ρ))) rfl rfl (Nat.le_of_ble_eq_true rfl) rfl rfl (Nat.le_of_ble_eq_true rfl) (Nat.le_of_ble_eq_true rfl) (c_putOrderI _ (a := 0) (b := 0) (by omega) (by omega) (by omega)) ?_
  rintro r rfl
  show am_E _ _ _ 9 [(0, .inr (.inr (.inl (some k)))), (1, .inr (.inr (.inl (some 71)))), (2, .inr (.inr (.inl (some 81))))] [] (am_mm D (am_cpg I 81 0 (74 + 0) 0 6) J ρ) _
  refine am_e_ss 2 (q := (11, [(0, .inr (.inr (.inl (some k)))), (1, .inr (.inr (.inl (some 71)))), (2, .inr (.inr (.inl (some 81))))], [.inr (.inr (.inl (some k))), .inr (.inr (.inl (some 71)))], (am_mm D (am_cpg I 81 0 (74 + 0) 0 6) J ρ))) rfl ?_
  refine am_e_getfield (c := 9) (m := 3) (f := 2) rfl hsk rfl (by decide) (by decide) ?_
  show am_E _ _ _ 14 [(0, .inr (.inr (.inl (some k)))), (1, .inr (.inr (.inl (some 71)))), (2, .inr (.inr (.inl (some 81))))] [.inl (((am_cpg I 81 0 (74 + 0) 0 6) k 2)), .inr (.inr (.inl (some 71)))] (am_mm D (am_cpg I 81 0 (74 + 0) 0 6) J ρ) _
  have hvv : ((am_cpg I 81 0 (74 + 0) 0 6) k 2) = (v : Int) := (if_neg (by omega)).trans hk2
  refine am_e_ss 1 (q := (15, [(0, .inr (.inr (.inl (some k)))), (1, .inr (.inr (.inl (some 71)))), (2, .inr (.inr (.inl (some 81))))], [.inr (.inr (.inl (some 81))), .inl (((am_cpg I 81 0 (74 + 0) 0 6) k 2)), .inr (.inr (.inl (some 71)))], (am_mm D (am_cpg I 81 0 (74 + 0) 0 6) J ρ))) rfl ?_
  refine am_e_virtual (Q := fun r => ∃ Q85, r = (none, (am_mm D (am_wp (fun c _ => Nat.beq c 81) (am_cpg I 81 0 (74 + 0) 0 6) Q85) J ρ)) ∧ am_rowl (Q85 81) 0 (sp_bub ((am_cpg I 81 0 (74 + 0) 0 6) k 2) (sp_ord S 0))) rfl rfl (Nat.le_of_ble_eq_true rfl) rfl rfl (Nat.le_of_ble_eq_true rfl) (Nat.le_of_ble_eq_true rfl) (c_putLast_0 _ (z := ((am_cpg I 81 0 (74 + 0) 0 6) k 2)) (L := sp_ord S 0) ⟨by omega, by omega⟩ (show I 71 3 = _ by omega) (by omega) (fun x hx => by have := sp_ord_mem.mp hx; have := (r_ok_19 hok).2; omega) (am_rowl_cpg (hO 0 hm) (by omega))) ?_
  rintro r ⟨Q85, rfl, hpl⟩
  show am_E _ _ _ 18 [(0, .inr (.inr (.inl (some k)))), (1, .inr (.inr (.inl (some 71)))), (2, .inr (.inr (.inl (some 81))))] [] (am_mm D (am_wp (fun c _ => Nat.beq c 81) (am_cpg I 81 0 (74 + 0) 0 6) Q85) J ρ) _
  refine am_e_return rfl rfl ?_
  rw [hvv, sp_bub_say sp_ord_nd] at hpl
  exact ⟨_, am_r_wp (fun c _ => Nat.beq c 81) (am_k_wp am_k_sub (am_k_cpg (fun _ => rfl) (am_k_id))), hpl⟩
theorem m_say_f2_0 {X : Nat × (Nat → Int)} {D : List (Nat × Nat)} {I J : Nat → Nat → Int} {ρ : Nat → Nat → Option Nat} (d : Nat) {k : Nat} (hsk : (am_S ++ D)[k]? = some (2, 3)) {S : Nat → Int} {B : Int} (hok : r_ok S B) (hk124 : 124 ≤ k) (hk1 : I k 1 = 0) (h3 : I 71 3 = sp_ops S) (hO : ∀ j, j < (S 19).toNat → am_rowl (I (74 + j)) 0 (sp_ord S j)) (hm : 0 < (S 19).toNat) (hfav : I 71 7 = sp_fav S) (ho : ¬ sp_ops S = 0) {v : Nat} (hk2 : I k 2 = (v : Int)) (hv9 : v ≤ 9) (h71 : ρ 71 1 = some 2) (h12 : I 1 2 = S 19) (hhr : I 2 1 = am_bits (sp_hp S) 6)  : am_E X (d + 3) 22 0 [(0, .inr (.inr (.inl (some k)))), (1, .inr (.inr (.inl (some 71)))), (2, .inr (.inr (.inl (some 81))))] [] (am_mm D I J ρ) (fun q => ∃ Q, q = (none, am_mm D (am_wp (fun c _ => Nat.beq c 81) I Q) J ρ) ∧ am_rowl (Q 81) 0 (if ¬ v = 0 ∧ v < (S 19).toNat ∧ S (7 + v) = 0 then sp_ord S v else sp_sayl (sp_ord S 0) (if sp_hd S 0 = sp_first S then -1 else sp_first S))) := by
  have ob := sp_ops_b hok
  have ol := sp_ord_len (S := S) (m := 0)
  have h19 := r_ok_19 hok
  refine am_e_ss 1 (q := (1, [(0, .inr (.inr (.inl (some k)))), (1, .inr (.inr (.inl (some 71)))), (2, .inr (.inr (.inl (some 81))))], [.inr (.inr (.inl (some k)))], (am_mm D I J ρ))) rfl ?_
  refine am_e_getfield (c := 2) (m := 3) (f := 2) rfl hsk rfl (by decide) (by decide) ?_
  show am_E _ _ _ 4 [(0, .inr (.inr (.inl (some k)))), (1, .inr (.inr (.inl (some 71)))), (2, .inr (.inr (.inl (some 81))))] [.inl ((I k 2))] (am_mm D I J ρ) _
  refine am_e_ss 1 (q := (5, [(0, .inr (.inr (.inl (some k)))), (1, .inr (.inr (.inl (some 71)))), (2, .inr (.inr (.inl (some 81))))], [.inr (.inr (.inl (some k))), .inl ((I k 2))], (am_mm D I J ρ))) rfl ?_
  refine am_e_getfield (c := 2) (m := 3) (f := 1) rfl hsk rfl (by decide) (by decide) ?_
  show am_E _ _ _ 8 [(0, .inr (.inr (.inl (some k)))), (1, .inr (.inr (.inl (some 71)))), (2, .inr (.inr (.inl (some 81))))] [.inl ((I k 1)), .inl ((I k 2))] (am_mm D I J ρ) _
  refine am_e_icmp2 rfl ⟨by omega, by omega⟩ ⟨by omega, by omega⟩ (fun (hw1 : (I k 2) = (I k 1)) => ?_) (fun (hw1 : ¬ ((I k 2) = (I k 1))) => ?_)
  · show am_E _ _ _ 34 [(0, .inr (.inr (.inl (some k)))), (1, .inr (.inr (.inl (some 71)))), (2, .inr (.inr (.inl (some 81))))] [] (am_mm D I J ρ) _
    refine am_e_ss 3 (q := (37, [(0, .inr (.inr (.inl (some k)))), (1, .inr (.inr (.inl (some 71)))), (2, .inr (.inr (.inl (some 81))))], [.inr (.inr (.inl (some 81))), .inr (.inr (.inl (some 71))), .inr (.inr (.inl (some k)))], (am_mm D I J ρ))) rfl ?_
    refine am_e_special (Q := fun r => ∃ Q86, r = (none, (am_mm D (am_wp (fun c _ => Nat.beq c 81) I Q86) J ρ)) ∧ am_rowl (Q86 81) 0 (sp_sayl (sp_ord S 0) (if sp_hd S 0 = sp_first S then -1 else sp_first S))) rfl rfl (Nat.le_of_ble_eq_true rfl) (am_kd_of hsk (by decide)) rfl (by decide) (Nat.le_of_ble_eq_true rfl) (Nat.le_of_ble_eq_true rfl) (m_say_p2_0 _ hsk hok hk124 hk1 h3 hO hm hfav ho) ?_
    rintro r ⟨Q86, rfl, hsu⟩
    show am_E _ _ _ 40 [(0, .inr (.inr (.inl (some k)))), (1, .inr (.inr (.inl (some 71)))), (2, .inr (.inr (.inl (some 81))))] [] (am_mm D (am_wp (fun c _ => Nat.beq c 81) I Q86) J ρ) _
    refine am_e_return rfl rfl ?_
    rw [if_neg (by omega)]
    exact ⟨_, am_r_wp (fun c _ => Nat.beq c 81) (am_k_wp am_k_sub (am_k_id)), hsu⟩
  · show am_E _ _ _ 11 [(0, .inr (.inr (.inl (some k)))), (1, .inr (.inr (.inl (some 71)))), (2, .inr (.inr (.inl (some 81))))] [] (am_mm D I J ρ) _
    refine am_e_ss 2 (q := (13, [(0, .inr (.inr (.inl (some k)))), (1, .inr (.inr (.inl (some 71)))), (2, .inr (.inr (.inl (some 81))))], [.inr (.inr (.inl (some k))), .inr (.inr (.inl (some 71)))], (am_mm D I J ρ))) rfl ?_
    refine am_e_getfield (c := 2) (m := 3) (f := 2) rfl hsk rfl (by decide) (by decide) ?_
    show am_E _ _ _ 16 [(0, .inr (.inr (.inl (some k)))), (1, .inr (.inr (.inl (some 71)))), (2, .inr (.inr (.inl (some 81))))] [.inl ((I k 2)), .inr (.inr (.inl (some 71)))] (am_mm D I J ρ) _
    refine am_e_virtual (Q := fun r => r = (some (.inl ((am_bi (v < (S 19).toNat ∧ S (7 + v) = 0)))), (am_mm D I J ρ))) rfl rfl (Nat.le_of_ble_eq_true rfl) rfl rfl (Nat.le_of_ble_eq_true rfl) (Nat.le_of_ble_eq_true rfl) (c_vIsHereI_2 _ (v := v) hk2 hok h71 h12 hhr (by omega)) ?_
    rintro r rfl
    show am_E _ _ _ 19 [(0, .inr (.inr (.inl (some k)))), (1, .inr (.inr (.inl (some 71)))), (2, .inr (.inr (.inl (some 81))))] [.inl ((am_bi (v < (S 19).toNat ∧ S (7 + v) = 0)))] (am_mm D I J ρ) _
    refine am_e_ifeq rfl (fun hw2 => ?_) (fun hw2 => ?_)
    · show am_E _ _ _ 34 [(0, .inr (.inr (.inl (some k)))), (1, .inr (.inr (.inl (some 71)))), (2, .inr (.inr (.inl (some 81))))] [] (am_mm D I J ρ) _
      refine am_e_ss 3 (q := (37, [(0, .inr (.inr (.inl (some k)))), (1, .inr (.inr (.inl (some 71)))), (2, .inr (.inr (.inl (some 81))))], [.inr (.inr (.inl (some 81))), .inr (.inr (.inl (some 71))), .inr (.inr (.inl (some k)))], (am_mm D I J ρ))) rfl ?_
      refine am_e_special (Q := fun r => ∃ Q87, r = (none, (am_mm D (am_wp (fun c _ => Nat.beq c 81) I Q87) J ρ)) ∧ am_rowl (Q87 81) 0 (sp_sayl (sp_ord S 0) (if sp_hd S 0 = sp_first S then -1 else sp_first S))) rfl rfl (Nat.le_of_ble_eq_true rfl) (am_kd_of hsk (by decide)) rfl (by decide) (Nat.le_of_ble_eq_true rfl) (Nat.le_of_ble_eq_true rfl) (m_say_p2_0 _ hsk hok hk124 hk1 h3 hO hm hfav ho) ?_
      rintro r ⟨Q87, rfl, hsu⟩
      show am_E _ _ _ 40 [(0, .inr (.inr (.inl (some k)))), (1, .inr (.inr (.inl (some 71)))), (2, .inr (.inr (.inl (some 81))))] [] (am_mm D (am_wp (fun c _ => Nat.beq c 81) I Q87) J ρ) _
      refine am_e_return rfl rfl ?_
      rw [if_neg (by omega)]
      exact ⟨_, am_r_wp (fun c _ => Nat.beq c 81) (am_k_wp am_k_sub (am_k_id)), hsu⟩
    · show am_E _ _ _ 22 [(0, .inr (.inr (.inl (some k)))), (1, .inr (.inr (.inl (some 71)))), (2, .inr (.inr (.inl (some 81))))] [] (am_mm D I J ρ) _
      refine am_e_ss 2 (q := (24, [(0, .inr (.inr (.inl (some k)))), (1, .inr (.inr (.inl (some 71)))), (2, .inr (.inr (.inl (some 81))))], [.inr (.inr (.inl (some k))), .inr (.inr (.inl (some 71)))], (am_mm D I J ρ))) rfl ?_
      refine am_e_getfield (c := 2) (m := 3) (f := 2) rfl hsk rfl (by decide) (by decide) ?_
      show am_E _ _ _ 27 [(0, .inr (.inr (.inl (some k)))), (1, .inr (.inr (.inl (some 71)))), (2, .inr (.inr (.inl (some 81))))] [.inl ((I k 2)), .inr (.inr (.inl (some 71)))] (am_mm D I J ρ) _
      refine am_e_ss 1 (q := (28, [(0, .inr (.inr (.inl (some k)))), (1, .inr (.inr (.inl (some 71)))), (2, .inr (.inr (.inl (some 81))))], [.inr (.inr (.inl (some 81))), .inl ((I k 2)), .inr (.inr (.inl (some 71)))], (am_mm D I J ρ))) rfl ?_
      refine am_e_virtual (Q := fun r => r = (none, (am_mm D (am_cpg I 81 0 (74 + v) 0 6) J ρ))) rfl rfl (Nat.le_of_ble_eq_true rfl) rfl rfl (Nat.le_of_ble_eq_true rfl) (Nat.le_of_ble_eq_true rfl) (c_putOrderI _ (a := v) (b := 0) hk2 (by omega) (by omega)) ?_
      rintro r rfl
      show am_E _ _ _ 31 [(0, .inr (.inr (.inl (some k)))), (1, .inr (.inr (.inl (some 71)))), (2, .inr (.inr (.inl (some 81))))] [] (am_mm D (am_cpg I 81 0 (74 + v) 0 6) J ρ) _
      refine am_e_ss 1 (q := (40, [(0, .inr (.inr (.inl (some k)))), (1, .inr (.inr (.inl (some 71)))), (2, .inr (.inr (.inl (some 81))))], [], (am_mm D (am_cpg I 81 0 (74 + v) 0 6) J ρ))) rfl ?_
      refine am_e_return rfl rfl ?_
      rw [if_pos (by omega)]
      exact ⟨_, am_r_wp (fun c _ => Nat.beq c 81) (am_k_cpg (fun _ => rfl) (am_k_id)), am_rowl_cpg (hO v (by omega)) (by have := sp_ord_len (S := S) (m := v); omega)⟩
theorem m_say_f69_0 {X : Nat × (Nat → Int)} {D : List (Nat × Nat)} {I J : Nat → Nat → Int} {ρ : Nat → Nat → Option Nat} (d : Nat) {k : Nat} (hsk : (am_S ++ D)[k]? = some (2, 3)) {S : Nat → Int} {B : Int} (hok : r_ok S B) (hk124 : 124 ≤ k) (hk1 : I k 1 = 0) (h3 : I 71 3 = sp_ops S) (hO : ∀ j, j < (S 19).toNat → am_rowl (I (74 + j)) 0 (sp_ord S j)) (hm : 0 < (S 19).toNat) (hfav : I 71 7 = sp_fav S) (ho : ¬ sp_ops S = 0) {v : Nat} (hk2 : I k 2 = (v : Int)) (hv9 : v ≤ 9) (h71 : ρ 71 1 = some 69) (h12 : I 1 2 = S 19) (hhr : I 69 1 = am_bits (sp_hp S) 6)  : am_E X (d + 3) 22 0 [(0, .inr (.inr (.inl (some k)))), (1, .inr (.inr (.inl (some 71)))), (2, .inr (.inr (.inl (some 81))))] [] (am_mm D I J ρ) (fun q => ∃ Q, q = (none, am_mm D (am_wp (fun c _ => Nat.beq c 81) I Q) J ρ) ∧ am_rowl (Q 81) 0 (if ¬ v = 0 ∧ v < (S 19).toNat ∧ S (7 + v) = 0 then sp_ord S v else sp_sayl (sp_ord S 0) (if sp_hd S 0 = sp_first S then -1 else sp_first S))) := by
  have ob := sp_ops_b hok
  have ol := sp_ord_len (S := S) (m := 0)
  have h19 := r_ok_19 hok
  refine am_e_ss 1 (q := (1, [(0, .inr (.inr (.inl (some k)))), (1, .inr (.inr (.inl (some 71)))), (2, .inr (.inr (.inl (some 81))))], [.inr (.inr (.inl (some k)))], (am_mm D I J ρ))) rfl ?_
  refine am_e_getfield (c := 2) (m := 3) (f := 2) rfl hsk rfl (by decide) (by decide) ?_
  show am_E _ _ _ 4 [(0, .inr (.inr (.inl (some k)))), (1, .inr (.inr (.inl (some 71)))), (2, .inr (.inr (.inl (some 81))))] [.inl ((I k 2))] (am_mm D I J ρ) _
  refine am_e_ss 1 (q := (5, [(0, .inr (.inr (.inl (some k)))), (1, .inr (.inr (.inl (some 71)))), (2, .inr (.inr (.inl (some 81))))], [.inr (.inr (.inl (some k))), .inl ((I k 2))], (am_mm D I J ρ))) rfl ?_
  refine am_e_getfield (c := 2) (m := 3) (f := 1) rfl hsk rfl (by decide) (by decide) ?_
  show am_E _ _ _ 8 [(0, .inr (.inr (.inl (some k)))), (1, .inr (.inr (.inl (some 71)))), (2, .inr (.inr (.inl (some 81))))] [.inl ((I k 1)), .inl ((I k 2))] (am_mm D I J ρ) _
  refine am_e_icmp2 rfl ⟨by omega, by omega⟩ ⟨by omega, by omega⟩ (fun (hw1 : (I k 2) = (I k 1)) => ?_) (fun (hw1 : ¬ ((I k 2) = (I k 1))) => ?_)
  · show am_E _ _ _ 34 [(0, .inr (.inr (.inl (some k)))), (1, .inr (.inr (.inl (some 71)))), (2, .inr (.inr (.inl (some 81))))] [] (am_mm D I J ρ) _
    refine am_e_ss 3 (q := (37, [(0, .inr (.inr (.inl (some k)))), (1, .inr (.inr (.inl (some 71)))), (2, .inr (.inr (.inl (some 81))))], [.inr (.inr (.inl (some 81))), .inr (.inr (.inl (some 71))), .inr (.inr (.inl (some k)))], (am_mm D I J ρ))) rfl ?_
    refine am_e_special (Q := fun r => ∃ Q88, r = (none, (am_mm D (am_wp (fun c _ => Nat.beq c 81) I Q88) J ρ)) ∧ am_rowl (Q88 81) 0 (sp_sayl (sp_ord S 0) (if sp_hd S 0 = sp_first S then -1 else sp_first S))) rfl rfl (Nat.le_of_ble_eq_true rfl) (am_kd_of hsk (by decide)) rfl (by decide) (Nat.le_of_ble_eq_true rfl) (Nat.le_of_ble_eq_true rfl) (m_say_p2_0 _ hsk hok hk124 hk1 h3 hO hm hfav ho) ?_
    rintro r ⟨Q88, rfl, hsu⟩
    show am_E _ _ _ 40 [(0, .inr (.inr (.inl (some k)))), (1, .inr (.inr (.inl (some 71)))), (2, .inr (.inr (.inl (some 81))))] [] (am_mm D (am_wp (fun c _ => Nat.beq c 81) I Q88) J ρ) _
    refine am_e_return rfl rfl ?_
    rw [if_neg (by omega)]
    exact ⟨_, am_r_wp (fun c _ => Nat.beq c 81) (am_k_wp am_k_sub (am_k_id)), hsu⟩
  · show am_E _ _ _ 11 [(0, .inr (.inr (.inl (some k)))), (1, .inr (.inr (.inl (some 71)))), (2, .inr (.inr (.inl (some 81))))] [] (am_mm D I J ρ) _
    refine am_e_ss 2 (q := (13, [(0, .inr (.inr (.inl (some k)))), (1, .inr (.inr (.inl (some 71)))), (2, .inr (.inr (.inl (some 81))))], [.inr (.inr (.inl (some k))), .inr (.inr (.inl (some 71)))], (am_mm D I J ρ))) rfl ?_
    refine am_e_getfield (c := 2) (m := 3) (f := 2) rfl hsk rfl (by decide) (by decide) ?_
    show am_E _ _ _ 16 [(0, .inr (.inr (.inl (some k)))), (1, .inr (.inr (.inl (some 71)))), (2, .inr (.inr (.inl (some 81))))] [.inl ((I k 2)), .inr (.inr (.inl (some 71)))] (am_mm D I J ρ) _
    refine am_e_virtual (Q := fun r => r = (some (.inl ((am_bi (v < (S 19).toNat ∧ S (7 + v) = 0)))), (am_mm D I J ρ))) rfl rfl (Nat.le_of_ble_eq_true rfl) rfl rfl (Nat.le_of_ble_eq_true rfl) (Nat.le_of_ble_eq_true rfl) (c_vIsHereI_69 _ (v := v) hk2 hok h71 h12 hhr (by omega)) ?_
    rintro r rfl
    show am_E _ _ _ 19 [(0, .inr (.inr (.inl (some k)))), (1, .inr (.inr (.inl (some 71)))), (2, .inr (.inr (.inl (some 81))))] [.inl ((am_bi (v < (S 19).toNat ∧ S (7 + v) = 0)))] (am_mm D I J ρ) _
    refine am_e_ifeq rfl (fun hw2 => ?_) (fun hw2 => ?_)
    · show am_E _ _ _ 34 [(0, .inr (.inr (.inl (some k)))), (1, .inr (.inr (.inl (some 71)))), (2, .inr (.inr (.inl (some 81))))] [] (am_mm D I J ρ) _
      refine am_e_ss 3 (q := (37, [(0, .inr (.inr (.inl (some k)))), (1, .inr (.inr (.inl (some 71)))), (2, .inr (.inr (.inl (some 81))))], [.inr (.inr (.inl (some 81))), .inr (.inr (.inl (some 71))), .inr (.inr (.inl (some k)))], (am_mm D I J ρ))) rfl ?_
      refine am_e_special (Q := fun r => ∃ Q89, r = (none, (am_mm D (am_wp (fun c _ => Nat.beq c 81) I Q89) J ρ)) ∧ am_rowl (Q89 81) 0 (sp_sayl (sp_ord S 0) (if sp_hd S 0 = sp_first S then -1 else sp_first S))) rfl rfl (Nat.le_of_ble_eq_true rfl) (am_kd_of hsk (by decide)) rfl (by decide) (Nat.le_of_ble_eq_true rfl) (Nat.le_of_ble_eq_true rfl) (m_say_p2_0 _ hsk hok hk124 hk1 h3 hO hm hfav ho) ?_
      rintro r ⟨Q89, rfl, hsu⟩
      show am_E _ _ _ 40 [(0, .inr (.inr (.inl (some k)))), (1, .inr (.inr (.inl (some 71)))), (2, .inr (.inr (.inl (some 81))))] [] (am_mm D (am_wp (fun c _ => Nat.beq c 81) I Q89) J ρ) _
      refine am_e_return rfl rfl ?_
      rw [if_neg (by omega)]
      exact ⟨_, am_r_wp (fun c _ => Nat.beq c 81) (am_k_wp am_k_sub (am_k_id)), hsu⟩
    · show am_E _ _ _ 22 [(0, .inr (.inr (.inl (some k)))), (1, .inr (.inr (.inl (some 71)))), (2, .inr (.inr (.inl (some 81))))] [] (am_mm D I J ρ) _
      refine am_e_ss 2 (q := (24, [(0, .inr (.inr (.inl (some k)))), (1, .inr (.inr (.inl (some 71)))), (2, .inr (.inr (.inl (some 81))))], [.inr (.inr (.inl (some k))), .inr (.inr (.inl (some 71)))], (am_mm D I J ρ))) rfl ?_
      refine am_e_getfield (c := 2) (m := 3) (f := 2) rfl hsk rfl (by decide) (by decide) ?_
      show am_E _ _ _ 27 [(0, .inr (.inr (.inl (some k)))), (1, .inr (.inr (.inl (some 71)))), (2, .inr (.inr (.inl (some 81))))] [.inl ((I k 2)), .inr (.inr (.inl (some 71)))] (am_mm D I J ρ) _
      refine am_e_ss 1 (q := (28, [(0, .inr (.inr (.inl (some k)))), (1, .inr (.inr (.inl (some 71)))), (2, .inr (.inr (.inl (some 81))))], [.inr (.inr (.inl (some 81))), .inl ((I k 2)), .inr (.inr (.inl (some 71)))], (am_mm D I J ρ))) rfl ?_
      refine am_e_virtual (Q := fun r => r = (none, (am_mm D (am_cpg I 81 0 (74 + v) 0 6) J ρ))) rfl rfl (Nat.le_of_ble_eq_true rfl) rfl rfl (Nat.le_of_ble_eq_true rfl) (Nat.le_of_ble_eq_true rfl) (c_putOrderI _ (a := v) (b := 0) hk2 (by omega) (by omega)) ?_
      rintro r rfl
      show am_E _ _ _ 31 [(0, .inr (.inr (.inl (some k)))), (1, .inr (.inr (.inl (some 71)))), (2, .inr (.inr (.inl (some 81))))] [] (am_mm D (am_cpg I 81 0 (74 + v) 0 6) J ρ) _
      refine am_e_ss 1 (q := (40, [(0, .inr (.inr (.inl (some k)))), (1, .inr (.inr (.inl (some 71)))), (2, .inr (.inr (.inl (some 81))))], [], (am_mm D (am_cpg I 81 0 (74 + v) 0 6) J ρ))) rfl ?_
      refine am_e_return rfl rfl ?_
      rw [if_pos (by omega)]
      exact ⟨_, am_r_wp (fun c _ => Nat.beq c 81) (am_k_cpg (fun _ => rfl) (am_k_id)), am_rowl_cpg (hO v (by omega)) (by have := sp_ord_len (S := S) (m := v); omega)⟩
theorem m_say_4_1 {X : Nat × (Nat → Int)} {D : List (Nat × Nat)} {I J : Nat → Nat → Int} {ρ : Nat → Nat → Option Nat} (d : Nat) {k : Nat} (hsk : (am_S ++ D)[k]? = some (4, 3)) {S : Nat → Int} {B : Int} (hok : r_ok S B) (hk124 : 124 ≤ k) (hk1 : I k 1 = 1) (h3 : I 71 3 = sp_ops S) (hO : ∀ j, j < (S 19).toNat → am_rowl (I (74 + j)) 0 (sp_ord S j)) (hm : 1 < (S 19).toNat)  : am_E X (d + 2) 37 0 [(0, .inr (.inr (.inl (some k)))), (1, .inr (.inr (.inl (some 71)))), (2, .inr (.inr (.inl (some 82))))] [] (am_mm D I J ρ) (fun q => ∃ Q, q = (none, am_mm D (am_wp (fun c _ => Nat.beq c 82) I Q) J ρ) ∧ am_rowl (Q 82) 0 (sp_ord S 1)) := by
  have ob := sp_ops_b hok
  have ol := sp_ord_len (S := S) (m := 1)
  refine am_e_ss 2 (q := (2, [(0, .inr (.inr (.inl (some k)))), (1, .inr (.inr (.inl (some 71)))), (2, .inr (.inr (.inl (some 82))))], [.inr (.inr (.inl (some k))), .inr (.inr (.inl (some 71)))], (am_mm D I J ρ))) rfl ?_
  refine am_e_getfield (c := 4) (m := 3) (f := 1) rfl hsk rfl (by decide) (by decide) ?_
  show am_E _ _ _ 5 [(0, .inr (.inr (.inl (some k)))), (1, .inr (.inr (.inl (some 71)))), (2, .inr (.inr (.inl (some 82))))] [.inl ((I k 1)), .inr (.inr (.inl (some 71)))] (am_mm D I J ρ) _
  refine am_e_ss 1 (q := (6, [(0, .inr (.inr (.inl (some k)))), (1, .inr (.inr (.inl (some 71)))), (2, .inr (.inr (.inl (some 82))))], [.inr (.inr (.inl (some 82))), .inl ((I k 1)), .inr (.inr (.inl (some 71)))], (am_mm D I J ρ))) rfl ?_
  refine am_e_virtual (Q := fun r => r = (none, (am_mm D (am_cpg I 82 0 (74 + 1) 0 6) J ρ))) rfl rfl (Nat.le_of_ble_eq_true rfl) rfl rfl (Nat.le_of_ble_eq_true rfl) (Nat.le_of_ble_eq_true rfl) (c_putOrderI _ (a := 1) (b := 1) (by omega) (by omega) (by omega)) ?_
  rintro r rfl
  show am_E _ _ _ 9 [(0, .inr (.inr (.inl (some k)))), (1, .inr (.inr (.inl (some 71)))), (2, .inr (.inr (.inl (some 82))))] [] (am_mm D (am_cpg I 82 0 (74 + 1) 0 6) J ρ) _
  refine am_e_return rfl rfl ?_
  exact ⟨_, am_r_wp (fun c _ => Nat.beq c 82) (am_k_cpg (fun _ => rfl) (am_k_id)), am_rowl_cpg (hO 1 hm) (by omega)⟩
theorem m_say_6_1 {X : Nat × (Nat → Int)} {D : List (Nat × Nat)} {I J : Nat → Nat → Int} {ρ : Nat → Nat → Option Nat} (d : Nat) {k : Nat} (hsk : (am_S ++ D)[k]? = some (6, 3)) {S : Nat → Int} {B : Int} (hok : r_ok S B) (hk124 : 124 ≤ k) (hk1 : I k 1 = 1) (h3 : I 71 3 = sp_ops S) (hO : ∀ j, j < (S 19).toNat → am_rowl (I (74 + j)) 0 (sp_ord S j)) (hm : 1 < (S 19).toNat)  : am_E X (d + 2) 37 0 [(0, .inr (.inr (.inl (some k)))), (1, .inr (.inr (.inl (some 71)))), (2, .inr (.inr (.inl (some 82))))] [] (am_mm D I J ρ) (fun q => ∃ Q, q = (none, am_mm D (am_wp (fun c _ => Nat.beq c 82) I Q) J ρ) ∧ am_rowl (Q 82) 0 (sp_ord S 1)) := by
  have ob := sp_ops_b hok
  have ol := sp_ord_len (S := S) (m := 1)
  refine am_e_ss 2 (q := (2, [(0, .inr (.inr (.inl (some k)))), (1, .inr (.inr (.inl (some 71)))), (2, .inr (.inr (.inl (some 82))))], [.inr (.inr (.inl (some k))), .inr (.inr (.inl (some 71)))], (am_mm D I J ρ))) rfl ?_
  refine am_e_getfield (c := 6) (m := 3) (f := 1) rfl hsk rfl (by decide) (by decide) ?_
  show am_E _ _ _ 5 [(0, .inr (.inr (.inl (some k)))), (1, .inr (.inr (.inl (some 71)))), (2, .inr (.inr (.inl (some 82))))] [.inl ((I k 1)), .inr (.inr (.inl (some 71)))] (am_mm D I J ρ) _
  refine am_e_ss 1 (q := (6, [(0, .inr (.inr (.inl (some k)))), (1, .inr (.inr (.inl (some 71)))), (2, .inr (.inr (.inl (some 82))))], [.inr (.inr (.inl (some 82))), .inl ((I k 1)), .inr (.inr (.inl (some 71)))], (am_mm D I J ρ))) rfl ?_
  refine am_e_virtual (Q := fun r => r = (none, (am_mm D (am_cpg I 82 0 (74 + 1) 0 6) J ρ))) rfl rfl (Nat.le_of_ble_eq_true rfl) rfl rfl (Nat.le_of_ble_eq_true rfl) (Nat.le_of_ble_eq_true rfl) (c_putOrderI _ (a := 1) (b := 1) (by omega) (by omega) (by omega)) ?_
  rintro r rfl
  show am_E _ _ _ 9 [(0, .inr (.inr (.inl (some k)))), (1, .inr (.inr (.inl (some 71)))), (2, .inr (.inr (.inl (some 82))))] [] (am_mm D (am_cpg I 82 0 (74 + 1) 0 6) J ρ) _
  refine am_e_return rfl rfl ?_
  exact ⟨_, am_r_wp (fun c _ => Nat.beq c 82) (am_k_cpg (fun _ => rfl) (am_k_id)), am_rowl_cpg (hO 1 hm) (by omega)⟩
theorem m_say_8_1 {X : Nat × (Nat → Int)} {D : List (Nat × Nat)} {I J : Nat → Nat → Int} {ρ : Nat → Nat → Option Nat} (d : Nat) {k : Nat} (hsk : (am_S ++ D)[k]? = some (8, 3)) {S : Nat → Int} {B : Int} (hok : r_ok S B) (hk124 : 124 ≤ k) (hk1 : I k 1 = 1) (h3 : I 71 3 = sp_ops S) (hO : ∀ j, j < (S 19).toNat → am_rowl (I (74 + j)) 0 (sp_ord S j)) (hm : 1 < (S 19).toNat)  : am_E X (d + 2) 37 0 [(0, .inr (.inr (.inl (some k)))), (1, .inr (.inr (.inl (some 71)))), (2, .inr (.inr (.inl (some 82))))] [] (am_mm D I J ρ) (fun q => ∃ Q, q = (none, am_mm D (am_wp (fun c _ => Nat.beq c 82) I Q) J ρ) ∧ am_rowl (Q 82) 0 (sp_ord S 1)) := by
  have ob := sp_ops_b hok
  have ol := sp_ord_len (S := S) (m := 1)
  refine am_e_ss 2 (q := (2, [(0, .inr (.inr (.inl (some k)))), (1, .inr (.inr (.inl (some 71)))), (2, .inr (.inr (.inl (some 82))))], [.inr (.inr (.inl (some k))), .inr (.inr (.inl (some 71)))], (am_mm D I J ρ))) rfl ?_
  refine am_e_getfield (c := 8) (m := 3) (f := 1) rfl hsk rfl (by decide) (by decide) ?_
  show am_E _ _ _ 5 [(0, .inr (.inr (.inl (some k)))), (1, .inr (.inr (.inl (some 71)))), (2, .inr (.inr (.inl (some 82))))] [.inl ((I k 1)), .inr (.inr (.inl (some 71)))] (am_mm D I J ρ) _
  refine am_e_ss 1 (q := (6, [(0, .inr (.inr (.inl (some k)))), (1, .inr (.inr (.inl (some 71)))), (2, .inr (.inr (.inl (some 82))))], [.inr (.inr (.inl (some 82))), .inl ((I k 1)), .inr (.inr (.inl (some 71)))], (am_mm D I J ρ))) rfl ?_
  refine am_e_virtual (Q := fun r => r = (none, (am_mm D (am_cpg I 82 0 (74 + 1) 0 6) J ρ))) rfl rfl (Nat.le_of_ble_eq_true rfl) rfl rfl (Nat.le_of_ble_eq_true rfl) (Nat.le_of_ble_eq_true rfl) (c_putOrderI _ (a := 1) (b := 1) (by omega) (by omega) (by omega)) ?_
  rintro r rfl
  show am_E _ _ _ 9 [(0, .inr (.inr (.inl (some k)))), (1, .inr (.inr (.inl (some 71)))), (2, .inr (.inr (.inl (some 82))))] [] (am_mm D (am_cpg I 82 0 (74 + 1) 0 6) J ρ) _
  refine am_e_return rfl rfl ?_
  exact ⟨_, am_r_wp (fun c _ => Nat.beq c 82) (am_k_cpg (fun _ => rfl) (am_k_id)), am_rowl_cpg (hO 1 hm) (by omega)⟩
theorem m_say_0_1 {X : Nat × (Nat → Int)} {D : List (Nat × Nat)} {I J : Nat → Nat → Int} {ρ : Nat → Nat → Option Nat} (d : Nat) {k : Nat} (hsk : (am_S ++ D)[k]? = some (0, 3)) {S : Nat → Int} {B : Int} (hok : r_ok S B) (hk124 : 124 ≤ k) (hk1 : I k 1 = 1) (h3 : I 71 3 = sp_ops S) (hO : ∀ j, j < (S 19).toNat → am_rowl (I (74 + j)) 0 (sp_ord S j)) (hm : 1 < (S 19).toNat)  : am_E X (d + 2) 37 0 [(0, .inr (.inr (.inl (some k)))), (1, .inr (.inr (.inl (some 71)))), (2, .inr (.inr (.inl (some 82))))] [] (am_mm D I J ρ) (fun q => ∃ Q, q = (none, am_mm D (am_wp (fun c _ => Nat.beq c 82) I Q) J ρ) ∧ am_rowl (Q 82) 0 (sp_ord S 1)) := by
  have ob := sp_ops_b hok
  have ol := sp_ord_len (S := S) (m := 1)
  refine am_e_ss 2 (q := (2, [(0, .inr (.inr (.inl (some k)))), (1, .inr (.inr (.inl (some 71)))), (2, .inr (.inr (.inl (some 82))))], [.inr (.inr (.inl (some k))), .inr (.inr (.inl (some 71)))], (am_mm D I J ρ))) rfl ?_
  refine am_e_getfield (c := 0) (m := 3) (f := 1) rfl hsk rfl (by decide) (by decide) ?_
  show am_E _ _ _ 5 [(0, .inr (.inr (.inl (some k)))), (1, .inr (.inr (.inl (some 71)))), (2, .inr (.inr (.inl (some 82))))] [.inl ((I k 1)), .inr (.inr (.inl (some 71)))] (am_mm D I J ρ) _
  refine am_e_ss 1 (q := (6, [(0, .inr (.inr (.inl (some k)))), (1, .inr (.inr (.inl (some 71)))), (2, .inr (.inr (.inl (some 82))))], [.inr (.inr (.inl (some 82))), .inl ((I k 1)), .inr (.inr (.inl (some 71)))], (am_mm D I J ρ))) rfl ?_
  refine am_e_virtual (Q := fun r => r = (none, (am_mm D (am_cpg I 82 0 (74 + 1) 0 6) J ρ))) rfl rfl (Nat.le_of_ble_eq_true rfl) rfl rfl (Nat.le_of_ble_eq_true rfl) (Nat.le_of_ble_eq_true rfl) (c_putOrderI _ (a := 1) (b := 1) (by omega) (by omega) (by omega)) ?_
  rintro r rfl
  show am_E _ _ _ 9 [(0, .inr (.inr (.inl (some k)))), (1, .inr (.inr (.inl (some 71)))), (2, .inr (.inr (.inl (some 82))))] [] (am_mm D (am_cpg I 82 0 (74 + 1) 0 6) J ρ) _
  refine am_e_return rfl rfl ?_
  exact ⟨_, am_r_wp (fun c _ => Nat.beq c 82) (am_k_cpg (fun _ => rfl) (am_k_id)), am_rowl_cpg (hO 1 hm) (by omega)⟩
theorem m_say_p5_1 {X : Nat × (Nat → Int)} {D : List (Nat × Nat)} {I J : Nat → Nat → Int} {ρ : Nat → Nat → Option Nat} (d : Nat) {k : Nat} (hsk : (am_S ++ D)[k]? = some (5, 3)) {S : Nat → Int} {B : Int} (hok : r_ok S B) (hk124 : 124 ≤ k) (hk1 : I k 1 = 1) (h3 : I 71 3 = sp_ops S) (hO : ∀ j, j < (S 19).toNat → am_rowl (I (74 + j)) 0 (sp_ord S j)) (hm : 1 < (S 19).toNat) (hfav : I 71 7 = sp_fav S) (ho : ¬ sp_ops S = 0)  : am_E X (d + 2) 43 0 [(0, .inr (.inr (.inl (some k)))), (1, .inr (.inr (.inl (some 71)))), (2, .inr (.inr (.inl (some 82))))] [] (am_mm D I J ρ) (fun q => ∃ Q, q = (none, am_mm D (am_wp (fun c _ => Nat.beq c 82) I Q) J ρ) ∧ am_rowl (Q 82) 0 (sp_sayl (sp_ord S 1) (if sp_hd S 1 = sp_first S then -1 else sp_first S))) := by
  have ob := sp_ops_b hok
  have ol := sp_ord_len (S := S) (m := 1)
  have fe := sp_fav_eq ho
  have fb := sp_first_b hok
  have hdb := sp_hd_b hok 1
  have hrd := hO 1 hm
  have hd0 : I (74 + 1) 0 = sp_hd S 1 := by
    unfold sp_hd
    cases hL : sp_ord S 1 with
    | nil => rw [hL] at ol; exact absurd (show (0 : Int) = sp_ops S from ol).symm ho
    | cons a r => rw [hL] at hrd; exact am_rowl_h hrd
  refine am_e_ss 2 (q := (2, [(0, .inr (.inr (.inl (some k)))), (1, .inr (.inr (.inl (some 71)))), (2, .inr (.inr (.inl (some 82))))], [.inr (.inr (.inl (some k))), .inr (.inr (.inl (some 71)))], (am_mm D I J ρ))) rfl ?_
  refine am_e_getfield (c := 5) (m := 3) (f := 1) rfl hsk rfl (by decide) (by decide) ?_
  show am_E _ _ _ 5 [(0, .inr (.inr (.inl (some k)))), (1, .inr (.inr (.inl (some 71)))), (2, .inr (.inr (.inl (some 82))))] [.inl ((I k 1)), .inr (.inr (.inl (some 71)))] (am_mm D I J ρ) _
  refine am_e_ss 1 (q := (6, [(0, .inr (.inr (.inl (some k)))), (1, .inr (.inr (.inl (some 71)))), (2, .inr (.inr (.inl (some 82))))], [.inr (.inr (.inl (some 82))), .inl ((I k 1)), .inr (.inr (.inl (some 71)))], (am_mm D I J ρ))) rfl ?_
  refine am_e_virtual (Q := fun r => r = (none, (am_mm D (am_cpg I 82 0 (74 + 1) 0 6) J ρ))) rfl rfl (Nat.le_of_ble_eq_true rfl) rfl rfl (Nat.le_of_ble_eq_true rfl) (Nat.le_of_ble_eq_true rfl) (c_putOrderI _ (a := 1) (b := 1) (by omega) (by omega) (by omega)) ?_
  rintro r rfl
  show am_E _ _ _ 9 [(0, .inr (.inr (.inl (some k)))), (1, .inr (.inr (.inl (some 71)))), (2, .inr (.inr (.inl (some 82))))] [] (am_mm D (am_cpg I 82 0 (74 + 1) 0 6) J ρ) _
  refine am_e_ss 3 (q := (12, [(0, .inr (.inr (.inl (some k)))), (1, .inr (.inr (.inl (some 71)))), (2, .inr (.inr (.inl (some 82))))], [.inl (((am_cpg I 82 0 (74 + 1) 0 6) 82 0))], (am_mm D (am_cpg I 82 0 (74 + 1) 0 6) J ρ))) rfl ?_
  have hr0 : ((am_cpg I 82 0 (74 + 1) 0 6) 82 0) = sp_hd S 1 := (if_pos ⟨rfl, by decide, by decide⟩).trans hd0
  refine am_e_ss 2 (q := (16, [(0, .inr (.inr (.inl (some k)))), (1, .inr (.inr (.inl (some 71)))), (2, .inr (.inr (.inl (some 82))))], [.inl ((I 71 7)), .inl (((am_cpg I 82 0 (74 + 1) 0 6) 82 0))], (am_mm D (am_cpg I 82 0 (74 + 1) 0 6) J ρ))) rfl ?_
  refine am_e_icmp2 rfl ⟨by omega, by omega⟩ ⟨by omega, by omega⟩ (fun (hw1 : ((am_cpg I 82 0 (74 + 1) 0 6) 82 0) = (I 71 7)) => ?_) (fun (hw1 : ¬ (((am_cpg I 82 0 (74 + 1) 0 6) 82 0) = (I 71 7))) => ?_)
  · show am_E _ _ _ 28 [(0, .inr (.inr (.inl (some k)))), (1, .inr (.inr (.inl (some 71)))), (2, .inr (.inr (.inl (some 82))))] [] (am_mm D (am_cpg I 82 0 (74 + 1) 0 6) J ρ) _
    refine am_e_return rfl rfl ?_
    have eL : sp_sayl (sp_ord S 1) (if sp_hd S 1 = sp_first S then -1 else sp_first S) = sp_ord S 1 := by
      rw [if_pos (by omega)]
      exact sp_sayl_no (fun x hx => by omega)
    rw [eL]
    exact ⟨_, am_r_wp (fun c _ => Nat.beq c 82) (am_k_cpg (fun _ => rfl) (am_k_id)), am_rowl_cpg (hO 1 hm) (by omega)⟩
  · show am_E _ _ _ 19 [(0, .inr (.inr (.inl (some k)))), (1, .inr (.inr (.inl (some 71)))), (2, .inr (.inr (.inl (some 82))))] [] (am_mm D (am_cpg I 82 0 (74 + 1) 0 6) J ρ) _
    refine am_e_ss 4 (q := (25, [(0, .inr (.inr (.inl (some k)))), (1, .inr (.inr (.inl (some 71)))), (2, .inr (.inr (.inl (some 82))))], [.inr (.inr (.inl (some 82))), .inl ((I 71 7)), .inr (.inr (.inl (some 71)))], (am_mm D (am_cpg I 82 0 (74 + 1) 0 6) J ρ))) rfl ?_
    refine am_e_virtual (Q := fun r => ∃ Q90, r = (none, (am_mm D (am_wp (fun c _ => Nat.beq c 82) (am_cpg I 82 0 (74 + 1) 0 6) Q90) J ρ)) ∧ am_rowl (Q90 82) 0 (sp_bub (I 71 7) (sp_ord S 1))) rfl rfl (Nat.le_of_ble_eq_true rfl) rfl rfl (Nat.le_of_ble_eq_true rfl) (Nat.le_of_ble_eq_true rfl) (c_putLast_1 _ (z := (I 71 7)) (L := sp_ord S 1) ⟨by omega, by omega⟩ (show I 71 3 = _ by omega) (by omega) (fun x hx => by have := sp_ord_mem.mp hx; have := (r_ok_19 hok).2; omega) (am_rowl_cpg (hO 1 hm) (by omega))) ?_
    rintro r ⟨Q90, rfl, hpl⟩
    show am_E _ _ _ 28 [(0, .inr (.inr (.inl (some k)))), (1, .inr (.inr (.inl (some 71)))), (2, .inr (.inr (.inl (some 82))))] [] (am_mm D (am_wp (fun c _ => Nat.beq c 82) (am_cpg I 82 0 (74 + 1) 0 6) Q90) J ρ) _
    refine am_e_return rfl rfl ?_
    have eL : sp_sayl (sp_ord S 1) (if sp_hd S 1 = sp_first S then -1 else sp_first S) = sp_bub (I 71 7) (sp_ord S 1) := by
      rw [if_neg (by omega), sp_bub_say sp_ord_nd, hfav, fe]
    rw [eL]
    exact ⟨_, am_r_wp (fun c _ => Nat.beq c 82) (am_k_wp am_k_sub (am_k_cpg (fun _ => rfl) (am_k_id))), hpl⟩
theorem m_say_p2_1 {X : Nat × (Nat → Int)} {D : List (Nat × Nat)} {I J : Nat → Nat → Int} {ρ : Nat → Nat → Option Nat} (d : Nat) {k : Nat} (hsk : (am_S ++ D)[k]? = some (2, 3)) {S : Nat → Int} {B : Int} (hok : r_ok S B) (hk124 : 124 ≤ k) (hk1 : I k 1 = 1) (h3 : I 71 3 = sp_ops S) (hO : ∀ j, j < (S 19).toNat → am_rowl (I (74 + j)) 0 (sp_ord S j)) (hm : 1 < (S 19).toNat) (hfav : I 71 7 = sp_fav S) (ho : ¬ sp_ops S = 0)  : am_E X (d + 2) 43 0 [(0, .inr (.inr (.inl (some k)))), (1, .inr (.inr (.inl (some 71)))), (2, .inr (.inr (.inl (some 82))))] [] (am_mm D I J ρ) (fun q => ∃ Q, q = (none, am_mm D (am_wp (fun c _ => Nat.beq c 82) I Q) J ρ) ∧ am_rowl (Q 82) 0 (sp_sayl (sp_ord S 1) (if sp_hd S 1 = sp_first S then -1 else sp_first S))) := by
  have ob := sp_ops_b hok
  have ol := sp_ord_len (S := S) (m := 1)
  have fe := sp_fav_eq ho
  have fb := sp_first_b hok
  have hdb := sp_hd_b hok 1
  have hrd := hO 1 hm
  have hd0 : I (74 + 1) 0 = sp_hd S 1 := by
    unfold sp_hd
    cases hL : sp_ord S 1 with
    | nil => rw [hL] at ol; exact absurd (show (0 : Int) = sp_ops S from ol).symm ho
    | cons a r => rw [hL] at hrd; exact am_rowl_h hrd
  refine am_e_ss 2 (q := (2, [(0, .inr (.inr (.inl (some k)))), (1, .inr (.inr (.inl (some 71)))), (2, .inr (.inr (.inl (some 82))))], [.inr (.inr (.inl (some k))), .inr (.inr (.inl (some 71)))], (am_mm D I J ρ))) rfl ?_
  refine am_e_getfield (c := 2) (m := 3) (f := 1) rfl hsk rfl (by decide) (by decide) ?_
  show am_E _ _ _ 5 [(0, .inr (.inr (.inl (some k)))), (1, .inr (.inr (.inl (some 71)))), (2, .inr (.inr (.inl (some 82))))] [.inl ((I k 1)), .inr (.inr (.inl (some 71)))] (am_mm D I J ρ) _
  refine am_e_ss 1 (q := (6, [(0, .inr (.inr (.inl (some k)))), (1, .inr (.inr (.inl (some 71)))), (2, .inr (.inr (.inl (some 82))))], [.inr (.inr (.inl (some 82))), .inl ((I k 1)), .inr (.inr (.inl (some 71)))], (am_mm D I J ρ))) rfl ?_
  refine am_e_virtual (Q := fun r => r = (none, (am_mm D (am_cpg I 82 0 (74 + 1) 0 6) J ρ))) rfl rfl (Nat.le_of_ble_eq_true rfl) rfl rfl (Nat.le_of_ble_eq_true rfl) (Nat.le_of_ble_eq_true rfl) (c_putOrderI _ (a := 1) (b := 1) (by omega) (by omega) (by omega)) ?_
  rintro r rfl
  show am_E _ _ _ 9 [(0, .inr (.inr (.inl (some k)))), (1, .inr (.inr (.inl (some 71)))), (2, .inr (.inr (.inl (some 82))))] [] (am_mm D (am_cpg I 82 0 (74 + 1) 0 6) J ρ) _
  refine am_e_ss 3 (q := (12, [(0, .inr (.inr (.inl (some k)))), (1, .inr (.inr (.inl (some 71)))), (2, .inr (.inr (.inl (some 82))))], [.inl (((am_cpg I 82 0 (74 + 1) 0 6) 82 0))], (am_mm D (am_cpg I 82 0 (74 + 1) 0 6) J ρ))) rfl ?_
  have hr0 : ((am_cpg I 82 0 (74 + 1) 0 6) 82 0) = sp_hd S 1 := (if_pos ⟨rfl, by decide, by decide⟩).trans hd0
  refine am_e_ss 2 (q := (16, [(0, .inr (.inr (.inl (some k)))), (1, .inr (.inr (.inl (some 71)))), (2, .inr (.inr (.inl (some 82))))], [.inl ((I 71 7)), .inl (((am_cpg I 82 0 (74 + 1) 0 6) 82 0))], (am_mm D (am_cpg I 82 0 (74 + 1) 0 6) J ρ))) rfl ?_
  refine am_e_icmp2 rfl ⟨by omega, by omega⟩ ⟨by omega, by omega⟩ (fun (hw1 : ((am_cpg I 82 0 (74 + 1) 0 6) 82 0) = (I 71 7)) => ?_) (fun (hw1 : ¬ (((am_cpg I 82 0 (74 + 1) 0 6) 82 0) = (I 71 7))) => ?_)
  · show am_E _ _ _ 28 [(0, .inr (.inr (.inl (some k)))), (1, .inr (.inr (.inl (some 71)))), (2, .inr (.inr (.inl (some 82))))] [] (am_mm D (am_cpg I 82 0 (74 + 1) 0 6) J ρ) _
    refine am_e_return rfl rfl ?_
    have eL : sp_sayl (sp_ord S 1) (if sp_hd S 1 = sp_first S then -1 else sp_first S) = sp_ord S 1 := by
      rw [if_pos (by omega)]
      exact sp_sayl_no (fun x hx => by omega)
    rw [eL]
    exact ⟨_, am_r_wp (fun c _ => Nat.beq c 82) (am_k_cpg (fun _ => rfl) (am_k_id)), am_rowl_cpg (hO 1 hm) (by omega)⟩
  · show am_E _ _ _ 19 [(0, .inr (.inr (.inl (some k)))), (1, .inr (.inr (.inl (some 71)))), (2, .inr (.inr (.inl (some 82))))] [] (am_mm D (am_cpg I 82 0 (74 + 1) 0 6) J ρ) _
    refine am_e_ss 4 (q := (25, [(0, .inr (.inr (.inl (some k)))), (1, .inr (.inr (.inl (some 71)))), (2, .inr (.inr (.inl (some 82))))], [.inr (.inr (.inl (some 82))), .inl ((I 71 7)), .inr (.inr (.inl (some 71)))], (am_mm D (am_cpg I 82 0 (74 + 1) 0 6) J ρ))) rfl ?_
    refine am_e_virtual (Q := fun r => ∃ Q91, r = (none, (am_mm D (am_wp (fun c _ => Nat.beq c 82) (am_cpg I 82 0 (74 + 1) 0 6) Q91) J ρ)) ∧ am_rowl (Q91 82) 0 (sp_bub (I 71 7) (sp_ord S 1))) rfl rfl (Nat.le_of_ble_eq_true rfl) rfl rfl (Nat.le_of_ble_eq_true rfl) (Nat.le_of_ble_eq_true rfl) (c_putLast_1 _ (z := (I 71 7)) (L := sp_ord S 1) ⟨by omega, by omega⟩ (show I 71 3 = _ by omega) (by omega) (fun x hx => by have := sp_ord_mem.mp hx; have := (r_ok_19 hok).2; omega) (am_rowl_cpg (hO 1 hm) (by omega))) ?_
    rintro r ⟨Q91, rfl, hpl⟩
    show am_E _ _ _ 28 [(0, .inr (.inr (.inl (some k)))), (1, .inr (.inr (.inl (some 71)))), (2, .inr (.inr (.inl (some 82))))] [] (am_mm D (am_wp (fun c _ => Nat.beq c 82) (am_cpg I 82 0 (74 + 1) 0 6) Q91) J ρ) _
    refine am_e_return rfl rfl ?_
    have eL : sp_sayl (sp_ord S 1) (if sp_hd S 1 = sp_first S then -1 else sp_first S) = sp_bub (I 71 7) (sp_ord S 1) := by
      rw [if_neg (by omega), sp_bub_say sp_ord_nd, hfav, fe]
    rw [eL]
    exact ⟨_, am_r_wp (fun c _ => Nat.beq c 82) (am_k_wp am_k_sub (am_k_cpg (fun _ => rfl) (am_k_id))), hpl⟩
theorem m_say_9_1 {X : Nat × (Nat → Int)} {D : List (Nat × Nat)} {I J : Nat → Nat → Int} {ρ : Nat → Nat → Option Nat} (d : Nat) {k : Nat} (hsk : (am_S ++ D)[k]? = some (9, 3)) {S : Nat → Int} {B : Int} (hok : r_ok S B) (hk124 : 124 ≤ k) (hk1 : I k 1 = 1) (h3 : I 71 3 = sp_ops S) (hO : ∀ j, j < (S 19).toNat → am_rowl (I (74 + j)) 0 (sp_ord S j)) (hm : 1 < (S 19).toNat) {v : Nat} (hk2 : I k 2 = (v : Int)) (hv9 : v ≤ 9)  : am_E X (d + 2) 62 0 [(0, .inr (.inr (.inl (some k)))), (1, .inr (.inr (.inl (some 71)))), (2, .inr (.inr (.inl (some 82))))] [] (am_mm D I J ρ) (fun q => ∃ Q, q = (none, am_mm D (am_wp (fun c _ => Nat.beq c 82) I Q) J ρ) ∧ am_rowl (Q 82) 0 (sp_sayl (sp_ord S 1) (v : Int))) := by
  have ob := sp_ops_b hok
  have ol := sp_ord_len (S := S) (m := 1)
  refine am_e_ss 2 (q := (2, [(0, .inr (.inr (.inl (some k)))), (1, .inr (.inr (.inl (some 71)))), (2, .inr (.inr (.inl (some 82))))], [.inr (.inr (.inl (some k))), .inr (.inr (.inl (some 71)))], (am_mm D I J ρ))) rfl ?_
  refine am_e_getfield (c := 9) (m := 3) (f := 1) rfl hsk rfl (by decide) (by decide) ?_
  show am_E _ _ _ 5 [(0, .inr (.inr (.inl (some k)))), (1, .inr (.inr (.inl (some 71)))), (2, .inr (.inr (.inl (some 82))))] [.inl ((I k 1)), .inr (.inr (.inl (some 71)))] (am_mm D I J ρ) _
  refine am_e_ss 1 (q := (6, [(0, .inr (.inr (.inl (some k)))), (1, .inr (.inr (.inl (some 71)))), (2, .inr (.inr (.inl (some 82))))], [.inr (.inr (.inl (some 82))), .inl ((I k 1)), .inr (.inr (.inl (some 71)))], (am_mm D I J ρ))) rfl ?_
  refine am_e_virtual (Q := fun r => r = (none, (am_mm D (am_cpg I 82 0 (74 + 1) 0 6) J ρ))) rfl rfl (Nat.le_of_ble_eq_true rfl) rfl rfl (Nat.le_of_ble_eq_true rfl) (Nat.le_of_ble_eq_true rfl) (c_putOrderI _ (a := 1) (b := 1) (by omega) (by omega) (by omega)) ?_
  rintro r rfl
  show am_E _ _ _ 9 [(0, .inr (.inr (.inl (some k)))), (1, .inr (.inr (.inl (some 71)))), (2, .inr (.inr (.inl (some 82))))] [] (am_mm D (am_cpg I 82 0 (74 + 1) 0 6) J ρ) _
  refine am_e_ss 2 (q := (11, [(0, .inr (.inr (.inl (some k)))), (1, .inr (.inr (.inl (some 71)))), (2, .inr (.inr (.inl (some 82))))], [.inr (.inr (.inl (some k))), .inr (.inr (.inl (some 71)))], (am_mm D (am_cpg I 82 0 (74 + 1) 0 6) J ρ))) rfl ?_
  refine am_e_getfield (c := 9) (m := 3) (f := 2) rfl hsk rfl (by decide) (by decide) ?_
  show am_E _ _ _ 14 [(0, .inr (.inr (.inl (some k)))), (1, .inr (.inr (.inl (some 71)))), (2, .inr (.inr (.inl (some 82))))] [.inl (((am_cpg I 82 0 (74 + 1) 0 6) k 2)), .inr (.inr (.inl (some 71)))] (am_mm D (am_cpg I 82 0 (74 + 1) 0 6) J ρ) _
  have hvv : ((am_cpg I 82 0 (74 + 1) 0 6) k 2) = (v : Int) := (if_neg (by omega)).trans hk2
  refine am_e_ss 1 (q := (15, [(0, .inr (.inr (.inl (some k)))), (1, .inr (.inr (.inl (some 71)))), (2, .inr (.inr (.inl (some 82))))], [.inr (.inr (.inl (some 82))), .inl (((am_cpg I 82 0 (74 + 1) 0 6) k 2)), .inr (.inr (.inl (some 71)))], (am_mm D (am_cpg I 82 0 (74 + 1) 0 6) J ρ))) rfl ?_
  refine am_e_virtual (Q := fun r => ∃ Q92, r = (none, (am_mm D (am_wp (fun c _ => Nat.beq c 82) (am_cpg I 82 0 (74 + 1) 0 6) Q92) J ρ)) ∧ am_rowl (Q92 82) 0 (sp_bub ((am_cpg I 82 0 (74 + 1) 0 6) k 2) (sp_ord S 1))) rfl rfl (Nat.le_of_ble_eq_true rfl) rfl rfl (Nat.le_of_ble_eq_true rfl) (Nat.le_of_ble_eq_true rfl) (c_putLast_1 _ (z := ((am_cpg I 82 0 (74 + 1) 0 6) k 2)) (L := sp_ord S 1) ⟨by omega, by omega⟩ (show I 71 3 = _ by omega) (by omega) (fun x hx => by have := sp_ord_mem.mp hx; have := (r_ok_19 hok).2; omega) (am_rowl_cpg (hO 1 hm) (by omega))) ?_
  rintro r ⟨Q92, rfl, hpl⟩
  show am_E _ _ _ 18 [(0, .inr (.inr (.inl (some k)))), (1, .inr (.inr (.inl (some 71)))), (2, .inr (.inr (.inl (some 82))))] [] (am_mm D (am_wp (fun c _ => Nat.beq c 82) (am_cpg I 82 0 (74 + 1) 0 6) Q92) J ρ) _
  refine am_e_return rfl rfl ?_
  rw [hvv, sp_bub_say sp_ord_nd] at hpl
  exact ⟨_, am_r_wp (fun c _ => Nat.beq c 82) (am_k_wp am_k_sub (am_k_cpg (fun _ => rfl) (am_k_id))), hpl⟩
theorem m_say_f2_1 {X : Nat × (Nat → Int)} {D : List (Nat × Nat)} {I J : Nat → Nat → Int} {ρ : Nat → Nat → Option Nat} (d : Nat) {k : Nat} (hsk : (am_S ++ D)[k]? = some (2, 3)) {S : Nat → Int} {B : Int} (hok : r_ok S B) (hk124 : 124 ≤ k) (hk1 : I k 1 = 1) (h3 : I 71 3 = sp_ops S) (hO : ∀ j, j < (S 19).toNat → am_rowl (I (74 + j)) 0 (sp_ord S j)) (hm : 1 < (S 19).toNat) (hfav : I 71 7 = sp_fav S) (ho : ¬ sp_ops S = 0) {v : Nat} (hk2 : I k 2 = (v : Int)) (hv9 : v ≤ 9) (h71 : ρ 71 1 = some 2) (h12 : I 1 2 = S 19) (hhr : I 2 1 = am_bits (sp_hp S) 6)  : am_E X (d + 3) 22 0 [(0, .inr (.inr (.inl (some k)))), (1, .inr (.inr (.inl (some 71)))), (2, .inr (.inr (.inl (some 82))))] [] (am_mm D I J ρ) (fun q => ∃ Q, q = (none, am_mm D (am_wp (fun c _ => Nat.beq c 82) I Q) J ρ) ∧ am_rowl (Q 82) 0 (if ¬ v = 1 ∧ v < (S 19).toNat ∧ S (7 + v) = 0 then sp_ord S v else sp_sayl (sp_ord S 1) (if sp_hd S 1 = sp_first S then -1 else sp_first S))) := by
  have ob := sp_ops_b hok
  have ol := sp_ord_len (S := S) (m := 1)
  have h19 := r_ok_19 hok
  refine am_e_ss 1 (q := (1, [(0, .inr (.inr (.inl (some k)))), (1, .inr (.inr (.inl (some 71)))), (2, .inr (.inr (.inl (some 82))))], [.inr (.inr (.inl (some k)))], (am_mm D I J ρ))) rfl ?_
  refine am_e_getfield (c := 2) (m := 3) (f := 2) rfl hsk rfl (by decide) (by decide) ?_
  show am_E _ _ _ 4 [(0, .inr (.inr (.inl (some k)))), (1, .inr (.inr (.inl (some 71)))), (2, .inr (.inr (.inl (some 82))))] [.inl ((I k 2))] (am_mm D I J ρ) _
  refine am_e_ss 1 (q := (5, [(0, .inr (.inr (.inl (some k)))), (1, .inr (.inr (.inl (some 71)))), (2, .inr (.inr (.inl (some 82))))], [.inr (.inr (.inl (some k))), .inl ((I k 2))], (am_mm D I J ρ))) rfl ?_
  refine am_e_getfield (c := 2) (m := 3) (f := 1) rfl hsk rfl (by decide) (by decide) ?_
  show am_E _ _ _ 8 [(0, .inr (.inr (.inl (some k)))), (1, .inr (.inr (.inl (some 71)))), (2, .inr (.inr (.inl (some 82))))] [.inl ((I k 1)), .inl ((I k 2))] (am_mm D I J ρ) _
  refine am_e_icmp2 rfl ⟨by omega, by omega⟩ ⟨by omega, by omega⟩ (fun (hw1 : (I k 2) = (I k 1)) => ?_) (fun (hw1 : ¬ ((I k 2) = (I k 1))) => ?_)
  · show am_E _ _ _ 34 [(0, .inr (.inr (.inl (some k)))), (1, .inr (.inr (.inl (some 71)))), (2, .inr (.inr (.inl (some 82))))] [] (am_mm D I J ρ) _
    refine am_e_ss 3 (q := (37, [(0, .inr (.inr (.inl (some k)))), (1, .inr (.inr (.inl (some 71)))), (2, .inr (.inr (.inl (some 82))))], [.inr (.inr (.inl (some 82))), .inr (.inr (.inl (some 71))), .inr (.inr (.inl (some k)))], (am_mm D I J ρ))) rfl ?_
    refine am_e_special (Q := fun r => ∃ Q93, r = (none, (am_mm D (am_wp (fun c _ => Nat.beq c 82) I Q93) J ρ)) ∧ am_rowl (Q93 82) 0 (sp_sayl (sp_ord S 1) (if sp_hd S 1 = sp_first S then -1 else sp_first S))) rfl rfl (Nat.le_of_ble_eq_true rfl) (am_kd_of hsk (by decide)) rfl (by decide) (Nat.le_of_ble_eq_true rfl) (Nat.le_of_ble_eq_true rfl) (m_say_p2_1 _ hsk hok hk124 hk1 h3 hO hm hfav ho) ?_
    rintro r ⟨Q93, rfl, hsu⟩
    show am_E _ _ _ 40 [(0, .inr (.inr (.inl (some k)))), (1, .inr (.inr (.inl (some 71)))), (2, .inr (.inr (.inl (some 82))))] [] (am_mm D (am_wp (fun c _ => Nat.beq c 82) I Q93) J ρ) _
    refine am_e_return rfl rfl ?_
    rw [if_neg (by omega)]
    exact ⟨_, am_r_wp (fun c _ => Nat.beq c 82) (am_k_wp am_k_sub (am_k_id)), hsu⟩
  · show am_E _ _ _ 11 [(0, .inr (.inr (.inl (some k)))), (1, .inr (.inr (.inl (some 71)))), (2, .inr (.inr (.inl (some 82))))] [] (am_mm D I J ρ) _
    refine am_e_ss 2 (q := (13, [(0, .inr (.inr (.inl (some k)))), (1, .inr (.inr (.inl (some 71)))), (2, .inr (.inr (.inl (some 82))))], [.inr (.inr (.inl (some k))), .inr (.inr (.inl (some 71)))], (am_mm D I J ρ))) rfl ?_
    refine am_e_getfield (c := 2) (m := 3) (f := 2) rfl hsk rfl (by decide) (by decide) ?_
    show am_E _ _ _ 16 [(0, .inr (.inr (.inl (some k)))), (1, .inr (.inr (.inl (some 71)))), (2, .inr (.inr (.inl (some 82))))] [.inl ((I k 2)), .inr (.inr (.inl (some 71)))] (am_mm D I J ρ) _
    refine am_e_virtual (Q := fun r => r = (some (.inl ((am_bi (v < (S 19).toNat ∧ S (7 + v) = 0)))), (am_mm D I J ρ))) rfl rfl (Nat.le_of_ble_eq_true rfl) rfl rfl (Nat.le_of_ble_eq_true rfl) (Nat.le_of_ble_eq_true rfl) (c_vIsHereI_2 _ (v := v) hk2 hok h71 h12 hhr (by omega)) ?_
    rintro r rfl
    show am_E _ _ _ 19 [(0, .inr (.inr (.inl (some k)))), (1, .inr (.inr (.inl (some 71)))), (2, .inr (.inr (.inl (some 82))))] [.inl ((am_bi (v < (S 19).toNat ∧ S (7 + v) = 0)))] (am_mm D I J ρ) _
    refine am_e_ifeq rfl (fun hw2 => ?_) (fun hw2 => ?_)
    · show am_E _ _ _ 34 [(0, .inr (.inr (.inl (some k)))), (1, .inr (.inr (.inl (some 71)))), (2, .inr (.inr (.inl (some 82))))] [] (am_mm D I J ρ) _
      refine am_e_ss 3 (q := (37, [(0, .inr (.inr (.inl (some k)))), (1, .inr (.inr (.inl (some 71)))), (2, .inr (.inr (.inl (some 82))))], [.inr (.inr (.inl (some 82))), .inr (.inr (.inl (some 71))), .inr (.inr (.inl (some k)))], (am_mm D I J ρ))) rfl ?_
      refine am_e_special (Q := fun r => ∃ Q94, r = (none, (am_mm D (am_wp (fun c _ => Nat.beq c 82) I Q94) J ρ)) ∧ am_rowl (Q94 82) 0 (sp_sayl (sp_ord S 1) (if sp_hd S 1 = sp_first S then -1 else sp_first S))) rfl rfl (Nat.le_of_ble_eq_true rfl) (am_kd_of hsk (by decide)) rfl (by decide) (Nat.le_of_ble_eq_true rfl) (Nat.le_of_ble_eq_true rfl) (m_say_p2_1 _ hsk hok hk124 hk1 h3 hO hm hfav ho) ?_
      rintro r ⟨Q94, rfl, hsu⟩
      show am_E _ _ _ 40 [(0, .inr (.inr (.inl (some k)))), (1, .inr (.inr (.inl (some 71)))), (2, .inr (.inr (.inl (some 82))))] [] (am_mm D (am_wp (fun c _ => Nat.beq c 82) I Q94) J ρ) _
      refine am_e_return rfl rfl ?_
      rw [if_neg (by omega)]
      exact ⟨_, am_r_wp (fun c _ => Nat.beq c 82) (am_k_wp am_k_sub (am_k_id)), hsu⟩
    · show am_E _ _ _ 22 [(0, .inr (.inr (.inl (some k)))), (1, .inr (.inr (.inl (some 71)))), (2, .inr (.inr (.inl (some 82))))] [] (am_mm D I J ρ) _
      refine am_e_ss 2 (q := (24, [(0, .inr (.inr (.inl (some k)))), (1, .inr (.inr (.inl (some 71)))), (2, .inr (.inr (.inl (some 82))))], [.inr (.inr (.inl (some k))), .inr (.inr (.inl (some 71)))], (am_mm D I J ρ))) rfl ?_
      refine am_e_getfield (c := 2) (m := 3) (f := 2) rfl hsk rfl (by decide) (by decide) ?_
      show am_E _ _ _ 27 [(0, .inr (.inr (.inl (some k)))), (1, .inr (.inr (.inl (some 71)))), (2, .inr (.inr (.inl (some 82))))] [.inl ((I k 2)), .inr (.inr (.inl (some 71)))] (am_mm D I J ρ) _
      refine am_e_ss 1 (q := (28, [(0, .inr (.inr (.inl (some k)))), (1, .inr (.inr (.inl (some 71)))), (2, .inr (.inr (.inl (some 82))))], [.inr (.inr (.inl (some 82))), .inl ((I k 2)), .inr (.inr (.inl (some 71)))], (am_mm D I J ρ))) rfl ?_
      refine am_e_virtual (Q := fun r => r = (none, (am_mm D (am_cpg I 82 0 (74 + v) 0 6) J ρ))) rfl rfl (Nat.le_of_ble_eq_true rfl) rfl rfl (Nat.le_of_ble_eq_true rfl) (Nat.le_of_ble_eq_true rfl) (c_putOrderI _ (a := v) (b := 1) hk2 (by omega) (by omega)) ?_
      rintro r rfl
      show am_E _ _ _ 31 [(0, .inr (.inr (.inl (some k)))), (1, .inr (.inr (.inl (some 71)))), (2, .inr (.inr (.inl (some 82))))] [] (am_mm D (am_cpg I 82 0 (74 + v) 0 6) J ρ) _
      refine am_e_ss 1 (q := (40, [(0, .inr (.inr (.inl (some k)))), (1, .inr (.inr (.inl (some 71)))), (2, .inr (.inr (.inl (some 82))))], [], (am_mm D (am_cpg I 82 0 (74 + v) 0 6) J ρ))) rfl ?_
      refine am_e_return rfl rfl ?_
      rw [if_pos (by omega)]
      exact ⟨_, am_r_wp (fun c _ => Nat.beq c 82) (am_k_cpg (fun _ => rfl) (am_k_id)), am_rowl_cpg (hO v (by omega)) (by have := sp_ord_len (S := S) (m := v); omega)⟩
theorem m_say_f69_1 {X : Nat × (Nat → Int)} {D : List (Nat × Nat)} {I J : Nat → Nat → Int} {ρ : Nat → Nat → Option Nat} (d : Nat) {k : Nat} (hsk : (am_S ++ D)[k]? = some (2, 3)) {S : Nat → Int} {B : Int} (hok : r_ok S B) (hk124 : 124 ≤ k) (hk1 : I k 1 = 1) (h3 : I 71 3 = sp_ops S) (hO : ∀ j, j < (S 19).toNat → am_rowl (I (74 + j)) 0 (sp_ord S j)) (hm : 1 < (S 19).toNat) (hfav : I 71 7 = sp_fav S) (ho : ¬ sp_ops S = 0) {v : Nat} (hk2 : I k 2 = (v : Int)) (hv9 : v ≤ 9) (h71 : ρ 71 1 = some 69) (h12 : I 1 2 = S 19) (hhr : I 69 1 = am_bits (sp_hp S) 6)  : am_E X (d + 3) 22 0 [(0, .inr (.inr (.inl (some k)))), (1, .inr (.inr (.inl (some 71)))), (2, .inr (.inr (.inl (some 82))))] [] (am_mm D I J ρ) (fun q => ∃ Q, q = (none, am_mm D (am_wp (fun c _ => Nat.beq c 82) I Q) J ρ) ∧ am_rowl (Q 82) 0 (if ¬ v = 1 ∧ v < (S 19).toNat ∧ S (7 + v) = 0 then sp_ord S v else sp_sayl (sp_ord S 1) (if sp_hd S 1 = sp_first S then -1 else sp_first S))) := by
  have ob := sp_ops_b hok
  have ol := sp_ord_len (S := S) (m := 1)
  have h19 := r_ok_19 hok
  refine am_e_ss 1 (q := (1, [(0, .inr (.inr (.inl (some k)))), (1, .inr (.inr (.inl (some 71)))), (2, .inr (.inr (.inl (some 82))))], [.inr (.inr (.inl (some k)))], (am_mm D I J ρ))) rfl ?_
  refine am_e_getfield (c := 2) (m := 3) (f := 2) rfl hsk rfl (by decide) (by decide) ?_
  show am_E _ _ _ 4 [(0, .inr (.inr (.inl (some k)))), (1, .inr (.inr (.inl (some 71)))), (2, .inr (.inr (.inl (some 82))))] [.inl ((I k 2))] (am_mm D I J ρ) _
  refine am_e_ss 1 (q := (5, [(0, .inr (.inr (.inl (some k)))), (1, .inr (.inr (.inl (some 71)))), (2, .inr (.inr (.inl (some 82))))], [.inr (.inr (.inl (some k))), .inl ((I k 2))], (am_mm D I J ρ))) rfl ?_
  refine am_e_getfield (c := 2) (m := 3) (f := 1) rfl hsk rfl (by decide) (by decide) ?_
  show am_E _ _ _ 8 [(0, .inr (.inr (.inl (some k)))), (1, .inr (.inr (.inl (some 71)))), (2, .inr (.inr (.inl (some 82))))] [.inl ((I k 1)), .inl ((I k 2))] (am_mm D I J ρ) _
  refine am_e_icmp2 rfl ⟨by omega, by omega⟩ ⟨by omega, by omega⟩ (fun (hw1 : (I k 2) = (I k 1)) => ?_) (fun (hw1 : ¬ ((I k 2) = (I k 1))) => ?_)
  · show am_E _ _ _ 34 [(0, .inr (.inr (.inl (some k)))), (1, .inr (.inr (.inl (some 71)))), (2, .inr (.inr (.inl (some 82))))] [] (am_mm D I J ρ) _
    refine am_e_ss 3 (q := (37, [(0, .inr (.inr (.inl (some k)))), (1, .inr (.inr (.inl (some 71)))), (2, .inr (.inr (.inl (some 82))))], [.inr (.inr (.inl (some 82))), .inr (.inr (.inl (some 71))), .inr (.inr (.inl (some k)))], (am_mm D I J ρ))) rfl ?_
    refine am_e_special (Q := fun r => ∃ Q95, r = (none, (am_mm D (am_wp (fun c _ => Nat.beq c 82) I Q95) J ρ)) ∧ am_rowl (Q95 82) 0 (sp_sayl (sp_ord S 1) (if sp_hd S 1 = sp_first S then -1 else sp_first S))) rfl rfl (Nat.le_of_ble_eq_true rfl) (am_kd_of hsk (by decide)) rfl (by decide) (Nat.le_of_ble_eq_true rfl) (Nat.le_of_ble_eq_true rfl) (m_say_p2_1 _ hsk hok hk124 hk1 h3 hO hm hfav ho) ?_
    rintro r ⟨Q95, rfl, hsu⟩
    show am_E _ _ _ 40 [(0, .inr (.inr (.inl (some k)))), (1, .inr (.inr (.inl (some 71)))), (2, .inr (.inr (.inl (some 82))))] [] (am_mm D (am_wp (fun c _ => Nat.beq c 82) I Q95) J ρ) _
    refine am_e_return rfl rfl ?_
    rw [if_neg (by omega)]
    exact ⟨_, am_r_wp (fun c _ => Nat.beq c 82) (am_k_wp am_k_sub (am_k_id)), hsu⟩
  · show am_E _ _ _ 11 [(0, .inr (.inr (.inl (some k)))), (1, .inr (.inr (.inl (some 71)))), (2, .inr (.inr (.inl (some 82))))] [] (am_mm D I J ρ) _
    refine am_e_ss 2 (q := (13, [(0, .inr (.inr (.inl (some k)))), (1, .inr (.inr (.inl (some 71)))), (2, .inr (.inr (.inl (some 82))))], [.inr (.inr (.inl (some k))), .inr (.inr (.inl (some 71)))], (am_mm D I J ρ))) rfl ?_
    refine am_e_getfield (c := 2) (m := 3) (f := 2) rfl hsk rfl (by decide) (by decide) ?_
    show am_E _ _ _ 16 [(0, .inr (.inr (.inl (some k)))), (1, .inr (.inr (.inl (some 71)))), (2, .inr (.inr (.inl (some 82))))] [.inl ((I k 2)), .inr (.inr (.inl (some 71)))] (am_mm D I J ρ) _
    refine am_e_virtual (Q := fun r => r = (some (.inl ((am_bi (v < (S 19).toNat ∧ S (7 + v) = 0)))), (am_mm D I J ρ))) rfl rfl (Nat.le_of_ble_eq_true rfl) rfl rfl (Nat.le_of_ble_eq_true rfl) (Nat.le_of_ble_eq_true rfl) (c_vIsHereI_69 _ (v := v) hk2 hok h71 h12 hhr (by omega)) ?_
    rintro r rfl
    show am_E _ _ _ 19 [(0, .inr (.inr (.inl (some k)))), (1, .inr (.inr (.inl (some 71)))), (2, .inr (.inr (.inl (some 82))))] [.inl ((am_bi (v < (S 19).toNat ∧ S (7 + v) = 0)))] (am_mm D I J ρ) _
    refine am_e_ifeq rfl (fun hw2 => ?_) (fun hw2 => ?_)
    · show am_E _ _ _ 34 [(0, .inr (.inr (.inl (some k)))), (1, .inr (.inr (.inl (some 71)))), (2, .inr (.inr (.inl (some 82))))] [] (am_mm D I J ρ) _
      refine am_e_ss 3 (q := (37, [(0, .inr (.inr (.inl (some k)))), (1, .inr (.inr (.inl (some 71)))), (2, .inr (.inr (.inl (some 82))))], [.inr (.inr (.inl (some 82))), .inr (.inr (.inl (some 71))), .inr (.inr (.inl (some k)))], (am_mm D I J ρ))) rfl ?_
      refine am_e_special (Q := fun r => ∃ Q96, r = (none, (am_mm D (am_wp (fun c _ => Nat.beq c 82) I Q96) J ρ)) ∧ am_rowl (Q96 82) 0 (sp_sayl (sp_ord S 1) (if sp_hd S 1 = sp_first S then -1 else sp_first S))) rfl rfl (Nat.le_of_ble_eq_true rfl) (am_kd_of hsk (by decide)) rfl (by decide) (Nat.le_of_ble_eq_true rfl) (Nat.le_of_ble_eq_true rfl) (m_say_p2_1 _ hsk hok hk124 hk1 h3 hO hm hfav ho) ?_
      rintro r ⟨Q96, rfl, hsu⟩
      show am_E _ _ _ 40 [(0, .inr (.inr (.inl (some k)))), (1, .inr (.inr (.inl (some 71)))), (2, .inr (.inr (.inl (some 82))))] [] (am_mm D (am_wp (fun c _ => Nat.beq c 82) I Q96) J ρ) _
      refine am_e_return rfl rfl ?_
      rw [if_neg (by omega)]
      exact ⟨_, am_r_wp (fun c _ => Nat.beq c 82) (am_k_wp am_k_sub (am_k_id)), hsu⟩
    · show am_E _ _ _ 22 [(0, .inr (.inr (.inl (some k)))), (1, .inr (.inr (.inl (some 71)))), (2, .inr (.inr (.inl (some 82))))] [] (am_mm D I J ρ) _
      refine am_e_ss 2 (q := (24, [(0, .inr (.inr (.inl (some k)))), (1, .inr (.inr (.inl (some 71)))), (2, .inr (.inr (.inl (some 82))))], [.inr (.inr (.inl (some k))), .inr (.inr (.inl (some 71)))], (am_mm D I J ρ))) rfl ?_
      refine am_e_getfield (c := 2) (m := 3) (f := 2) rfl hsk rfl (by decide) (by decide) ?_
      show am_E _ _ _ 27 [(0, .inr (.inr (.inl (some k)))), (1, .inr (.inr (.inl (some 71)))), (2, .inr (.inr (.inl (some 82))))] [.inl ((I k 2)), .inr (.inr (.inl (some 71)))] (am_mm D I J ρ) _
      refine am_e_ss 1 (q := (28, [(0, .inr (.inr (.inl (some k)))), (1, .inr (.inr (.inl (some 71)))), (2, .inr (.inr (.inl (some 82))))], [.inr (.inr (.inl (some 82))), .inl ((I k 2)), .inr (.inr (.inl (some 71)))], (am_mm D I J ρ))) rfl ?_
      refine am_e_virtual (Q := fun r => r = (none, (am_mm D (am_cpg I 82 0 (74 + v) 0 6) J ρ))) rfl rfl (Nat.le_of_ble_eq_true rfl) rfl rfl (Nat.le_of_ble_eq_true rfl) (Nat.le_of_ble_eq_true rfl) (c_putOrderI _ (a := v) (b := 1) hk2 (by omega) (by omega)) ?_
      rintro r rfl
      show am_E _ _ _ 31 [(0, .inr (.inr (.inl (some k)))), (1, .inr (.inr (.inl (some 71)))), (2, .inr (.inr (.inl (some 82))))] [] (am_mm D (am_cpg I 82 0 (74 + v) 0 6) J ρ) _
      refine am_e_ss 1 (q := (40, [(0, .inr (.inr (.inl (some k)))), (1, .inr (.inr (.inl (some 71)))), (2, .inr (.inr (.inl (some 82))))], [], (am_mm D (am_cpg I 82 0 (74 + v) 0 6) J ρ))) rfl ?_
      refine am_e_return rfl rfl ?_
      rw [if_pos (by omega)]
      exact ⟨_, am_r_wp (fun c _ => Nat.beq c 82) (am_k_cpg (fun _ => rfl) (am_k_id)), am_rowl_cpg (hO v (by omega)) (by have := sp_ord_len (S := S) (m := v); omega)⟩
theorem m_say_4_2 {X : Nat × (Nat → Int)} {D : List (Nat × Nat)} {I J : Nat → Nat → Int} {ρ : Nat → Nat → Option Nat} (d : Nat) {k : Nat} (hsk : (am_S ++ D)[k]? = some (4, 3)) {S : Nat → Int} {B : Int} (hok : r_ok S B) (hk124 : 124 ≤ k) (hk1 : I k 1 = 2) (h3 : I 71 3 = sp_ops S) (hO : ∀ j, j < (S 19).toNat → am_rowl (I (74 + j)) 0 (sp_ord S j)) (hm : 2 < (S 19).toNat)  : am_E X (d + 2) 37 0 [(0, .inr (.inr (.inl (some k)))), (1, .inr (.inr (.inl (some 71)))), (2, .inr (.inr (.inl (some 83))))] [] (am_mm D I J ρ) (fun q => ∃ Q, q = (none, am_mm D (am_wp (fun c _ => Nat.beq c 83) I Q) J ρ) ∧ am_rowl (Q 83) 0 (sp_ord S 2)) := by
  have ob := sp_ops_b hok
  have ol := sp_ord_len (S := S) (m := 2)
  refine am_e_ss 2 (q := (2, [(0, .inr (.inr (.inl (some k)))), (1, .inr (.inr (.inl (some 71)))), (2, .inr (.inr (.inl (some 83))))], [.inr (.inr (.inl (some k))), .inr (.inr (.inl (some 71)))], (am_mm D I J ρ))) rfl ?_
  refine am_e_getfield (c := 4) (m := 3) (f := 1) rfl hsk rfl (by decide) (by decide) ?_
  show am_E _ _ _ 5 [(0, .inr (.inr (.inl (some k)))), (1, .inr (.inr (.inl (some 71)))), (2, .inr (.inr (.inl (some 83))))] [.inl ((I k 1)), .inr (.inr (.inl (some 71)))] (am_mm D I J ρ) _
  refine am_e_ss 1 (q := (6, [(0, .inr (.inr (.inl (some k)))), (1, .inr (.inr (.inl (some 71)))), (2, .inr (.inr (.inl (some 83))))], [.inr (.inr (.inl (some 83))), .inl ((I k 1)), .inr (.inr (.inl (some 71)))], (am_mm D I J ρ))) rfl ?_
  refine am_e_virtual (Q := fun r => r = (none, (am_mm D (am_cpg I 83 0 (74 + 2) 0 6) J ρ))) rfl rfl (Nat.le_of_ble_eq_true rfl) rfl rfl (Nat.le_of_ble_eq_true rfl) (Nat.le_of_ble_eq_true rfl) (c_putOrderI _ (a := 2) (b := 2) (by omega) (by omega) (by omega)) ?_
  rintro r rfl
  show am_E _ _ _ 9 [(0, .inr (.inr (.inl (some k)))), (1, .inr (.inr (.inl (some 71)))), (2, .inr (.inr (.inl (some 83))))] [] (am_mm D (am_cpg I 83 0 (74 + 2) 0 6) J ρ) _
  refine am_e_return rfl rfl ?_
  exact ⟨_, am_r_wp (fun c _ => Nat.beq c 83) (am_k_cpg (fun _ => rfl) (am_k_id)), am_rowl_cpg (hO 2 hm) (by omega)⟩
theorem m_say_6_2 {X : Nat × (Nat → Int)} {D : List (Nat × Nat)} {I J : Nat → Nat → Int} {ρ : Nat → Nat → Option Nat} (d : Nat) {k : Nat} (hsk : (am_S ++ D)[k]? = some (6, 3)) {S : Nat → Int} {B : Int} (hok : r_ok S B) (hk124 : 124 ≤ k) (hk1 : I k 1 = 2) (h3 : I 71 3 = sp_ops S) (hO : ∀ j, j < (S 19).toNat → am_rowl (I (74 + j)) 0 (sp_ord S j)) (hm : 2 < (S 19).toNat)  : am_E X (d + 2) 37 0 [(0, .inr (.inr (.inl (some k)))), (1, .inr (.inr (.inl (some 71)))), (2, .inr (.inr (.inl (some 83))))] [] (am_mm D I J ρ) (fun q => ∃ Q, q = (none, am_mm D (am_wp (fun c _ => Nat.beq c 83) I Q) J ρ) ∧ am_rowl (Q 83) 0 (sp_ord S 2)) := by
  have ob := sp_ops_b hok
  have ol := sp_ord_len (S := S) (m := 2)
  refine am_e_ss 2 (q := (2, [(0, .inr (.inr (.inl (some k)))), (1, .inr (.inr (.inl (some 71)))), (2, .inr (.inr (.inl (some 83))))], [.inr (.inr (.inl (some k))), .inr (.inr (.inl (some 71)))], (am_mm D I J ρ))) rfl ?_
  refine am_e_getfield (c := 6) (m := 3) (f := 1) rfl hsk rfl (by decide) (by decide) ?_
  show am_E _ _ _ 5 [(0, .inr (.inr (.inl (some k)))), (1, .inr (.inr (.inl (some 71)))), (2, .inr (.inr (.inl (some 83))))] [.inl ((I k 1)), .inr (.inr (.inl (some 71)))] (am_mm D I J ρ) _
  refine am_e_ss 1 (q := (6, [(0, .inr (.inr (.inl (some k)))), (1, .inr (.inr (.inl (some 71)))), (2, .inr (.inr (.inl (some 83))))], [.inr (.inr (.inl (some 83))), .inl ((I k 1)), .inr (.inr (.inl (some 71)))], (am_mm D I J ρ))) rfl ?_
  refine am_e_virtual (Q := fun r => r = (none, (am_mm D (am_cpg I 83 0 (74 + 2) 0 6) J ρ))) rfl rfl (Nat.le_of_ble_eq_true rfl) rfl rfl (Nat.le_of_ble_eq_true rfl) (Nat.le_of_ble_eq_true rfl) (c_putOrderI _ (a := 2) (b := 2) (by omega) (by omega) (by omega)) ?_
  rintro r rfl
  show am_E _ _ _ 9 [(0, .inr (.inr (.inl (some k)))), (1, .inr (.inr (.inl (some 71)))), (2, .inr (.inr (.inl (some 83))))] [] (am_mm D (am_cpg I 83 0 (74 + 2) 0 6) J ρ) _
  refine am_e_return rfl rfl ?_
  exact ⟨_, am_r_wp (fun c _ => Nat.beq c 83) (am_k_cpg (fun _ => rfl) (am_k_id)), am_rowl_cpg (hO 2 hm) (by omega)⟩
theorem m_say_8_2 {X : Nat × (Nat → Int)} {D : List (Nat × Nat)} {I J : Nat → Nat → Int} {ρ : Nat → Nat → Option Nat} (d : Nat) {k : Nat} (hsk : (am_S ++ D)[k]? = some (8, 3)) {S : Nat → Int} {B : Int} (hok : r_ok S B) (hk124 : 124 ≤ k) (hk1 : I k 1 = 2) (h3 : I 71 3 = sp_ops S) (hO : ∀ j, j < (S 19).toNat → am_rowl (I (74 + j)) 0 (sp_ord S j)) (hm : 2 < (S 19).toNat)  : am_E X (d + 2) 37 0 [(0, .inr (.inr (.inl (some k)))), (1, .inr (.inr (.inl (some 71)))), (2, .inr (.inr (.inl (some 83))))] [] (am_mm D I J ρ) (fun q => ∃ Q, q = (none, am_mm D (am_wp (fun c _ => Nat.beq c 83) I Q) J ρ) ∧ am_rowl (Q 83) 0 (sp_ord S 2)) := by
  have ob := sp_ops_b hok
  have ol := sp_ord_len (S := S) (m := 2)
  refine am_e_ss 2 (q := (2, [(0, .inr (.inr (.inl (some k)))), (1, .inr (.inr (.inl (some 71)))), (2, .inr (.inr (.inl (some 83))))], [.inr (.inr (.inl (some k))), .inr (.inr (.inl (some 71)))], (am_mm D I J ρ))) rfl ?_
  refine am_e_getfield (c := 8) (m := 3) (f := 1) rfl hsk rfl (by decide) (by decide) ?_
  show am_E _ _ _ 5 [(0, .inr (.inr (.inl (some k)))), (1, .inr (.inr (.inl (some 71)))), (2, .inr (.inr (.inl (some 83))))] [.inl ((I k 1)), .inr (.inr (.inl (some 71)))] (am_mm D I J ρ) _
  refine am_e_ss 1 (q := (6, [(0, .inr (.inr (.inl (some k)))), (1, .inr (.inr (.inl (some 71)))), (2, .inr (.inr (.inl (some 83))))], [.inr (.inr (.inl (some 83))), .inl ((I k 1)), .inr (.inr (.inl (some 71)))], (am_mm D I J ρ))) rfl ?_
  refine am_e_virtual (Q := fun r => r = (none, (am_mm D (am_cpg I 83 0 (74 + 2) 0 6) J ρ))) rfl rfl (Nat.le_of_ble_eq_true rfl) rfl rfl (Nat.le_of_ble_eq_true rfl) (Nat.le_of_ble_eq_true rfl) (c_putOrderI _ (a := 2) (b := 2) (by omega) (by omega) (by omega)) ?_
  rintro r rfl
  show am_E _ _ _ 9 [(0, .inr (.inr (.inl (some k)))), (1, .inr (.inr (.inl (some 71)))), (2, .inr (.inr (.inl (some 83))))] [] (am_mm D (am_cpg I 83 0 (74 + 2) 0 6) J ρ) _
  refine am_e_return rfl rfl ?_
  exact ⟨_, am_r_wp (fun c _ => Nat.beq c 83) (am_k_cpg (fun _ => rfl) (am_k_id)), am_rowl_cpg (hO 2 hm) (by omega)⟩
theorem m_say_0_2 {X : Nat × (Nat → Int)} {D : List (Nat × Nat)} {I J : Nat → Nat → Int} {ρ : Nat → Nat → Option Nat} (d : Nat) {k : Nat} (hsk : (am_S ++ D)[k]? = some (0, 3)) {S : Nat → Int} {B : Int} (hok : r_ok S B) (hk124 : 124 ≤ k) (hk1 : I k 1 = 2) (h3 : I 71 3 = sp_ops S) (hO : ∀ j, j < (S 19).toNat → am_rowl (I (74 + j)) 0 (sp_ord S j)) (hm : 2 < (S 19).toNat)  : am_E X (d + 2) 37 0 [(0, .inr (.inr (.inl (some k)))), (1, .inr (.inr (.inl (some 71)))), (2, .inr (.inr (.inl (some 83))))] [] (am_mm D I J ρ) (fun q => ∃ Q, q = (none, am_mm D (am_wp (fun c _ => Nat.beq c 83) I Q) J ρ) ∧ am_rowl (Q 83) 0 (sp_ord S 2)) := by
  have ob := sp_ops_b hok
  have ol := sp_ord_len (S := S) (m := 2)
  refine am_e_ss 2 (q := (2, [(0, .inr (.inr (.inl (some k)))), (1, .inr (.inr (.inl (some 71)))), (2, .inr (.inr (.inl (some 83))))], [.inr (.inr (.inl (some k))), .inr (.inr (.inl (some 71)))], (am_mm D I J ρ))) rfl ?_
  refine am_e_getfield (c := 0) (m := 3) (f := 1) rfl hsk rfl (by decide) (by decide) ?_
  show am_E _ _ _ 5 [(0, .inr (.inr (.inl (some k)))), (1, .inr (.inr (.inl (some 71)))), (2, .inr (.inr (.inl (some 83))))] [.inl ((I k 1)), .inr (.inr (.inl (some 71)))] (am_mm D I J ρ) _
  refine am_e_ss 1 (q := (6, [(0, .inr (.inr (.inl (some k)))), (1, .inr (.inr (.inl (some 71)))), (2, .inr (.inr (.inl (some 83))))], [.inr (.inr (.inl (some 83))), .inl ((I k 1)), .inr (.inr (.inl (some 71)))], (am_mm D I J ρ))) rfl ?_
  refine am_e_virtual (Q := fun r => r = (none, (am_mm D (am_cpg I 83 0 (74 + 2) 0 6) J ρ))) rfl rfl (Nat.le_of_ble_eq_true rfl) rfl rfl (Nat.le_of_ble_eq_true rfl) (Nat.le_of_ble_eq_true rfl) (c_putOrderI _ (a := 2) (b := 2) (by omega) (by omega) (by omega)) ?_
  rintro r rfl
  show am_E _ _ _ 9 [(0, .inr (.inr (.inl (some k)))), (1, .inr (.inr (.inl (some 71)))), (2, .inr (.inr (.inl (some 83))))] [] (am_mm D (am_cpg I 83 0 (74 + 2) 0 6) J ρ) _
  refine am_e_return rfl rfl ?_
  exact ⟨_, am_r_wp (fun c _ => Nat.beq c 83) (am_k_cpg (fun _ => rfl) (am_k_id)), am_rowl_cpg (hO 2 hm) (by omega)⟩
theorem m_say_p5_2 {X : Nat × (Nat → Int)} {D : List (Nat × Nat)} {I J : Nat → Nat → Int} {ρ : Nat → Nat → Option Nat} (d : Nat) {k : Nat} (hsk : (am_S ++ D)[k]? = some (5, 3)) {S : Nat → Int} {B : Int} (hok : r_ok S B) (hk124 : 124 ≤ k) (hk1 : I k 1 = 2) (h3 : I 71 3 = sp_ops S) (hO : ∀ j, j < (S 19).toNat → am_rowl (I (74 + j)) 0 (sp_ord S j)) (hm : 2 < (S 19).toNat) (hfav : I 71 7 = sp_fav S) (ho : ¬ sp_ops S = 0)  : am_E X (d + 2) 43 0 [(0, .inr (.inr (.inl (some k)))), (1, .inr (.inr (.inl (some 71)))), (2, .inr (.inr (.inl (some 83))))] [] (am_mm D I J ρ) (fun q => ∃ Q, q = (none, am_mm D (am_wp (fun c _ => Nat.beq c 83) I Q) J ρ) ∧ am_rowl (Q 83) 0 (sp_sayl (sp_ord S 2) (if sp_hd S 2 = sp_first S then -1 else sp_first S))) := by
  have ob := sp_ops_b hok
  have ol := sp_ord_len (S := S) (m := 2)
  have fe := sp_fav_eq ho
  have fb := sp_first_b hok
  have hdb := sp_hd_b hok 2
  have hrd := hO 2 hm
  have hd0 : I (74 + 2) 0 = sp_hd S 2 := by
    unfold sp_hd
    cases hL : sp_ord S 2 with
    | nil => rw [hL] at ol; exact absurd (show (0 : Int) = sp_ops S from ol).symm ho
    | cons a r => rw [hL] at hrd; exact am_rowl_h hrd
  refine am_e_ss 2 (q := (2, [(0, .inr (.inr (.inl (some k)))), (1, .inr (.inr (.inl (some 71)))), (2, .inr (.inr (.inl (some 83))))], [.inr (.inr (.inl (some k))), .inr (.inr (.inl (some 71)))], (am_mm D I J ρ))) rfl ?_
  refine am_e_getfield (c := 5) (m := 3) (f := 1) rfl hsk rfl (by decide) (by decide) ?_
  show am_E _ _ _ 5 [(0, .inr (.inr (.inl (some k)))), (1, .inr (.inr (.inl (some 71)))), (2, .inr (.inr (.inl (some 83))))] [.inl ((I k 1)), .inr (.inr (.inl (some 71)))] (am_mm D I J ρ) _
  refine am_e_ss 1 (q := (6, [(0, .inr (.inr (.inl (some k)))), (1, .inr (.inr (.inl (some 71)))), (2, .inr (.inr (.inl (some 83))))], [.inr (.inr (.inl (some 83))), .inl ((I k 1)), .inr (.inr (.inl (some 71)))], (am_mm D I J ρ))) rfl ?_
  refine am_e_virtual (Q := fun r => r = (none, (am_mm D (am_cpg I 83 0 (74 + 2) 0 6) J ρ))) rfl rfl (Nat.le_of_ble_eq_true rfl) rfl rfl (Nat.le_of_ble_eq_true rfl) (Nat.le_of_ble_eq_true rfl) (c_putOrderI _ (a := 2) (b := 2) (by omega) (by omega) (by omega)) ?_
  rintro r rfl
  show am_E _ _ _ 9 [(0, .inr (.inr (.inl (some k)))), (1, .inr (.inr (.inl (some 71)))), (2, .inr (.inr (.inl (some 83))))] [] (am_mm D (am_cpg I 83 0 (74 + 2) 0 6) J ρ) _
  refine am_e_ss 3 (q := (12, [(0, .inr (.inr (.inl (some k)))), (1, .inr (.inr (.inl (some 71)))), (2, .inr (.inr (.inl (some 83))))], [.inl (((am_cpg I 83 0 (74 + 2) 0 6) 83 0))], (am_mm D (am_cpg I 83 0 (74 + 2) 0 6) J ρ))) rfl ?_
  have hr0 : ((am_cpg I 83 0 (74 + 2) 0 6) 83 0) = sp_hd S 2 := (if_pos ⟨rfl, by decide, by decide⟩).trans hd0
  refine am_e_ss 2 (q := (16, [(0, .inr (.inr (.inl (some k)))), (1, .inr (.inr (.inl (some 71)))), (2, .inr (.inr (.inl (some 83))))], [.inl ((I 71 7)), .inl (((am_cpg I 83 0 (74 + 2) 0 6) 83 0))], (am_mm D (am_cpg I 83 0 (74 + 2) 0 6) J ρ))) rfl ?_
  refine am_e_icmp2 rfl ⟨by omega, by omega⟩ ⟨by omega, by omega⟩ (fun (hw1 : ((am_cpg I 83 0 (74 + 2) 0 6) 83 0) = (I 71 7)) => ?_) (fun (hw1 : ¬ (((am_cpg I 83 0 (74 + 2) 0 6) 83 0) = (I 71 7))) => ?_)
  · show am_E _ _ _ 28 [(0, .inr (.inr (.inl (some k)))), (1, .inr (.inr (.inl (some 71)))), (2, .inr (.inr (.inl (some 83))))] [] (am_mm D (am_cpg I 83 0 (74 + 2) 0 6) J ρ) _
    refine am_e_return rfl rfl ?_
    have eL : sp_sayl (sp_ord S 2) (if sp_hd S 2 = sp_first S then -1 else sp_first S) = sp_ord S 2 := by
      rw [if_pos (by omega)]
      exact sp_sayl_no (fun x hx => by omega)
    rw [eL]
    exact ⟨_, am_r_wp (fun c _ => Nat.beq c 83) (am_k_cpg (fun _ => rfl) (am_k_id)), am_rowl_cpg (hO 2 hm) (by omega)⟩
  · show am_E _ _ _ 19 [(0, .inr (.inr (.inl (some k)))), (1, .inr (.inr (.inl (some 71)))), (2, .inr (.inr (.inl (some 83))))] [] (am_mm D (am_cpg I 83 0 (74 + 2) 0 6) J ρ) _
    refine am_e_ss 4 (q := (25, [(0, .inr (.inr (.inl (some k)))), (1, .inr (.inr (.inl (some 71)))), (2, .inr (.inr (.inl (some 83))))], [.inr (.inr (.inl (some 83))), .inl ((I 71 7)), .inr (.inr (.inl (some 71)))], (am_mm D (am_cpg I 83 0 (74 + 2) 0 6) J ρ))) rfl ?_
    refine am_e_virtual (Q := fun r => ∃ Q97, r = (none, (am_mm D (am_wp (fun c _ => Nat.beq c 83) (am_cpg I 83 0 (74 + 2) 0 6) Q97) J ρ)) ∧ am_rowl (Q97 83) 0 (sp_bub (I 71 7) (sp_ord S 2))) rfl rfl (Nat.le_of_ble_eq_true rfl) rfl rfl (Nat.le_of_ble_eq_true rfl) (Nat.le_of_ble_eq_true rfl) (c_putLast_2 _ (z := (I 71 7)) (L := sp_ord S 2) ⟨by omega, by omega⟩ (show I 71 3 = _ by omega) (by omega) (fun x hx => by have := sp_ord_mem.mp hx; have := (r_ok_19 hok).2; omega) (am_rowl_cpg (hO 2 hm) (by omega))) ?_
    rintro r ⟨Q97, rfl, hpl⟩
    show am_E _ _ _ 28 [(0, .inr (.inr (.inl (some k)))), (1, .inr (.inr (.inl (some 71)))), (2, .inr (.inr (.inl (some 83))))] [] (am_mm D (am_wp (fun c _ => Nat.beq c 83) (am_cpg I 83 0 (74 + 2) 0 6) Q97) J ρ) _
    refine am_e_return rfl rfl ?_
    have eL : sp_sayl (sp_ord S 2) (if sp_hd S 2 = sp_first S then -1 else sp_first S) = sp_bub (I 71 7) (sp_ord S 2) := by
      rw [if_neg (by omega), sp_bub_say sp_ord_nd, hfav, fe]
    rw [eL]
    exact ⟨_, am_r_wp (fun c _ => Nat.beq c 83) (am_k_wp am_k_sub (am_k_cpg (fun _ => rfl) (am_k_id))), hpl⟩
theorem m_say_p2_2 {X : Nat × (Nat → Int)} {D : List (Nat × Nat)} {I J : Nat → Nat → Int} {ρ : Nat → Nat → Option Nat} (d : Nat) {k : Nat} (hsk : (am_S ++ D)[k]? = some (2, 3)) {S : Nat → Int} {B : Int} (hok : r_ok S B) (hk124 : 124 ≤ k) (hk1 : I k 1 = 2) (h3 : I 71 3 = sp_ops S) (hO : ∀ j, j < (S 19).toNat → am_rowl (I (74 + j)) 0 (sp_ord S j)) (hm : 2 < (S 19).toNat) (hfav : I 71 7 = sp_fav S) (ho : ¬ sp_ops S = 0)  : am_E X (d + 2) 43 0 [(0, .inr (.inr (.inl (some k)))), (1, .inr (.inr (.inl (some 71)))), (2, .inr (.inr (.inl (some 83))))] [] (am_mm D I J ρ) (fun q => ∃ Q, q = (none, am_mm D (am_wp (fun c _ => Nat.beq c 83) I Q) J ρ) ∧ am_rowl (Q 83) 0 (sp_sayl (sp_ord S 2) (if sp_hd S 2 = sp_first S then -1 else sp_first S))) := by
  have ob := sp_ops_b hok
  have ol := sp_ord_len (S := S) (m := 2)
  have fe := sp_fav_eq ho
  have fb := sp_first_b hok
  have hdb := sp_hd_b hok 2
  have hrd := hO 2 hm
  have hd0 : I (74 + 2) 0 = sp_hd S 2 := by
    unfold sp_hd
    cases hL : sp_ord S 2 with
    | nil => rw [hL] at ol; exact absurd (show (0 : Int) = sp_ops S from ol).symm ho
    | cons a r => rw [hL] at hrd; exact am_rowl_h hrd
  refine am_e_ss 2 (q := (2, [(0, .inr (.inr (.inl (some k)))), (1, .inr (.inr (.inl (some 71)))), (2, .inr (.inr (.inl (some 83))))], [.inr (.inr (.inl (some k))), .inr (.inr (.inl (some 71)))], (am_mm D I J ρ))) rfl ?_
  refine am_e_getfield (c := 2) (m := 3) (f := 1) rfl hsk rfl (by decide) (by decide) ?_
  show am_E _ _ _ 5 [(0, .inr (.inr (.inl (some k)))), (1, .inr (.inr (.inl (some 71)))), (2, .inr (.inr (.inl (some 83))))] [.inl ((I k 1)), .inr (.inr (.inl (some 71)))] (am_mm D I J ρ) _
  refine am_e_ss 1 (q := (6, [(0, .inr (.inr (.inl (some k)))), (1, .inr (.inr (.inl (some 71)))), (2, .inr (.inr (.inl (some 83))))], [.inr (.inr (.inl (some 83))), .inl ((I k 1)), .inr (.inr (.inl (some 71)))], (am_mm D I J ρ))) rfl ?_
  refine am_e_virtual (Q := fun r => r = (none, (am_mm D (am_cpg I 83 0 (74 + 2) 0 6) J ρ))) rfl rfl (Nat.le_of_ble_eq_true rfl) rfl rfl (Nat.le_of_ble_eq_true rfl) (Nat.le_of_ble_eq_true rfl) (c_putOrderI _ (a := 2) (b := 2) (by omega) (by omega) (by omega)) ?_
  rintro r rfl
  show am_E _ _ _ 9 [(0, .inr (.inr (.inl (some k)))), (1, .inr (.inr (.inl (some 71)))), (2, .inr (.inr (.inl (some 83))))] [] (am_mm D (am_cpg I 83 0 (74 + 2) 0 6) J ρ) _
  refine am_e_ss 3 (q := (12, [(0, .inr (.inr (.inl (some k)))), (1, .inr (.inr (.inl (some 71)))), (2, .inr (.inr (.inl (some 83))))], [.inl (((am_cpg I 83 0 (74 + 2) 0 6) 83 0))], (am_mm D (am_cpg I 83 0 (74 + 2) 0 6) J ρ))) rfl ?_
  have hr0 : ((am_cpg I 83 0 (74 + 2) 0 6) 83 0) = sp_hd S 2 := (if_pos ⟨rfl, by decide, by decide⟩).trans hd0
  refine am_e_ss 2 (q := (16, [(0, .inr (.inr (.inl (some k)))), (1, .inr (.inr (.inl (some 71)))), (2, .inr (.inr (.inl (some 83))))], [.inl ((I 71 7)), .inl (((am_cpg I 83 0 (74 + 2) 0 6) 83 0))], (am_mm D (am_cpg I 83 0 (74 + 2) 0 6) J ρ))) rfl ?_
  refine am_e_icmp2 rfl ⟨by omega, by omega⟩ ⟨by omega, by omega⟩ (fun (hw1 : ((am_cpg I 83 0 (74 + 2) 0 6) 83 0) = (I 71 7)) => ?_) (fun (hw1 : ¬ (((am_cpg I 83 0 (74 + 2) 0 6) 83 0) = (I 71 7))) => ?_)
  · show am_E _ _ _ 28 [(0, .inr (.inr (.inl (some k)))), (1, .inr (.inr (.inl (some 71)))), (2, .inr (.inr (.inl (some 83))))] [] (am_mm D (am_cpg I 83 0 (74 + 2) 0 6) J ρ) _
    refine am_e_return rfl rfl ?_
    have eL : sp_sayl (sp_ord S 2) (if sp_hd S 2 = sp_first S then -1 else sp_first S) = sp_ord S 2 := by
      rw [if_pos (by omega)]
      exact sp_sayl_no (fun x hx => by omega)
    rw [eL]
    exact ⟨_, am_r_wp (fun c _ => Nat.beq c 83) (am_k_cpg (fun _ => rfl) (am_k_id)), am_rowl_cpg (hO 2 hm) (by omega)⟩
  · show am_E _ _ _ 19 [(0, .inr (.inr (.inl (some k)))), (1, .inr (.inr (.inl (some 71)))), (2, .inr (.inr (.inl (some 83))))] [] (am_mm D (am_cpg I 83 0 (74 + 2) 0 6) J ρ) _
    refine am_e_ss 4 (q := (25, [(0, .inr (.inr (.inl (some k)))), (1, .inr (.inr (.inl (some 71)))), (2, .inr (.inr (.inl (some 83))))], [.inr (.inr (.inl (some 83))), .inl ((I 71 7)), .inr (.inr (.inl (some 71)))], (am_mm D (am_cpg I 83 0 (74 + 2) 0 6) J ρ))) rfl ?_
    refine am_e_virtual (Q := fun r => ∃ Q98, r = (none, (am_mm D (am_wp (fun c _ => Nat.beq c 83) (am_cpg I 83 0 (74 + 2) 0 6) Q98) J ρ)) ∧ am_rowl (Q98 83) 0 (sp_bub (I 71 7) (sp_ord S 2))) rfl rfl (Nat.le_of_ble_eq_true rfl) rfl rfl (Nat.le_of_ble_eq_true rfl) (Nat.le_of_ble_eq_true rfl) (c_putLast_2 _ (z := (I 71 7)) (L := sp_ord S 2) ⟨by omega, by omega⟩ (show I 71 3 = _ by omega) (by omega) (fun x hx => by have := sp_ord_mem.mp hx; have := (r_ok_19 hok).2; omega) (am_rowl_cpg (hO 2 hm) (by omega))) ?_
    rintro r ⟨Q98, rfl, hpl⟩
    show am_E _ _ _ 28 [(0, .inr (.inr (.inl (some k)))), (1, .inr (.inr (.inl (some 71)))), (2, .inr (.inr (.inl (some 83))))] [] (am_mm D (am_wp (fun c _ => Nat.beq c 83) (am_cpg I 83 0 (74 + 2) 0 6) Q98) J ρ) _
    refine am_e_return rfl rfl ?_
    have eL : sp_sayl (sp_ord S 2) (if sp_hd S 2 = sp_first S then -1 else sp_first S) = sp_bub (I 71 7) (sp_ord S 2) := by
      rw [if_neg (by omega), sp_bub_say sp_ord_nd, hfav, fe]
    rw [eL]
    exact ⟨_, am_r_wp (fun c _ => Nat.beq c 83) (am_k_wp am_k_sub (am_k_cpg (fun _ => rfl) (am_k_id))), hpl⟩
theorem m_say_9_2 {X : Nat × (Nat → Int)} {D : List (Nat × Nat)} {I J : Nat → Nat → Int} {ρ : Nat → Nat → Option Nat} (d : Nat) {k : Nat} (hsk : (am_S ++ D)[k]? = some (9, 3)) {S : Nat → Int} {B : Int} (hok : r_ok S B) (hk124 : 124 ≤ k) (hk1 : I k 1 = 2) (h3 : I 71 3 = sp_ops S) (hO : ∀ j, j < (S 19).toNat → am_rowl (I (74 + j)) 0 (sp_ord S j)) (hm : 2 < (S 19).toNat) {v : Nat} (hk2 : I k 2 = (v : Int)) (hv9 : v ≤ 9)  : am_E X (d + 2) 62 0 [(0, .inr (.inr (.inl (some k)))), (1, .inr (.inr (.inl (some 71)))), (2, .inr (.inr (.inl (some 83))))] [] (am_mm D I J ρ) (fun q => ∃ Q, q = (none, am_mm D (am_wp (fun c _ => Nat.beq c 83) I Q) J ρ) ∧ am_rowl (Q 83) 0 (sp_sayl (sp_ord S 2) (v : Int))) := by
  have ob := sp_ops_b hok
  have ol := sp_ord_len (S := S) (m := 2)
  refine am_e_ss 2 (q := (2, [(0, .inr (.inr (.inl (some k)))), (1, .inr (.inr (.inl (some 71)))), (2, .inr (.inr (.inl (some 83))))], [.inr (.inr (.inl (some k))), .inr (.inr (.inl (some 71)))], (am_mm D I J ρ))) rfl ?_
  refine am_e_getfield (c := 9) (m := 3) (f := 1) rfl hsk rfl (by decide) (by decide) ?_
  show am_E _ _ _ 5 [(0, .inr (.inr (.inl (some k)))), (1, .inr (.inr (.inl (some 71)))), (2, .inr (.inr (.inl (some 83))))] [.inl ((I k 1)), .inr (.inr (.inl (some 71)))] (am_mm D I J ρ) _
  refine am_e_ss 1 (q := (6, [(0, .inr (.inr (.inl (some k)))), (1, .inr (.inr (.inl (some 71)))), (2, .inr (.inr (.inl (some 83))))], [.inr (.inr (.inl (some 83))), .inl ((I k 1)), .inr (.inr (.inl (some 71)))], (am_mm D I J ρ))) rfl ?_
  refine am_e_virtual (Q := fun r => r = (none, (am_mm D (am_cpg I 83 0 (74 + 2) 0 6) J ρ))) rfl rfl (Nat.le_of_ble_eq_true rfl) rfl rfl (Nat.le_of_ble_eq_true rfl) (Nat.le_of_ble_eq_true rfl) (c_putOrderI _ (a := 2) (b := 2) (by omega) (by omega) (by omega)) ?_
  rintro r rfl
  show am_E _ _ _ 9 [(0, .inr (.inr (.inl (some k)))), (1, .inr (.inr (.inl (some 71)))), (2, .inr (.inr (.inl (some 83))))] [] (am_mm D (am_cpg I 83 0 (74 + 2) 0 6) J ρ) _
  refine am_e_ss 2 (q := (11, [(0, .inr (.inr (.inl (some k)))), (1, .inr (.inr (.inl (some 71)))), (2, .inr (.inr (.inl (some 83))))], [.inr (.inr (.inl (some k))), .inr (.inr (.inl (some 71)))], (am_mm D (am_cpg I 83 0 (74 + 2) 0 6) J ρ))) rfl ?_
  refine am_e_getfield (c := 9) (m := 3) (f := 2) rfl hsk rfl (by decide) (by decide) ?_
  show am_E _ _ _ 14 [(0, .inr (.inr (.inl (some k)))), (1, .inr (.inr (.inl (some 71)))), (2, .inr (.inr (.inl (some 83))))] [.inl (((am_cpg I 83 0 (74 + 2) 0 6) k 2)), .inr (.inr (.inl (some 71)))] (am_mm D (am_cpg I 83 0 (74 + 2) 0 6) J ρ) _
  have hvv : ((am_cpg I 83 0 (74 + 2) 0 6) k 2) = (v : Int) := (if_neg (by omega)).trans hk2
  refine am_e_ss 1 (q := (15, [(0, .inr (.inr (.inl (some k)))), (1, .inr (.inr (.inl (some 71)))), (2, .inr (.inr (.inl (some 83))))], [.inr (.inr (.inl (some 83))), .inl (((am_cpg I 83 0 (74 + 2) 0 6) k 2)), .inr (.inr (.inl (some 71)))], (am_mm D (am_cpg I 83 0 (74 + 2) 0 6) J ρ))) rfl ?_
  refine am_e_virtual (Q := fun r => ∃ Q99, r = (none, (am_mm D (am_wp (fun c _ => Nat.beq c 83) (am_cpg I 83 0 (74 + 2) 0 6) Q99) J ρ)) ∧ am_rowl (Q99 83) 0 (sp_bub ((am_cpg I 83 0 (74 + 2) 0 6) k 2) (sp_ord S 2))) rfl rfl (Nat.le_of_ble_eq_true rfl) rfl rfl (Nat.le_of_ble_eq_true rfl) (Nat.le_of_ble_eq_true rfl) (c_putLast_2 _ (z := ((am_cpg I 83 0 (74 + 2) 0 6) k 2)) (L := sp_ord S 2) ⟨by omega, by omega⟩ (show I 71 3 = _ by omega) (by omega) (fun x hx => by have := sp_ord_mem.mp hx; have := (r_ok_19 hok).2; omega) (am_rowl_cpg (hO 2 hm) (by omega))) ?_
  rintro r ⟨Q99, rfl, hpl⟩
  show am_E _ _ _ 18 [(0, .inr (.inr (.inl (some k)))), (1, .inr (.inr (.inl (some 71)))), (2, .inr (.inr (.inl (some 83))))] [] (am_mm D (am_wp (fun c _ => Nat.beq c 83) (am_cpg I 83 0 (74 + 2) 0 6) Q99) J ρ) _
  refine am_e_return rfl rfl ?_
  rw [hvv, sp_bub_say sp_ord_nd] at hpl
  exact ⟨_, am_r_wp (fun c _ => Nat.beq c 83) (am_k_wp am_k_sub (am_k_cpg (fun _ => rfl) (am_k_id))), hpl⟩
theorem m_say_f2_2 {X : Nat × (Nat → Int)} {D : List (Nat × Nat)} {I J : Nat → Nat → Int} {ρ : Nat → Nat → Option Nat} (d : Nat) {k : Nat} (hsk : (am_S ++ D)[k]? = some (2, 3)) {S : Nat → Int} {B : Int} (hok : r_ok S B) (hk124 : 124 ≤ k) (hk1 : I k 1 = 2) (h3 : I 71 3 = sp_ops S) (hO : ∀ j, j < (S 19).toNat → am_rowl (I (74 + j)) 0 (sp_ord S j)) (hm : 2 < (S 19).toNat) (hfav : I 71 7 = sp_fav S) (ho : ¬ sp_ops S = 0) {v : Nat} (hk2 : I k 2 = (v : Int)) (hv9 : v ≤ 9) (h71 : ρ 71 1 = some 2) (h12 : I 1 2 = S 19) (hhr : I 2 1 = am_bits (sp_hp S) 6)  : am_E X (d + 3) 22 0 [(0, .inr (.inr (.inl (some k)))), (1, .inr (.inr (.inl (some 71)))), (2, .inr (.inr (.inl (some 83))))] [] (am_mm D I J ρ) (fun q => ∃ Q, q = (none, am_mm D (am_wp (fun c _ => Nat.beq c 83) I Q) J ρ) ∧ am_rowl (Q 83) 0 (if ¬ v = 2 ∧ v < (S 19).toNat ∧ S (7 + v) = 0 then sp_ord S v else sp_sayl (sp_ord S 2) (if sp_hd S 2 = sp_first S then -1 else sp_first S))) := by
  have ob := sp_ops_b hok
  have ol := sp_ord_len (S := S) (m := 2)
  have h19 := r_ok_19 hok
  refine am_e_ss 1 (q := (1, [(0, .inr (.inr (.inl (some k)))), (1, .inr (.inr (.inl (some 71)))), (2, .inr (.inr (.inl (some 83))))], [.inr (.inr (.inl (some k)))], (am_mm D I J ρ))) rfl ?_
  refine am_e_getfield (c := 2) (m := 3) (f := 2) rfl hsk rfl (by decide) (by decide) ?_
  show am_E _ _ _ 4 [(0, .inr (.inr (.inl (some k)))), (1, .inr (.inr (.inl (some 71)))), (2, .inr (.inr (.inl (some 83))))] [.inl ((I k 2))] (am_mm D I J ρ) _
  refine am_e_ss 1 (q := (5, [(0, .inr (.inr (.inl (some k)))), (1, .inr (.inr (.inl (some 71)))), (2, .inr (.inr (.inl (some 83))))], [.inr (.inr (.inl (some k))), .inl ((I k 2))], (am_mm D I J ρ))) rfl ?_
  refine am_e_getfield (c := 2) (m := 3) (f := 1) rfl hsk rfl (by decide) (by decide) ?_
  show am_E _ _ _ 8 [(0, .inr (.inr (.inl (some k)))), (1, .inr (.inr (.inl (some 71)))), (2, .inr (.inr (.inl (some 83))))] [.inl ((I k 1)), .inl ((I k 2))] (am_mm D I J ρ) _
  refine am_e_icmp2 rfl ⟨by omega, by omega⟩ ⟨by omega, by omega⟩ (fun (hw1 : (I k 2) = (I k 1)) => ?_) (fun (hw1 : ¬ ((I k 2) = (I k 1))) => ?_)
  · show am_E _ _ _ 34 [(0, .inr (.inr (.inl (some k)))), (1, .inr (.inr (.inl (some 71)))), (2, .inr (.inr (.inl (some 83))))] [] (am_mm D I J ρ) _
    refine am_e_ss 3 (q := (37, [(0, .inr (.inr (.inl (some k)))), (1, .inr (.inr (.inl (some 71)))), (2, .inr (.inr (.inl (some 83))))], [.inr (.inr (.inl (some 83))), .inr (.inr (.inl (some 71))), .inr (.inr (.inl (some k)))], (am_mm D I J ρ))) rfl ?_
    refine am_e_special (Q := fun r => ∃ Q100, r = (none, (am_mm D (am_wp (fun c _ => Nat.beq c 83) I Q100) J ρ)) ∧ am_rowl (Q100 83) 0 (sp_sayl (sp_ord S 2) (if sp_hd S 2 = sp_first S then -1 else sp_first S))) rfl rfl (Nat.le_of_ble_eq_true rfl) (am_kd_of hsk (by decide)) rfl (by decide) (Nat.le_of_ble_eq_true rfl) (Nat.le_of_ble_eq_true rfl) (m_say_p2_2 _ hsk hok hk124 hk1 h3 hO hm hfav ho) ?_
    rintro r ⟨Q100, rfl, hsu⟩
    show am_E _ _ _ 40 [(0, .inr (.inr (.inl (some k)))), (1, .inr (.inr (.inl (some 71)))), (2, .inr (.inr (.inl (some 83))))] [] (am_mm D (am_wp (fun c _ => Nat.beq c 83) I Q100) J ρ) _
    refine am_e_return rfl rfl ?_
    rw [if_neg (by omega)]
    exact ⟨_, am_r_wp (fun c _ => Nat.beq c 83) (am_k_wp am_k_sub (am_k_id)), hsu⟩
  · show am_E _ _ _ 11 [(0, .inr (.inr (.inl (some k)))), (1, .inr (.inr (.inl (some 71)))), (2, .inr (.inr (.inl (some 83))))] [] (am_mm D I J ρ) _
    refine am_e_ss 2 (q := (13, [(0, .inr (.inr (.inl (some k)))), (1, .inr (.inr (.inl (some 71)))), (2, .inr (.inr (.inl (some 83))))], [.inr (.inr (.inl (some k))), .inr (.inr (.inl (some 71)))], (am_mm D I J ρ))) rfl ?_
    refine am_e_getfield (c := 2) (m := 3) (f := 2) rfl hsk rfl (by decide) (by decide) ?_
    show am_E _ _ _ 16 [(0, .inr (.inr (.inl (some k)))), (1, .inr (.inr (.inl (some 71)))), (2, .inr (.inr (.inl (some 83))))] [.inl ((I k 2)), .inr (.inr (.inl (some 71)))] (am_mm D I J ρ) _
    refine am_e_virtual (Q := fun r => r = (some (.inl ((am_bi (v < (S 19).toNat ∧ S (7 + v) = 0)))), (am_mm D I J ρ))) rfl rfl (Nat.le_of_ble_eq_true rfl) rfl rfl (Nat.le_of_ble_eq_true rfl) (Nat.le_of_ble_eq_true rfl) (c_vIsHereI_2 _ (v := v) hk2 hok h71 h12 hhr (by omega)) ?_
    rintro r rfl
    show am_E _ _ _ 19 [(0, .inr (.inr (.inl (some k)))), (1, .inr (.inr (.inl (some 71)))), (2, .inr (.inr (.inl (some 83))))] [.inl ((am_bi (v < (S 19).toNat ∧ S (7 + v) = 0)))] (am_mm D I J ρ) _
    refine am_e_ifeq rfl (fun hw2 => ?_) (fun hw2 => ?_)
    · show am_E _ _ _ 34 [(0, .inr (.inr (.inl (some k)))), (1, .inr (.inr (.inl (some 71)))), (2, .inr (.inr (.inl (some 83))))] [] (am_mm D I J ρ) _
      refine am_e_ss 3 (q := (37, [(0, .inr (.inr (.inl (some k)))), (1, .inr (.inr (.inl (some 71)))), (2, .inr (.inr (.inl (some 83))))], [.inr (.inr (.inl (some 83))), .inr (.inr (.inl (some 71))), .inr (.inr (.inl (some k)))], (am_mm D I J ρ))) rfl ?_
      refine am_e_special (Q := fun r => ∃ Q101, r = (none, (am_mm D (am_wp (fun c _ => Nat.beq c 83) I Q101) J ρ)) ∧ am_rowl (Q101 83) 0 (sp_sayl (sp_ord S 2) (if sp_hd S 2 = sp_first S then -1 else sp_first S))) rfl rfl (Nat.le_of_ble_eq_true rfl) (am_kd_of hsk (by decide)) rfl (by decide) (Nat.le_of_ble_eq_true rfl) (Nat.le_of_ble_eq_true rfl) (m_say_p2_2 _ hsk hok hk124 hk1 h3 hO hm hfav ho) ?_
      rintro r ⟨Q101, rfl, hsu⟩
      show am_E _ _ _ 40 [(0, .inr (.inr (.inl (some k)))), (1, .inr (.inr (.inl (some 71)))), (2, .inr (.inr (.inl (some 83))))] [] (am_mm D (am_wp (fun c _ => Nat.beq c 83) I Q101) J ρ) _
      refine am_e_return rfl rfl ?_
      rw [if_neg (by omega)]
      exact ⟨_, am_r_wp (fun c _ => Nat.beq c 83) (am_k_wp am_k_sub (am_k_id)), hsu⟩
    · show am_E _ _ _ 22 [(0, .inr (.inr (.inl (some k)))), (1, .inr (.inr (.inl (some 71)))), (2, .inr (.inr (.inl (some 83))))] [] (am_mm D I J ρ) _
      refine am_e_ss 2 (q := (24, [(0, .inr (.inr (.inl (some k)))), (1, .inr (.inr (.inl (some 71)))), (2, .inr (.inr (.inl (some 83))))], [.inr (.inr (.inl (some k))), .inr (.inr (.inl (some 71)))], (am_mm D I J ρ))) rfl ?_
      refine am_e_getfield (c := 2) (m := 3) (f := 2) rfl hsk rfl (by decide) (by decide) ?_
      show am_E _ _ _ 27 [(0, .inr (.inr (.inl (some k)))), (1, .inr (.inr (.inl (some 71)))), (2, .inr (.inr (.inl (some 83))))] [.inl ((I k 2)), .inr (.inr (.inl (some 71)))] (am_mm D I J ρ) _
      refine am_e_ss 1 (q := (28, [(0, .inr (.inr (.inl (some k)))), (1, .inr (.inr (.inl (some 71)))), (2, .inr (.inr (.inl (some 83))))], [.inr (.inr (.inl (some 83))), .inl ((I k 2)), .inr (.inr (.inl (some 71)))], (am_mm D I J ρ))) rfl ?_
      refine am_e_virtual (Q := fun r => r = (none, (am_mm D (am_cpg I 83 0 (74 + v) 0 6) J ρ))) rfl rfl (Nat.le_of_ble_eq_true rfl) rfl rfl (Nat.le_of_ble_eq_true rfl) (Nat.le_of_ble_eq_true rfl) (c_putOrderI _ (a := v) (b := 2) hk2 (by omega) (by omega)) ?_
      rintro r rfl
      show am_E _ _ _ 31 [(0, .inr (.inr (.inl (some k)))), (1, .inr (.inr (.inl (some 71)))), (2, .inr (.inr (.inl (some 83))))] [] (am_mm D (am_cpg I 83 0 (74 + v) 0 6) J ρ) _
      refine am_e_ss 1 (q := (40, [(0, .inr (.inr (.inl (some k)))), (1, .inr (.inr (.inl (some 71)))), (2, .inr (.inr (.inl (some 83))))], [], (am_mm D (am_cpg I 83 0 (74 + v) 0 6) J ρ))) rfl ?_
      refine am_e_return rfl rfl ?_
      rw [if_pos (by omega)]
      exact ⟨_, am_r_wp (fun c _ => Nat.beq c 83) (am_k_cpg (fun _ => rfl) (am_k_id)), am_rowl_cpg (hO v (by omega)) (by have := sp_ord_len (S := S) (m := v); omega)⟩
theorem m_say_f69_2 {X : Nat × (Nat → Int)} {D : List (Nat × Nat)} {I J : Nat → Nat → Int} {ρ : Nat → Nat → Option Nat} (d : Nat) {k : Nat} (hsk : (am_S ++ D)[k]? = some (2, 3)) {S : Nat → Int} {B : Int} (hok : r_ok S B) (hk124 : 124 ≤ k) (hk1 : I k 1 = 2) (h3 : I 71 3 = sp_ops S) (hO : ∀ j, j < (S 19).toNat → am_rowl (I (74 + j)) 0 (sp_ord S j)) (hm : 2 < (S 19).toNat) (hfav : I 71 7 = sp_fav S) (ho : ¬ sp_ops S = 0) {v : Nat} (hk2 : I k 2 = (v : Int)) (hv9 : v ≤ 9) (h71 : ρ 71 1 = some 69) (h12 : I 1 2 = S 19) (hhr : I 69 1 = am_bits (sp_hp S) 6)  : am_E X (d + 3) 22 0 [(0, .inr (.inr (.inl (some k)))), (1, .inr (.inr (.inl (some 71)))), (2, .inr (.inr (.inl (some 83))))] [] (am_mm D I J ρ) (fun q => ∃ Q, q = (none, am_mm D (am_wp (fun c _ => Nat.beq c 83) I Q) J ρ) ∧ am_rowl (Q 83) 0 (if ¬ v = 2 ∧ v < (S 19).toNat ∧ S (7 + v) = 0 then sp_ord S v else sp_sayl (sp_ord S 2) (if sp_hd S 2 = sp_first S then -1 else sp_first S))) := by
  have ob := sp_ops_b hok
  have ol := sp_ord_len (S := S) (m := 2)
  have h19 := r_ok_19 hok
  refine am_e_ss 1 (q := (1, [(0, .inr (.inr (.inl (some k)))), (1, .inr (.inr (.inl (some 71)))), (2, .inr (.inr (.inl (some 83))))], [.inr (.inr (.inl (some k)))], (am_mm D I J ρ))) rfl ?_
  refine am_e_getfield (c := 2) (m := 3) (f := 2) rfl hsk rfl (by decide) (by decide) ?_
  show am_E _ _ _ 4 [(0, .inr (.inr (.inl (some k)))), (1, .inr (.inr (.inl (some 71)))), (2, .inr (.inr (.inl (some 83))))] [.inl ((I k 2))] (am_mm D I J ρ) _
  refine am_e_ss 1 (q := (5, [(0, .inr (.inr (.inl (some k)))), (1, .inr (.inr (.inl (some 71)))), (2, .inr (.inr (.inl (some 83))))], [.inr (.inr (.inl (some k))), .inl ((I k 2))], (am_mm D I J ρ))) rfl ?_
  refine am_e_getfield (c := 2) (m := 3) (f := 1) rfl hsk rfl (by decide) (by decide) ?_
  show am_E _ _ _ 8 [(0, .inr (.inr (.inl (some k)))), (1, .inr (.inr (.inl (some 71)))), (2, .inr (.inr (.inl (some 83))))] [.inl ((I k 1)), .inl ((I k 2))] (am_mm D I J ρ) _
  refine am_e_icmp2 rfl ⟨by omega, by omega⟩ ⟨by omega, by omega⟩ (fun (hw1 : (I k 2) = (I k 1)) => ?_) (fun (hw1 : ¬ ((I k 2) = (I k 1))) => ?_)
  · show am_E _ _ _ 34 [(0, .inr (.inr (.inl (some k)))), (1, .inr (.inr (.inl (some 71)))), (2, .inr (.inr (.inl (some 83))))] [] (am_mm D I J ρ) _
    refine am_e_ss 3 (q := (37, [(0, .inr (.inr (.inl (some k)))), (1, .inr (.inr (.inl (some 71)))), (2, .inr (.inr (.inl (some 83))))], [.inr (.inr (.inl (some 83))), .inr (.inr (.inl (some 71))), .inr (.inr (.inl (some k)))], (am_mm D I J ρ))) rfl ?_
    refine am_e_special (Q := fun r => ∃ Q102, r = (none, (am_mm D (am_wp (fun c _ => Nat.beq c 83) I Q102) J ρ)) ∧ am_rowl (Q102 83) 0 (sp_sayl (sp_ord S 2) (if sp_hd S 2 = sp_first S then -1 else sp_first S))) rfl rfl (Nat.le_of_ble_eq_true rfl) (am_kd_of hsk (by decide)) rfl (by decide) (Nat.le_of_ble_eq_true rfl) (Nat.le_of_ble_eq_true rfl) (m_say_p2_2 _ hsk hok hk124 hk1 h3 hO hm hfav ho) ?_
    rintro r ⟨Q102, rfl, hsu⟩
    show am_E _ _ _ 40 [(0, .inr (.inr (.inl (some k)))), (1, .inr (.inr (.inl (some 71)))), (2, .inr (.inr (.inl (some 83))))] [] (am_mm D (am_wp (fun c _ => Nat.beq c 83) I Q102) J ρ) _
    refine am_e_return rfl rfl ?_
    rw [if_neg (by omega)]
    exact ⟨_, am_r_wp (fun c _ => Nat.beq c 83) (am_k_wp am_k_sub (am_k_id)), hsu⟩
  · show am_E _ _ _ 11 [(0, .inr (.inr (.inl (some k)))), (1, .inr (.inr (.inl (some 71)))), (2, .inr (.inr (.inl (some 83))))] [] (am_mm D I J ρ) _
    refine am_e_ss 2 (q := (13, [(0, .inr (.inr (.inl (some k)))), (1, .inr (.inr (.inl (some 71)))), (2, .inr (.inr (.inl (some 83))))], [.inr (.inr (.inl (some k))), .inr (.inr (.inl (some 71)))], (am_mm D I J ρ))) rfl ?_
    refine am_e_getfield (c := 2) (m := 3) (f := 2) rfl hsk rfl (by decide) (by decide) ?_
    show am_E _ _ _ 16 [(0, .inr (.inr (.inl (some k)))), (1, .inr (.inr (.inl (some 71)))), (2, .inr (.inr (.inl (some 83))))] [.inl ((I k 2)), .inr (.inr (.inl (some 71)))] (am_mm D I J ρ) _
    refine am_e_virtual (Q := fun r => r = (some (.inl ((am_bi (v < (S 19).toNat ∧ S (7 + v) = 0)))), (am_mm D I J ρ))) rfl rfl (Nat.le_of_ble_eq_true rfl) rfl rfl (Nat.le_of_ble_eq_true rfl) (Nat.le_of_ble_eq_true rfl) (c_vIsHereI_69 _ (v := v) hk2 hok h71 h12 hhr (by omega)) ?_
    rintro r rfl
    show am_E _ _ _ 19 [(0, .inr (.inr (.inl (some k)))), (1, .inr (.inr (.inl (some 71)))), (2, .inr (.inr (.inl (some 83))))] [.inl ((am_bi (v < (S 19).toNat ∧ S (7 + v) = 0)))] (am_mm D I J ρ) _
    refine am_e_ifeq rfl (fun hw2 => ?_) (fun hw2 => ?_)
    · show am_E _ _ _ 34 [(0, .inr (.inr (.inl (some k)))), (1, .inr (.inr (.inl (some 71)))), (2, .inr (.inr (.inl (some 83))))] [] (am_mm D I J ρ) _
      refine am_e_ss 3 (q := (37, [(0, .inr (.inr (.inl (some k)))), (1, .inr (.inr (.inl (some 71)))), (2, .inr (.inr (.inl (some 83))))], [.inr (.inr (.inl (some 83))), .inr (.inr (.inl (some 71))), .inr (.inr (.inl (some k)))], (am_mm D I J ρ))) rfl ?_
      refine am_e_special (Q := fun r => ∃ Q103, r = (none, (am_mm D (am_wp (fun c _ => Nat.beq c 83) I Q103) J ρ)) ∧ am_rowl (Q103 83) 0 (sp_sayl (sp_ord S 2) (if sp_hd S 2 = sp_first S then -1 else sp_first S))) rfl rfl (Nat.le_of_ble_eq_true rfl) (am_kd_of hsk (by decide)) rfl (by decide) (Nat.le_of_ble_eq_true rfl) (Nat.le_of_ble_eq_true rfl) (m_say_p2_2 _ hsk hok hk124 hk1 h3 hO hm hfav ho) ?_
      rintro r ⟨Q103, rfl, hsu⟩
      show am_E _ _ _ 40 [(0, .inr (.inr (.inl (some k)))), (1, .inr (.inr (.inl (some 71)))), (2, .inr (.inr (.inl (some 83))))] [] (am_mm D (am_wp (fun c _ => Nat.beq c 83) I Q103) J ρ) _
      refine am_e_return rfl rfl ?_
      rw [if_neg (by omega)]
      exact ⟨_, am_r_wp (fun c _ => Nat.beq c 83) (am_k_wp am_k_sub (am_k_id)), hsu⟩
    · show am_E _ _ _ 22 [(0, .inr (.inr (.inl (some k)))), (1, .inr (.inr (.inl (some 71)))), (2, .inr (.inr (.inl (some 83))))] [] (am_mm D I J ρ) _
      refine am_e_ss 2 (q := (24, [(0, .inr (.inr (.inl (some k)))), (1, .inr (.inr (.inl (some 71)))), (2, .inr (.inr (.inl (some 83))))], [.inr (.inr (.inl (some k))), .inr (.inr (.inl (some 71)))], (am_mm D I J ρ))) rfl ?_
      refine am_e_getfield (c := 2) (m := 3) (f := 2) rfl hsk rfl (by decide) (by decide) ?_
      show am_E _ _ _ 27 [(0, .inr (.inr (.inl (some k)))), (1, .inr (.inr (.inl (some 71)))), (2, .inr (.inr (.inl (some 83))))] [.inl ((I k 2)), .inr (.inr (.inl (some 71)))] (am_mm D I J ρ) _
      refine am_e_ss 1 (q := (28, [(0, .inr (.inr (.inl (some k)))), (1, .inr (.inr (.inl (some 71)))), (2, .inr (.inr (.inl (some 83))))], [.inr (.inr (.inl (some 83))), .inl ((I k 2)), .inr (.inr (.inl (some 71)))], (am_mm D I J ρ))) rfl ?_
      refine am_e_virtual (Q := fun r => r = (none, (am_mm D (am_cpg I 83 0 (74 + v) 0 6) J ρ))) rfl rfl (Nat.le_of_ble_eq_true rfl) rfl rfl (Nat.le_of_ble_eq_true rfl) (Nat.le_of_ble_eq_true rfl) (c_putOrderI _ (a := v) (b := 2) hk2 (by omega) (by omega)) ?_
      rintro r rfl
      show am_E _ _ _ 31 [(0, .inr (.inr (.inl (some k)))), (1, .inr (.inr (.inl (some 71)))), (2, .inr (.inr (.inl (some 83))))] [] (am_mm D (am_cpg I 83 0 (74 + v) 0 6) J ρ) _
      refine am_e_ss 1 (q := (40, [(0, .inr (.inr (.inl (some k)))), (1, .inr (.inr (.inl (some 71)))), (2, .inr (.inr (.inl (some 83))))], [], (am_mm D (am_cpg I 83 0 (74 + v) 0 6) J ρ))) rfl ?_
      refine am_e_return rfl rfl ?_
      rw [if_pos (by omega)]
      exact ⟨_, am_r_wp (fun c _ => Nat.beq c 83) (am_k_cpg (fun _ => rfl) (am_k_id)), am_rowl_cpg (hO v (by omega)) (by have := sp_ord_len (S := S) (m := v); omega)⟩
theorem m_say_4_3 {X : Nat × (Nat → Int)} {D : List (Nat × Nat)} {I J : Nat → Nat → Int} {ρ : Nat → Nat → Option Nat} (d : Nat) {k : Nat} (hsk : (am_S ++ D)[k]? = some (4, 3)) {S : Nat → Int} {B : Int} (hok : r_ok S B) (hk124 : 124 ≤ k) (hk1 : I k 1 = 3) (h3 : I 71 3 = sp_ops S) (hO : ∀ j, j < (S 19).toNat → am_rowl (I (74 + j)) 0 (sp_ord S j)) (hm : 3 < (S 19).toNat)  : am_E X (d + 2) 37 0 [(0, .inr (.inr (.inl (some k)))), (1, .inr (.inr (.inl (some 71)))), (2, .inr (.inr (.inl (some 84))))] [] (am_mm D I J ρ) (fun q => ∃ Q, q = (none, am_mm D (am_wp (fun c _ => Nat.beq c 84) I Q) J ρ) ∧ am_rowl (Q 84) 0 (sp_ord S 3)) := by
  have ob := sp_ops_b hok
  have ol := sp_ord_len (S := S) (m := 3)
  refine am_e_ss 2 (q := (2, [(0, .inr (.inr (.inl (some k)))), (1, .inr (.inr (.inl (some 71)))), (2, .inr (.inr (.inl (some 84))))], [.inr (.inr (.inl (some k))), .inr (.inr (.inl (some 71)))], (am_mm D I J ρ))) rfl ?_
  refine am_e_getfield (c := 4) (m := 3) (f := 1) rfl hsk rfl (by decide) (by decide) ?_
  show am_E _ _ _ 5 [(0, .inr (.inr (.inl (some k)))), (1, .inr (.inr (.inl (some 71)))), (2, .inr (.inr (.inl (some 84))))] [.inl ((I k 1)), .inr (.inr (.inl (some 71)))] (am_mm D I J ρ) _
  refine am_e_ss 1 (q := (6, [(0, .inr (.inr (.inl (some k)))), (1, .inr (.inr (.inl (some 71)))), (2, .inr (.inr (.inl (some 84))))], [.inr (.inr (.inl (some 84))), .inl ((I k 1)), .inr (.inr (.inl (some 71)))], (am_mm D I J ρ))) rfl ?_
  refine am_e_virtual (Q := fun r => r = (none, (am_mm D (am_cpg I 84 0 (74 + 3) 0 6) J ρ))) rfl rfl (Nat.le_of_ble_eq_true rfl) rfl rfl (Nat.le_of_ble_eq_true rfl) (Nat.le_of_ble_eq_true rfl) (c_putOrderI _ (a := 3) (b := 3) (by omega) (by omega) (by omega)) ?_
  rintro r rfl
  show am_E _ _ _ 9 [(0, .inr (.inr (.inl (some k)))), (1, .inr (.inr (.inl (some 71)))), (2, .inr (.inr (.inl (some 84))))] [] (am_mm D (am_cpg I 84 0 (74 + 3) 0 6) J ρ) _
  refine am_e_return rfl rfl ?_
  exact ⟨_, am_r_wp (fun c _ => Nat.beq c 84) (am_k_cpg (fun _ => rfl) (am_k_id)), am_rowl_cpg (hO 3 hm) (by omega)⟩
theorem m_say_6_3 {X : Nat × (Nat → Int)} {D : List (Nat × Nat)} {I J : Nat → Nat → Int} {ρ : Nat → Nat → Option Nat} (d : Nat) {k : Nat} (hsk : (am_S ++ D)[k]? = some (6, 3)) {S : Nat → Int} {B : Int} (hok : r_ok S B) (hk124 : 124 ≤ k) (hk1 : I k 1 = 3) (h3 : I 71 3 = sp_ops S) (hO : ∀ j, j < (S 19).toNat → am_rowl (I (74 + j)) 0 (sp_ord S j)) (hm : 3 < (S 19).toNat)  : am_E X (d + 2) 37 0 [(0, .inr (.inr (.inl (some k)))), (1, .inr (.inr (.inl (some 71)))), (2, .inr (.inr (.inl (some 84))))] [] (am_mm D I J ρ) (fun q => ∃ Q, q = (none, am_mm D (am_wp (fun c _ => Nat.beq c 84) I Q) J ρ) ∧ am_rowl (Q 84) 0 (sp_ord S 3)) := by
  have ob := sp_ops_b hok
  have ol := sp_ord_len (S := S) (m := 3)
  refine am_e_ss 2 (q := (2, [(0, .inr (.inr (.inl (some k)))), (1, .inr (.inr (.inl (some 71)))), (2, .inr (.inr (.inl (some 84))))], [.inr (.inr (.inl (some k))), .inr (.inr (.inl (some 71)))], (am_mm D I J ρ))) rfl ?_
  refine am_e_getfield (c := 6) (m := 3) (f := 1) rfl hsk rfl (by decide) (by decide) ?_
  show am_E _ _ _ 5 [(0, .inr (.inr (.inl (some k)))), (1, .inr (.inr (.inl (some 71)))), (2, .inr (.inr (.inl (some 84))))] [.inl ((I k 1)), .inr (.inr (.inl (some 71)))] (am_mm D I J ρ) _
  refine am_e_ss 1 (q := (6, [(0, .inr (.inr (.inl (some k)))), (1, .inr (.inr (.inl (some 71)))), (2, .inr (.inr (.inl (some 84))))], [.inr (.inr (.inl (some 84))), .inl ((I k 1)), .inr (.inr (.inl (some 71)))], (am_mm D I J ρ))) rfl ?_
  refine am_e_virtual (Q := fun r => r = (none, (am_mm D (am_cpg I 84 0 (74 + 3) 0 6) J ρ))) rfl rfl (Nat.le_of_ble_eq_true rfl) rfl rfl (Nat.le_of_ble_eq_true rfl) (Nat.le_of_ble_eq_true rfl) (c_putOrderI _ (a := 3) (b := 3) (by omega) (by omega) (by omega)) ?_
  rintro r rfl
  show am_E _ _ _ 9 [(0, .inr (.inr (.inl (some k)))), (1, .inr (.inr (.inl (some 71)))), (2, .inr (.inr (.inl (some 84))))] [] (am_mm D (am_cpg I 84 0 (74 + 3) 0 6) J ρ) _
  refine am_e_return rfl rfl ?_
  exact ⟨_, am_r_wp (fun c _ => Nat.beq c 84) (am_k_cpg (fun _ => rfl) (am_k_id)), am_rowl_cpg (hO 3 hm) (by omega)⟩
theorem m_say_8_3 {X : Nat × (Nat → Int)} {D : List (Nat × Nat)} {I J : Nat → Nat → Int} {ρ : Nat → Nat → Option Nat} (d : Nat) {k : Nat} (hsk : (am_S ++ D)[k]? = some (8, 3)) {S : Nat → Int} {B : Int} (hok : r_ok S B) (hk124 : 124 ≤ k) (hk1 : I k 1 = 3) (h3 : I 71 3 = sp_ops S) (hO : ∀ j, j < (S 19).toNat → am_rowl (I (74 + j)) 0 (sp_ord S j)) (hm : 3 < (S 19).toNat)  : am_E X (d + 2) 37 0 [(0, .inr (.inr (.inl (some k)))), (1, .inr (.inr (.inl (some 71)))), (2, .inr (.inr (.inl (some 84))))] [] (am_mm D I J ρ) (fun q => ∃ Q, q = (none, am_mm D (am_wp (fun c _ => Nat.beq c 84) I Q) J ρ) ∧ am_rowl (Q 84) 0 (sp_ord S 3)) := by
  have ob := sp_ops_b hok
  have ol := sp_ord_len (S := S) (m := 3)
  refine am_e_ss 2 (q := (2, [(0, .inr (.inr (.inl (some k)))), (1, .inr (.inr (.inl (some 71)))), (2, .inr (.inr (.inl (some 84))))], [.inr (.inr (.inl (some k))), .inr (.inr (.inl (some 71)))], (am_mm D I J ρ))) rfl ?_
  refine am_e_getfield (c := 8) (m := 3) (f := 1) rfl hsk rfl (by decide) (by decide) ?_
  show am_E _ _ _ 5 [(0, .inr (.inr (.inl (some k)))), (1, .inr (.inr (.inl (some 71)))), (2, .inr (.inr (.inl (some 84))))] [.inl ((I k 1)), .inr (.inr (.inl (some 71)))] (am_mm D I J ρ) _
  refine am_e_ss 1 (q := (6, [(0, .inr (.inr (.inl (some k)))), (1, .inr (.inr (.inl (some 71)))), (2, .inr (.inr (.inl (some 84))))], [.inr (.inr (.inl (some 84))), .inl ((I k 1)), .inr (.inr (.inl (some 71)))], (am_mm D I J ρ))) rfl ?_
  refine am_e_virtual (Q := fun r => r = (none, (am_mm D (am_cpg I 84 0 (74 + 3) 0 6) J ρ))) rfl rfl (Nat.le_of_ble_eq_true rfl) rfl rfl (Nat.le_of_ble_eq_true rfl) (Nat.le_of_ble_eq_true rfl) (c_putOrderI _ (a := 3) (b := 3) (by omega) (by omega) (by omega)) ?_
  rintro r rfl
  show am_E _ _ _ 9 [(0, .inr (.inr (.inl (some k)))), (1, .inr (.inr (.inl (some 71)))), (2, .inr (.inr (.inl (some 84))))] [] (am_mm D (am_cpg I 84 0 (74 + 3) 0 6) J ρ) _
  refine am_e_return rfl rfl ?_
  exact ⟨_, am_r_wp (fun c _ => Nat.beq c 84) (am_k_cpg (fun _ => rfl) (am_k_id)), am_rowl_cpg (hO 3 hm) (by omega)⟩
theorem m_say_0_3 {X : Nat × (Nat → Int)} {D : List (Nat × Nat)} {I J : Nat → Nat → Int} {ρ : Nat → Nat → Option Nat} (d : Nat) {k : Nat} (hsk : (am_S ++ D)[k]? = some (0, 3)) {S : Nat → Int} {B : Int} (hok : r_ok S B) (hk124 : 124 ≤ k) (hk1 : I k 1 = 3) (h3 : I 71 3 = sp_ops S) (hO : ∀ j, j < (S 19).toNat → am_rowl (I (74 + j)) 0 (sp_ord S j)) (hm : 3 < (S 19).toNat)  : am_E X (d + 2) 37 0 [(0, .inr (.inr (.inl (some k)))), (1, .inr (.inr (.inl (some 71)))), (2, .inr (.inr (.inl (some 84))))] [] (am_mm D I J ρ) (fun q => ∃ Q, q = (none, am_mm D (am_wp (fun c _ => Nat.beq c 84) I Q) J ρ) ∧ am_rowl (Q 84) 0 (sp_ord S 3)) := by
  have ob := sp_ops_b hok
  have ol := sp_ord_len (S := S) (m := 3)
  refine am_e_ss 2 (q := (2, [(0, .inr (.inr (.inl (some k)))), (1, .inr (.inr (.inl (some 71)))), (2, .inr (.inr (.inl (some 84))))], [.inr (.inr (.inl (some k))), .inr (.inr (.inl (some 71)))], (am_mm D I J ρ))) rfl ?_
  refine am_e_getfield (c := 0) (m := 3) (f := 1) rfl hsk rfl (by decide) (by decide) ?_
  show am_E _ _ _ 5 [(0, .inr (.inr (.inl (some k)))), (1, .inr (.inr (.inl (some 71)))), (2, .inr (.inr (.inl (some 84))))] [.inl ((I k 1)), .inr (.inr (.inl (some 71)))] (am_mm D I J ρ) _
  refine am_e_ss 1 (q := (6, [(0, .inr (.inr (.inl (some k)))), (1, .inr (.inr (.inl (some 71)))), (2, .inr (.inr (.inl (some 84))))], [.inr (.inr (.inl (some 84))), .inl ((I k 1)), .inr (.inr (.inl (some 71)))], (am_mm D I J ρ))) rfl ?_
  refine am_e_virtual (Q := fun r => r = (none, (am_mm D (am_cpg I 84 0 (74 + 3) 0 6) J ρ))) rfl rfl (Nat.le_of_ble_eq_true rfl) rfl rfl (Nat.le_of_ble_eq_true rfl) (Nat.le_of_ble_eq_true rfl) (c_putOrderI _ (a := 3) (b := 3) (by omega) (by omega) (by omega)) ?_
  rintro r rfl
  show am_E _ _ _ 9 [(0, .inr (.inr (.inl (some k)))), (1, .inr (.inr (.inl (some 71)))), (2, .inr (.inr (.inl (some 84))))] [] (am_mm D (am_cpg I 84 0 (74 + 3) 0 6) J ρ) _
  refine am_e_return rfl rfl ?_
  exact ⟨_, am_r_wp (fun c _ => Nat.beq c 84) (am_k_cpg (fun _ => rfl) (am_k_id)), am_rowl_cpg (hO 3 hm) (by omega)⟩
theorem m_say_p5_3 {X : Nat × (Nat → Int)} {D : List (Nat × Nat)} {I J : Nat → Nat → Int} {ρ : Nat → Nat → Option Nat} (d : Nat) {k : Nat} (hsk : (am_S ++ D)[k]? = some (5, 3)) {S : Nat → Int} {B : Int} (hok : r_ok S B) (hk124 : 124 ≤ k) (hk1 : I k 1 = 3) (h3 : I 71 3 = sp_ops S) (hO : ∀ j, j < (S 19).toNat → am_rowl (I (74 + j)) 0 (sp_ord S j)) (hm : 3 < (S 19).toNat) (hfav : I 71 7 = sp_fav S) (ho : ¬ sp_ops S = 0)  : am_E X (d + 2) 43 0 [(0, .inr (.inr (.inl (some k)))), (1, .inr (.inr (.inl (some 71)))), (2, .inr (.inr (.inl (some 84))))] [] (am_mm D I J ρ) (fun q => ∃ Q, q = (none, am_mm D (am_wp (fun c _ => Nat.beq c 84) I Q) J ρ) ∧ am_rowl (Q 84) 0 (sp_sayl (sp_ord S 3) (if sp_hd S 3 = sp_first S then -1 else sp_first S))) := by
  have ob := sp_ops_b hok
  have ol := sp_ord_len (S := S) (m := 3)
  have fe := sp_fav_eq ho
  have fb := sp_first_b hok
  have hdb := sp_hd_b hok 3
  have hrd := hO 3 hm
  have hd0 : I (74 + 3) 0 = sp_hd S 3 := by
    unfold sp_hd
    cases hL : sp_ord S 3 with
    | nil => rw [hL] at ol; exact absurd (show (0 : Int) = sp_ops S from ol).symm ho
    | cons a r => rw [hL] at hrd; exact am_rowl_h hrd
  refine am_e_ss 2 (q := (2, [(0, .inr (.inr (.inl (some k)))), (1, .inr (.inr (.inl (some 71)))), (2, .inr (.inr (.inl (some 84))))], [.inr (.inr (.inl (some k))), .inr (.inr (.inl (some 71)))], (am_mm D I J ρ))) rfl ?_
  refine am_e_getfield (c := 5) (m := 3) (f := 1) rfl hsk rfl (by decide) (by decide) ?_
  show am_E _ _ _ 5 [(0, .inr (.inr (.inl (some k)))), (1, .inr (.inr (.inl (some 71)))), (2, .inr (.inr (.inl (some 84))))] [.inl ((I k 1)), .inr (.inr (.inl (some 71)))] (am_mm D I J ρ) _
  refine am_e_ss 1 (q := (6, [(0, .inr (.inr (.inl (some k)))), (1, .inr (.inr (.inl (some 71)))), (2, .inr (.inr (.inl (some 84))))], [.inr (.inr (.inl (some 84))), .inl ((I k 1)), .inr (.inr (.inl (some 71)))], (am_mm D I J ρ))) rfl ?_
  refine am_e_virtual (Q := fun r => r = (none, (am_mm D (am_cpg I 84 0 (74 + 3) 0 6) J ρ))) rfl rfl (Nat.le_of_ble_eq_true rfl) rfl rfl (Nat.le_of_ble_eq_true rfl) (Nat.le_of_ble_eq_true rfl) (c_putOrderI _ (a := 3) (b := 3) (by omega) (by omega) (by omega)) ?_
  rintro r rfl
  show am_E _ _ _ 9 [(0, .inr (.inr (.inl (some k)))), (1, .inr (.inr (.inl (some 71)))), (2, .inr (.inr (.inl (some 84))))] [] (am_mm D (am_cpg I 84 0 (74 + 3) 0 6) J ρ) _
  refine am_e_ss 3 (q := (12, [(0, .inr (.inr (.inl (some k)))), (1, .inr (.inr (.inl (some 71)))), (2, .inr (.inr (.inl (some 84))))], [.inl (((am_cpg I 84 0 (74 + 3) 0 6) 84 0))], (am_mm D (am_cpg I 84 0 (74 + 3) 0 6) J ρ))) rfl ?_
  have hr0 : ((am_cpg I 84 0 (74 + 3) 0 6) 84 0) = sp_hd S 3 := (if_pos ⟨rfl, by decide, by decide⟩).trans hd0
  refine am_e_ss 2 (q := (16, [(0, .inr (.inr (.inl (some k)))), (1, .inr (.inr (.inl (some 71)))), (2, .inr (.inr (.inl (some 84))))], [.inl ((I 71 7)), .inl (((am_cpg I 84 0 (74 + 3) 0 6) 84 0))], (am_mm D (am_cpg I 84 0 (74 + 3) 0 6) J ρ))) rfl ?_
  refine am_e_icmp2 rfl ⟨by omega, by omega⟩ ⟨by omega, by omega⟩ (fun (hw1 : ((am_cpg I 84 0 (74 + 3) 0 6) 84 0) = (I 71 7)) => ?_) (fun (hw1 : ¬ (((am_cpg I 84 0 (74 + 3) 0 6) 84 0) = (I 71 7))) => ?_)
  · show am_E _ _ _ 28 [(0, .inr (.inr (.inl (some k)))), (1, .inr (.inr (.inl (some 71)))), (2, .inr (.inr (.inl (some 84))))] [] (am_mm D (am_cpg I 84 0 (74 + 3) 0 6) J ρ) _
    refine am_e_return rfl rfl ?_
    have eL : sp_sayl (sp_ord S 3) (if sp_hd S 3 = sp_first S then -1 else sp_first S) = sp_ord S 3 := by
      rw [if_pos (by omega)]
      exact sp_sayl_no (fun x hx => by omega)
    rw [eL]
    exact ⟨_, am_r_wp (fun c _ => Nat.beq c 84) (am_k_cpg (fun _ => rfl) (am_k_id)), am_rowl_cpg (hO 3 hm) (by omega)⟩
  · show am_E _ _ _ 19 [(0, .inr (.inr (.inl (some k)))), (1, .inr (.inr (.inl (some 71)))), (2, .inr (.inr (.inl (some 84))))] [] (am_mm D (am_cpg I 84 0 (74 + 3) 0 6) J ρ) _
    refine am_e_ss 4 (q := (25, [(0, .inr (.inr (.inl (some k)))), (1, .inr (.inr (.inl (some 71)))), (2, .inr (.inr (.inl (some 84))))], [.inr (.inr (.inl (some 84))), .inl ((I 71 7)), .inr (.inr (.inl (some 71)))], (am_mm D (am_cpg I 84 0 (74 + 3) 0 6) J ρ))) rfl ?_
    refine am_e_virtual (Q := fun r => ∃ Q104, r = (none, (am_mm D (am_wp (fun c _ => Nat.beq c 84) (am_cpg I 84 0 (74 + 3) 0 6) Q104) J ρ)) ∧ am_rowl (Q104 84) 0 (sp_bub (I 71 7) (sp_ord S 3))) rfl rfl (Nat.le_of_ble_eq_true rfl) rfl rfl (Nat.le_of_ble_eq_true rfl) (Nat.le_of_ble_eq_true rfl) (c_putLast_3 _ (z := (I 71 7)) (L := sp_ord S 3) ⟨by omega, by omega⟩ (show I 71 3 = _ by omega) (by omega) (fun x hx => by have := sp_ord_mem.mp hx; have := (r_ok_19 hok).2; omega) (am_rowl_cpg (hO 3 hm) (by omega))) ?_
    rintro r ⟨Q104, rfl, hpl⟩
    show am_E _ _ _ 28 [(0, .inr (.inr (.inl (some k)))), (1, .inr (.inr (.inl (some 71)))), (2, .inr (.inr (.inl (some 84))))] [] (am_mm D (am_wp (fun c _ => Nat.beq c 84) (am_cpg I 84 0 (74 + 3) 0 6) Q104) J ρ) _
    refine am_e_return rfl rfl ?_
    have eL : sp_sayl (sp_ord S 3) (if sp_hd S 3 = sp_first S then -1 else sp_first S) = sp_bub (I 71 7) (sp_ord S 3) := by
      rw [if_neg (by omega), sp_bub_say sp_ord_nd, hfav, fe]
    rw [eL]
    exact ⟨_, am_r_wp (fun c _ => Nat.beq c 84) (am_k_wp am_k_sub (am_k_cpg (fun _ => rfl) (am_k_id))), hpl⟩
theorem m_say_p2_3 {X : Nat × (Nat → Int)} {D : List (Nat × Nat)} {I J : Nat → Nat → Int} {ρ : Nat → Nat → Option Nat} (d : Nat) {k : Nat} (hsk : (am_S ++ D)[k]? = some (2, 3)) {S : Nat → Int} {B : Int} (hok : r_ok S B) (hk124 : 124 ≤ k) (hk1 : I k 1 = 3) (h3 : I 71 3 = sp_ops S) (hO : ∀ j, j < (S 19).toNat → am_rowl (I (74 + j)) 0 (sp_ord S j)) (hm : 3 < (S 19).toNat) (hfav : I 71 7 = sp_fav S) (ho : ¬ sp_ops S = 0)  : am_E X (d + 2) 43 0 [(0, .inr (.inr (.inl (some k)))), (1, .inr (.inr (.inl (some 71)))), (2, .inr (.inr (.inl (some 84))))] [] (am_mm D I J ρ) (fun q => ∃ Q, q = (none, am_mm D (am_wp (fun c _ => Nat.beq c 84) I Q) J ρ) ∧ am_rowl (Q 84) 0 (sp_sayl (sp_ord S 3) (if sp_hd S 3 = sp_first S then -1 else sp_first S))) := by
  have ob := sp_ops_b hok
  have ol := sp_ord_len (S := S) (m := 3)
  have fe := sp_fav_eq ho
  have fb := sp_first_b hok
  have hdb := sp_hd_b hok 3
  have hrd := hO 3 hm
  have hd0 : I (74 + 3) 0 = sp_hd S 3 := by
    unfold sp_hd
    cases hL : sp_ord S 3 with
    | nil => rw [hL] at ol; exact absurd (show (0 : Int) = sp_ops S from ol).symm ho
    | cons a r => rw [hL] at hrd; exact am_rowl_h hrd
  refine am_e_ss 2 (q := (2, [(0, .inr (.inr (.inl (some k)))), (1, .inr (.inr (.inl (some 71)))), (2, .inr (.inr (.inl (some 84))))], [.inr (.inr (.inl (some k))), .inr (.inr (.inl (some 71)))], (am_mm D I J ρ))) rfl ?_
  refine am_e_getfield (c := 2) (m := 3) (f := 1) rfl hsk rfl (by decide) (by decide) ?_
  show am_E _ _ _ 5 [(0, .inr (.inr (.inl (some k)))), (1, .inr (.inr (.inl (some 71)))), (2, .inr (.inr (.inl (some 84))))] [.inl ((I k 1)), .inr (.inr (.inl (some 71)))] (am_mm D I J ρ) _
  refine am_e_ss 1 (q := (6, [(0, .inr (.inr (.inl (some k)))), (1, .inr (.inr (.inl (some 71)))), (2, .inr (.inr (.inl (some 84))))], [.inr (.inr (.inl (some 84))), .inl ((I k 1)), .inr (.inr (.inl (some 71)))], (am_mm D I J ρ))) rfl ?_
  refine am_e_virtual (Q := fun r => r = (none, (am_mm D (am_cpg I 84 0 (74 + 3) 0 6) J ρ))) rfl rfl (Nat.le_of_ble_eq_true rfl) rfl rfl (Nat.le_of_ble_eq_true rfl) (Nat.le_of_ble_eq_true rfl) (c_putOrderI _ (a := 3) (b := 3) (by omega) (by omega) (by omega)) ?_
  rintro r rfl
  show am_E _ _ _ 9 [(0, .inr (.inr (.inl (some k)))), (1, .inr (.inr (.inl (some 71)))), (2, .inr (.inr (.inl (some 84))))] [] (am_mm D (am_cpg I 84 0 (74 + 3) 0 6) J ρ) _
  refine am_e_ss 3 (q := (12, [(0, .inr (.inr (.inl (some k)))), (1, .inr (.inr (.inl (some 71)))), (2, .inr (.inr (.inl (some 84))))], [.inl (((am_cpg I 84 0 (74 + 3) 0 6) 84 0))], (am_mm D (am_cpg I 84 0 (74 + 3) 0 6) J ρ))) rfl ?_
  have hr0 : ((am_cpg I 84 0 (74 + 3) 0 6) 84 0) = sp_hd S 3 := (if_pos ⟨rfl, by decide, by decide⟩).trans hd0
  refine am_e_ss 2 (q := (16, [(0, .inr (.inr (.inl (some k)))), (1, .inr (.inr (.inl (some 71)))), (2, .inr (.inr (.inl (some 84))))], [.inl ((I 71 7)), .inl (((am_cpg I 84 0 (74 + 3) 0 6) 84 0))], (am_mm D (am_cpg I 84 0 (74 + 3) 0 6) J ρ))) rfl ?_
  refine am_e_icmp2 rfl ⟨by omega, by omega⟩ ⟨by omega, by omega⟩ (fun (hw1 : ((am_cpg I 84 0 (74 + 3) 0 6) 84 0) = (I 71 7)) => ?_) (fun (hw1 : ¬ (((am_cpg I 84 0 (74 + 3) 0 6) 84 0) = (I 71 7))) => ?_)
  · show am_E _ _ _ 28 [(0, .inr (.inr (.inl (some k)))), (1, .inr (.inr (.inl (some 71)))), (2, .inr (.inr (.inl (some 84))))] [] (am_mm D (am_cpg I 84 0 (74 + 3) 0 6) J ρ) _
    refine am_e_return rfl rfl ?_
    have eL : sp_sayl (sp_ord S 3) (if sp_hd S 3 = sp_first S then -1 else sp_first S) = sp_ord S 3 := by
      rw [if_pos (by omega)]
      exact sp_sayl_no (fun x hx => by omega)
    rw [eL]
    exact ⟨_, am_r_wp (fun c _ => Nat.beq c 84) (am_k_cpg (fun _ => rfl) (am_k_id)), am_rowl_cpg (hO 3 hm) (by omega)⟩
  · show am_E _ _ _ 19 [(0, .inr (.inr (.inl (some k)))), (1, .inr (.inr (.inl (some 71)))), (2, .inr (.inr (.inl (some 84))))] [] (am_mm D (am_cpg I 84 0 (74 + 3) 0 6) J ρ) _
    refine am_e_ss 4 (q := (25, [(0, .inr (.inr (.inl (some k)))), (1, .inr (.inr (.inl (some 71)))), (2, .inr (.inr (.inl (some 84))))], [.inr (.inr (.inl (some 84))), .inl ((I 71 7)), .inr (.inr (.inl (some 71)))], (am_mm D (am_cpg I 84 0 (74 + 3) 0 6) J ρ))) rfl ?_
    refine am_e_virtual (Q := fun r => ∃ Q105, r = (none, (am_mm D (am_wp (fun c _ => Nat.beq c 84) (am_cpg I 84 0 (74 + 3) 0 6) Q105) J ρ)) ∧ am_rowl (Q105 84) 0 (sp_bub (I 71 7) (sp_ord S 3))) rfl rfl (Nat.le_of_ble_eq_true rfl) rfl rfl (Nat.le_of_ble_eq_true rfl) (Nat.le_of_ble_eq_true rfl) (c_putLast_3 _ (z := (I 71 7)) (L := sp_ord S 3) ⟨by omega, by omega⟩ (show I 71 3 = _ by omega) (by omega) (fun x hx => by have := sp_ord_mem.mp hx; have := (r_ok_19 hok).2; omega) (am_rowl_cpg (hO 3 hm) (by omega))) ?_
    rintro r ⟨Q105, rfl, hpl⟩
    show am_E _ _ _ 28 [(0, .inr (.inr (.inl (some k)))), (1, .inr (.inr (.inl (some 71)))), (2, .inr (.inr (.inl (some 84))))] [] (am_mm D (am_wp (fun c _ => Nat.beq c 84) (am_cpg I 84 0 (74 + 3) 0 6) Q105) J ρ) _
    refine am_e_return rfl rfl ?_
    have eL : sp_sayl (sp_ord S 3) (if sp_hd S 3 = sp_first S then -1 else sp_first S) = sp_bub (I 71 7) (sp_ord S 3) := by
      rw [if_neg (by omega), sp_bub_say sp_ord_nd, hfav, fe]
    rw [eL]
    exact ⟨_, am_r_wp (fun c _ => Nat.beq c 84) (am_k_wp am_k_sub (am_k_cpg (fun _ => rfl) (am_k_id))), hpl⟩
theorem m_say_9_3 {X : Nat × (Nat → Int)} {D : List (Nat × Nat)} {I J : Nat → Nat → Int} {ρ : Nat → Nat → Option Nat} (d : Nat) {k : Nat} (hsk : (am_S ++ D)[k]? = some (9, 3)) {S : Nat → Int} {B : Int} (hok : r_ok S B) (hk124 : 124 ≤ k) (hk1 : I k 1 = 3) (h3 : I 71 3 = sp_ops S) (hO : ∀ j, j < (S 19).toNat → am_rowl (I (74 + j)) 0 (sp_ord S j)) (hm : 3 < (S 19).toNat) {v : Nat} (hk2 : I k 2 = (v : Int)) (hv9 : v ≤ 9)  : am_E X (d + 2) 62 0 [(0, .inr (.inr (.inl (some k)))), (1, .inr (.inr (.inl (some 71)))), (2, .inr (.inr (.inl (some 84))))] [] (am_mm D I J ρ) (fun q => ∃ Q, q = (none, am_mm D (am_wp (fun c _ => Nat.beq c 84) I Q) J ρ) ∧ am_rowl (Q 84) 0 (sp_sayl (sp_ord S 3) (v : Int))) := by
  have ob := sp_ops_b hok
  have ol := sp_ord_len (S := S) (m := 3)
  refine am_e_ss 2 (q := (2, [(0, .inr (.inr (.inl (some k)))), (1, .inr (.inr (.inl (some 71)))), (2, .inr (.inr (.inl (some 84))))], [.inr (.inr (.inl (some k))), .inr (.inr (.inl (some 71)))], (am_mm D I J ρ))) rfl ?_
  refine am_e_getfield (c := 9) (m := 3) (f := 1) rfl hsk rfl (by decide) (by decide) ?_
  show am_E _ _ _ 5 [(0, .inr (.inr (.inl (some k)))), (1, .inr (.inr (.inl (some 71)))), (2, .inr (.inr (.inl (some 84))))] [.inl ((I k 1)), .inr (.inr (.inl (some 71)))] (am_mm D I J ρ) _
  refine am_e_ss 1 (q := (6, [(0, .inr (.inr (.inl (some k)))), (1, .inr (.inr (.inl (some 71)))), (2, .inr (.inr (.inl (some 84))))], [.inr (.inr (.inl (some 84))), .inl ((I k 1)), .inr (.inr (.inl (some 71)))], (am_mm D I J ρ))) rfl ?_
  refine am_e_virtual (Q := fun r => r = (none, (am_mm D (am_cpg I 84 0 (74 + 3) 0 6) J ρ))) rfl rfl (Nat.le_of_ble_eq_true rfl) rfl rfl (Nat.le_of_ble_eq_true rfl) (Nat.le_of_ble_eq_true rfl) (c_putOrderI _ (a := 3) (b := 3) (by omega) (by omega) (by omega)) ?_
  rintro r rfl
  show am_E _ _ _ 9 [(0, .inr (.inr (.inl (some k)))), (1, .inr (.inr (.inl (some 71)))), (2, .inr (.inr (.inl (some 84))))] [] (am_mm D (am_cpg I 84 0 (74 + 3) 0 6) J ρ) _
  refine am_e_ss 2 (q := (11, [(0, .inr (.inr (.inl (some k)))), (1, .inr (.inr (.inl (some 71)))), (2, .inr (.inr (.inl (some 84))))], [.inr (.inr (.inl (some k))), .inr (.inr (.inl (some 71)))], (am_mm D (am_cpg I 84 0 (74 + 3) 0 6) J ρ))) rfl ?_
  refine am_e_getfield (c := 9) (m := 3) (f := 2) rfl hsk rfl (by decide) (by decide) ?_
  show am_E _ _ _ 14 [(0, .inr (.inr (.inl (some k)))), (1, .inr (.inr (.inl (some 71)))), (2, .inr (.inr (.inl (some 84))))] [.inl (((am_cpg I 84 0 (74 + 3) 0 6) k 2)), .inr (.inr (.inl (some 71)))] (am_mm D (am_cpg I 84 0 (74 + 3) 0 6) J ρ) _
  have hvv : ((am_cpg I 84 0 (74 + 3) 0 6) k 2) = (v : Int) := (if_neg (by omega)).trans hk2
  refine am_e_ss 1 (q := (15, [(0, .inr (.inr (.inl (some k)))), (1, .inr (.inr (.inl (some 71)))), (2, .inr (.inr (.inl (some 84))))], [.inr (.inr (.inl (some 84))), .inl (((am_cpg I 84 0 (74 + 3) 0 6) k 2)), .inr (.inr (.inl (some 71)))], (am_mm D (am_cpg I 84 0 (74 + 3) 0 6) J ρ))) rfl ?_
  refine am_e_virtual (Q := fun r => ∃ Q106, r = (none, (am_mm D (am_wp (fun c _ => Nat.beq c 84) (am_cpg I 84 0 (74 + 3) 0 6) Q106) J ρ)) ∧ am_rowl (Q106 84) 0 (sp_bub ((am_cpg I 84 0 (74 + 3) 0 6) k 2) (sp_ord S 3))) rfl rfl (Nat.le_of_ble_eq_true rfl) rfl rfl (Nat.le_of_ble_eq_true rfl) (Nat.le_of_ble_eq_true rfl) (c_putLast_3 _ (z := ((am_cpg I 84 0 (74 + 3) 0 6) k 2)) (L := sp_ord S 3) ⟨by omega, by omega⟩ (show I 71 3 = _ by omega) (by omega) (fun x hx => by have := sp_ord_mem.mp hx; have := (r_ok_19 hok).2; omega) (am_rowl_cpg (hO 3 hm) (by omega))) ?_
  rintro r ⟨Q106, rfl, hpl⟩
  show am_E _ _ _ 18 [(0, .inr (.inr (.inl (some k)))), (1, .inr (.inr (.inl (some 71)))), (2, .inr (.inr (.inl (some 84))))] [] (am_mm D (am_wp (fun c _ => Nat.beq c 84) (am_cpg I 84 0 (74 + 3) 0 6) Q106) J ρ) _
  refine am_e_return rfl rfl ?_
  rw [hvv, sp_bub_say sp_ord_nd] at hpl
  exact ⟨_, am_r_wp (fun c _ => Nat.beq c 84) (am_k_wp am_k_sub (am_k_cpg (fun _ => rfl) (am_k_id))), hpl⟩
theorem m_say_f2_3 {X : Nat × (Nat → Int)} {D : List (Nat × Nat)} {I J : Nat → Nat → Int} {ρ : Nat → Nat → Option Nat} (d : Nat) {k : Nat} (hsk : (am_S ++ D)[k]? = some (2, 3)) {S : Nat → Int} {B : Int} (hok : r_ok S B) (hk124 : 124 ≤ k) (hk1 : I k 1 = 3) (h3 : I 71 3 = sp_ops S) (hO : ∀ j, j < (S 19).toNat → am_rowl (I (74 + j)) 0 (sp_ord S j)) (hm : 3 < (S 19).toNat) (hfav : I 71 7 = sp_fav S) (ho : ¬ sp_ops S = 0) {v : Nat} (hk2 : I k 2 = (v : Int)) (hv9 : v ≤ 9) (h71 : ρ 71 1 = some 2) (h12 : I 1 2 = S 19) (hhr : I 2 1 = am_bits (sp_hp S) 6)  : am_E X (d + 3) 22 0 [(0, .inr (.inr (.inl (some k)))), (1, .inr (.inr (.inl (some 71)))), (2, .inr (.inr (.inl (some 84))))] [] (am_mm D I J ρ) (fun q => ∃ Q, q = (none, am_mm D (am_wp (fun c _ => Nat.beq c 84) I Q) J ρ) ∧ am_rowl (Q 84) 0 (if ¬ v = 3 ∧ v < (S 19).toNat ∧ S (7 + v) = 0 then sp_ord S v else sp_sayl (sp_ord S 3) (if sp_hd S 3 = sp_first S then -1 else sp_first S))) := by
  have ob := sp_ops_b hok
  have ol := sp_ord_len (S := S) (m := 3)
  have h19 := r_ok_19 hok
  refine am_e_ss 1 (q := (1, [(0, .inr (.inr (.inl (some k)))), (1, .inr (.inr (.inl (some 71)))), (2, .inr (.inr (.inl (some 84))))], [.inr (.inr (.inl (some k)))], (am_mm D I J ρ))) rfl ?_
  refine am_e_getfield (c := 2) (m := 3) (f := 2) rfl hsk rfl (by decide) (by decide) ?_
  show am_E _ _ _ 4 [(0, .inr (.inr (.inl (some k)))), (1, .inr (.inr (.inl (some 71)))), (2, .inr (.inr (.inl (some 84))))] [.inl ((I k 2))] (am_mm D I J ρ) _
  refine am_e_ss 1 (q := (5, [(0, .inr (.inr (.inl (some k)))), (1, .inr (.inr (.inl (some 71)))), (2, .inr (.inr (.inl (some 84))))], [.inr (.inr (.inl (some k))), .inl ((I k 2))], (am_mm D I J ρ))) rfl ?_
  refine am_e_getfield (c := 2) (m := 3) (f := 1) rfl hsk rfl (by decide) (by decide) ?_
  show am_E _ _ _ 8 [(0, .inr (.inr (.inl (some k)))), (1, .inr (.inr (.inl (some 71)))), (2, .inr (.inr (.inl (some 84))))] [.inl ((I k 1)), .inl ((I k 2))] (am_mm D I J ρ) _
  refine am_e_icmp2 rfl ⟨by omega, by omega⟩ ⟨by omega, by omega⟩ (fun (hw1 : (I k 2) = (I k 1)) => ?_) (fun (hw1 : ¬ ((I k 2) = (I k 1))) => ?_)
  · show am_E _ _ _ 34 [(0, .inr (.inr (.inl (some k)))), (1, .inr (.inr (.inl (some 71)))), (2, .inr (.inr (.inl (some 84))))] [] (am_mm D I J ρ) _
    refine am_e_ss 3 (q := (37, [(0, .inr (.inr (.inl (some k)))), (1, .inr (.inr (.inl (some 71)))), (2, .inr (.inr (.inl (some 84))))], [.inr (.inr (.inl (some 84))), .inr (.inr (.inl (some 71))), .inr (.inr (.inl (some k)))], (am_mm D I J ρ))) rfl ?_
    refine am_e_special (Q := fun r => ∃ Q107, r = (none, (am_mm D (am_wp (fun c _ => Nat.beq c 84) I Q107) J ρ)) ∧ am_rowl (Q107 84) 0 (sp_sayl (sp_ord S 3) (if sp_hd S 3 = sp_first S then -1 else sp_first S))) rfl rfl (Nat.le_of_ble_eq_true rfl) (am_kd_of hsk (by decide)) rfl (by decide) (Nat.le_of_ble_eq_true rfl) (Nat.le_of_ble_eq_true rfl) (m_say_p2_3 _ hsk hok hk124 hk1 h3 hO hm hfav ho) ?_
    rintro r ⟨Q107, rfl, hsu⟩
    show am_E _ _ _ 40 [(0, .inr (.inr (.inl (some k)))), (1, .inr (.inr (.inl (some 71)))), (2, .inr (.inr (.inl (some 84))))] [] (am_mm D (am_wp (fun c _ => Nat.beq c 84) I Q107) J ρ) _
    refine am_e_return rfl rfl ?_
    rw [if_neg (by omega)]
    exact ⟨_, am_r_wp (fun c _ => Nat.beq c 84) (am_k_wp am_k_sub (am_k_id)), hsu⟩
  · show am_E _ _ _ 11 [(0, .inr (.inr (.inl (some k)))), (1, .inr (.inr (.inl (some 71)))), (2, .inr (.inr (.inl (some 84))))] [] (am_mm D I J ρ) _
    refine am_e_ss 2 (q := (13, [(0, .inr (.inr (.inl (some k)))), (1, .inr (.inr (.inl (some 71)))), (2, .inr (.inr (.inl (some 84))))], [.inr (.inr (.inl (some k))), .inr (.inr (.inl (some 71)))], (am_mm D I J ρ))) rfl ?_
    refine am_e_getfield (c := 2) (m := 3) (f := 2) rfl hsk rfl (by decide) (by decide) ?_
    show am_E _ _ _ 16 [(0, .inr (.inr (.inl (some k)))), (1, .inr (.inr (.inl (some 71)))), (2, .inr (.inr (.inl (some 84))))] [.inl ((I k 2)), .inr (.inr (.inl (some 71)))] (am_mm D I J ρ) _
    refine am_e_virtual (Q := fun r => r = (some (.inl ((am_bi (v < (S 19).toNat ∧ S (7 + v) = 0)))), (am_mm D I J ρ))) rfl rfl (Nat.le_of_ble_eq_true rfl) rfl rfl (Nat.le_of_ble_eq_true rfl) (Nat.le_of_ble_eq_true rfl) (c_vIsHereI_2 _ (v := v) hk2 hok h71 h12 hhr (by omega)) ?_
    rintro r rfl
    show am_E _ _ _ 19 [(0, .inr (.inr (.inl (some k)))), (1, .inr (.inr (.inl (some 71)))), (2, .inr (.inr (.inl (some 84))))] [.inl ((am_bi (v < (S 19).toNat ∧ S (7 + v) = 0)))] (am_mm D I J ρ) _
    refine am_e_ifeq rfl (fun hw2 => ?_) (fun hw2 => ?_)
    · show am_E _ _ _ 34 [(0, .inr (.inr (.inl (some k)))), (1, .inr (.inr (.inl (some 71)))), (2, .inr (.inr (.inl (some 84))))] [] (am_mm D I J ρ) _
      refine am_e_ss 3 (q := (37, [(0, .inr (.inr (.inl (some k)))), (1, .inr (.inr (.inl (some 71)))), (2, .inr (.inr (.inl (some 84))))], [.inr (.inr (.inl (some 84))), .inr (.inr (.inl (some 71))), .inr (.inr (.inl (some k)))], (am_mm D I J ρ))) rfl ?_
      refine am_e_special (Q := fun r => ∃ Q108, r = (none, (am_mm D (am_wp (fun c _ => Nat.beq c 84) I Q108) J ρ)) ∧ am_rowl (Q108 84) 0 (sp_sayl (sp_ord S 3) (if sp_hd S 3 = sp_first S then -1 else sp_first S))) rfl rfl (Nat.le_of_ble_eq_true rfl) (am_kd_of hsk (by decide)) rfl (by decide) (Nat.le_of_ble_eq_true rfl) (Nat.le_of_ble_eq_true rfl) (m_say_p2_3 _ hsk hok hk124 hk1 h3 hO hm hfav ho) ?_
      rintro r ⟨Q108, rfl, hsu⟩
      show am_E _ _ _ 40 [(0, .inr (.inr (.inl (some k)))), (1, .inr (.inr (.inl (some 71)))), (2, .inr (.inr (.inl (some 84))))] [] (am_mm D (am_wp (fun c _ => Nat.beq c 84) I Q108) J ρ) _
      refine am_e_return rfl rfl ?_
      rw [if_neg (by omega)]
      exact ⟨_, am_r_wp (fun c _ => Nat.beq c 84) (am_k_wp am_k_sub (am_k_id)), hsu⟩
    · show am_E _ _ _ 22 [(0, .inr (.inr (.inl (some k)))), (1, .inr (.inr (.inl (some 71)))), (2, .inr (.inr (.inl (some 84))))] [] (am_mm D I J ρ) _
      refine am_e_ss 2 (q := (24, [(0, .inr (.inr (.inl (some k)))), (1, .inr (.inr (.inl (some 71)))), (2, .inr (.inr (.inl (some 84))))], [.inr (.inr (.inl (some k))), .inr (.inr (.inl (some 71)))], (am_mm D I J ρ))) rfl ?_
      refine am_e_getfield (c := 2) (m := 3) (f := 2) rfl hsk rfl (by decide) (by decide) ?_
      show am_E _ _ _ 27 [(0, .inr (.inr (.inl (some k)))), (1, .inr (.inr (.inl (some 71)))), (2, .inr (.inr (.inl (some 84))))] [.inl ((I k 2)), .inr (.inr (.inl (some 71)))] (am_mm D I J ρ) _
      refine am_e_ss 1 (q := (28, [(0, .inr (.inr (.inl (some k)))), (1, .inr (.inr (.inl (some 71)))), (2, .inr (.inr (.inl (some 84))))], [.inr (.inr (.inl (some 84))), .inl ((I k 2)), .inr (.inr (.inl (some 71)))], (am_mm D I J ρ))) rfl ?_
      refine am_e_virtual (Q := fun r => r = (none, (am_mm D (am_cpg I 84 0 (74 + v) 0 6) J ρ))) rfl rfl (Nat.le_of_ble_eq_true rfl) rfl rfl (Nat.le_of_ble_eq_true rfl) (Nat.le_of_ble_eq_true rfl) (c_putOrderI _ (a := v) (b := 3) hk2 (by omega) (by omega)) ?_
      rintro r rfl
      show am_E _ _ _ 31 [(0, .inr (.inr (.inl (some k)))), (1, .inr (.inr (.inl (some 71)))), (2, .inr (.inr (.inl (some 84))))] [] (am_mm D (am_cpg I 84 0 (74 + v) 0 6) J ρ) _
      refine am_e_ss 1 (q := (40, [(0, .inr (.inr (.inl (some k)))), (1, .inr (.inr (.inl (some 71)))), (2, .inr (.inr (.inl (some 84))))], [], (am_mm D (am_cpg I 84 0 (74 + v) 0 6) J ρ))) rfl ?_
      refine am_e_return rfl rfl ?_
      rw [if_pos (by omega)]
      exact ⟨_, am_r_wp (fun c _ => Nat.beq c 84) (am_k_cpg (fun _ => rfl) (am_k_id)), am_rowl_cpg (hO v (by omega)) (by have := sp_ord_len (S := S) (m := v); omega)⟩
theorem m_say_f69_3 {X : Nat × (Nat → Int)} {D : List (Nat × Nat)} {I J : Nat → Nat → Int} {ρ : Nat → Nat → Option Nat} (d : Nat) {k : Nat} (hsk : (am_S ++ D)[k]? = some (2, 3)) {S : Nat → Int} {B : Int} (hok : r_ok S B) (hk124 : 124 ≤ k) (hk1 : I k 1 = 3) (h3 : I 71 3 = sp_ops S) (hO : ∀ j, j < (S 19).toNat → am_rowl (I (74 + j)) 0 (sp_ord S j)) (hm : 3 < (S 19).toNat) (hfav : I 71 7 = sp_fav S) (ho : ¬ sp_ops S = 0) {v : Nat} (hk2 : I k 2 = (v : Int)) (hv9 : v ≤ 9) (h71 : ρ 71 1 = some 69) (h12 : I 1 2 = S 19) (hhr : I 69 1 = am_bits (sp_hp S) 6)  : am_E X (d + 3) 22 0 [(0, .inr (.inr (.inl (some k)))), (1, .inr (.inr (.inl (some 71)))), (2, .inr (.inr (.inl (some 84))))] [] (am_mm D I J ρ) (fun q => ∃ Q, q = (none, am_mm D (am_wp (fun c _ => Nat.beq c 84) I Q) J ρ) ∧ am_rowl (Q 84) 0 (if ¬ v = 3 ∧ v < (S 19).toNat ∧ S (7 + v) = 0 then sp_ord S v else sp_sayl (sp_ord S 3) (if sp_hd S 3 = sp_first S then -1 else sp_first S))) := by
  have ob := sp_ops_b hok
  have ol := sp_ord_len (S := S) (m := 3)
  have h19 := r_ok_19 hok
  refine am_e_ss 1 (q := (1, [(0, .inr (.inr (.inl (some k)))), (1, .inr (.inr (.inl (some 71)))), (2, .inr (.inr (.inl (some 84))))], [.inr (.inr (.inl (some k)))], (am_mm D I J ρ))) rfl ?_
  refine am_e_getfield (c := 2) (m := 3) (f := 2) rfl hsk rfl (by decide) (by decide) ?_
  show am_E _ _ _ 4 [(0, .inr (.inr (.inl (some k)))), (1, .inr (.inr (.inl (some 71)))), (2, .inr (.inr (.inl (some 84))))] [.inl ((I k 2))] (am_mm D I J ρ) _
  refine am_e_ss 1 (q := (5, [(0, .inr (.inr (.inl (some k)))), (1, .inr (.inr (.inl (some 71)))), (2, .inr (.inr (.inl (some 84))))], [.inr (.inr (.inl (some k))), .inl ((I k 2))], (am_mm D I J ρ))) rfl ?_
  refine am_e_getfield (c := 2) (m := 3) (f := 1) rfl hsk rfl (by decide) (by decide) ?_
  show am_E _ _ _ 8 [(0, .inr (.inr (.inl (some k)))), (1, .inr (.inr (.inl (some 71)))), (2, .inr (.inr (.inl (some 84))))] [.inl ((I k 1)), .inl ((I k 2))] (am_mm D I J ρ) _
  refine am_e_icmp2 rfl ⟨by omega, by omega⟩ ⟨by omega, by omega⟩ (fun (hw1 : (I k 2) = (I k 1)) => ?_) (fun (hw1 : ¬ ((I k 2) = (I k 1))) => ?_)
  · show am_E _ _ _ 34 [(0, .inr (.inr (.inl (some k)))), (1, .inr (.inr (.inl (some 71)))), (2, .inr (.inr (.inl (some 84))))] [] (am_mm D I J ρ) _
    refine am_e_ss 3 (q := (37, [(0, .inr (.inr (.inl (some k)))), (1, .inr (.inr (.inl (some 71)))), (2, .inr (.inr (.inl (some 84))))], [.inr (.inr (.inl (some 84))), .inr (.inr (.inl (some 71))), .inr (.inr (.inl (some k)))], (am_mm D I J ρ))) rfl ?_
    refine am_e_special (Q := fun r => ∃ Q109, r = (none, (am_mm D (am_wp (fun c _ => Nat.beq c 84) I Q109) J ρ)) ∧ am_rowl (Q109 84) 0 (sp_sayl (sp_ord S 3) (if sp_hd S 3 = sp_first S then -1 else sp_first S))) rfl rfl (Nat.le_of_ble_eq_true rfl) (am_kd_of hsk (by decide)) rfl (by decide) (Nat.le_of_ble_eq_true rfl) (Nat.le_of_ble_eq_true rfl) (m_say_p2_3 _ hsk hok hk124 hk1 h3 hO hm hfav ho) ?_
    rintro r ⟨Q109, rfl, hsu⟩
    show am_E _ _ _ 40 [(0, .inr (.inr (.inl (some k)))), (1, .inr (.inr (.inl (some 71)))), (2, .inr (.inr (.inl (some 84))))] [] (am_mm D (am_wp (fun c _ => Nat.beq c 84) I Q109) J ρ) _
    refine am_e_return rfl rfl ?_
    rw [if_neg (by omega)]
    exact ⟨_, am_r_wp (fun c _ => Nat.beq c 84) (am_k_wp am_k_sub (am_k_id)), hsu⟩
  · show am_E _ _ _ 11 [(0, .inr (.inr (.inl (some k)))), (1, .inr (.inr (.inl (some 71)))), (2, .inr (.inr (.inl (some 84))))] [] (am_mm D I J ρ) _
    refine am_e_ss 2 (q := (13, [(0, .inr (.inr (.inl (some k)))), (1, .inr (.inr (.inl (some 71)))), (2, .inr (.inr (.inl (some 84))))], [.inr (.inr (.inl (some k))), .inr (.inr (.inl (some 71)))], (am_mm D I J ρ))) rfl ?_
    refine am_e_getfield (c := 2) (m := 3) (f := 2) rfl hsk rfl (by decide) (by decide) ?_
    show am_E _ _ _ 16 [(0, .inr (.inr (.inl (some k)))), (1, .inr (.inr (.inl (some 71)))), (2, .inr (.inr (.inl (some 84))))] [.inl ((I k 2)), .inr (.inr (.inl (some 71)))] (am_mm D I J ρ) _
    refine am_e_virtual (Q := fun r => r = (some (.inl ((am_bi (v < (S 19).toNat ∧ S (7 + v) = 0)))), (am_mm D I J ρ))) rfl rfl (Nat.le_of_ble_eq_true rfl) rfl rfl (Nat.le_of_ble_eq_true rfl) (Nat.le_of_ble_eq_true rfl) (c_vIsHereI_69 _ (v := v) hk2 hok h71 h12 hhr (by omega)) ?_
    rintro r rfl
    show am_E _ _ _ 19 [(0, .inr (.inr (.inl (some k)))), (1, .inr (.inr (.inl (some 71)))), (2, .inr (.inr (.inl (some 84))))] [.inl ((am_bi (v < (S 19).toNat ∧ S (7 + v) = 0)))] (am_mm D I J ρ) _
    refine am_e_ifeq rfl (fun hw2 => ?_) (fun hw2 => ?_)
    · show am_E _ _ _ 34 [(0, .inr (.inr (.inl (some k)))), (1, .inr (.inr (.inl (some 71)))), (2, .inr (.inr (.inl (some 84))))] [] (am_mm D I J ρ) _
      refine am_e_ss 3 (q := (37, [(0, .inr (.inr (.inl (some k)))), (1, .inr (.inr (.inl (some 71)))), (2, .inr (.inr (.inl (some 84))))], [.inr (.inr (.inl (some 84))), .inr (.inr (.inl (some 71))), .inr (.inr (.inl (some k)))], (am_mm D I J ρ))) rfl ?_
      refine am_e_special (Q := fun r => ∃ Q110, r = (none, (am_mm D (am_wp (fun c _ => Nat.beq c 84) I Q110) J ρ)) ∧ am_rowl (Q110 84) 0 (sp_sayl (sp_ord S 3) (if sp_hd S 3 = sp_first S then -1 else sp_first S))) rfl rfl (Nat.le_of_ble_eq_true rfl) (am_kd_of hsk (by decide)) rfl (by decide) (Nat.le_of_ble_eq_true rfl) (Nat.le_of_ble_eq_true rfl) (m_say_p2_3 _ hsk hok hk124 hk1 h3 hO hm hfav ho) ?_
      rintro r ⟨Q110, rfl, hsu⟩
      show am_E _ _ _ 40 [(0, .inr (.inr (.inl (some k)))), (1, .inr (.inr (.inl (some 71)))), (2, .inr (.inr (.inl (some 84))))] [] (am_mm D (am_wp (fun c _ => Nat.beq c 84) I Q110) J ρ) _
      refine am_e_return rfl rfl ?_
      rw [if_neg (by omega)]
      exact ⟨_, am_r_wp (fun c _ => Nat.beq c 84) (am_k_wp am_k_sub (am_k_id)), hsu⟩
    · show am_E _ _ _ 22 [(0, .inr (.inr (.inl (some k)))), (1, .inr (.inr (.inl (some 71)))), (2, .inr (.inr (.inl (some 84))))] [] (am_mm D I J ρ) _
      refine am_e_ss 2 (q := (24, [(0, .inr (.inr (.inl (some k)))), (1, .inr (.inr (.inl (some 71)))), (2, .inr (.inr (.inl (some 84))))], [.inr (.inr (.inl (some k))), .inr (.inr (.inl (some 71)))], (am_mm D I J ρ))) rfl ?_
      refine am_e_getfield (c := 2) (m := 3) (f := 2) rfl hsk rfl (by decide) (by decide) ?_
      show am_E _ _ _ 27 [(0, .inr (.inr (.inl (some k)))), (1, .inr (.inr (.inl (some 71)))), (2, .inr (.inr (.inl (some 84))))] [.inl ((I k 2)), .inr (.inr (.inl (some 71)))] (am_mm D I J ρ) _
      refine am_e_ss 1 (q := (28, [(0, .inr (.inr (.inl (some k)))), (1, .inr (.inr (.inl (some 71)))), (2, .inr (.inr (.inl (some 84))))], [.inr (.inr (.inl (some 84))), .inl ((I k 2)), .inr (.inr (.inl (some 71)))], (am_mm D I J ρ))) rfl ?_
      refine am_e_virtual (Q := fun r => r = (none, (am_mm D (am_cpg I 84 0 (74 + v) 0 6) J ρ))) rfl rfl (Nat.le_of_ble_eq_true rfl) rfl rfl (Nat.le_of_ble_eq_true rfl) (Nat.le_of_ble_eq_true rfl) (c_putOrderI _ (a := v) (b := 3) hk2 (by omega) (by omega)) ?_
      rintro r rfl
      show am_E _ _ _ 31 [(0, .inr (.inr (.inl (some k)))), (1, .inr (.inr (.inl (some 71)))), (2, .inr (.inr (.inl (some 84))))] [] (am_mm D (am_cpg I 84 0 (74 + v) 0 6) J ρ) _
      refine am_e_ss 1 (q := (40, [(0, .inr (.inr (.inl (some k)))), (1, .inr (.inr (.inl (some 71)))), (2, .inr (.inr (.inl (some 84))))], [], (am_mm D (am_cpg I 84 0 (74 + v) 0 6) J ρ))) rfl ?_
      refine am_e_return rfl rfl ?_
      rw [if_pos (by omega)]
      exact ⟨_, am_r_wp (fun c _ => Nat.beq c 84) (am_k_cpg (fun _ => rfl) (am_k_id)), am_rowl_cpg (hO v (by omega)) (by have := sp_ord_len (S := S) (m := v); omega)⟩
theorem m_say_4_4 {X : Nat × (Nat → Int)} {D : List (Nat × Nat)} {I J : Nat → Nat → Int} {ρ : Nat → Nat → Option Nat} (d : Nat) {k : Nat} (hsk : (am_S ++ D)[k]? = some (4, 3)) {S : Nat → Int} {B : Int} (hok : r_ok S B) (hk124 : 124 ≤ k) (hk1 : I k 1 = 4) (h3 : I 71 3 = sp_ops S) (hO : ∀ j, j < (S 19).toNat → am_rowl (I (74 + j)) 0 (sp_ord S j)) (hm : 4 < (S 19).toNat)  : am_E X (d + 2) 37 0 [(0, .inr (.inr (.inl (some k)))), (1, .inr (.inr (.inl (some 71)))), (2, .inr (.inr (.inl (some 85))))] [] (am_mm D I J ρ) (fun q => ∃ Q, q = (none, am_mm D (am_wp (fun c _ => Nat.beq c 85) I Q) J ρ) ∧ am_rowl (Q 85) 0 (sp_ord S 4)) := by
  have ob := sp_ops_b hok
  have ol := sp_ord_len (S := S) (m := 4)
  refine am_e_ss 2 (q := (2, [(0, .inr (.inr (.inl (some k)))), (1, .inr (.inr (.inl (some 71)))), (2, .inr (.inr (.inl (some 85))))], [.inr (.inr (.inl (some k))), .inr (.inr (.inl (some 71)))], (am_mm D I J ρ))) rfl ?_
  refine am_e_getfield (c := 4) (m := 3) (f := 1) rfl hsk rfl (by decide) (by decide) ?_
  show am_E _ _ _ 5 [(0, .inr (.inr (.inl (some k)))), (1, .inr (.inr (.inl (some 71)))), (2, .inr (.inr (.inl (some 85))))] [.inl ((I k 1)), .inr (.inr (.inl (some 71)))] (am_mm D I J ρ) _
  refine am_e_ss 1 (q := (6, [(0, .inr (.inr (.inl (some k)))), (1, .inr (.inr (.inl (some 71)))), (2, .inr (.inr (.inl (some 85))))], [.inr (.inr (.inl (some 85))), .inl ((I k 1)), .inr (.inr (.inl (some 71)))], (am_mm D I J ρ))) rfl ?_
  refine am_e_virtual (Q := fun r => r = (none, (am_mm D (am_cpg I 85 0 (74 + 4) 0 6) J ρ))) rfl rfl (Nat.le_of_ble_eq_true rfl) rfl rfl (Nat.le_of_ble_eq_true rfl) (Nat.le_of_ble_eq_true rfl) (c_putOrderI _ (a := 4) (b := 4) (by omega) (by omega) (by omega)) ?_
  rintro r rfl
  show am_E _ _ _ 9 [(0, .inr (.inr (.inl (some k)))), (1, .inr (.inr (.inl (some 71)))), (2, .inr (.inr (.inl (some 85))))] [] (am_mm D (am_cpg I 85 0 (74 + 4) 0 6) J ρ) _
  refine am_e_return rfl rfl ?_
  exact ⟨_, am_r_wp (fun c _ => Nat.beq c 85) (am_k_cpg (fun _ => rfl) (am_k_id)), am_rowl_cpg (hO 4 hm) (by omega)⟩
theorem m_say_6_4 {X : Nat × (Nat → Int)} {D : List (Nat × Nat)} {I J : Nat → Nat → Int} {ρ : Nat → Nat → Option Nat} (d : Nat) {k : Nat} (hsk : (am_S ++ D)[k]? = some (6, 3)) {S : Nat → Int} {B : Int} (hok : r_ok S B) (hk124 : 124 ≤ k) (hk1 : I k 1 = 4) (h3 : I 71 3 = sp_ops S) (hO : ∀ j, j < (S 19).toNat → am_rowl (I (74 + j)) 0 (sp_ord S j)) (hm : 4 < (S 19).toNat)  : am_E X (d + 2) 37 0 [(0, .inr (.inr (.inl (some k)))), (1, .inr (.inr (.inl (some 71)))), (2, .inr (.inr (.inl (some 85))))] [] (am_mm D I J ρ) (fun q => ∃ Q, q = (none, am_mm D (am_wp (fun c _ => Nat.beq c 85) I Q) J ρ) ∧ am_rowl (Q 85) 0 (sp_ord S 4)) := by
  have ob := sp_ops_b hok
  have ol := sp_ord_len (S := S) (m := 4)
  refine am_e_ss 2 (q := (2, [(0, .inr (.inr (.inl (some k)))), (1, .inr (.inr (.inl (some 71)))), (2, .inr (.inr (.inl (some 85))))], [.inr (.inr (.inl (some k))), .inr (.inr (.inl (some 71)))], (am_mm D I J ρ))) rfl ?_
  refine am_e_getfield (c := 6) (m := 3) (f := 1) rfl hsk rfl (by decide) (by decide) ?_
  show am_E _ _ _ 5 [(0, .inr (.inr (.inl (some k)))), (1, .inr (.inr (.inl (some 71)))), (2, .inr (.inr (.inl (some 85))))] [.inl ((I k 1)), .inr (.inr (.inl (some 71)))] (am_mm D I J ρ) _
  refine am_e_ss 1 (q := (6, [(0, .inr (.inr (.inl (some k)))), (1, .inr (.inr (.inl (some 71)))), (2, .inr (.inr (.inl (some 85))))], [.inr (.inr (.inl (some 85))), .inl ((I k 1)), .inr (.inr (.inl (some 71)))], (am_mm D I J ρ))) rfl ?_
  refine am_e_virtual (Q := fun r => r = (none, (am_mm D (am_cpg I 85 0 (74 + 4) 0 6) J ρ))) rfl rfl (Nat.le_of_ble_eq_true rfl) rfl rfl (Nat.le_of_ble_eq_true rfl) (Nat.le_of_ble_eq_true rfl) (c_putOrderI _ (a := 4) (b := 4) (by omega) (by omega) (by omega)) ?_
  rintro r rfl
  show am_E _ _ _ 9 [(0, .inr (.inr (.inl (some k)))), (1, .inr (.inr (.inl (some 71)))), (2, .inr (.inr (.inl (some 85))))] [] (am_mm D (am_cpg I 85 0 (74 + 4) 0 6) J ρ) _
  refine am_e_return rfl rfl ?_
  exact ⟨_, am_r_wp (fun c _ => Nat.beq c 85) (am_k_cpg (fun _ => rfl) (am_k_id)), am_rowl_cpg (hO 4 hm) (by omega)⟩
theorem m_say_8_4 {X : Nat × (Nat → Int)} {D : List (Nat × Nat)} {I J : Nat → Nat → Int} {ρ : Nat → Nat → Option Nat} (d : Nat) {k : Nat} (hsk : (am_S ++ D)[k]? = some (8, 3)) {S : Nat → Int} {B : Int} (hok : r_ok S B) (hk124 : 124 ≤ k) (hk1 : I k 1 = 4) (h3 : I 71 3 = sp_ops S) (hO : ∀ j, j < (S 19).toNat → am_rowl (I (74 + j)) 0 (sp_ord S j)) (hm : 4 < (S 19).toNat)  : am_E X (d + 2) 37 0 [(0, .inr (.inr (.inl (some k)))), (1, .inr (.inr (.inl (some 71)))), (2, .inr (.inr (.inl (some 85))))] [] (am_mm D I J ρ) (fun q => ∃ Q, q = (none, am_mm D (am_wp (fun c _ => Nat.beq c 85) I Q) J ρ) ∧ am_rowl (Q 85) 0 (sp_ord S 4)) := by
  have ob := sp_ops_b hok
  have ol := sp_ord_len (S := S) (m := 4)
  refine am_e_ss 2 (q := (2, [(0, .inr (.inr (.inl (some k)))), (1, .inr (.inr (.inl (some 71)))), (2, .inr (.inr (.inl (some 85))))], [.inr (.inr (.inl (some k))), .inr (.inr (.inl (some 71)))], (am_mm D I J ρ))) rfl ?_
  refine am_e_getfield (c := 8) (m := 3) (f := 1) rfl hsk rfl (by decide) (by decide) ?_
  show am_E _ _ _ 5 [(0, .inr (.inr (.inl (some k)))), (1, .inr (.inr (.inl (some 71)))), (2, .inr (.inr (.inl (some 85))))] [.inl ((I k 1)), .inr (.inr (.inl (some 71)))] (am_mm D I J ρ) _
  refine am_e_ss 1 (q := (6, [(0, .inr (.inr (.inl (some k)))), (1, .inr (.inr (.inl (some 71)))), (2, .inr (.inr (.inl (some 85))))], [.inr (.inr (.inl (some 85))), .inl ((I k 1)), .inr (.inr (.inl (some 71)))], (am_mm D I J ρ))) rfl ?_
  refine am_e_virtual (Q := fun r => r = (none, (am_mm D (am_cpg I 85 0 (74 + 4) 0 6) J ρ))) rfl rfl (Nat.le_of_ble_eq_true rfl) rfl rfl (Nat.le_of_ble_eq_true rfl) (Nat.le_of_ble_eq_true rfl) (c_putOrderI _ (a := 4) (b := 4) (by omega) (by omega) (by omega)) ?_
  rintro r rfl
  show am_E _ _ _ 9 [(0, .inr (.inr (.inl (some k)))), (1, .inr (.inr (.inl (some 71)))), (2, .inr (.inr (.inl (some 85))))] [] (am_mm D (am_cpg I 85 0 (74 + 4) 0 6) J ρ) _
  refine am_e_return rfl rfl ?_
  exact ⟨_, am_r_wp (fun c _ => Nat.beq c 85) (am_k_cpg (fun _ => rfl) (am_k_id)), am_rowl_cpg (hO 4 hm) (by omega)⟩
theorem m_say_0_4 {X : Nat × (Nat → Int)} {D : List (Nat × Nat)} {I J : Nat → Nat → Int} {ρ : Nat → Nat → Option Nat} (d : Nat) {k : Nat} (hsk : (am_S ++ D)[k]? = some (0, 3)) {S : Nat → Int} {B : Int} (hok : r_ok S B) (hk124 : 124 ≤ k) (hk1 : I k 1 = 4) (h3 : I 71 3 = sp_ops S) (hO : ∀ j, j < (S 19).toNat → am_rowl (I (74 + j)) 0 (sp_ord S j)) (hm : 4 < (S 19).toNat)  : am_E X (d + 2) 37 0 [(0, .inr (.inr (.inl (some k)))), (1, .inr (.inr (.inl (some 71)))), (2, .inr (.inr (.inl (some 85))))] [] (am_mm D I J ρ) (fun q => ∃ Q, q = (none, am_mm D (am_wp (fun c _ => Nat.beq c 85) I Q) J ρ) ∧ am_rowl (Q 85) 0 (sp_ord S 4)) := by
  have ob := sp_ops_b hok
  have ol := sp_ord_len (S := S) (m := 4)
  refine am_e_ss 2 (q := (2, [(0, .inr (.inr (.inl (some k)))), (1, .inr (.inr (.inl (some 71)))), (2, .inr (.inr (.inl (some 85))))], [.inr (.inr (.inl (some k))), .inr (.inr (.inl (some 71)))], (am_mm D I J ρ))) rfl ?_
  refine am_e_getfield (c := 0) (m := 3) (f := 1) rfl hsk rfl (by decide) (by decide) ?_
  show am_E _ _ _ 5 [(0, .inr (.inr (.inl (some k)))), (1, .inr (.inr (.inl (some 71)))), (2, .inr (.inr (.inl (some 85))))] [.inl ((I k 1)), .inr (.inr (.inl (some 71)))] (am_mm D I J ρ) _
  refine am_e_ss 1 (q := (6, [(0, .inr (.inr (.inl (some k)))), (1, .inr (.inr (.inl (some 71)))), (2, .inr (.inr (.inl (some 85))))], [.inr (.inr (.inl (some 85))), .inl ((I k 1)), .inr (.inr (.inl (some 71)))], (am_mm D I J ρ))) rfl ?_
  refine am_e_virtual (Q := fun r => r = (none, (am_mm D (am_cpg I 85 0 (74 + 4) 0 6) J ρ))) rfl rfl (Nat.le_of_ble_eq_true rfl) rfl rfl (Nat.le_of_ble_eq_true rfl) (Nat.le_of_ble_eq_true rfl) (c_putOrderI _ (a := 4) (b := 4) (by omega) (by omega) (by omega)) ?_
  rintro r rfl
  show am_E _ _ _ 9 [(0, .inr (.inr (.inl (some k)))), (1, .inr (.inr (.inl (some 71)))), (2, .inr (.inr (.inl (some 85))))] [] (am_mm D (am_cpg I 85 0 (74 + 4) 0 6) J ρ) _
  refine am_e_return rfl rfl ?_
  exact ⟨_, am_r_wp (fun c _ => Nat.beq c 85) (am_k_cpg (fun _ => rfl) (am_k_id)), am_rowl_cpg (hO 4 hm) (by omega)⟩
theorem m_say_p5_4 {X : Nat × (Nat → Int)} {D : List (Nat × Nat)} {I J : Nat → Nat → Int} {ρ : Nat → Nat → Option Nat} (d : Nat) {k : Nat} (hsk : (am_S ++ D)[k]? = some (5, 3)) {S : Nat → Int} {B : Int} (hok : r_ok S B) (hk124 : 124 ≤ k) (hk1 : I k 1 = 4) (h3 : I 71 3 = sp_ops S) (hO : ∀ j, j < (S 19).toNat → am_rowl (I (74 + j)) 0 (sp_ord S j)) (hm : 4 < (S 19).toNat) (hfav : I 71 7 = sp_fav S) (ho : ¬ sp_ops S = 0)  : am_E X (d + 2) 43 0 [(0, .inr (.inr (.inl (some k)))), (1, .inr (.inr (.inl (some 71)))), (2, .inr (.inr (.inl (some 85))))] [] (am_mm D I J ρ) (fun q => ∃ Q, q = (none, am_mm D (am_wp (fun c _ => Nat.beq c 85) I Q) J ρ) ∧ am_rowl (Q 85) 0 (sp_sayl (sp_ord S 4) (if sp_hd S 4 = sp_first S then -1 else sp_first S))) := by
  have ob := sp_ops_b hok
  have ol := sp_ord_len (S := S) (m := 4)
  have fe := sp_fav_eq ho
  have fb := sp_first_b hok
  have hdb := sp_hd_b hok 4
  have hrd := hO 4 hm
  have hd0 : I (74 + 4) 0 = sp_hd S 4 := by
    unfold sp_hd
    cases hL : sp_ord S 4 with
    | nil => rw [hL] at ol; exact absurd (show (0 : Int) = sp_ops S from ol).symm ho
    | cons a r => rw [hL] at hrd; exact am_rowl_h hrd
  refine am_e_ss 2 (q := (2, [(0, .inr (.inr (.inl (some k)))), (1, .inr (.inr (.inl (some 71)))), (2, .inr (.inr (.inl (some 85))))], [.inr (.inr (.inl (some k))), .inr (.inr (.inl (some 71)))], (am_mm D I J ρ))) rfl ?_
  refine am_e_getfield (c := 5) (m := 3) (f := 1) rfl hsk rfl (by decide) (by decide) ?_
  show am_E _ _ _ 5 [(0, .inr (.inr (.inl (some k)))), (1, .inr (.inr (.inl (some 71)))), (2, .inr (.inr (.inl (some 85))))] [.inl ((I k 1)), .inr (.inr (.inl (some 71)))] (am_mm D I J ρ) _
  refine am_e_ss 1 (q := (6, [(0, .inr (.inr (.inl (some k)))), (1, .inr (.inr (.inl (some 71)))), (2, .inr (.inr (.inl (some 85))))], [.inr (.inr (.inl (some 85))), .inl ((I k 1)), .inr (.inr (.inl (some 71)))], (am_mm D I J ρ))) rfl ?_
  refine am_e_virtual (Q := fun r => r = (none, (am_mm D (am_cpg I 85 0 (74 + 4) 0 6) J ρ))) rfl rfl (Nat.le_of_ble_eq_true rfl) rfl rfl (Nat.le_of_ble_eq_true rfl) (Nat.le_of_ble_eq_true rfl) (c_putOrderI _ (a := 4) (b := 4) (by omega) (by omega) (by omega)) ?_
  rintro r rfl
  show am_E _ _ _ 9 [(0, .inr (.inr (.inl (some k)))), (1, .inr (.inr (.inl (some 71)))), (2, .inr (.inr (.inl (some 85))))] [] (am_mm D (am_cpg I 85 0 (74 + 4) 0 6) J ρ) _
  refine am_e_ss 3 (q := (12, [(0, .inr (.inr (.inl (some k)))), (1, .inr (.inr (.inl (some 71)))), (2, .inr (.inr (.inl (some 85))))], [.inl (((am_cpg I 85 0 (74 + 4) 0 6) 85 0))], (am_mm D (am_cpg I 85 0 (74 + 4) 0 6) J ρ))) rfl ?_
  have hr0 : ((am_cpg I 85 0 (74 + 4) 0 6) 85 0) = sp_hd S 4 := (if_pos ⟨rfl, by decide, by decide⟩).trans hd0
  refine am_e_ss 2 (q := (16, [(0, .inr (.inr (.inl (some k)))), (1, .inr (.inr (.inl (some 71)))), (2, .inr (.inr (.inl (some 85))))], [.inl ((I 71 7)), .inl (((am_cpg I 85 0 (74 + 4) 0 6) 85 0))], (am_mm D (am_cpg I 85 0 (74 + 4) 0 6) J ρ))) rfl ?_
  refine am_e_icmp2 rfl ⟨by omega, by omega⟩ ⟨by omega, by omega⟩ (fun (hw1 : ((am_cpg I 85 0 (74 + 4) 0 6) 85 0) = (I 71 7)) => ?_) (fun (hw1 : ¬ (((am_cpg I 85 0 (74 + 4) 0 6) 85 0) = (I 71 7))) => ?_)
  · show am_E _ _ _ 28 [(0, .inr (.inr (.inl (some k)))), (1, .inr (.inr (.inl (some 71)))), (2, .inr (.inr (.inl (some 85))))] [] (am_mm D (am_cpg I 85 0 (74 + 4) 0 6) J ρ) _
    refine am_e_return rfl rfl ?_
    have eL : sp_sayl (sp_ord S 4) (if sp_hd S 4 = sp_first S then -1 else sp_first S) = sp_ord S 4 := by
      rw [if_pos (by omega)]
      exact sp_sayl_no (fun x hx => by omega)
    rw [eL]
    exact ⟨_, am_r_wp (fun c _ => Nat.beq c 85) (am_k_cpg (fun _ => rfl) (am_k_id)), am_rowl_cpg (hO 4 hm) (by omega)⟩
  · show am_E _ _ _ 19 [(0, .inr (.inr (.inl (some k)))), (1, .inr (.inr (.inl (some 71)))), (2, .inr (.inr (.inl (some 85))))] [] (am_mm D (am_cpg I 85 0 (74 + 4) 0 6) J ρ) _
    refine am_e_ss 4 (q := (25, [(0, .inr (.inr (.inl (some k)))), (1, .inr (.inr (.inl (some 71)))), (2, .inr (.inr (.inl (some 85))))], [.inr (.inr (.inl (some 85))), .inl ((I 71 7)), .inr (.inr (.inl (some 71)))], (am_mm D (am_cpg I 85 0 (74 + 4) 0 6) J ρ))) rfl ?_
    refine am_e_virtual (Q := fun r => ∃ Q111, r = (none, (am_mm D (am_wp (fun c _ => Nat.beq c 85) (am_cpg I 85 0 (74 + 4) 0 6) Q111) J ρ)) ∧ am_rowl (Q111 85) 0 (sp_bub (I 71 7) (sp_ord S 4))) rfl rfl (Nat.le_of_ble_eq_true rfl) rfl rfl (Nat.le_of_ble_eq_true rfl) (Nat.le_of_ble_eq_true rfl) (c_putLast_4 _ (z := (I 71 7)) (L := sp_ord S 4) ⟨by omega, by omega⟩ (show I 71 3 = _ by omega) (by omega) (fun x hx => by have := sp_ord_mem.mp hx; have := (r_ok_19 hok).2; omega) (am_rowl_cpg (hO 4 hm) (by omega))) ?_
    rintro r ⟨Q111, rfl, hpl⟩
    show am_E _ _ _ 28 [(0, .inr (.inr (.inl (some k)))), (1, .inr (.inr (.inl (some 71)))), (2, .inr (.inr (.inl (some 85))))] [] (am_mm D (am_wp (fun c _ => Nat.beq c 85) (am_cpg I 85 0 (74 + 4) 0 6) Q111) J ρ) _
    refine am_e_return rfl rfl ?_
    have eL : sp_sayl (sp_ord S 4) (if sp_hd S 4 = sp_first S then -1 else sp_first S) = sp_bub (I 71 7) (sp_ord S 4) := by
      rw [if_neg (by omega), sp_bub_say sp_ord_nd, hfav, fe]
    rw [eL]
    exact ⟨_, am_r_wp (fun c _ => Nat.beq c 85) (am_k_wp am_k_sub (am_k_cpg (fun _ => rfl) (am_k_id))), hpl⟩
theorem m_say_p2_4 {X : Nat × (Nat → Int)} {D : List (Nat × Nat)} {I J : Nat → Nat → Int} {ρ : Nat → Nat → Option Nat} (d : Nat) {k : Nat} (hsk : (am_S ++ D)[k]? = some (2, 3)) {S : Nat → Int} {B : Int} (hok : r_ok S B) (hk124 : 124 ≤ k) (hk1 : I k 1 = 4) (h3 : I 71 3 = sp_ops S) (hO : ∀ j, j < (S 19).toNat → am_rowl (I (74 + j)) 0 (sp_ord S j)) (hm : 4 < (S 19).toNat) (hfav : I 71 7 = sp_fav S) (ho : ¬ sp_ops S = 0)  : am_E X (d + 2) 43 0 [(0, .inr (.inr (.inl (some k)))), (1, .inr (.inr (.inl (some 71)))), (2, .inr (.inr (.inl (some 85))))] [] (am_mm D I J ρ) (fun q => ∃ Q, q = (none, am_mm D (am_wp (fun c _ => Nat.beq c 85) I Q) J ρ) ∧ am_rowl (Q 85) 0 (sp_sayl (sp_ord S 4) (if sp_hd S 4 = sp_first S then -1 else sp_first S))) := by
  have ob := sp_ops_b hok
  have ol := sp_ord_len (S := S) (m := 4)
  have fe := sp_fav_eq ho
  have fb := sp_first_b hok
  have hdb := sp_hd_b hok 4
  have hrd := hO 4 hm
  have hd0 : I (74 + 4) 0 = sp_hd S 4 := by
    unfold sp_hd
    cases hL : sp_ord S 4 with
    | nil => rw [hL] at ol; exact absurd (show (0 : Int) = sp_ops S from ol).symm ho
    | cons a r => rw [hL] at hrd; exact am_rowl_h hrd
  refine am_e_ss 2 (q := (2, [(0, .inr (.inr (.inl (some k)))), (1, .inr (.inr (.inl (some 71)))), (2, .inr (.inr (.inl (some 85))))], [.inr (.inr (.inl (some k))), .inr (.inr (.inl (some 71)))], (am_mm D I J ρ))) rfl ?_
  refine am_e_getfield (c := 2) (m := 3) (f := 1) rfl hsk rfl (by decide) (by decide) ?_
  show am_E _ _ _ 5 [(0, .inr (.inr (.inl (some k)))), (1, .inr (.inr (.inl (some 71)))), (2, .inr (.inr (.inl (some 85))))] [.inl ((I k 1)), .inr (.inr (.inl (some 71)))] (am_mm D I J ρ) _
  refine am_e_ss 1 (q := (6, [(0, .inr (.inr (.inl (some k)))), (1, .inr (.inr (.inl (some 71)))), (2, .inr (.inr (.inl (some 85))))], [.inr (.inr (.inl (some 85))), .inl ((I k 1)), .inr (.inr (.inl (some 71)))], (am_mm D I J ρ))) rfl ?_
  refine am_e_virtual (Q := fun r => r = (none, (am_mm D (am_cpg I 85 0 (74 + 4) 0 6) J ρ))) rfl rfl (Nat.le_of_ble_eq_true rfl) rfl rfl (Nat.le_of_ble_eq_true rfl) (Nat.le_of_ble_eq_true rfl) (c_putOrderI _ (a := 4) (b := 4) (by omega) (by omega) (by omega)) ?_
  rintro r rfl
  show am_E _ _ _ 9 [(0, .inr (.inr (.inl (some k)))), (1, .inr (.inr (.inl (some 71)))), (2, .inr (.inr (.inl (some 85))))] [] (am_mm D (am_cpg I 85 0 (74 + 4) 0 6) J ρ) _
  refine am_e_ss 3 (q := (12, [(0, .inr (.inr (.inl (some k)))), (1, .inr (.inr (.inl (some 71)))), (2, .inr (.inr (.inl (some 85))))], [.inl (((am_cpg I 85 0 (74 + 4) 0 6) 85 0))], (am_mm D (am_cpg I 85 0 (74 + 4) 0 6) J ρ))) rfl ?_
  have hr0 : ((am_cpg I 85 0 (74 + 4) 0 6) 85 0) = sp_hd S 4 := (if_pos ⟨rfl, by decide, by decide⟩).trans hd0
  refine am_e_ss 2 (q := (16, [(0, .inr (.inr (.inl (some k)))), (1, .inr (.inr (.inl (some 71)))), (2, .inr (.inr (.inl (some 85))))], [.inl ((I 71 7)), .inl (((am_cpg I 85 0 (74 + 4) 0 6) 85 0))], (am_mm D (am_cpg I 85 0 (74 + 4) 0 6) J ρ))) rfl ?_
  refine am_e_icmp2 rfl ⟨by omega, by omega⟩ ⟨by omega, by omega⟩ (fun (hw1 : ((am_cpg I 85 0 (74 + 4) 0 6) 85 0) = (I 71 7)) => ?_) (fun (hw1 : ¬ (((am_cpg I 85 0 (74 + 4) 0 6) 85 0) = (I 71 7))) => ?_)
  · show am_E _ _ _ 28 [(0, .inr (.inr (.inl (some k)))), (1, .inr (.inr (.inl (some 71)))), (2, .inr (.inr (.inl (some 85))))] [] (am_mm D (am_cpg I 85 0 (74 + 4) 0 6) J ρ) _
    refine am_e_return rfl rfl ?_
    have eL : sp_sayl (sp_ord S 4) (if sp_hd S 4 = sp_first S then -1 else sp_first S) = sp_ord S 4 := by
      rw [if_pos (by omega)]
      exact sp_sayl_no (fun x hx => by omega)
    rw [eL]
    exact ⟨_, am_r_wp (fun c _ => Nat.beq c 85) (am_k_cpg (fun _ => rfl) (am_k_id)), am_rowl_cpg (hO 4 hm) (by omega)⟩
  · show am_E _ _ _ 19 [(0, .inr (.inr (.inl (some k)))), (1, .inr (.inr (.inl (some 71)))), (2, .inr (.inr (.inl (some 85))))] [] (am_mm D (am_cpg I 85 0 (74 + 4) 0 6) J ρ) _
    refine am_e_ss 4 (q := (25, [(0, .inr (.inr (.inl (some k)))), (1, .inr (.inr (.inl (some 71)))), (2, .inr (.inr (.inl (some 85))))], [.inr (.inr (.inl (some 85))), .inl ((I 71 7)), .inr (.inr (.inl (some 71)))], (am_mm D (am_cpg I 85 0 (74 + 4) 0 6) J ρ))) rfl ?_
    refine am_e_virtual (Q := fun r => ∃ Q112, r = (none, (am_mm D (am_wp (fun c _ => Nat.beq c 85) (am_cpg I 85 0 (74 + 4) 0 6) Q112) J ρ)) ∧ am_rowl (Q112 85) 0 (sp_bub (I 71 7) (sp_ord S 4))) rfl rfl (Nat.le_of_ble_eq_true rfl) rfl rfl (Nat.le_of_ble_eq_true rfl) (Nat.le_of_ble_eq_true rfl) (c_putLast_4 _ (z := (I 71 7)) (L := sp_ord S 4) ⟨by omega, by omega⟩ (show I 71 3 = _ by omega) (by omega) (fun x hx => by have := sp_ord_mem.mp hx; have := (r_ok_19 hok).2; omega) (am_rowl_cpg (hO 4 hm) (by omega))) ?_
    rintro r ⟨Q112, rfl, hpl⟩
    show am_E _ _ _ 28 [(0, .inr (.inr (.inl (some k)))), (1, .inr (.inr (.inl (some 71)))), (2, .inr (.inr (.inl (some 85))))] [] (am_mm D (am_wp (fun c _ => Nat.beq c 85) (am_cpg I 85 0 (74 + 4) 0 6) Q112) J ρ) _
    refine am_e_return rfl rfl ?_
    have eL : sp_sayl (sp_ord S 4) (if sp_hd S 4 = sp_first S then -1 else sp_first S) = sp_bub (I 71 7) (sp_ord S 4) := by
      rw [if_neg (by omega), sp_bub_say sp_ord_nd, hfav, fe]
    rw [eL]
    exact ⟨_, am_r_wp (fun c _ => Nat.beq c 85) (am_k_wp am_k_sub (am_k_cpg (fun _ => rfl) (am_k_id))), hpl⟩
theorem m_say_9_4 {X : Nat × (Nat → Int)} {D : List (Nat × Nat)} {I J : Nat → Nat → Int} {ρ : Nat → Nat → Option Nat} (d : Nat) {k : Nat} (hsk : (am_S ++ D)[k]? = some (9, 3)) {S : Nat → Int} {B : Int} (hok : r_ok S B) (hk124 : 124 ≤ k) (hk1 : I k 1 = 4) (h3 : I 71 3 = sp_ops S) (hO : ∀ j, j < (S 19).toNat → am_rowl (I (74 + j)) 0 (sp_ord S j)) (hm : 4 < (S 19).toNat) {v : Nat} (hk2 : I k 2 = (v : Int)) (hv9 : v ≤ 9)  : am_E X (d + 2) 62 0 [(0, .inr (.inr (.inl (some k)))), (1, .inr (.inr (.inl (some 71)))), (2, .inr (.inr (.inl (some 85))))] [] (am_mm D I J ρ) (fun q => ∃ Q, q = (none, am_mm D (am_wp (fun c _ => Nat.beq c 85) I Q) J ρ) ∧ am_rowl (Q 85) 0 (sp_sayl (sp_ord S 4) (v : Int))) := by
  have ob := sp_ops_b hok
  have ol := sp_ord_len (S := S) (m := 4)
  refine am_e_ss 2 (q := (2, [(0, .inr (.inr (.inl (some k)))), (1, .inr (.inr (.inl (some 71)))), (2, .inr (.inr (.inl (some 85))))], [.inr (.inr (.inl (some k))), .inr (.inr (.inl (some 71)))], (am_mm D I J ρ))) rfl ?_
  refine am_e_getfield (c := 9) (m := 3) (f := 1) rfl hsk rfl (by decide) (by decide) ?_
  show am_E _ _ _ 5 [(0, .inr (.inr (.inl (some k)))), (1, .inr (.inr (.inl (some 71)))), (2, .inr (.inr (.inl (some 85))))] [.inl ((I k 1)), .inr (.inr (.inl (some 71)))] (am_mm D I J ρ) _
  refine am_e_ss 1 (q := (6, [(0, .inr (.inr (.inl (some k)))), (1, .inr (.inr (.inl (some 71)))), (2, .inr (.inr (.inl (some 85))))], [.inr (.inr (.inl (some 85))), .inl ((I k 1)), .inr (.inr (.inl (some 71)))], (am_mm D I J ρ))) rfl ?_
  refine am_e_virtual (Q := fun r => r = (none, (am_mm D (am_cpg I 85 0 (74 + 4) 0 6) J ρ))) rfl rfl (Nat.le_of_ble_eq_true rfl) rfl rfl (Nat.le_of_ble_eq_true rfl) (Nat.le_of_ble_eq_true rfl) (c_putOrderI _ (a := 4) (b := 4) (by omega) (by omega) (by omega)) ?_
  rintro r rfl
  show am_E _ _ _ 9 [(0, .inr (.inr (.inl (some k)))), (1, .inr (.inr (.inl (some 71)))), (2, .inr (.inr (.inl (some 85))))] [] (am_mm D (am_cpg I 85 0 (74 + 4) 0 6) J ρ) _
  refine am_e_ss 2 (q := (11, [(0, .inr (.inr (.inl (some k)))), (1, .inr (.inr (.inl (some 71)))), (2, .inr (.inr (.inl (some 85))))], [.inr (.inr (.inl (some k))), .inr (.inr (.inl (some 71)))], (am_mm D (am_cpg I 85 0 (74 + 4) 0 6) J ρ))) rfl ?_
  refine am_e_getfield (c := 9) (m := 3) (f := 2) rfl hsk rfl (by decide) (by decide) ?_
  show am_E _ _ _ 14 [(0, .inr (.inr (.inl (some k)))), (1, .inr (.inr (.inl (some 71)))), (2, .inr (.inr (.inl (some 85))))] [.inl (((am_cpg I 85 0 (74 + 4) 0 6) k 2)), .inr (.inr (.inl (some 71)))] (am_mm D (am_cpg I 85 0 (74 + 4) 0 6) J ρ) _
  have hvv : ((am_cpg I 85 0 (74 + 4) 0 6) k 2) = (v : Int) := (if_neg (by omega)).trans hk2
  refine am_e_ss 1 (q := (15, [(0, .inr (.inr (.inl (some k)))), (1, .inr (.inr (.inl (some 71)))), (2, .inr (.inr (.inl (some 85))))], [.inr (.inr (.inl (some 85))), .inl (((am_cpg I 85 0 (74 + 4) 0 6) k 2)), .inr (.inr (.inl (some 71)))], (am_mm D (am_cpg I 85 0 (74 + 4) 0 6) J ρ))) rfl ?_
  refine am_e_virtual (Q := fun r => ∃ Q113, r = (none, (am_mm D (am_wp (fun c _ => Nat.beq c 85) (am_cpg I 85 0 (74 + 4) 0 6) Q113) J ρ)) ∧ am_rowl (Q113 85) 0 (sp_bub ((am_cpg I 85 0 (74 + 4) 0 6) k 2) (sp_ord S 4))) rfl rfl (Nat.le_of_ble_eq_true rfl) rfl rfl (Nat.le_of_ble_eq_true rfl) (Nat.le_of_ble_eq_true rfl) (c_putLast_4 _ (z := ((am_cpg I 85 0 (74 + 4) 0 6) k 2)) (L := sp_ord S 4) ⟨by omega, by omega⟩ (show I 71 3 = _ by omega) (by omega) (fun x hx => by have := sp_ord_mem.mp hx; have := (r_ok_19 hok).2; omega) (am_rowl_cpg (hO 4 hm) (by omega))) ?_
  rintro r ⟨Q113, rfl, hpl⟩
  show am_E _ _ _ 18 [(0, .inr (.inr (.inl (some k)))), (1, .inr (.inr (.inl (some 71)))), (2, .inr (.inr (.inl (some 85))))] [] (am_mm D (am_wp (fun c _ => Nat.beq c 85) (am_cpg I 85 0 (74 + 4) 0 6) Q113) J ρ) _
  refine am_e_return rfl rfl ?_
  rw [hvv, sp_bub_say sp_ord_nd] at hpl
  exact ⟨_, am_r_wp (fun c _ => Nat.beq c 85) (am_k_wp am_k_sub (am_k_cpg (fun _ => rfl) (am_k_id))), hpl⟩
theorem m_say_f2_4 {X : Nat × (Nat → Int)} {D : List (Nat × Nat)} {I J : Nat → Nat → Int} {ρ : Nat → Nat → Option Nat} (d : Nat) {k : Nat} (hsk : (am_S ++ D)[k]? = some (2, 3)) {S : Nat → Int} {B : Int} (hok : r_ok S B) (hk124 : 124 ≤ k) (hk1 : I k 1 = 4) (h3 : I 71 3 = sp_ops S) (hO : ∀ j, j < (S 19).toNat → am_rowl (I (74 + j)) 0 (sp_ord S j)) (hm : 4 < (S 19).toNat) (hfav : I 71 7 = sp_fav S) (ho : ¬ sp_ops S = 0) {v : Nat} (hk2 : I k 2 = (v : Int)) (hv9 : v ≤ 9) (h71 : ρ 71 1 = some 2) (h12 : I 1 2 = S 19) (hhr : I 2 1 = am_bits (sp_hp S) 6)  : am_E X (d + 3) 22 0 [(0, .inr (.inr (.inl (some k)))), (1, .inr (.inr (.inl (some 71)))), (2, .inr (.inr (.inl (some 85))))] [] (am_mm D I J ρ) (fun q => ∃ Q, q = (none, am_mm D (am_wp (fun c _ => Nat.beq c 85) I Q) J ρ) ∧ am_rowl (Q 85) 0 (if ¬ v = 4 ∧ v < (S 19).toNat ∧ S (7 + v) = 0 then sp_ord S v else sp_sayl (sp_ord S 4) (if sp_hd S 4 = sp_first S then -1 else sp_first S))) := by
  have ob := sp_ops_b hok
  have ol := sp_ord_len (S := S) (m := 4)
  have h19 := r_ok_19 hok
  refine am_e_ss 1 (q := (1, [(0, .inr (.inr (.inl (some k)))), (1, .inr (.inr (.inl (some 71)))), (2, .inr (.inr (.inl (some 85))))], [.inr (.inr (.inl (some k)))], (am_mm D I J ρ))) rfl ?_
  refine am_e_getfield (c := 2) (m := 3) (f := 2) rfl hsk rfl (by decide) (by decide) ?_
  show am_E _ _ _ 4 [(0, .inr (.inr (.inl (some k)))), (1, .inr (.inr (.inl (some 71)))), (2, .inr (.inr (.inl (some 85))))] [.inl ((I k 2))] (am_mm D I J ρ) _
  refine am_e_ss 1 (q := (5, [(0, .inr (.inr (.inl (some k)))), (1, .inr (.inr (.inl (some 71)))), (2, .inr (.inr (.inl (some 85))))], [.inr (.inr (.inl (some k))), .inl ((I k 2))], (am_mm D I J ρ))) rfl ?_
  refine am_e_getfield (c := 2) (m := 3) (f := 1) rfl hsk rfl (by decide) (by decide) ?_
  show am_E _ _ _ 8 [(0, .inr (.inr (.inl (some k)))), (1, .inr (.inr (.inl (some 71)))), (2, .inr (.inr (.inl (some 85))))] [.inl ((I k 1)), .inl ((I k 2))] (am_mm D I J ρ) _
  refine am_e_icmp2 rfl ⟨by omega, by omega⟩ ⟨by omega, by omega⟩ (fun (hw1 : (I k 2) = (I k 1)) => ?_) (fun (hw1 : ¬ ((I k 2) = (I k 1))) => ?_)
  · show am_E _ _ _ 34 [(0, .inr (.inr (.inl (some k)))), (1, .inr (.inr (.inl (some 71)))), (2, .inr (.inr (.inl (some 85))))] [] (am_mm D I J ρ) _
    refine am_e_ss 3 (q := (37, [(0, .inr (.inr (.inl (some k)))), (1, .inr (.inr (.inl (some 71)))), (2, .inr (.inr (.inl (some 85))))], [.inr (.inr (.inl (some 85))), .inr (.inr (.inl (some 71))), .inr (.inr (.inl (some k)))], (am_mm D I J ρ))) rfl ?_
    refine am_e_special (Q := fun r => ∃ Q114, r = (none, (am_mm D (am_wp (fun c _ => Nat.beq c 85) I Q114) J ρ)) ∧ am_rowl (Q114 85) 0 (sp_sayl (sp_ord S 4) (if sp_hd S 4 = sp_first S then -1 else sp_first S))) rfl rfl (Nat.le_of_ble_eq_true rfl) (am_kd_of hsk (by decide)) rfl (by decide) (Nat.le_of_ble_eq_true rfl) (Nat.le_of_ble_eq_true rfl) (m_say_p2_4 _ hsk hok hk124 hk1 h3 hO hm hfav ho) ?_
    rintro r ⟨Q114, rfl, hsu⟩
    show am_E _ _ _ 40 [(0, .inr (.inr (.inl (some k)))), (1, .inr (.inr (.inl (some 71)))), (2, .inr (.inr (.inl (some 85))))] [] (am_mm D (am_wp (fun c _ => Nat.beq c 85) I Q114) J ρ) _
    refine am_e_return rfl rfl ?_
    rw [if_neg (by omega)]
    exact ⟨_, am_r_wp (fun c _ => Nat.beq c 85) (am_k_wp am_k_sub (am_k_id)), hsu⟩
  · show am_E _ _ _ 11 [(0, .inr (.inr (.inl (some k)))), (1, .inr (.inr (.inl (some 71)))), (2, .inr (.inr (.inl (some 85))))] [] (am_mm D I J ρ) _
    refine am_e_ss 2 (q := (13, [(0, .inr (.inr (.inl (some k)))), (1, .inr (.inr (.inl (some 71)))), (2, .inr (.inr (.inl (some 85))))], [.inr (.inr (.inl (some k))), .inr (.inr (.inl (some 71)))], (am_mm D I J ρ))) rfl ?_
    refine am_e_getfield (c := 2) (m := 3) (f := 2) rfl hsk rfl (by decide) (by decide) ?_
    show am_E _ _ _ 16 [(0, .inr (.inr (.inl (some k)))), (1, .inr (.inr (.inl (some 71)))), (2, .inr (.inr (.inl (some 85))))] [.inl ((I k 2)), .inr (.inr (.inl (some 71)))] (am_mm D I J ρ) _
    refine am_e_virtual (Q := fun r => r = (some (.inl ((am_bi (v < (S 19).toNat ∧ S (7 + v) = 0)))), (am_mm D I J ρ))) rfl rfl (Nat.le_of_ble_eq_true rfl) rfl rfl (Nat.le_of_ble_eq_true rfl) (Nat.le_of_ble_eq_true rfl) (c_vIsHereI_2 _ (v := v) hk2 hok h71 h12 hhr (by omega)) ?_
    rintro r rfl
    show am_E _ _ _ 19 [(0, .inr (.inr (.inl (some k)))), (1, .inr (.inr (.inl (some 71)))), (2, .inr (.inr (.inl (some 85))))] [.inl ((am_bi (v < (S 19).toNat ∧ S (7 + v) = 0)))] (am_mm D I J ρ) _
    refine am_e_ifeq rfl (fun hw2 => ?_) (fun hw2 => ?_)
    · show am_E _ _ _ 34 [(0, .inr (.inr (.inl (some k)))), (1, .inr (.inr (.inl (some 71)))), (2, .inr (.inr (.inl (some 85))))] [] (am_mm D I J ρ) _
      refine am_e_ss 3 (q := (37, [(0, .inr (.inr (.inl (some k)))), (1, .inr (.inr (.inl (some 71)))), (2, .inr (.inr (.inl (some 85))))], [.inr (.inr (.inl (some 85))), .inr (.inr (.inl (some 71))), .inr (.inr (.inl (some k)))], (am_mm D I J ρ))) rfl ?_
      refine am_e_special (Q := fun r => ∃ Q115, r = (none, (am_mm D (am_wp (fun c _ => Nat.beq c 85) I Q115) J ρ)) ∧ am_rowl (Q115 85) 0 (sp_sayl (sp_ord S 4) (if sp_hd S 4 = sp_first S then -1 else sp_first S))) rfl rfl (Nat.le_of_ble_eq_true rfl) (am_kd_of hsk (by decide)) rfl (by decide) (Nat.le_of_ble_eq_true rfl) (Nat.le_of_ble_eq_true rfl) (m_say_p2_4 _ hsk hok hk124 hk1 h3 hO hm hfav ho) ?_
      rintro r ⟨Q115, rfl, hsu⟩
      show am_E _ _ _ 40 [(0, .inr (.inr (.inl (some k)))), (1, .inr (.inr (.inl (some 71)))), (2, .inr (.inr (.inl (some 85))))] [] (am_mm D (am_wp (fun c _ => Nat.beq c 85) I Q115) J ρ) _
      refine am_e_return rfl rfl ?_
      rw [if_neg (by omega)]
      exact ⟨_, am_r_wp (fun c _ => Nat.beq c 85) (am_k_wp am_k_sub (am_k_id)), hsu⟩
    · show am_E _ _ _ 22 [(0, .inr (.inr (.inl (some k)))), (1, .inr (.inr (.inl (some 71)))), (2, .inr (.inr (.inl (some 85))))] [] (am_mm D I J ρ) _
      refine am_e_ss 2 (q := (24, [(0, .inr (.inr (.inl (some k)))), (1, .inr (.inr (.inl (some 71)))), (2, .inr (.inr (.inl (some 85))))], [.inr (.inr (.inl (some k))), .inr (.inr (.inl (some 71)))], (am_mm D I J ρ))) rfl ?_
      refine am_e_getfield (c := 2) (m := 3) (f := 2) rfl hsk rfl (by decide) (by decide) ?_
      show am_E _ _ _ 27 [(0, .inr (.inr (.inl (some k)))), (1, .inr (.inr (.inl (some 71)))), (2, .inr (.inr (.inl (some 85))))] [.inl ((I k 2)), .inr (.inr (.inl (some 71)))] (am_mm D I J ρ) _
      refine am_e_ss 1 (q := (28, [(0, .inr (.inr (.inl (some k)))), (1, .inr (.inr (.inl (some 71)))), (2, .inr (.inr (.inl (some 85))))], [.inr (.inr (.inl (some 85))), .inl ((I k 2)), .inr (.inr (.inl (some 71)))], (am_mm D I J ρ))) rfl ?_
      refine am_e_virtual (Q := fun r => r = (none, (am_mm D (am_cpg I 85 0 (74 + v) 0 6) J ρ))) rfl rfl (Nat.le_of_ble_eq_true rfl) rfl rfl (Nat.le_of_ble_eq_true rfl) (Nat.le_of_ble_eq_true rfl) (c_putOrderI _ (a := v) (b := 4) hk2 (by omega) (by omega)) ?_
      rintro r rfl
      show am_E _ _ _ 31 [(0, .inr (.inr (.inl (some k)))), (1, .inr (.inr (.inl (some 71)))), (2, .inr (.inr (.inl (some 85))))] [] (am_mm D (am_cpg I 85 0 (74 + v) 0 6) J ρ) _
      refine am_e_ss 1 (q := (40, [(0, .inr (.inr (.inl (some k)))), (1, .inr (.inr (.inl (some 71)))), (2, .inr (.inr (.inl (some 85))))], [], (am_mm D (am_cpg I 85 0 (74 + v) 0 6) J ρ))) rfl ?_
      refine am_e_return rfl rfl ?_
      rw [if_pos (by omega)]
      exact ⟨_, am_r_wp (fun c _ => Nat.beq c 85) (am_k_cpg (fun _ => rfl) (am_k_id)), am_rowl_cpg (hO v (by omega)) (by have := sp_ord_len (S := S) (m := v); omega)⟩
theorem m_say_f69_4 {X : Nat × (Nat → Int)} {D : List (Nat × Nat)} {I J : Nat → Nat → Int} {ρ : Nat → Nat → Option Nat} (d : Nat) {k : Nat} (hsk : (am_S ++ D)[k]? = some (2, 3)) {S : Nat → Int} {B : Int} (hok : r_ok S B) (hk124 : 124 ≤ k) (hk1 : I k 1 = 4) (h3 : I 71 3 = sp_ops S) (hO : ∀ j, j < (S 19).toNat → am_rowl (I (74 + j)) 0 (sp_ord S j)) (hm : 4 < (S 19).toNat) (hfav : I 71 7 = sp_fav S) (ho : ¬ sp_ops S = 0) {v : Nat} (hk2 : I k 2 = (v : Int)) (hv9 : v ≤ 9) (h71 : ρ 71 1 = some 69) (h12 : I 1 2 = S 19) (hhr : I 69 1 = am_bits (sp_hp S) 6)  : am_E X (d + 3) 22 0 [(0, .inr (.inr (.inl (some k)))), (1, .inr (.inr (.inl (some 71)))), (2, .inr (.inr (.inl (some 85))))] [] (am_mm D I J ρ) (fun q => ∃ Q, q = (none, am_mm D (am_wp (fun c _ => Nat.beq c 85) I Q) J ρ) ∧ am_rowl (Q 85) 0 (if ¬ v = 4 ∧ v < (S 19).toNat ∧ S (7 + v) = 0 then sp_ord S v else sp_sayl (sp_ord S 4) (if sp_hd S 4 = sp_first S then -1 else sp_first S))) := by
  have ob := sp_ops_b hok
  have ol := sp_ord_len (S := S) (m := 4)
  have h19 := r_ok_19 hok
  refine am_e_ss 1 (q := (1, [(0, .inr (.inr (.inl (some k)))), (1, .inr (.inr (.inl (some 71)))), (2, .inr (.inr (.inl (some 85))))], [.inr (.inr (.inl (some k)))], (am_mm D I J ρ))) rfl ?_
  refine am_e_getfield (c := 2) (m := 3) (f := 2) rfl hsk rfl (by decide) (by decide) ?_
  show am_E _ _ _ 4 [(0, .inr (.inr (.inl (some k)))), (1, .inr (.inr (.inl (some 71)))), (2, .inr (.inr (.inl (some 85))))] [.inl ((I k 2))] (am_mm D I J ρ) _
  refine am_e_ss 1 (q := (5, [(0, .inr (.inr (.inl (some k)))), (1, .inr (.inr (.inl (some 71)))), (2, .inr (.inr (.inl (some 85))))], [.inr (.inr (.inl (some k))), .inl ((I k 2))], (am_mm D I J ρ))) rfl ?_
  refine am_e_getfield (c := 2) (m := 3) (f := 1) rfl hsk rfl (by decide) (by decide) ?_
  show am_E _ _ _ 8 [(0, .inr (.inr (.inl (some k)))), (1, .inr (.inr (.inl (some 71)))), (2, .inr (.inr (.inl (some 85))))] [.inl ((I k 1)), .inl ((I k 2))] (am_mm D I J ρ) _
  refine am_e_icmp2 rfl ⟨by omega, by omega⟩ ⟨by omega, by omega⟩ (fun (hw1 : (I k 2) = (I k 1)) => ?_) (fun (hw1 : ¬ ((I k 2) = (I k 1))) => ?_)
  · show am_E _ _ _ 34 [(0, .inr (.inr (.inl (some k)))), (1, .inr (.inr (.inl (some 71)))), (2, .inr (.inr (.inl (some 85))))] [] (am_mm D I J ρ) _
    refine am_e_ss 3 (q := (37, [(0, .inr (.inr (.inl (some k)))), (1, .inr (.inr (.inl (some 71)))), (2, .inr (.inr (.inl (some 85))))], [.inr (.inr (.inl (some 85))), .inr (.inr (.inl (some 71))), .inr (.inr (.inl (some k)))], (am_mm D I J ρ))) rfl ?_
    refine am_e_special (Q := fun r => ∃ Q116, r = (none, (am_mm D (am_wp (fun c _ => Nat.beq c 85) I Q116) J ρ)) ∧ am_rowl (Q116 85) 0 (sp_sayl (sp_ord S 4) (if sp_hd S 4 = sp_first S then -1 else sp_first S))) rfl rfl (Nat.le_of_ble_eq_true rfl) (am_kd_of hsk (by decide)) rfl (by decide) (Nat.le_of_ble_eq_true rfl) (Nat.le_of_ble_eq_true rfl) (m_say_p2_4 _ hsk hok hk124 hk1 h3 hO hm hfav ho) ?_
    rintro r ⟨Q116, rfl, hsu⟩
    show am_E _ _ _ 40 [(0, .inr (.inr (.inl (some k)))), (1, .inr (.inr (.inl (some 71)))), (2, .inr (.inr (.inl (some 85))))] [] (am_mm D (am_wp (fun c _ => Nat.beq c 85) I Q116) J ρ) _
    refine am_e_return rfl rfl ?_
    rw [if_neg (by omega)]
    exact ⟨_, am_r_wp (fun c _ => Nat.beq c 85) (am_k_wp am_k_sub (am_k_id)), hsu⟩
  · show am_E _ _ _ 11 [(0, .inr (.inr (.inl (some k)))), (1, .inr (.inr (.inl (some 71)))), (2, .inr (.inr (.inl (some 85))))] [] (am_mm D I J ρ) _
    refine am_e_ss 2 (q := (13, [(0, .inr (.inr (.inl (some k)))), (1, .inr (.inr (.inl (some 71)))), (2, .inr (.inr (.inl (some 85))))], [.inr (.inr (.inl (some k))), .inr (.inr (.inl (some 71)))], (am_mm D I J ρ))) rfl ?_
    refine am_e_getfield (c := 2) (m := 3) (f := 2) rfl hsk rfl (by decide) (by decide) ?_
    show am_E _ _ _ 16 [(0, .inr (.inr (.inl (some k)))), (1, .inr (.inr (.inl (some 71)))), (2, .inr (.inr (.inl (some 85))))] [.inl ((I k 2)), .inr (.inr (.inl (some 71)))] (am_mm D I J ρ) _
    refine am_e_virtual (Q := fun r => r = (some (.inl ((am_bi (v < (S 19).toNat ∧ S (7 + v) = 0)))), (am_mm D I J ρ))) rfl rfl (Nat.le_of_ble_eq_true rfl) rfl rfl (Nat.le_of_ble_eq_true rfl) (Nat.le_of_ble_eq_true rfl) (c_vIsHereI_69 _ (v := v) hk2 hok h71 h12 hhr (by omega)) ?_
    rintro r rfl
    show am_E _ _ _ 19 [(0, .inr (.inr (.inl (some k)))), (1, .inr (.inr (.inl (some 71)))), (2, .inr (.inr (.inl (some 85))))] [.inl ((am_bi (v < (S 19).toNat ∧ S (7 + v) = 0)))] (am_mm D I J ρ) _
    refine am_e_ifeq rfl (fun hw2 => ?_) (fun hw2 => ?_)
    · show am_E _ _ _ 34 [(0, .inr (.inr (.inl (some k)))), (1, .inr (.inr (.inl (some 71)))), (2, .inr (.inr (.inl (some 85))))] [] (am_mm D I J ρ) _
      refine am_e_ss 3 (q := (37, [(0, .inr (.inr (.inl (some k)))), (1, .inr (.inr (.inl (some 71)))), (2, .inr (.inr (.inl (some 85))))], [.inr (.inr (.inl (some 85))), .inr (.inr (.inl (some 71))), .inr (.inr (.inl (some k)))], (am_mm D I J ρ))) rfl ?_
      refine am_e_special (Q := fun r => ∃ Q117, r = (none, (am_mm D (am_wp (fun c _ => Nat.beq c 85) I Q117) J ρ)) ∧ am_rowl (Q117 85) 0 (sp_sayl (sp_ord S 4) (if sp_hd S 4 = sp_first S then -1 else sp_first S))) rfl rfl (Nat.le_of_ble_eq_true rfl) (am_kd_of hsk (by decide)) rfl (by decide) (Nat.le_of_ble_eq_true rfl) (Nat.le_of_ble_eq_true rfl) (m_say_p2_4 _ hsk hok hk124 hk1 h3 hO hm hfav ho) ?_
      rintro r ⟨Q117, rfl, hsu⟩
      show am_E _ _ _ 40 [(0, .inr (.inr (.inl (some k)))), (1, .inr (.inr (.inl (some 71)))), (2, .inr (.inr (.inl (some 85))))] [] (am_mm D (am_wp (fun c _ => Nat.beq c 85) I Q117) J ρ) _
      refine am_e_return rfl rfl ?_
      rw [if_neg (by omega)]
      exact ⟨_, am_r_wp (fun c _ => Nat.beq c 85) (am_k_wp am_k_sub (am_k_id)), hsu⟩
    · show am_E _ _ _ 22 [(0, .inr (.inr (.inl (some k)))), (1, .inr (.inr (.inl (some 71)))), (2, .inr (.inr (.inl (some 85))))] [] (am_mm D I J ρ) _
      refine am_e_ss 2 (q := (24, [(0, .inr (.inr (.inl (some k)))), (1, .inr (.inr (.inl (some 71)))), (2, .inr (.inr (.inl (some 85))))], [.inr (.inr (.inl (some k))), .inr (.inr (.inl (some 71)))], (am_mm D I J ρ))) rfl ?_
      refine am_e_getfield (c := 2) (m := 3) (f := 2) rfl hsk rfl (by decide) (by decide) ?_
      show am_E _ _ _ 27 [(0, .inr (.inr (.inl (some k)))), (1, .inr (.inr (.inl (some 71)))), (2, .inr (.inr (.inl (some 85))))] [.inl ((I k 2)), .inr (.inr (.inl (some 71)))] (am_mm D I J ρ) _
      refine am_e_ss 1 (q := (28, [(0, .inr (.inr (.inl (some k)))), (1, .inr (.inr (.inl (some 71)))), (2, .inr (.inr (.inl (some 85))))], [.inr (.inr (.inl (some 85))), .inl ((I k 2)), .inr (.inr (.inl (some 71)))], (am_mm D I J ρ))) rfl ?_
      refine am_e_virtual (Q := fun r => r = (none, (am_mm D (am_cpg I 85 0 (74 + v) 0 6) J ρ))) rfl rfl (Nat.le_of_ble_eq_true rfl) rfl rfl (Nat.le_of_ble_eq_true rfl) (Nat.le_of_ble_eq_true rfl) (c_putOrderI _ (a := v) (b := 4) hk2 (by omega) (by omega)) ?_
      rintro r rfl
      show am_E _ _ _ 31 [(0, .inr (.inr (.inl (some k)))), (1, .inr (.inr (.inl (some 71)))), (2, .inr (.inr (.inl (some 85))))] [] (am_mm D (am_cpg I 85 0 (74 + v) 0 6) J ρ) _
      refine am_e_ss 1 (q := (40, [(0, .inr (.inr (.inl (some k)))), (1, .inr (.inr (.inl (some 71)))), (2, .inr (.inr (.inl (some 85))))], [], (am_mm D (am_cpg I 85 0 (74 + v) 0 6) J ρ))) rfl ?_
      refine am_e_return rfl rfl ?_
      rw [if_pos (by omega)]
      exact ⟨_, am_r_wp (fun c _ => Nat.beq c 85) (am_k_cpg (fun _ => rfl) (am_k_id)), am_rowl_cpg (hO v (by omega)) (by have := sp_ord_len (S := S) (m := v); omega)⟩
theorem m_say_4_5 {X : Nat × (Nat → Int)} {D : List (Nat × Nat)} {I J : Nat → Nat → Int} {ρ : Nat → Nat → Option Nat} (d : Nat) {k : Nat} (hsk : (am_S ++ D)[k]? = some (4, 3)) {S : Nat → Int} {B : Int} (hok : r_ok S B) (hk124 : 124 ≤ k) (hk1 : I k 1 = 5) (h3 : I 71 3 = sp_ops S) (hO : ∀ j, j < (S 19).toNat → am_rowl (I (74 + j)) 0 (sp_ord S j)) (hm : 5 < (S 19).toNat)  : am_E X (d + 2) 37 0 [(0, .inr (.inr (.inl (some k)))), (1, .inr (.inr (.inl (some 71)))), (2, .inr (.inr (.inl (some 86))))] [] (am_mm D I J ρ) (fun q => ∃ Q, q = (none, am_mm D (am_wp (fun c _ => Nat.beq c 86) I Q) J ρ) ∧ am_rowl (Q 86) 0 (sp_ord S 5)) := by
  have ob := sp_ops_b hok
  have ol := sp_ord_len (S := S) (m := 5)
  refine am_e_ss 2 (q := (2, [(0, .inr (.inr (.inl (some k)))), (1, .inr (.inr (.inl (some 71)))), (2, .inr (.inr (.inl (some 86))))], [.inr (.inr (.inl (some k))), .inr (.inr (.inl (some 71)))], (am_mm D I J ρ))) rfl ?_
  refine am_e_getfield (c := 4) (m := 3) (f := 1) rfl hsk rfl (by decide) (by decide) ?_
  show am_E _ _ _ 5 [(0, .inr (.inr (.inl (some k)))), (1, .inr (.inr (.inl (some 71)))), (2, .inr (.inr (.inl (some 86))))] [.inl ((I k 1)), .inr (.inr (.inl (some 71)))] (am_mm D I J ρ) _
  refine am_e_ss 1 (q := (6, [(0, .inr (.inr (.inl (some k)))), (1, .inr (.inr (.inl (some 71)))), (2, .inr (.inr (.inl (some 86))))], [.inr (.inr (.inl (some 86))), .inl ((I k 1)), .inr (.inr (.inl (some 71)))], (am_mm D I J ρ))) rfl ?_
  refine am_e_virtual (Q := fun r => r = (none, (am_mm D (am_cpg I 86 0 (74 + 5) 0 6) J ρ))) rfl rfl (Nat.le_of_ble_eq_true rfl) rfl rfl (Nat.le_of_ble_eq_true rfl) (Nat.le_of_ble_eq_true rfl) (c_putOrderI _ (a := 5) (b := 5) (by omega) (by omega) (by omega)) ?_
  rintro r rfl
  show am_E _ _ _ 9 [(0, .inr (.inr (.inl (some k)))), (1, .inr (.inr (.inl (some 71)))), (2, .inr (.inr (.inl (some 86))))] [] (am_mm D (am_cpg I 86 0 (74 + 5) 0 6) J ρ) _
  refine am_e_return rfl rfl ?_
  exact ⟨_, am_r_wp (fun c _ => Nat.beq c 86) (am_k_cpg (fun _ => rfl) (am_k_id)), am_rowl_cpg (hO 5 hm) (by omega)⟩
theorem m_say_6_5 {X : Nat × (Nat → Int)} {D : List (Nat × Nat)} {I J : Nat → Nat → Int} {ρ : Nat → Nat → Option Nat} (d : Nat) {k : Nat} (hsk : (am_S ++ D)[k]? = some (6, 3)) {S : Nat → Int} {B : Int} (hok : r_ok S B) (hk124 : 124 ≤ k) (hk1 : I k 1 = 5) (h3 : I 71 3 = sp_ops S) (hO : ∀ j, j < (S 19).toNat → am_rowl (I (74 + j)) 0 (sp_ord S j)) (hm : 5 < (S 19).toNat)  : am_E X (d + 2) 37 0 [(0, .inr (.inr (.inl (some k)))), (1, .inr (.inr (.inl (some 71)))), (2, .inr (.inr (.inl (some 86))))] [] (am_mm D I J ρ) (fun q => ∃ Q, q = (none, am_mm D (am_wp (fun c _ => Nat.beq c 86) I Q) J ρ) ∧ am_rowl (Q 86) 0 (sp_ord S 5)) := by
  have ob := sp_ops_b hok
  have ol := sp_ord_len (S := S) (m := 5)
  refine am_e_ss 2 (q := (2, [(0, .inr (.inr (.inl (some k)))), (1, .inr (.inr (.inl (some 71)))), (2, .inr (.inr (.inl (some 86))))], [.inr (.inr (.inl (some k))), .inr (.inr (.inl (some 71)))], (am_mm D I J ρ))) rfl ?_
  refine am_e_getfield (c := 6) (m := 3) (f := 1) rfl hsk rfl (by decide) (by decide) ?_
  show am_E _ _ _ 5 [(0, .inr (.inr (.inl (some k)))), (1, .inr (.inr (.inl (some 71)))), (2, .inr (.inr (.inl (some 86))))] [.inl ((I k 1)), .inr (.inr (.inl (some 71)))] (am_mm D I J ρ) _
  refine am_e_ss 1 (q := (6, [(0, .inr (.inr (.inl (some k)))), (1, .inr (.inr (.inl (some 71)))), (2, .inr (.inr (.inl (some 86))))], [.inr (.inr (.inl (some 86))), .inl ((I k 1)), .inr (.inr (.inl (some 71)))], (am_mm D I J ρ))) rfl ?_
  refine am_e_virtual (Q := fun r => r = (none, (am_mm D (am_cpg I 86 0 (74 + 5) 0 6) J ρ))) rfl rfl (Nat.le_of_ble_eq_true rfl) rfl rfl (Nat.le_of_ble_eq_true rfl) (Nat.le_of_ble_eq_true rfl) (c_putOrderI _ (a := 5) (b := 5) (by omega) (by omega) (by omega)) ?_
  rintro r rfl
  show am_E _ _ _ 9 [(0, .inr (.inr (.inl (some k)))), (1, .inr (.inr (.inl (some 71)))), (2, .inr (.inr (.inl (some 86))))] [] (am_mm D (am_cpg I 86 0 (74 + 5) 0 6) J ρ) _
  refine am_e_return rfl rfl ?_
  exact ⟨_, am_r_wp (fun c _ => Nat.beq c 86) (am_k_cpg (fun _ => rfl) (am_k_id)), am_rowl_cpg (hO 5 hm) (by omega)⟩
theorem m_say_8_5 {X : Nat × (Nat → Int)} {D : List (Nat × Nat)} {I J : Nat → Nat → Int} {ρ : Nat → Nat → Option Nat} (d : Nat) {k : Nat} (hsk : (am_S ++ D)[k]? = some (8, 3)) {S : Nat → Int} {B : Int} (hok : r_ok S B) (hk124 : 124 ≤ k) (hk1 : I k 1 = 5) (h3 : I 71 3 = sp_ops S) (hO : ∀ j, j < (S 19).toNat → am_rowl (I (74 + j)) 0 (sp_ord S j)) (hm : 5 < (S 19).toNat)  : am_E X (d + 2) 37 0 [(0, .inr (.inr (.inl (some k)))), (1, .inr (.inr (.inl (some 71)))), (2, .inr (.inr (.inl (some 86))))] [] (am_mm D I J ρ) (fun q => ∃ Q, q = (none, am_mm D (am_wp (fun c _ => Nat.beq c 86) I Q) J ρ) ∧ am_rowl (Q 86) 0 (sp_ord S 5)) := by
  have ob := sp_ops_b hok
  have ol := sp_ord_len (S := S) (m := 5)
  refine am_e_ss 2 (q := (2, [(0, .inr (.inr (.inl (some k)))), (1, .inr (.inr (.inl (some 71)))), (2, .inr (.inr (.inl (some 86))))], [.inr (.inr (.inl (some k))), .inr (.inr (.inl (some 71)))], (am_mm D I J ρ))) rfl ?_
  refine am_e_getfield (c := 8) (m := 3) (f := 1) rfl hsk rfl (by decide) (by decide) ?_
  show am_E _ _ _ 5 [(0, .inr (.inr (.inl (some k)))), (1, .inr (.inr (.inl (some 71)))), (2, .inr (.inr (.inl (some 86))))] [.inl ((I k 1)), .inr (.inr (.inl (some 71)))] (am_mm D I J ρ) _
  refine am_e_ss 1 (q := (6, [(0, .inr (.inr (.inl (some k)))), (1, .inr (.inr (.inl (some 71)))), (2, .inr (.inr (.inl (some 86))))], [.inr (.inr (.inl (some 86))), .inl ((I k 1)), .inr (.inr (.inl (some 71)))], (am_mm D I J ρ))) rfl ?_
  refine am_e_virtual (Q := fun r => r = (none, (am_mm D (am_cpg I 86 0 (74 + 5) 0 6) J ρ))) rfl rfl (Nat.le_of_ble_eq_true rfl) rfl rfl (Nat.le_of_ble_eq_true rfl) (Nat.le_of_ble_eq_true rfl) (c_putOrderI _ (a := 5) (b := 5) (by omega) (by omega) (by omega)) ?_
  rintro r rfl
  show am_E _ _ _ 9 [(0, .inr (.inr (.inl (some k)))), (1, .inr (.inr (.inl (some 71)))), (2, .inr (.inr (.inl (some 86))))] [] (am_mm D (am_cpg I 86 0 (74 + 5) 0 6) J ρ) _
  refine am_e_return rfl rfl ?_
  exact ⟨_, am_r_wp (fun c _ => Nat.beq c 86) (am_k_cpg (fun _ => rfl) (am_k_id)), am_rowl_cpg (hO 5 hm) (by omega)⟩
theorem m_say_0_5 {X : Nat × (Nat → Int)} {D : List (Nat × Nat)} {I J : Nat → Nat → Int} {ρ : Nat → Nat → Option Nat} (d : Nat) {k : Nat} (hsk : (am_S ++ D)[k]? = some (0, 3)) {S : Nat → Int} {B : Int} (hok : r_ok S B) (hk124 : 124 ≤ k) (hk1 : I k 1 = 5) (h3 : I 71 3 = sp_ops S) (hO : ∀ j, j < (S 19).toNat → am_rowl (I (74 + j)) 0 (sp_ord S j)) (hm : 5 < (S 19).toNat)  : am_E X (d + 2) 37 0 [(0, .inr (.inr (.inl (some k)))), (1, .inr (.inr (.inl (some 71)))), (2, .inr (.inr (.inl (some 86))))] [] (am_mm D I J ρ) (fun q => ∃ Q, q = (none, am_mm D (am_wp (fun c _ => Nat.beq c 86) I Q) J ρ) ∧ am_rowl (Q 86) 0 (sp_ord S 5)) := by
  have ob := sp_ops_b hok
  have ol := sp_ord_len (S := S) (m := 5)
  refine am_e_ss 2 (q := (2, [(0, .inr (.inr (.inl (some k)))), (1, .inr (.inr (.inl (some 71)))), (2, .inr (.inr (.inl (some 86))))], [.inr (.inr (.inl (some k))), .inr (.inr (.inl (some 71)))], (am_mm D I J ρ))) rfl ?_
  refine am_e_getfield (c := 0) (m := 3) (f := 1) rfl hsk rfl (by decide) (by decide) ?_
  show am_E _ _ _ 5 [(0, .inr (.inr (.inl (some k)))), (1, .inr (.inr (.inl (some 71)))), (2, .inr (.inr (.inl (some 86))))] [.inl ((I k 1)), .inr (.inr (.inl (some 71)))] (am_mm D I J ρ) _
  refine am_e_ss 1 (q := (6, [(0, .inr (.inr (.inl (some k)))), (1, .inr (.inr (.inl (some 71)))), (2, .inr (.inr (.inl (some 86))))], [.inr (.inr (.inl (some 86))), .inl ((I k 1)), .inr (.inr (.inl (some 71)))], (am_mm D I J ρ))) rfl ?_
  refine am_e_virtual (Q := fun r => r = (none, (am_mm D (am_cpg I 86 0 (74 + 5) 0 6) J ρ))) rfl rfl (Nat.le_of_ble_eq_true rfl) rfl rfl (Nat.le_of_ble_eq_true rfl) (Nat.le_of_ble_eq_true rfl) (c_putOrderI _ (a := 5) (b := 5) (by omega) (by omega) (by omega)) ?_
  rintro r rfl
  show am_E _ _ _ 9 [(0, .inr (.inr (.inl (some k)))), (1, .inr (.inr (.inl (some 71)))), (2, .inr (.inr (.inl (some 86))))] [] (am_mm D (am_cpg I 86 0 (74 + 5) 0 6) J ρ) _
  refine am_e_return rfl rfl ?_
  exact ⟨_, am_r_wp (fun c _ => Nat.beq c 86) (am_k_cpg (fun _ => rfl) (am_k_id)), am_rowl_cpg (hO 5 hm) (by omega)⟩
theorem m_say_p5_5 {X : Nat × (Nat → Int)} {D : List (Nat × Nat)} {I J : Nat → Nat → Int} {ρ : Nat → Nat → Option Nat} (d : Nat) {k : Nat} (hsk : (am_S ++ D)[k]? = some (5, 3)) {S : Nat → Int} {B : Int} (hok : r_ok S B) (hk124 : 124 ≤ k) (hk1 : I k 1 = 5) (h3 : I 71 3 = sp_ops S) (hO : ∀ j, j < (S 19).toNat → am_rowl (I (74 + j)) 0 (sp_ord S j)) (hm : 5 < (S 19).toNat) (hfav : I 71 7 = sp_fav S) (ho : ¬ sp_ops S = 0)  : am_E X (d + 2) 43 0 [(0, .inr (.inr (.inl (some k)))), (1, .inr (.inr (.inl (some 71)))), (2, .inr (.inr (.inl (some 86))))] [] (am_mm D I J ρ) (fun q => ∃ Q, q = (none, am_mm D (am_wp (fun c _ => Nat.beq c 86) I Q) J ρ) ∧ am_rowl (Q 86) 0 (sp_sayl (sp_ord S 5) (if sp_hd S 5 = sp_first S then -1 else sp_first S))) := by
  have ob := sp_ops_b hok
  have ol := sp_ord_len (S := S) (m := 5)
  have fe := sp_fav_eq ho
  have fb := sp_first_b hok
  have hdb := sp_hd_b hok 5
  have hrd := hO 5 hm
  have hd0 : I (74 + 5) 0 = sp_hd S 5 := by
    unfold sp_hd
    cases hL : sp_ord S 5 with
    | nil => rw [hL] at ol; exact absurd (show (0 : Int) = sp_ops S from ol).symm ho
    | cons a r => rw [hL] at hrd; exact am_rowl_h hrd
  refine am_e_ss 2 (q := (2, [(0, .inr (.inr (.inl (some k)))), (1, .inr (.inr (.inl (some 71)))), (2, .inr (.inr (.inl (some 86))))], [.inr (.inr (.inl (some k))), .inr (.inr (.inl (some 71)))], (am_mm D I J ρ))) rfl ?_
  refine am_e_getfield (c := 5) (m := 3) (f := 1) rfl hsk rfl (by decide) (by decide) ?_
  show am_E _ _ _ 5 [(0, .inr (.inr (.inl (some k)))), (1, .inr (.inr (.inl (some 71)))), (2, .inr (.inr (.inl (some 86))))] [.inl ((I k 1)), .inr (.inr (.inl (some 71)))] (am_mm D I J ρ) _
  refine am_e_ss 1 (q := (6, [(0, .inr (.inr (.inl (some k)))), (1, .inr (.inr (.inl (some 71)))), (2, .inr (.inr (.inl (some 86))))], [.inr (.inr (.inl (some 86))), .inl ((I k 1)), .inr (.inr (.inl (some 71)))], (am_mm D I J ρ))) rfl ?_
  refine am_e_virtual (Q := fun r => r = (none, (am_mm D (am_cpg I 86 0 (74 + 5) 0 6) J ρ))) rfl rfl (Nat.le_of_ble_eq_true rfl) rfl rfl (Nat.le_of_ble_eq_true rfl) (Nat.le_of_ble_eq_true rfl) (c_putOrderI _ (a := 5) (b := 5) (by omega) (by omega) (by omega)) ?_
  rintro r rfl
  show am_E _ _ _ 9 [(0, .inr (.inr (.inl (some k)))), (1, .inr (.inr (.inl (some 71)))), (2, .inr (.inr (.inl (some 86))))] [] (am_mm D (am_cpg I 86 0 (74 + 5) 0 6) J ρ) _
  refine am_e_ss 3 (q := (12, [(0, .inr (.inr (.inl (some k)))), (1, .inr (.inr (.inl (some 71)))), (2, .inr (.inr (.inl (some 86))))], [.inl (((am_cpg I 86 0 (74 + 5) 0 6) 86 0))], (am_mm D (am_cpg I 86 0 (74 + 5) 0 6) J ρ))) rfl ?_
  have hr0 : ((am_cpg I 86 0 (74 + 5) 0 6) 86 0) = sp_hd S 5 := (if_pos ⟨rfl, by decide, by decide⟩).trans hd0
  refine am_e_ss 2 (q := (16, [(0, .inr (.inr (.inl (some k)))), (1, .inr (.inr (.inl (some 71)))), (2, .inr (.inr (.inl (some 86))))], [.inl ((I 71 7)), .inl (((am_cpg I 86 0 (74 + 5) 0 6) 86 0))], (am_mm D (am_cpg I 86 0 (74 + 5) 0 6) J ρ))) rfl ?_
  refine am_e_icmp2 rfl ⟨by omega, by omega⟩ ⟨by omega, by omega⟩ (fun (hw1 : ((am_cpg I 86 0 (74 + 5) 0 6) 86 0) = (I 71 7)) => ?_) (fun (hw1 : ¬ (((am_cpg I 86 0 (74 + 5) 0 6) 86 0) = (I 71 7))) => ?_)
  · show am_E _ _ _ 28 [(0, .inr (.inr (.inl (some k)))), (1, .inr (.inr (.inl (some 71)))), (2, .inr (.inr (.inl (some 86))))] [] (am_mm D (am_cpg I 86 0 (74 + 5) 0 6) J ρ) _
    refine am_e_return rfl rfl ?_
    have eL : sp_sayl (sp_ord S 5) (if sp_hd S 5 = sp_first S then -1 else sp_first S) = sp_ord S 5 := by
      rw [if_pos (by omega)]
      exact sp_sayl_no (fun x hx => by omega)
    rw [eL]
    exact ⟨_, am_r_wp (fun c _ => Nat.beq c 86) (am_k_cpg (fun _ => rfl) (am_k_id)), am_rowl_cpg (hO 5 hm) (by omega)⟩
  · show am_E _ _ _ 19 [(0, .inr (.inr (.inl (some k)))), (1, .inr (.inr (.inl (some 71)))), (2, .inr (.inr (.inl (some 86))))] [] (am_mm D (am_cpg I 86 0 (74 + 5) 0 6) J ρ) _
    refine am_e_ss 4 (q := (25, [(0, .inr (.inr (.inl (some k)))), (1, .inr (.inr (.inl (some 71)))), (2, .inr (.inr (.inl (some 86))))], [.inr (.inr (.inl (some 86))), .inl ((I 71 7)), .inr (.inr (.inl (some 71)))], (am_mm D (am_cpg I 86 0 (74 + 5) 0 6) J ρ))) rfl ?_
    refine am_e_virtual (Q := fun r => ∃ Q118, r = (none, (am_mm D (am_wp (fun c _ => Nat.beq c 86) (am_cpg I 86 0 (74 + 5) 0 6) Q118) J ρ)) ∧ am_rowl (Q118 86) 0 (sp_bub (I 71 7) (sp_ord S 5))) rfl rfl (Nat.le_of_ble_eq_true rfl) rfl rfl (Nat.le_of_ble_eq_true rfl) (Nat.le_of_ble_eq_true rfl) (c_putLast_5 _ (z := (I 71 7)) (L := sp_ord S 5) ⟨by omega, by omega⟩ (show I 71 3 = _ by omega) (by omega) (fun x hx => by have := sp_ord_mem.mp hx; have := (r_ok_19 hok).2; omega) (am_rowl_cpg (hO 5 hm) (by omega))) ?_
    rintro r ⟨Q118, rfl, hpl⟩
    show am_E _ _ _ 28 [(0, .inr (.inr (.inl (some k)))), (1, .inr (.inr (.inl (some 71)))), (2, .inr (.inr (.inl (some 86))))] [] (am_mm D (am_wp (fun c _ => Nat.beq c 86) (am_cpg I 86 0 (74 + 5) 0 6) Q118) J ρ) _
    refine am_e_return rfl rfl ?_
    have eL : sp_sayl (sp_ord S 5) (if sp_hd S 5 = sp_first S then -1 else sp_first S) = sp_bub (I 71 7) (sp_ord S 5) := by
      rw [if_neg (by omega), sp_bub_say sp_ord_nd, hfav, fe]
    rw [eL]
    exact ⟨_, am_r_wp (fun c _ => Nat.beq c 86) (am_k_wp am_k_sub (am_k_cpg (fun _ => rfl) (am_k_id))), hpl⟩
theorem m_say_p2_5 {X : Nat × (Nat → Int)} {D : List (Nat × Nat)} {I J : Nat → Nat → Int} {ρ : Nat → Nat → Option Nat} (d : Nat) {k : Nat} (hsk : (am_S ++ D)[k]? = some (2, 3)) {S : Nat → Int} {B : Int} (hok : r_ok S B) (hk124 : 124 ≤ k) (hk1 : I k 1 = 5) (h3 : I 71 3 = sp_ops S) (hO : ∀ j, j < (S 19).toNat → am_rowl (I (74 + j)) 0 (sp_ord S j)) (hm : 5 < (S 19).toNat) (hfav : I 71 7 = sp_fav S) (ho : ¬ sp_ops S = 0)  : am_E X (d + 2) 43 0 [(0, .inr (.inr (.inl (some k)))), (1, .inr (.inr (.inl (some 71)))), (2, .inr (.inr (.inl (some 86))))] [] (am_mm D I J ρ) (fun q => ∃ Q, q = (none, am_mm D (am_wp (fun c _ => Nat.beq c 86) I Q) J ρ) ∧ am_rowl (Q 86) 0 (sp_sayl (sp_ord S 5) (if sp_hd S 5 = sp_first S then -1 else sp_first S))) := by
  have ob := sp_ops_b hok
  have ol := sp_ord_len (S := S) (m := 5)
  have fe := sp_fav_eq ho
  have fb := sp_first_b hok
  have hdb := sp_hd_b hok 5
  have hrd := hO 5 hm
  have hd0 : I (74 + 5) 0 = sp_hd S 5 := by
    unfold sp_hd
    cases hL : sp_ord S 5 with
    | nil => rw [hL] at ol; exact absurd (show (0 : Int) = sp_ops S from ol).symm ho
    | cons a r => rw [hL] at hrd; exact am_rowl_h hrd
  refine am_e_ss 2 (q := (2, [(0, .inr (.inr (.inl (some k)))), (1, .inr (.inr (.inl (some 71)))), (2, .inr (.inr (.inl (some 86))))], [.inr (.inr (.inl (some k))), .inr (.inr (.inl (some 71)))], (am_mm D I J ρ))) rfl ?_
  refine am_e_getfield (c := 2) (m := 3) (f := 1) rfl hsk rfl (by decide) (by decide) ?_
  show am_E _ _ _ 5 [(0, .inr (.inr (.inl (some k)))), (1, .inr (.inr (.inl (some 71)))), (2, .inr (.inr (.inl (some 86))))] [.inl ((I k 1)), .inr (.inr (.inl (some 71)))] (am_mm D I J ρ) _
  refine am_e_ss 1 (q := (6, [(0, .inr (.inr (.inl (some k)))), (1, .inr (.inr (.inl (some 71)))), (2, .inr (.inr (.inl (some 86))))], [.inr (.inr (.inl (some 86))), .inl ((I k 1)), .inr (.inr (.inl (some 71)))], (am_mm D I J ρ))) rfl ?_
  refine am_e_virtual (Q := fun r => r = (none, (am_mm D (am_cpg I 86 0 (74 + 5) 0 6) J ρ))) rfl rfl (Nat.le_of_ble_eq_true rfl) rfl rfl (Nat.le_of_ble_eq_true rfl) (Nat.le_of_ble_eq_true rfl) (c_putOrderI _ (a := 5) (b := 5) (by omega) (by omega) (by omega)) ?_
  rintro r rfl
  show am_E _ _ _ 9 [(0, .inr (.inr (.inl (some k)))), (1, .inr (.inr (.inl (some 71)))), (2, .inr (.inr (.inl (some 86))))] [] (am_mm D (am_cpg I 86 0 (74 + 5) 0 6) J ρ) _
  refine am_e_ss 3 (q := (12, [(0, .inr (.inr (.inl (some k)))), (1, .inr (.inr (.inl (some 71)))), (2, .inr (.inr (.inl (some 86))))], [.inl (((am_cpg I 86 0 (74 + 5) 0 6) 86 0))], (am_mm D (am_cpg I 86 0 (74 + 5) 0 6) J ρ))) rfl ?_
  have hr0 : ((am_cpg I 86 0 (74 + 5) 0 6) 86 0) = sp_hd S 5 := (if_pos ⟨rfl, by decide, by decide⟩).trans hd0
  refine am_e_ss 2 (q := (16, [(0, .inr (.inr (.inl (some k)))), (1, .inr (.inr (.inl (some 71)))), (2, .inr (.inr (.inl (some 86))))], [.inl ((I 71 7)), .inl (((am_cpg I 86 0 (74 + 5) 0 6) 86 0))], (am_mm D (am_cpg I 86 0 (74 + 5) 0 6) J ρ))) rfl ?_
  refine am_e_icmp2 rfl ⟨by omega, by omega⟩ ⟨by omega, by omega⟩ (fun (hw1 : ((am_cpg I 86 0 (74 + 5) 0 6) 86 0) = (I 71 7)) => ?_) (fun (hw1 : ¬ (((am_cpg I 86 0 (74 + 5) 0 6) 86 0) = (I 71 7))) => ?_)
  · show am_E _ _ _ 28 [(0, .inr (.inr (.inl (some k)))), (1, .inr (.inr (.inl (some 71)))), (2, .inr (.inr (.inl (some 86))))] [] (am_mm D (am_cpg I 86 0 (74 + 5) 0 6) J ρ) _
    refine am_e_return rfl rfl ?_
    have eL : sp_sayl (sp_ord S 5) (if sp_hd S 5 = sp_first S then -1 else sp_first S) = sp_ord S 5 := by
      rw [if_pos (by omega)]
      exact sp_sayl_no (fun x hx => by omega)
    rw [eL]
    exact ⟨_, am_r_wp (fun c _ => Nat.beq c 86) (am_k_cpg (fun _ => rfl) (am_k_id)), am_rowl_cpg (hO 5 hm) (by omega)⟩
  · show am_E _ _ _ 19 [(0, .inr (.inr (.inl (some k)))), (1, .inr (.inr (.inl (some 71)))), (2, .inr (.inr (.inl (some 86))))] [] (am_mm D (am_cpg I 86 0 (74 + 5) 0 6) J ρ) _
    refine am_e_ss 4 (q := (25, [(0, .inr (.inr (.inl (some k)))), (1, .inr (.inr (.inl (some 71)))), (2, .inr (.inr (.inl (some 86))))], [.inr (.inr (.inl (some 86))), .inl ((I 71 7)), .inr (.inr (.inl (some 71)))], (am_mm D (am_cpg I 86 0 (74 + 5) 0 6) J ρ))) rfl ?_
    refine am_e_virtual (Q := fun r => ∃ Q119, r = (none, (am_mm D (am_wp (fun c _ => Nat.beq c 86) (am_cpg I 86 0 (74 + 5) 0 6) Q119) J ρ)) ∧ am_rowl (Q119 86) 0 (sp_bub (I 71 7) (sp_ord S 5))) rfl rfl (Nat.le_of_ble_eq_true rfl) rfl rfl (Nat.le_of_ble_eq_true rfl) (Nat.le_of_ble_eq_true rfl) (c_putLast_5 _ (z := (I 71 7)) (L := sp_ord S 5) ⟨by omega, by omega⟩ (show I 71 3 = _ by omega) (by omega) (fun x hx => by have := sp_ord_mem.mp hx; have := (r_ok_19 hok).2; omega) (am_rowl_cpg (hO 5 hm) (by omega))) ?_
    rintro r ⟨Q119, rfl, hpl⟩
    show am_E _ _ _ 28 [(0, .inr (.inr (.inl (some k)))), (1, .inr (.inr (.inl (some 71)))), (2, .inr (.inr (.inl (some 86))))] [] (am_mm D (am_wp (fun c _ => Nat.beq c 86) (am_cpg I 86 0 (74 + 5) 0 6) Q119) J ρ) _
    refine am_e_return rfl rfl ?_
    have eL : sp_sayl (sp_ord S 5) (if sp_hd S 5 = sp_first S then -1 else sp_first S) = sp_bub (I 71 7) (sp_ord S 5) := by
      rw [if_neg (by omega), sp_bub_say sp_ord_nd, hfav, fe]
    rw [eL]
    exact ⟨_, am_r_wp (fun c _ => Nat.beq c 86) (am_k_wp am_k_sub (am_k_cpg (fun _ => rfl) (am_k_id))), hpl⟩
theorem m_say_9_5 {X : Nat × (Nat → Int)} {D : List (Nat × Nat)} {I J : Nat → Nat → Int} {ρ : Nat → Nat → Option Nat} (d : Nat) {k : Nat} (hsk : (am_S ++ D)[k]? = some (9, 3)) {S : Nat → Int} {B : Int} (hok : r_ok S B) (hk124 : 124 ≤ k) (hk1 : I k 1 = 5) (h3 : I 71 3 = sp_ops S) (hO : ∀ j, j < (S 19).toNat → am_rowl (I (74 + j)) 0 (sp_ord S j)) (hm : 5 < (S 19).toNat) {v : Nat} (hk2 : I k 2 = (v : Int)) (hv9 : v ≤ 9)  : am_E X (d + 2) 62 0 [(0, .inr (.inr (.inl (some k)))), (1, .inr (.inr (.inl (some 71)))), (2, .inr (.inr (.inl (some 86))))] [] (am_mm D I J ρ) (fun q => ∃ Q, q = (none, am_mm D (am_wp (fun c _ => Nat.beq c 86) I Q) J ρ) ∧ am_rowl (Q 86) 0 (sp_sayl (sp_ord S 5) (v : Int))) := by
  have ob := sp_ops_b hok
  have ol := sp_ord_len (S := S) (m := 5)
  refine am_e_ss 2 (q := (2, [(0, .inr (.inr (.inl (some k)))), (1, .inr (.inr (.inl (some 71)))), (2, .inr (.inr (.inl (some 86))))], [.inr (.inr (.inl (some k))), .inr (.inr (.inl (some 71)))], (am_mm D I J ρ))) rfl ?_
  refine am_e_getfield (c := 9) (m := 3) (f := 1) rfl hsk rfl (by decide) (by decide) ?_
  show am_E _ _ _ 5 [(0, .inr (.inr (.inl (some k)))), (1, .inr (.inr (.inl (some 71)))), (2, .inr (.inr (.inl (some 86))))] [.inl ((I k 1)), .inr (.inr (.inl (some 71)))] (am_mm D I J ρ) _
  refine am_e_ss 1 (q := (6, [(0, .inr (.inr (.inl (some k)))), (1, .inr (.inr (.inl (some 71)))), (2, .inr (.inr (.inl (some 86))))], [.inr (.inr (.inl (some 86))), .inl ((I k 1)), .inr (.inr (.inl (some 71)))], (am_mm D I J ρ))) rfl ?_
  refine am_e_virtual (Q := fun r => r = (none, (am_mm D (am_cpg I 86 0 (74 + 5) 0 6) J ρ))) rfl rfl (Nat.le_of_ble_eq_true rfl) rfl rfl (Nat.le_of_ble_eq_true rfl) (Nat.le_of_ble_eq_true rfl) (c_putOrderI _ (a := 5) (b := 5) (by omega) (by omega) (by omega)) ?_
  rintro r rfl
  show am_E _ _ _ 9 [(0, .inr (.inr (.inl (some k)))), (1, .inr (.inr (.inl (some 71)))), (2, .inr (.inr (.inl (some 86))))] [] (am_mm D (am_cpg I 86 0 (74 + 5) 0 6) J ρ) _
  refine am_e_ss 2 (q := (11, [(0, .inr (.inr (.inl (some k)))), (1, .inr (.inr (.inl (some 71)))), (2, .inr (.inr (.inl (some 86))))], [.inr (.inr (.inl (some k))), .inr (.inr (.inl (some 71)))], (am_mm D (am_cpg I 86 0 (74 + 5) 0 6) J ρ))) rfl ?_
  refine am_e_getfield (c := 9) (m := 3) (f := 2) rfl hsk rfl (by decide) (by decide) ?_
  show am_E _ _ _ 14 [(0, .inr (.inr (.inl (some k)))), (1, .inr (.inr (.inl (some 71)))), (2, .inr (.inr (.inl (some 86))))] [.inl (((am_cpg I 86 0 (74 + 5) 0 6) k 2)), .inr (.inr (.inl (some 71)))] (am_mm D (am_cpg I 86 0 (74 + 5) 0 6) J ρ) _
  have hvv : ((am_cpg I 86 0 (74 + 5) 0 6) k 2) = (v : Int) := (if_neg (by omega)).trans hk2
  refine am_e_ss 1 (q := (15, [(0, .inr (.inr (.inl (some k)))), (1, .inr (.inr (.inl (some 71)))), (2, .inr (.inr (.inl (some 86))))], [.inr (.inr (.inl (some 86))), .inl (((am_cpg I 86 0 (74 + 5) 0 6) k 2)), .inr (.inr (.inl (some 71)))], (am_mm D (am_cpg I 86 0 (74 + 5) 0 6) J ρ))) rfl ?_
  refine am_e_virtual (Q := fun r => ∃ Q120, r = (none, (am_mm D (am_wp (fun c _ => Nat.beq c 86) (am_cpg I 86 0 (74 + 5) 0 6) Q120) J ρ)) ∧ am_rowl (Q120 86) 0 (sp_bub ((am_cpg I 86 0 (74 + 5) 0 6) k 2) (sp_ord S 5))) rfl rfl (Nat.le_of_ble_eq_true rfl) rfl rfl (Nat.le_of_ble_eq_true rfl) (Nat.le_of_ble_eq_true rfl) (c_putLast_5 _ (z := ((am_cpg I 86 0 (74 + 5) 0 6) k 2)) (L := sp_ord S 5) ⟨by omega, by omega⟩ (show I 71 3 = _ by omega) (by omega) (fun x hx => by have := sp_ord_mem.mp hx; have := (r_ok_19 hok).2; omega) (am_rowl_cpg (hO 5 hm) (by omega))) ?_
  rintro r ⟨Q120, rfl, hpl⟩
  show am_E _ _ _ 18 [(0, .inr (.inr (.inl (some k)))), (1, .inr (.inr (.inl (some 71)))), (2, .inr (.inr (.inl (some 86))))] [] (am_mm D (am_wp (fun c _ => Nat.beq c 86) (am_cpg I 86 0 (74 + 5) 0 6) Q120) J ρ) _
  refine am_e_return rfl rfl ?_
  rw [hvv, sp_bub_say sp_ord_nd] at hpl
  exact ⟨_, am_r_wp (fun c _ => Nat.beq c 86) (am_k_wp am_k_sub (am_k_cpg (fun _ => rfl) (am_k_id))), hpl⟩
theorem m_say_f2_5 {X : Nat × (Nat → Int)} {D : List (Nat × Nat)} {I J : Nat → Nat → Int} {ρ : Nat → Nat → Option Nat} (d : Nat) {k : Nat} (hsk : (am_S ++ D)[k]? = some (2, 3)) {S : Nat → Int} {B : Int} (hok : r_ok S B) (hk124 : 124 ≤ k) (hk1 : I k 1 = 5) (h3 : I 71 3 = sp_ops S) (hO : ∀ j, j < (S 19).toNat → am_rowl (I (74 + j)) 0 (sp_ord S j)) (hm : 5 < (S 19).toNat) (hfav : I 71 7 = sp_fav S) (ho : ¬ sp_ops S = 0) {v : Nat} (hk2 : I k 2 = (v : Int)) (hv9 : v ≤ 9) (h71 : ρ 71 1 = some 2) (h12 : I 1 2 = S 19) (hhr : I 2 1 = am_bits (sp_hp S) 6)  : am_E X (d + 3) 22 0 [(0, .inr (.inr (.inl (some k)))), (1, .inr (.inr (.inl (some 71)))), (2, .inr (.inr (.inl (some 86))))] [] (am_mm D I J ρ) (fun q => ∃ Q, q = (none, am_mm D (am_wp (fun c _ => Nat.beq c 86) I Q) J ρ) ∧ am_rowl (Q 86) 0 (if ¬ v = 5 ∧ v < (S 19).toNat ∧ S (7 + v) = 0 then sp_ord S v else sp_sayl (sp_ord S 5) (if sp_hd S 5 = sp_first S then -1 else sp_first S))) := by
  have ob := sp_ops_b hok
  have ol := sp_ord_len (S := S) (m := 5)
  have h19 := r_ok_19 hok
  refine am_e_ss 1 (q := (1, [(0, .inr (.inr (.inl (some k)))), (1, .inr (.inr (.inl (some 71)))), (2, .inr (.inr (.inl (some 86))))], [.inr (.inr (.inl (some k)))], (am_mm D I J ρ))) rfl ?_
  refine am_e_getfield (c := 2) (m := 3) (f := 2) rfl hsk rfl (by decide) (by decide) ?_
  show am_E _ _ _ 4 [(0, .inr (.inr (.inl (some k)))), (1, .inr (.inr (.inl (some 71)))), (2, .inr (.inr (.inl (some 86))))] [.inl ((I k 2))] (am_mm D I J ρ) _
  refine am_e_ss 1 (q := (5, [(0, .inr (.inr (.inl (some k)))), (1, .inr (.inr (.inl (some 71)))), (2, .inr (.inr (.inl (some 86))))], [.inr (.inr (.inl (some k))), .inl ((I k 2))], (am_mm D I J ρ))) rfl ?_
  refine am_e_getfield (c := 2) (m := 3) (f := 1) rfl hsk rfl (by decide) (by decide) ?_
  show am_E _ _ _ 8 [(0, .inr (.inr (.inl (some k)))), (1, .inr (.inr (.inl (some 71)))), (2, .inr (.inr (.inl (some 86))))] [.inl ((I k 1)), .inl ((I k 2))] (am_mm D I J ρ) _
  refine am_e_icmp2 rfl ⟨by omega, by omega⟩ ⟨by omega, by omega⟩ (fun (hw1 : (I k 2) = (I k 1)) => ?_) (fun (hw1 : ¬ ((I k 2) = (I k 1))) => ?_)
  · show am_E _ _ _ 34 [(0, .inr (.inr (.inl (some k)))), (1, .inr (.inr (.inl (some 71)))), (2, .inr (.inr (.inl (some 86))))] [] (am_mm D I J ρ) _
    refine am_e_ss 3 (q := (37, [(0, .inr (.inr (.inl (some k)))), (1, .inr (.inr (.inl (some 71)))), (2, .inr (.inr (.inl (some 86))))], [.inr (.inr (.inl (some 86))), .inr (.inr (.inl (some 71))), .inr (.inr (.inl (some k)))], (am_mm D I J ρ))) rfl ?_
    refine am_e_special (Q := fun r => ∃ Q121, r = (none, (am_mm D (am_wp (fun c _ => Nat.beq c 86) I Q121) J ρ)) ∧ am_rowl (Q121 86) 0 (sp_sayl (sp_ord S 5) (if sp_hd S 5 = sp_first S then -1 else sp_first S))) rfl rfl (Nat.le_of_ble_eq_true rfl) (am_kd_of hsk (by decide)) rfl (by decide) (Nat.le_of_ble_eq_true rfl) (Nat.le_of_ble_eq_true rfl) (m_say_p2_5 _ hsk hok hk124 hk1 h3 hO hm hfav ho) ?_
    rintro r ⟨Q121, rfl, hsu⟩
    show am_E _ _ _ 40 [(0, .inr (.inr (.inl (some k)))), (1, .inr (.inr (.inl (some 71)))), (2, .inr (.inr (.inl (some 86))))] [] (am_mm D (am_wp (fun c _ => Nat.beq c 86) I Q121) J ρ) _
    refine am_e_return rfl rfl ?_
    rw [if_neg (by omega)]
    exact ⟨_, am_r_wp (fun c _ => Nat.beq c 86) (am_k_wp am_k_sub (am_k_id)), hsu⟩
  · show am_E _ _ _ 11 [(0, .inr (.inr (.inl (some k)))), (1, .inr (.inr (.inl (some 71)))), (2, .inr (.inr (.inl (some 86))))] [] (am_mm D I J ρ) _
    refine am_e_ss 2 (q := (13, [(0, .inr (.inr (.inl (some k)))), (1, .inr (.inr (.inl (some 71)))), (2, .inr (.inr (.inl (some 86))))], [.inr (.inr (.inl (some k))), .inr (.inr (.inl (some 71)))], (am_mm D I J ρ))) rfl ?_
    refine am_e_getfield (c := 2) (m := 3) (f := 2) rfl hsk rfl (by decide) (by decide) ?_
    show am_E _ _ _ 16 [(0, .inr (.inr (.inl (some k)))), (1, .inr (.inr (.inl (some 71)))), (2, .inr (.inr (.inl (some 86))))] [.inl ((I k 2)), .inr (.inr (.inl (some 71)))] (am_mm D I J ρ) _
    refine am_e_virtual (Q := fun r => r = (some (.inl ((am_bi (v < (S 19).toNat ∧ S (7 + v) = 0)))), (am_mm D I J ρ))) rfl rfl (Nat.le_of_ble_eq_true rfl) rfl rfl (Nat.le_of_ble_eq_true rfl) (Nat.le_of_ble_eq_true rfl) (c_vIsHereI_2 _ (v := v) hk2 hok h71 h12 hhr (by omega)) ?_
    rintro r rfl
    show am_E _ _ _ 19 [(0, .inr (.inr (.inl (some k)))), (1, .inr (.inr (.inl (some 71)))), (2, .inr (.inr (.inl (some 86))))] [.inl ((am_bi (v < (S 19).toNat ∧ S (7 + v) = 0)))] (am_mm D I J ρ) _
    refine am_e_ifeq rfl (fun hw2 => ?_) (fun hw2 => ?_)
    · show am_E _ _ _ 34 [(0, .inr (.inr (.inl (some k)))), (1, .inr (.inr (.inl (some 71)))), (2, .inr (.inr (.inl (some 86))))] [] (am_mm D I J ρ) _
      refine am_e_ss 3 (q := (37, [(0, .inr (.inr (.inl (some k)))), (1, .inr (.inr (.inl (some 71)))), (2, .inr (.inr (.inl (some 86))))], [.inr (.inr (.inl (some 86))), .inr (.inr (.inl (some 71))), .inr (.inr (.inl (some k)))], (am_mm D I J ρ))) rfl ?_
      refine am_e_special (Q := fun r => ∃ Q122, r = (none, (am_mm D (am_wp (fun c _ => Nat.beq c 86) I Q122) J ρ)) ∧ am_rowl (Q122 86) 0 (sp_sayl (sp_ord S 5) (if sp_hd S 5 = sp_first S then -1 else sp_first S))) rfl rfl (Nat.le_of_ble_eq_true rfl) (am_kd_of hsk (by decide)) rfl (by decide) (Nat.le_of_ble_eq_true rfl) (Nat.le_of_ble_eq_true rfl) (m_say_p2_5 _ hsk hok hk124 hk1 h3 hO hm hfav ho) ?_
      rintro r ⟨Q122, rfl, hsu⟩
      show am_E _ _ _ 40 [(0, .inr (.inr (.inl (some k)))), (1, .inr (.inr (.inl (some 71)))), (2, .inr (.inr (.inl (some 86))))] [] (am_mm D (am_wp (fun c _ => Nat.beq c 86) I Q122) J ρ) _
      refine am_e_return rfl rfl ?_
      rw [if_neg (by omega)]
      exact ⟨_, am_r_wp (fun c _ => Nat.beq c 86) (am_k_wp am_k_sub (am_k_id)), hsu⟩
    · show am_E _ _ _ 22 [(0, .inr (.inr (.inl (some k)))), (1, .inr (.inr (.inl (some 71)))), (2, .inr (.inr (.inl (some 86))))] [] (am_mm D I J ρ) _
      refine am_e_ss 2 (q := (24, [(0, .inr (.inr (.inl (some k)))), (1, .inr (.inr (.inl (some 71)))), (2, .inr (.inr (.inl (some 86))))], [.inr (.inr (.inl (some k))), .inr (.inr (.inl (some 71)))], (am_mm D I J ρ))) rfl ?_
      refine am_e_getfield (c := 2) (m := 3) (f := 2) rfl hsk rfl (by decide) (by decide) ?_
      show am_E _ _ _ 27 [(0, .inr (.inr (.inl (some k)))), (1, .inr (.inr (.inl (some 71)))), (2, .inr (.inr (.inl (some 86))))] [.inl ((I k 2)), .inr (.inr (.inl (some 71)))] (am_mm D I J ρ) _
      refine am_e_ss 1 (q := (28, [(0, .inr (.inr (.inl (some k)))), (1, .inr (.inr (.inl (some 71)))), (2, .inr (.inr (.inl (some 86))))], [.inr (.inr (.inl (some 86))), .inl ((I k 2)), .inr (.inr (.inl (some 71)))], (am_mm D I J ρ))) rfl ?_
      refine am_e_virtual (Q := fun r => r = (none, (am_mm D (am_cpg I 86 0 (74 + v) 0 6) J ρ))) rfl rfl (Nat.le_of_ble_eq_true rfl) rfl rfl (Nat.le_of_ble_eq_true rfl) (Nat.le_of_ble_eq_true rfl) (c_putOrderI _ (a := v) (b := 5) hk2 (by omega) (by omega)) ?_
      rintro r rfl
      show am_E _ _ _ 31 [(0, .inr (.inr (.inl (some k)))), (1, .inr (.inr (.inl (some 71)))), (2, .inr (.inr (.inl (some 86))))] [] (am_mm D (am_cpg I 86 0 (74 + v) 0 6) J ρ) _
      refine am_e_ss 1 (q := (40, [(0, .inr (.inr (.inl (some k)))), (1, .inr (.inr (.inl (some 71)))), (2, .inr (.inr (.inl (some 86))))], [], (am_mm D (am_cpg I 86 0 (74 + v) 0 6) J ρ))) rfl ?_
      refine am_e_return rfl rfl ?_
      rw [if_pos (by omega)]
      exact ⟨_, am_r_wp (fun c _ => Nat.beq c 86) (am_k_cpg (fun _ => rfl) (am_k_id)), am_rowl_cpg (hO v (by omega)) (by have := sp_ord_len (S := S) (m := v); omega)⟩
theorem m_say_f69_5 {X : Nat × (Nat → Int)} {D : List (Nat × Nat)} {I J : Nat → Nat → Int} {ρ : Nat → Nat → Option Nat} (d : Nat) {k : Nat} (hsk : (am_S ++ D)[k]? = some (2, 3)) {S : Nat → Int} {B : Int} (hok : r_ok S B) (hk124 : 124 ≤ k) (hk1 : I k 1 = 5) (h3 : I 71 3 = sp_ops S) (hO : ∀ j, j < (S 19).toNat → am_rowl (I (74 + j)) 0 (sp_ord S j)) (hm : 5 < (S 19).toNat) (hfav : I 71 7 = sp_fav S) (ho : ¬ sp_ops S = 0) {v : Nat} (hk2 : I k 2 = (v : Int)) (hv9 : v ≤ 9) (h71 : ρ 71 1 = some 69) (h12 : I 1 2 = S 19) (hhr : I 69 1 = am_bits (sp_hp S) 6)  : am_E X (d + 3) 22 0 [(0, .inr (.inr (.inl (some k)))), (1, .inr (.inr (.inl (some 71)))), (2, .inr (.inr (.inl (some 86))))] [] (am_mm D I J ρ) (fun q => ∃ Q, q = (none, am_mm D (am_wp (fun c _ => Nat.beq c 86) I Q) J ρ) ∧ am_rowl (Q 86) 0 (if ¬ v = 5 ∧ v < (S 19).toNat ∧ S (7 + v) = 0 then sp_ord S v else sp_sayl (sp_ord S 5) (if sp_hd S 5 = sp_first S then -1 else sp_first S))) := by
  have ob := sp_ops_b hok
  have ol := sp_ord_len (S := S) (m := 5)
  have h19 := r_ok_19 hok
  refine am_e_ss 1 (q := (1, [(0, .inr (.inr (.inl (some k)))), (1, .inr (.inr (.inl (some 71)))), (2, .inr (.inr (.inl (some 86))))], [.inr (.inr (.inl (some k)))], (am_mm D I J ρ))) rfl ?_
  refine am_e_getfield (c := 2) (m := 3) (f := 2) rfl hsk rfl (by decide) (by decide) ?_
  show am_E _ _ _ 4 [(0, .inr (.inr (.inl (some k)))), (1, .inr (.inr (.inl (some 71)))), (2, .inr (.inr (.inl (some 86))))] [.inl ((I k 2))] (am_mm D I J ρ) _
  refine am_e_ss 1 (q := (5, [(0, .inr (.inr (.inl (some k)))), (1, .inr (.inr (.inl (some 71)))), (2, .inr (.inr (.inl (some 86))))], [.inr (.inr (.inl (some k))), .inl ((I k 2))], (am_mm D I J ρ))) rfl ?_
  refine am_e_getfield (c := 2) (m := 3) (f := 1) rfl hsk rfl (by decide) (by decide) ?_
  show am_E _ _ _ 8 [(0, .inr (.inr (.inl (some k)))), (1, .inr (.inr (.inl (some 71)))), (2, .inr (.inr (.inl (some 86))))] [.inl ((I k 1)), .inl ((I k 2))] (am_mm D I J ρ) _
  refine am_e_icmp2 rfl ⟨by omega, by omega⟩ ⟨by omega, by omega⟩ (fun (hw1 : (I k 2) = (I k 1)) => ?_) (fun (hw1 : ¬ ((I k 2) = (I k 1))) => ?_)
  · show am_E _ _ _ 34 [(0, .inr (.inr (.inl (some k)))), (1, .inr (.inr (.inl (some 71)))), (2, .inr (.inr (.inl (some 86))))] [] (am_mm D I J ρ) _
    refine am_e_ss 3 (q := (37, [(0, .inr (.inr (.inl (some k)))), (1, .inr (.inr (.inl (some 71)))), (2, .inr (.inr (.inl (some 86))))], [.inr (.inr (.inl (some 86))), .inr (.inr (.inl (some 71))), .inr (.inr (.inl (some k)))], (am_mm D I J ρ))) rfl ?_
    refine am_e_special (Q := fun r => ∃ Q123, r = (none, (am_mm D (am_wp (fun c _ => Nat.beq c 86) I Q123) J ρ)) ∧ am_rowl (Q123 86) 0 (sp_sayl (sp_ord S 5) (if sp_hd S 5 = sp_first S then -1 else sp_first S))) rfl rfl (Nat.le_of_ble_eq_true rfl) (am_kd_of hsk (by decide)) rfl (by decide) (Nat.le_of_ble_eq_true rfl) (Nat.le_of_ble_eq_true rfl) (m_say_p2_5 _ hsk hok hk124 hk1 h3 hO hm hfav ho) ?_
    rintro r ⟨Q123, rfl, hsu⟩
    show am_E _ _ _ 40 [(0, .inr (.inr (.inl (some k)))), (1, .inr (.inr (.inl (some 71)))), (2, .inr (.inr (.inl (some 86))))] [] (am_mm D (am_wp (fun c _ => Nat.beq c 86) I Q123) J ρ) _
    refine am_e_return rfl rfl ?_
    rw [if_neg (by omega)]
    exact ⟨_, am_r_wp (fun c _ => Nat.beq c 86) (am_k_wp am_k_sub (am_k_id)), hsu⟩
  · show am_E _ _ _ 11 [(0, .inr (.inr (.inl (some k)))), (1, .inr (.inr (.inl (some 71)))), (2, .inr (.inr (.inl (some 86))))] [] (am_mm D I J ρ) _
    refine am_e_ss 2 (q := (13, [(0, .inr (.inr (.inl (some k)))), (1, .inr (.inr (.inl (some 71)))), (2, .inr (.inr (.inl (some 86))))], [.inr (.inr (.inl (some k))), .inr (.inr (.inl (some 71)))], (am_mm D I J ρ))) rfl ?_
    refine am_e_getfield (c := 2) (m := 3) (f := 2) rfl hsk rfl (by decide) (by decide) ?_
    show am_E _ _ _ 16 [(0, .inr (.inr (.inl (some k)))), (1, .inr (.inr (.inl (some 71)))), (2, .inr (.inr (.inl (some 86))))] [.inl ((I k 2)), .inr (.inr (.inl (some 71)))] (am_mm D I J ρ) _
    refine am_e_virtual (Q := fun r => r = (some (.inl ((am_bi (v < (S 19).toNat ∧ S (7 + v) = 0)))), (am_mm D I J ρ))) rfl rfl (Nat.le_of_ble_eq_true rfl) rfl rfl (Nat.le_of_ble_eq_true rfl) (Nat.le_of_ble_eq_true rfl) (c_vIsHereI_69 _ (v := v) hk2 hok h71 h12 hhr (by omega)) ?_
    rintro r rfl
    show am_E _ _ _ 19 [(0, .inr (.inr (.inl (some k)))), (1, .inr (.inr (.inl (some 71)))), (2, .inr (.inr (.inl (some 86))))] [.inl ((am_bi (v < (S 19).toNat ∧ S (7 + v) = 0)))] (am_mm D I J ρ) _
    refine am_e_ifeq rfl (fun hw2 => ?_) (fun hw2 => ?_)
    · show am_E _ _ _ 34 [(0, .inr (.inr (.inl (some k)))), (1, .inr (.inr (.inl (some 71)))), (2, .inr (.inr (.inl (some 86))))] [] (am_mm D I J ρ) _
      refine am_e_ss 3 (q := (37, [(0, .inr (.inr (.inl (some k)))), (1, .inr (.inr (.inl (some 71)))), (2, .inr (.inr (.inl (some 86))))], [.inr (.inr (.inl (some 86))), .inr (.inr (.inl (some 71))), .inr (.inr (.inl (some k)))], (am_mm D I J ρ))) rfl ?_
      refine am_e_special (Q := fun r => ∃ Q124, r = (none, (am_mm D (am_wp (fun c _ => Nat.beq c 86) I Q124) J ρ)) ∧ am_rowl (Q124 86) 0 (sp_sayl (sp_ord S 5) (if sp_hd S 5 = sp_first S then -1 else sp_first S))) rfl rfl (Nat.le_of_ble_eq_true rfl) (am_kd_of hsk (by decide)) rfl (by decide) (Nat.le_of_ble_eq_true rfl) (Nat.le_of_ble_eq_true rfl) (m_say_p2_5 _ hsk hok hk124 hk1 h3 hO hm hfav ho) ?_
      rintro r ⟨Q124, rfl, hsu⟩
      show am_E _ _ _ 40 [(0, .inr (.inr (.inl (some k)))), (1, .inr (.inr (.inl (some 71)))), (2, .inr (.inr (.inl (some 86))))] [] (am_mm D (am_wp (fun c _ => Nat.beq c 86) I Q124) J ρ) _
      refine am_e_return rfl rfl ?_
      rw [if_neg (by omega)]
      exact ⟨_, am_r_wp (fun c _ => Nat.beq c 86) (am_k_wp am_k_sub (am_k_id)), hsu⟩
    · show am_E _ _ _ 22 [(0, .inr (.inr (.inl (some k)))), (1, .inr (.inr (.inl (some 71)))), (2, .inr (.inr (.inl (some 86))))] [] (am_mm D I J ρ) _
      refine am_e_ss 2 (q := (24, [(0, .inr (.inr (.inl (some k)))), (1, .inr (.inr (.inl (some 71)))), (2, .inr (.inr (.inl (some 86))))], [.inr (.inr (.inl (some k))), .inr (.inr (.inl (some 71)))], (am_mm D I J ρ))) rfl ?_
      refine am_e_getfield (c := 2) (m := 3) (f := 2) rfl hsk rfl (by decide) (by decide) ?_
      show am_E _ _ _ 27 [(0, .inr (.inr (.inl (some k)))), (1, .inr (.inr (.inl (some 71)))), (2, .inr (.inr (.inl (some 86))))] [.inl ((I k 2)), .inr (.inr (.inl (some 71)))] (am_mm D I J ρ) _
      refine am_e_ss 1 (q := (28, [(0, .inr (.inr (.inl (some k)))), (1, .inr (.inr (.inl (some 71)))), (2, .inr (.inr (.inl (some 86))))], [.inr (.inr (.inl (some 86))), .inl ((I k 2)), .inr (.inr (.inl (some 71)))], (am_mm D I J ρ))) rfl ?_
      refine am_e_virtual (Q := fun r => r = (none, (am_mm D (am_cpg I 86 0 (74 + v) 0 6) J ρ))) rfl rfl (Nat.le_of_ble_eq_true rfl) rfl rfl (Nat.le_of_ble_eq_true rfl) (Nat.le_of_ble_eq_true rfl) (c_putOrderI _ (a := v) (b := 5) hk2 (by omega) (by omega)) ?_
      rintro r rfl
      show am_E _ _ _ 31 [(0, .inr (.inr (.inl (some k)))), (1, .inr (.inr (.inl (some 71)))), (2, .inr (.inr (.inl (some 86))))] [] (am_mm D (am_cpg I 86 0 (74 + v) 0 6) J ρ) _
      refine am_e_ss 1 (q := (40, [(0, .inr (.inr (.inl (some k)))), (1, .inr (.inr (.inl (some 71)))), (2, .inr (.inr (.inl (some 86))))], [], (am_mm D (am_cpg I 86 0 (74 + v) 0 6) J ρ))) rfl ?_
      refine am_e_return rfl rfl ?_
      rw [if_pos (by omega)]
      exact ⟨_, am_r_wp (fun c _ => Nat.beq c 86) (am_k_cpg (fun _ => rfl) (am_k_id)), am_rowl_cpg (hO v (by omega)) (by have := sp_ord_len (S := S) (m := v); omega)⟩
