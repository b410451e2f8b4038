/-! THE REFERENCE: choices, who could change them -/
theorem r_cho {X : Nat × (Nat → Int)} {D : List (Nat × Nat)} {I J : Nat → Nat → Int} {ρ : Nat → Nat → Option Nat} (d : Nat) {B way : Int} {VL : Nat → List Nat} (hw : 0 ≤ way ∧ way ≤ 5) (hop : I 107 20 = sp_ops (I 108)) (hV : r_rep (I 108 19).toNat (I 117) (I 118) VL) (hvl : r_vl (I 108) VL) (hO : ∀ m : Nat, m < (I 108 19).toNat → am_rowl (I 114) (6 * m) (sp_ord (I 108) m)) (hok : r_ok (I 108) B) : am_E X (d + 4) 177 0 [(0, .inr (.inr (.inl (some 107)))), (1, .inl way)] [] (am_mm D I J ρ) (fun r => r = (some (.inl (sp_cho (I 108) VL way)), am_mm D I J ρ)) := by
  have hvo := r_vl_vo hok hvl hV
  have hb := sp_ops_b hok
  refine (r_chooses d (B := B) hw (by rw [hop]; exact hb) (fun h => sp_most_pos hvo (by rw [← hop]; exact h)) hok hvo).imp ?_
  intro r h
  rw [h, hop, sp_cho_of (fun m hm => (hvl m hm).1) hV hO]
theorem r_chosenBy {X : Nat × (Nat → Int)} {D : List (Nat × Nat)} {I J : Nat → Nat → Int} {ρ : Nat → Nat → Option Nat} (d : Nat) {B way t : Int} (hw : 0 ≤ way ∧ way ≤ 5) (ht : t = 0 ∨ t = 1) (hl : r_lks (I 108) (I 113)) (hok : r_ok (I 108) B) (hwf : sp_wfS (I 108)) : am_E X (d + 5) 178 0 [(0, .inr (.inr (.inl (some 107)))), (1, .inl way), (2, .inl t)] [] (am_mm D I J ρ) (fun r => ∃ Q, r = (some (.inl (sp_cho (I 108) (sp_vl (I 108) t) way)), am_mm D (am_wp tC I Q) J ρ) ∧ Q 107 20 = sp_ops (I 108) ∧ (∀ m : Nat, m < ((I 108) 19).toNat → am_rowl (Q 114) (6 * m) (sp_ord (I 108) m)) ∧ r_rep ((I 108) 19).toNat (Q 117) (Q 118) (sp_vl (I 108) t)) := by
  have hvl := sp_vl_vl (t := t) hok
  refine am_e_ss 1 (q := (1, [(0, .inr (.inr (.inl (some 107)))), (1, .inl way), (2, .inl t)], [.inr (.inr (.inl (some 107)))], (am_mm D I J ρ))) rfl ?_
  refine am_e_virtual (Q := fun r => ∃ Q45, r = (none, (am_mm D (am_wp tO I Q45) J ρ)) ∧ Q45 107 20 = sp_ops (I 108) ∧ (∀ m : Nat, m < ((I 108) 19).toNat → am_rowl (Q45 114) (6 * m) (sp_ord (I 108) m)) ∧ (∀ m : Nat, m < ((I 108) 19).toNat → Q45 116 m = ((sp_says (I 108) m).length : Int) ∧ am_rowl (Q45 115) (6 * m) (sp_says (I 108) m))) rfl rfl (Nat.le_of_ble_eq_true rfl) rfl rfl (Nat.le_of_ble_eq_true rfl) (Nat.le_of_ble_eq_true rfl) (r_looksForOrders _ (B := B) hl hok hwf) ?_
  rintro r ⟨Q45, rfl, ⟨hop, hO, hY⟩⟩
  show am_E _ _ _ 4 [(0, .inr (.inr (.inl (some 107)))), (1, .inl way), (2, .inl t)] [] (am_mm D (am_wp tO I Q45) J ρ) _
  refine am_e_ss 2 (q := (6, [(0, .inr (.inr (.inl (some 107)))), (1, .inl way), (2, .inl t)], [.inl t, .inr (.inr (.inl (some 107)))], (am_mm D (am_wp tO I Q45) J ρ))) rfl ?_
  refine am_e_virtual (Q := fun r => ∃ Q46, r = (none, (am_mm D (am_wp tH (am_wp tO I Q45) Q46) J ρ)) ∧ r_rep ((I 108) 19).toNat (Q46 117) (Q46 118) (sp_vl (I 108) t)) rfl rfl (Nat.le_of_ble_eq_true rfl) rfl rfl (Nat.le_of_ble_eq_true rfl) (Nat.le_of_ble_eq_true rfl) (r_hears _ (B := B) (by omega) hop hO hY hok) ?_
  rintro r ⟨Q46, rfl, hV⟩
  show am_E _ _ _ 9 [(0, .inr (.inr (.inl (some 107)))), (1, .inl way), (2, .inl t)] [] (am_mm D (am_wp tH (am_wp tO I Q45) Q46) J ρ) _
  refine am_e_ss 2 (q := (11, [(0, .inr (.inr (.inl (some 107)))), (1, .inl way), (2, .inl t)], [.inl way, .inr (.inr (.inl (some 107)))], (am_mm D (am_wp tH (am_wp tO I Q45) Q46) J ρ))) rfl ?_
  refine am_e_virtual (Q := fun r => r = (some (.inl ((sp_cho (I 108) (sp_vl (I 108) t) way))), (am_mm D (am_wp tH (am_wp tO I Q45) Q46) J ρ))) rfl rfl (Nat.le_of_ble_eq_true rfl) rfl rfl (Nat.le_of_ble_eq_true rfl) (Nat.le_of_ble_eq_true rfl) (r_cho _ (B := B) (VL := (sp_vl (I 108) t)) ⟨by omega, by omega⟩ hop hV hvl hO hok) ?_
  rintro r rfl
  show am_E _ _ _ 14 [(0, .inr (.inr (.inl (some 107)))), (1, .inl way), (2, .inl t)] [.inl ((sp_cho (I 108) (sp_vl (I 108) t) way))] (am_mm D (am_wp tH (am_wp tO I Q45) Q46) J ρ) _
  refine am_e_ireturn rfl rfl ?_
  exact ⟨_, am_r_wp tC (am_k_wp (tH_tC) (am_k_wp (tO_tC) (am_k_id))), hop, hO, hV⟩
def sp_chosen (S : Nat → Int) (way w : Int) : Int := if ¬ (0 ≤ way ∧ way ≤ 5) then -1 else if ¬ (0 ≤ w ∧ w ≤ 1) then -1 else sp_cho S (sp_vl S w) way
def sp_get (L : List Nat) (k : Int) : Int := match L[k.toNat]? with
  | some b => (b : Int)
  | none => -5
def sp_order (S : Nat → Int) (m w k : Int) : Int := if ¬ (0 ≤ m ∧ m ≤ S 19 - 1) then -1 else if ¬ (0 ≤ w ∧ w ≤ 1) then -1 else if ¬ (0 ≤ k ∧ k ≤ 5) then -1 else sp_get (if w = 0 then sp_ord S m.toNat else sp_says S m.toNat) k
def sp_lookf (S : Nat → Int) (c : Nat → Int) : Nat → Nat → Int
  | 0, _ => -5
  | n + 1, b => if S (13 + b) = 0 ∧ ¬ c b = S (62 + b) then (b : Int) else sp_lookf S c n (b + 1)
def sp_looked (S : Nat → Int) : Int := sp_lookf S (fun b => sp_cof (sp_Vr (sp_vl S 0)) (sp_Zr (sp_vl S 0)) b 0 (S 19).toNat) (min (S 20) (S 22)).toNat 0
theorem tL_tA : ∀ c i, tL c i = true → tA c i = true := fun c i h => tLL_tA c i (tL_tLL c i h)
theorem r_chosen {X : Nat × (Nat → Int)} {D : List (Nat × Nat)} {I J : Nat → Nat → Int} {ρ : Nat → Nat → Option Nat} (d : Nat) {B way w : Int} (hway : -2147483648 ≤ way ∧ way < 2147483648) (hw : -2147483648 ≤ w ∧ w < 2147483648) (hok : r_ok (I 108) B) (hwf : sp_wfS (I 108)) : am_E X (d + 6) 179 0 [(0, .inr (.inr (.inl (some 107)))), (1, .inl way), (2, .inl w)] [] (am_mm D I J ρ) (fun r => ∃ Q, r = (some (.inl (sp_chosen (I 108) way w)), am_mm D (am_wp tA I Q) J ρ)) := by
  refine am_e_ss 1 (q := (1, [(0, .inr (.inr (.inl (some 107)))), (1, .inl way), (2, .inl w)], [.inl way], (am_mm D I J ρ))) rfl ?_
  refine am_e_static (Q := fun r => r = (some (.inl ((am_bi (0 ≤ way ∧ way ≤ 5)))), (am_mm D I J ρ))) rfl (Nat.le_of_ble_eq_true rfl) rfl (Nat.le_of_ble_eq_true rfl) (Nat.le_of_ble_eq_true rfl) (r_isWay _ ⟨by omega, by omega⟩) ?_
  rintro r rfl
  show am_E _ _ _ 4 [(0, .inr (.inr (.inl (some 107)))), (1, .inl way), (2, .inl w)] [.inl ((am_bi (0 ≤ way ∧ way ≤ 5)))] (am_mm D I J ρ) _
  refine am_e_ifeq rfl (fun h1 => ?_) (fun h1 => ?_)
  · show am_E _ _ _ 16 [(0, .inr (.inr (.inl (some 107)))), (1, .inl way), (2, .inl w)] [] (am_mm D I J ρ) _
    refine am_e_ss 1 (q := (17, [(0, .inr (.inr (.inl (some 107)))), (1, .inl way), (2, .inl w)], [.inl (-1)], (am_mm D I J ρ))) rfl ?_
    refine am_e_ireturn rfl rfl ?_
    refine ⟨I, ?_⟩
    rw [show sp_chosen (I 108) way w = -1 by (unfold sp_chosen; (repeat' split) <;> first | rfl | (exfalso; omega))]
    exact am_r_wp tA am_k_id
  · show am_E _ _ _ 7 [(0, .inr (.inr (.inl (some 107)))), (1, .inl way), (2, .inl w)] [] (am_mm D I J ρ) _
    refine am_e_ss 3 (q := (10, [(0, .inr (.inr (.inl (some 107)))), (1, .inl way), (2, .inl w)], [.inl 1, .inl 0, .inl w], (am_mm D I J ρ))) rfl ?_
    refine am_e_static (Q := fun r => r = (some (.inl ((am_bi (0 ≤ w ∧ w ≤ 1)))), (am_mm D I J ρ))) rfl (Nat.le_of_ble_eq_true rfl) rfl (Nat.le_of_ble_eq_true rfl) (Nat.le_of_ble_eq_true rfl) (r_in _ ⟨by omega, by omega⟩ ⟨by omega, by omega⟩ ⟨by omega, by omega⟩) ?_
    rintro r rfl
    show am_E _ _ _ 13 [(0, .inr (.inr (.inl (some 107)))), (1, .inl way), (2, .inl w)] [.inl ((am_bi (0 ≤ w ∧ w ≤ 1)))] (am_mm D I J ρ) _
    refine am_e_ifne rfl (fun h2 => ?_) (fun h2 => ?_)
    · show am_E _ _ _ 18 [(0, .inr (.inr (.inl (some 107)))), (1, .inl way), (2, .inl w)] [] (am_mm D I J ρ) _
      refine am_e_ss 1 (q := (19, [(0, .inr (.inr (.inl (some 107)))), (1, .inl way), (2, .inl w)], [.inr (.inr (.inl (some 107)))], (am_mm D I J ρ))) rfl ?_
      refine am_e_virtual (Q := fun r => ∃ Q47, r = (none, (am_mm D (am_wp tLL I Q47) J ρ)) ∧ r_lks (I 108) (Q47 113)) rfl rfl (Nat.le_of_ble_eq_true rfl) rfl rfl (Nat.le_of_ble_eq_true rfl) (Nat.le_of_ble_eq_true rfl) (r_looksForLikes _ (B := B) hok hwf) ?_
      rintro r ⟨Q47, rfl, hl⟩
      show am_E _ _ _ 22 [(0, .inr (.inr (.inl (some 107)))), (1, .inl way), (2, .inl w)] [] (am_mm D (am_wp tLL I Q47) J ρ) _
      refine am_e_ss 4 (q := (26, [(0, .inr (.inr (.inl (some 107)))), (1, .inl way), (2, .inl w)], [.inl 1, .inl w, .inl way, .inr (.inr (.inl (some 107)))], (am_mm D (am_wp tLL I Q47) J ρ))) rfl ?_
      refine am_e_icmp2 rfl ⟨by omega, by omega⟩ ⟨by omega, by omega⟩ (fun (h3 : ¬ w = 1) => ?_) (fun (h3 : ¬ (¬ w = 1)) => ?_)
      · show am_E _ _ _ 33 [(0, .inr (.inr (.inl (some 107)))), (1, .inl way), (2, .inl w)] [.inl way, .inr (.inr (.inl (some 107)))] (am_mm D (am_wp tLL I Q47) J ρ) _
        refine am_e_ss 1 (q := (34, [(0, .inr (.inr (.inl (some 107)))), (1, .inl way), (2, .inl w)], [.inl 0, .inl way, .inr (.inr (.inl (some 107)))], (am_mm D (am_wp tLL I Q47) J ρ))) rfl ?_
        refine am_e_virtual (Q := fun r => ∃ Q48, r = (some (.inl ((sp_cho (I 108) (sp_vl (I 108) 0) way))), (am_mm D (am_wp tC (am_wp tLL I Q47) Q48) J ρ)) ∧ Q48 107 20 = sp_ops (I 108) ∧ (∀ m : Nat, m < ((I 108) 19).toNat → am_rowl (Q48 114) (6 * m) (sp_ord (I 108) m)) ∧ r_rep ((I 108) 19).toNat (Q48 117) (Q48 118) (sp_vl (I 108) 0)) rfl rfl (Nat.le_of_ble_eq_true rfl) rfl rfl (Nat.le_of_ble_eq_true rfl) (Nat.le_of_ble_eq_true rfl) (r_chosenBy _ (B := B) ⟨by omega, by omega⟩ (by omega) hl hok hwf) ?_
        rintro r ⟨Q48, rfl, ⟨hop, hO, hV⟩⟩
        show am_E _ _ _ 37 [(0, .inr (.inr (.inl (some 107)))), (1, .inl way), (2, .inl w)] [.inl ((sp_cho (I 108) (sp_vl (I 108) 0) way))] (am_mm D (am_wp tC (am_wp tLL I Q47) Q48) J ρ) _
        refine am_e_ireturn rfl rfl ?_
        have ew : w = 0 := by omega
        subst ew
        rw [show sp_chosen (I 108) way 0 = (sp_cho (I 108) (sp_vl (I 108) 0) way) by (unfold sp_chosen; (repeat' split) <;> first | rfl | (exfalso; omega))]
        exact ⟨_, am_r_wp tA (am_k_wp (tC_tA) (am_k_wp (tLL_tA) (am_k_id)))⟩
      · show am_E _ _ _ 29 [(0, .inr (.inr (.inl (some 107)))), (1, .inl way), (2, .inl w)] [.inl way, .inr (.inr (.inl (some 107)))] (am_mm D (am_wp tLL I Q47) J ρ) _
        refine am_e_ss 2 (q := (34, [(0, .inr (.inr (.inl (some 107)))), (1, .inl way), (2, .inl w)], [.inl 1, .inl way, .inr (.inr (.inl (some 107)))], (am_mm D (am_wp tLL I Q47) J ρ))) rfl ?_
        refine am_e_virtual (Q := fun r => ∃ Q49, r = (some (.inl ((sp_cho (I 108) (sp_vl (I 108) 1) way))), (am_mm D (am_wp tC (am_wp tLL I Q47) Q49) J ρ)) ∧ Q49 107 20 = sp_ops (I 108) ∧ (∀ m : Nat, m < ((I 108) 19).toNat → am_rowl (Q49 114) (6 * m) (sp_ord (I 108) m)) ∧ r_rep ((I 108) 19).toNat (Q49 117) (Q49 118) (sp_vl (I 108) 1)) rfl rfl (Nat.le_of_ble_eq_true rfl) rfl rfl (Nat.le_of_ble_eq_true rfl) (Nat.le_of_ble_eq_true rfl) (r_chosenBy _ (B := B) ⟨by omega, by omega⟩ (by omega) hl hok hwf) ?_
        rintro r ⟨Q49, rfl, ⟨hop, hO, hV⟩⟩
        show am_E _ _ _ 37 [(0, .inr (.inr (.inl (some 107)))), (1, .inl way), (2, .inl w)] [.inl ((sp_cho (I 108) (sp_vl (I 108) 1) way))] (am_mm D (am_wp tC (am_wp tLL I Q47) Q49) J ρ) _
        refine am_e_ireturn rfl rfl ?_
        have ew : w = 1 := by omega
        subst ew
        rw [show sp_chosen (I 108) way 1 = (sp_cho (I 108) (sp_vl (I 108) 1) way) by (unfold sp_chosen; (repeat' split) <;> first | rfl | (exfalso; omega))]
        exact ⟨_, am_r_wp tA (am_k_wp (tC_tA) (am_k_wp (tLL_tA) (am_k_id)))⟩
    · show am_E _ _ _ 16 [(0, .inr (.inr (.inl (some 107)))), (1, .inl way), (2, .inl w)] [] (am_mm D I J ρ) _
      refine am_e_ss 1 (q := (17, [(0, .inr (.inr (.inl (some 107)))), (1, .inl way), (2, .inl w)], [.inl (-1)], (am_mm D I J ρ))) rfl ?_
      refine am_e_ireturn rfl rfl ?_
      refine ⟨I, ?_⟩
      rw [show sp_chosen (I 108) way w = -1 by (unfold sp_chosen; (repeat' split) <;> first | rfl | (exfalso; omega))]
      exact am_r_wp tA am_k_id
theorem r_order {X : Nat × (Nat → Int)} {D : List (Nat × Nat)} {I J : Nat → Nat → Int} {ρ : Nat → Nat → Option Nat} (d : Nat) {B m w k : Int} (hm : -2147483648 ≤ m ∧ m < 2147483648) (hw : -2147483648 ≤ w ∧ w < 2147483648) (hk : -2147483648 ≤ k ∧ k < 2147483648) (hok : r_ok (I 108) B) (hwf : sp_wfS (I 108)) : am_E X (d + 4) 168 0 [(0, .inr (.inr (.inl (some 107)))), (1, .inl m), (2, .inl w), (3, .inl k)] [] (am_mm D I J ρ) (fun r => ∃ Q, r = (some (.inl (sp_order (I 108) m w k)), am_mm D (am_wp tA I Q) J ρ)) := by
  have hok2 := hok
  obtain ⟨o0, oG, oH, oD, o19, o20, o21, o22, o23, o24, oK, oV, oP, oM, oS, oY, oHd, oT, oC, oN⟩ := hok
  have hok := hok2
  refine am_e_ss 2 (q := (2, [(0, .inr (.inr (.inl (some 107)))), (1, .inl m), (2, .inl w), (3, .inl k)], [.inl m, .inr (.inr (.inl (some 107)))], (am_mm D I J ρ))) rfl ?_
  refine am_e_virtual (Q := fun r => r = (some (.inl ((am_bi (0 ≤ m ∧ m ≤ ((I 108 19) - 1))))), (am_mm D I J ρ))) rfl rfl (Nat.le_of_ble_eq_true rfl) rfl rfl (Nat.le_of_ble_eq_true rfl) (Nat.le_of_ble_eq_true rfl) (r_isMember _ ⟨by omega, by omega⟩ (show 0 ≤ (I 108 19) ∧ (I 108 19) ≤ 6 by omega)) ?_
  rintro r rfl
  show am_E _ _ _ 5 [(0, .inr (.inr (.inl (some 107)))), (1, .inl m), (2, .inl w), (3, .inl k)] [.inl ((am_bi (0 ≤ m ∧ m ≤ ((I 108 19) - 1))))] (am_mm D I J ρ) _
  refine am_e_ifeq rfl (fun h1 => ?_) (fun h1 => ?_)
  · show am_E _ _ _ 26 [(0, .inr (.inr (.inl (some 107)))), (1, .inl m), (2, .inl w), (3, .inl k)] [] (am_mm D I J ρ) _
    refine am_e_ss 1 (q := (27, [(0, .inr (.inr (.inl (some 107)))), (1, .inl m), (2, .inl w), (3, .inl k)], [.inl (-1)], (am_mm D I J ρ))) rfl ?_
    refine am_e_ireturn rfl rfl ?_
    refine ⟨I, ?_⟩
    rw [show sp_order (I 108) m w k = -1 by (unfold sp_order; (repeat' split) <;> first | rfl | (exfalso; omega))]
    exact am_r_wp tA am_k_id
  · show am_E _ _ _ 8 [(0, .inr (.inr (.inl (some 107)))), (1, .inl m), (2, .inl w), (3, .inl k)] [] (am_mm D I J ρ) _
    refine am_e_ss 3 (q := (11, [(0, .inr (.inr (.inl (some 107)))), (1, .inl m), (2, .inl w), (3, .inl k)], [.inl 1, .inl 0, .inl w], (am_mm D I J ρ))) rfl ?_
    refine am_e_static (Q := fun r => r = (some (.inl ((am_bi (0 ≤ w ∧ w ≤ 1)))), (am_mm D I J ρ))) rfl (Nat.le_of_ble_eq_true rfl) rfl (Nat.le_of_ble_eq_true rfl) (Nat.le_of_ble_eq_true rfl) (r_in _ ⟨by omega, by omega⟩ ⟨by omega, by omega⟩ ⟨by omega, by omega⟩) ?_
    rintro r rfl
    show am_E _ _ _ 14 [(0, .inr (.inr (.inl (some 107)))), (1, .inl m), (2, .inl w), (3, .inl k)] [.inl ((am_bi (0 ≤ w ∧ w ≤ 1)))] (am_mm D I J ρ) _
    refine am_e_ifeq rfl (fun h2 => ?_) (fun h2 => ?_)
    · show am_E _ _ _ 26 [(0, .inr (.inr (.inl (some 107)))), (1, .inl m), (2, .inl w), (3, .inl k)] [] (am_mm D I J ρ) _
      refine am_e_ss 1 (q := (27, [(0, .inr (.inr (.inl (some 107)))), (1, .inl m), (2, .inl w), (3, .inl k)], [.inl (-1)], (am_mm D I J ρ))) rfl ?_
      refine am_e_ireturn rfl rfl ?_
      refine ⟨I, ?_⟩
      rw [show sp_order (I 108) m w k = -1 by (unfold sp_order; (repeat' split) <;> first | rfl | (exfalso; omega))]
      exact am_r_wp tA am_k_id
    · show am_E _ _ _ 17 [(0, .inr (.inr (.inl (some 107)))), (1, .inl m), (2, .inl w), (3, .inl k)] [] (am_mm D I J ρ) _
      refine am_e_ss 3 (q := (20, [(0, .inr (.inr (.inl (some 107)))), (1, .inl m), (2, .inl w), (3, .inl k)], [.inl 5, .inl 0, .inl k], (am_mm D I J ρ))) rfl ?_
      refine am_e_static (Q := fun r => r = (some (.inl ((am_bi (0 ≤ k ∧ k ≤ 5)))), (am_mm D I J ρ))) rfl (Nat.le_of_ble_eq_true rfl) rfl (Nat.le_of_ble_eq_true rfl) (Nat.le_of_ble_eq_true rfl) (r_in _ ⟨by omega, by omega⟩ ⟨by omega, by omega⟩ ⟨by omega, by omega⟩) ?_
      rintro r rfl
      show am_E _ _ _ 23 [(0, .inr (.inr (.inl (some 107)))), (1, .inl m), (2, .inl w), (3, .inl k)] [.inl ((am_bi (0 ≤ k ∧ k ≤ 5)))] (am_mm D I J ρ) _
      refine am_e_ifne rfl (fun h3 => ?_) (fun h3 => ?_)
      · show am_E _ _ _ 28 [(0, .inr (.inr (.inl (some 107)))), (1, .inl m), (2, .inl w), (3, .inl k)] [] (am_mm D I J ρ) _
        refine am_e_ss 1 (q := (29, [(0, .inr (.inr (.inl (some 107)))), (1, .inl m), (2, .inl w), (3, .inl k)], [.inr (.inr (.inl (some 107)))], (am_mm D I J ρ))) rfl ?_
        refine am_e_virtual (Q := fun r => ∃ Q50, r = (none, (am_mm D (am_wp tLL I Q50) J ρ)) ∧ r_lks (I 108) (Q50 113)) rfl rfl (Nat.le_of_ble_eq_true rfl) rfl rfl (Nat.le_of_ble_eq_true rfl) (Nat.le_of_ble_eq_true rfl) (r_looksForLikes _ (B := B) hok hwf) ?_
        rintro r ⟨Q50, rfl, hl⟩
        show am_E _ _ _ 32 [(0, .inr (.inr (.inl (some 107)))), (1, .inl m), (2, .inl w), (3, .inl k)] [] (am_mm D (am_wp tLL I Q50) J ρ) _
        refine am_e_ss 1 (q := (33, [(0, .inr (.inr (.inl (some 107)))), (1, .inl m), (2, .inl w), (3, .inl k)], [.inr (.inr (.inl (some 107)))], (am_mm D (am_wp tLL I Q50) J ρ))) rfl ?_
        refine am_e_virtual (Q := fun r => ∃ Q51, r = (none, (am_mm D (am_wp tO (am_wp tLL I Q50) Q51) J ρ)) ∧ Q51 107 20 = sp_ops (I 108) ∧ (∀ m : Nat, m < ((I 108) 19).toNat → am_rowl (Q51 114) (6 * m) (sp_ord (I 108) m)) ∧ (∀ m : Nat, m < ((I 108) 19).toNat → Q51 116 m = ((sp_says (I 108) m).length : Int) ∧ am_rowl (Q51 115) (6 * m) (sp_says (I 108) m))) rfl rfl (Nat.le_of_ble_eq_true rfl) rfl rfl (Nat.le_of_ble_eq_true rfl) (Nat.le_of_ble_eq_true rfl) (r_looksForOrders _ (B := B) hl hok hwf) ?_
        rintro r ⟨Q51, rfl, ⟨hop, hO, hY⟩⟩
        show am_E _ _ _ 36 [(0, .inr (.inr (.inl (some 107)))), (1, .inl m), (2, .inl w), (3, .inl k)] [] (am_mm D (am_wp tO (am_wp tLL I Q50) Q51) J ρ) _
        have ob := sp_ops_b hok
        have sb := sp_says_len (S := I 108) (m := m.toNat)
        have hYm0 := (hY m.toNat (by omega)).1
        refine am_e_ss 1 (q := (37, [(0, .inr (.inr (.inl (some 107)))), (1, .inl m), (2, .inl w), (3, .inl k)], [.inl w], (am_mm D (am_wp tO (am_wp tLL I Q50) Q51) J ρ))) rfl ?_
        refine am_e_if2 rfl ⟨by omega, by omega⟩ (fun (h4 : ¬ w = 0) => ?_) (fun (h4 : ¬ (¬ w = 0)) => ?_)
        · show am_E _ _ _ 65 [(0, .inr (.inr (.inl (some 107)))), (1, .inl m), (2, .inl w), (3, .inl k)] [] (am_mm D (am_wp tO (am_wp tLL I Q50) Q51) J ρ) _
          refine am_e_ss 4 (q := (71, [(0, .inr (.inr (.inl (some 107)))), (1, .inl m), (2, .inl w), (3, .inl k)], [.inl m, .inr (.inr (.inl (some 116))), .inl k], (am_mm D (am_wp tO (am_wp tLL I Q50) Q51) J ρ))) rfl ?_
          refine am_e_iaload (m := 6) rfl rfl (by omega) (by omega) (by omega) ?_
          show am_E _ _ _ 72 [(0, .inr (.inr (.inl (some 107)))), (1, .inl m), (2, .inl w), (3, .inl k)] [.inl ((Q51 116 (m).toNat)), .inl k] (am_mm D (am_wp tO (am_wp tLL I Q50) Q51) J ρ) _
          refine am_e_icmp2 rfl ⟨by omega, by omega⟩ ⟨by omega, by omega⟩ (fun (h5 : (Q51 116 (m).toNat) ≤ k) => ?_) (fun (h5 : ¬ ((Q51 116 (m).toNat) ≤ k)) => ?_)
          · show am_E _ _ _ 89 [(0, .inr (.inr (.inl (some 107)))), (1, .inl m), (2, .inl w), (3, .inl k)] [] (am_mm D (am_wp tO (am_wp tLL I Q50) Q51) J ρ) _
            refine am_e_ss 1 (q := (91, [(0, .inr (.inr (.inl (some 107)))), (1, .inl m), (2, .inl w), (3, .inl k)], [.inl (-5)], (am_mm D (am_wp tO (am_wp tLL I Q50) Q51) J ρ))) rfl ?_
            refine am_e_ireturn rfl rfl ?_
            have hn : m.toNat < (I 108 19).toNat := by omega
            have hOm := hO _ hn
            have hYm := hY _ hn
            have hOl := sp_ord_len (S := I 108) (m := m.toNat)
            have opb := sp_ops_b hok
            have hv : sp_order (I 108) m w k = (-5) := by
              unfold sp_order sp_get
              rw [if_neg (by omega), if_neg (by omega), if_neg (by omega)]
              by_cases hw0 : w = 0
              · rw [if_pos hw0, List.getElem?_eq_none (by omega)]
              · rw [if_neg hw0, List.getElem?_eq_none (by omega)]
            rw [hv]
            exact ⟨_, am_r_wp tA (am_k_wp (tO_tA) (am_k_wp (tLL_tA) (am_k_id)))⟩
          · show am_E _ _ _ 75 [(0, .inr (.inr (.inl (some 107)))), (1, .inl m), (2, .inl w), (3, .inl k)] [] (am_mm D (am_wp tO (am_wp tLL I Q50) Q51) J ρ) _
            refine am_e_ss 7 (q := (85, [(0, .inr (.inr (.inl (some 107)))), (1, .inl m), (2, .inl w), (3, .inl k)], [.inl ((6 * m) + k), .inr (.inr (.inl (some 115)))], (am_mm D (am_wp tO (am_wp tLL I Q50) Q51) J ρ))) rfl ?_
            refine am_e_iaload (m := 36) rfl rfl (by omega) (by omega) (by omega) ?_
            show am_E _ _ _ 86 [(0, .inr (.inr (.inl (some 107)))), (1, .inl m), (2, .inl w), (3, .inl k)] [.inl ((Q51 115 (((6 * m) + k)).toNat))] (am_mm D (am_wp tO (am_wp tLL I Q50) Q51) J ρ) _
            refine am_e_ss 1 (q := (91, [(0, .inr (.inr (.inl (some 107)))), (1, .inl m), (2, .inl w), (3, .inl k)], [.inl ((Q51 115 (((6 * m) + k)).toNat))], (am_mm D (am_wp tO (am_wp tLL I Q50) Q51) J ρ))) rfl ?_
            refine am_e_ireturn rfl rfl ?_
            have hn : m.toNat < (I 108 19).toNat := by omega
            have hOm := hO _ hn
            have hYm := hY _ hn
            have hOl := sp_ord_len (S := I 108) (m := m.toNat)
            have opb := sp_ops_b hok
            have hv : sp_order (I 108) m w k = (Q51 115 (((6 * m) + k)).toNat) := by
              unfold sp_order sp_get
              rw [if_neg (by omega), if_neg (by omega), if_neg (by omega)]
              rw [if_neg (by omega), List.getElem?_eq_getElem (show k.toNat < (sp_says (I 108) m.toNat).length by omega)]
              rw [show ((6 * m) + k).toNat = 6 * m.toNat + k.toNat by omega, hYm.2 k.toNat _ (List.getElem?_eq_getElem (show k.toNat < (sp_says (I 108) m.toNat).length by omega))]
            rw [hv]
            exact ⟨_, am_r_wp tA (am_k_wp (tO_tA) (am_k_wp (tLL_tA) (am_k_id)))⟩
        · show am_E _ _ _ 40 [(0, .inr (.inr (.inl (some 107)))), (1, .inl m), (2, .inl w), (3, .inl k)] [] (am_mm D (am_wp tO (am_wp tLL I Q50) Q51) J ρ) _
          refine am_e_ss 3 (q := (45, [(0, .inr (.inr (.inl (some 107)))), (1, .inl m), (2, .inl w), (3, .inl k)], [.inl ((Q51 107 20)), .inl k], (am_mm D (am_wp tO (am_wp tLL I Q50) Q51) J ρ))) rfl ?_
          refine am_e_icmp2 rfl ⟨by omega, by omega⟩ ⟨by omega, by omega⟩ (fun (h6 : (Q51 107 20) ≤ k) => ?_) (fun (h6 : ¬ ((Q51 107 20) ≤ k)) => ?_)
          · show am_E _ _ _ 62 [(0, .inr (.inr (.inl (some 107)))), (1, .inl m), (2, .inl w), (3, .inl k)] [] (am_mm D (am_wp tO (am_wp tLL I Q50) Q51) J ρ) _
            refine am_e_ss 1 (q := (64, [(0, .inr (.inr (.inl (some 107)))), (1, .inl m), (2, .inl w), (3, .inl k)], [.inl (-5)], (am_mm D (am_wp tO (am_wp tLL I Q50) Q51) J ρ))) rfl ?_
            refine am_e_ireturn rfl rfl ?_
            have hn : m.toNat < (I 108 19).toNat := by omega
            have hOm := hO _ hn
            have hYm := hY _ hn
            have hOl := sp_ord_len (S := I 108) (m := m.toNat)
            have opb := sp_ops_b hok
            have hv : sp_order (I 108) m w k = (-5) := by
              unfold sp_order sp_get
              rw [if_neg (by omega), if_neg (by omega), if_neg (by omega)]
              by_cases hw0 : w = 0
              · rw [if_pos hw0, List.getElem?_eq_none (by omega)]
              · rw [if_neg hw0, List.getElem?_eq_none (by omega)]
            rw [hv]
            exact ⟨_, am_r_wp tA (am_k_wp (tO_tA) (am_k_wp (tLL_tA) (am_k_id)))⟩
          · show am_E _ _ _ 48 [(0, .inr (.inr (.inl (some 107)))), (1, .inl m), (2, .inl w), (3, .inl k)] [] (am_mm D (am_wp tO (am_wp tLL I Q50) Q51) J ρ) _
            refine am_e_ss 7 (q := (58, [(0, .inr (.inr (.inl (some 107)))), (1, .inl m), (2, .inl w), (3, .inl k)], [.inl ((6 * m) + k), .inr (.inr (.inl (some 114)))], (am_mm D (am_wp tO (am_wp tLL I Q50) Q51) J ρ))) rfl ?_
            refine am_e_iaload (m := 36) rfl rfl (by omega) (by omega) (by omega) ?_
            show am_E _ _ _ 59 [(0, .inr (.inr (.inl (some 107)))), (1, .inl m), (2, .inl w), (3, .inl k)] [.inl ((Q51 114 (((6 * m) + k)).toNat))] (am_mm D (am_wp tO (am_wp tLL I Q50) Q51) J ρ) _
            refine am_e_ss 1 (q := (64, [(0, .inr (.inr (.inl (some 107)))), (1, .inl m), (2, .inl w), (3, .inl k)], [.inl ((Q51 114 (((6 * m) + k)).toNat))], (am_mm D (am_wp tO (am_wp tLL I Q50) Q51) J ρ))) rfl ?_
            refine am_e_ireturn rfl rfl ?_
            have hn : m.toNat < (I 108 19).toNat := by omega
            have hOm := hO _ hn
            have hYm := hY _ hn
            have hOl := sp_ord_len (S := I 108) (m := m.toNat)
            have opb := sp_ops_b hok
            have hv : sp_order (I 108) m w k = (Q51 114 (((6 * m) + k)).toNat) := by
              unfold sp_order sp_get
              rw [if_neg (by omega), if_neg (by omega), if_neg (by omega)]
              rw [if_pos (by omega), List.getElem?_eq_getElem (show k.toNat < (sp_ord (I 108) m.toNat).length by omega)]
              rw [show ((6 * m) + k).toNat = 6 * m.toNat + k.toNat by omega, hOm k.toNat _ (List.getElem?_eq_getElem (show k.toNat < (sp_ord (I 108) m.toNat).length by omega))]
            rw [hv]
            exact ⟨_, am_r_wp tA (am_k_wp (tO_tA) (am_k_wp (tLL_tA) (am_k_id)))⟩
      · show am_E _ _ _ 26 [(0, .inr (.inr (.inl (some 107)))), (1, .inl m), (2, .inl w), (3, .inl k)] [] (am_mm D I J ρ) _
        refine am_e_ss 1 (q := (27, [(0, .inr (.inr (.inl (some 107)))), (1, .inl m), (2, .inl w), (3, .inl k)], [.inl (-1)], (am_mm D I J ρ))) rfl ?_
        refine am_e_ireturn rfl rfl ?_
        refine ⟨I, ?_⟩
        rw [show sp_order (I 108) m w k = -1 by (unfold sp_order; (repeat' split) <;> first | rfl | (exfalso; omega))]
        exact am_r_wp tA am_k_id
theorem r_looked_l {X : Nat × (Nat → Int)} {D : List (Nat × Nat)} {I J : Nat → Nat → Int} {ρ : Nat → Nat → Option Nat} (d : Nat) {B : Int} {b n : Nat} (hn : n + b = (min (I 108 20) (I 108 22)).toNat) (hV : r_rep (I 108 19).toNat (I 117) (I 118) (sp_vl (I 108) 0)) (hok : r_ok (I 108) B) : am_E X (d + 2) 202 15 [(1, .inl (b : Int)), (0, .inr (.inr (.inl (some 107))))] [] (am_mm D I J ρ) (fun r => r = (some (.inl ((sp_lookf (I 108) (fun b : Nat => sp_cof (sp_Vr (sp_vl (I 108) 0)) (sp_Zr (sp_vl (I 108) 0)) b 0 (I 108 19).toNat) n b))), (am_mm D I J ρ))) := by
  have hok2 := hok
  obtain ⟨o0, oG, oH, oD, o19, o20, o21, o22, o23, o24, oK, oV, oP, oM, oS, oY, oHd, oT, oC, oN⟩ := hok
  have hok := hok2
  have hvo := r_vl_vo hok (sp_vl_vl hok) hV
  have oh := oHd b
  have cg := sp_cof_cg (b := (b : Int)) (way := 0) hV (sp_rep_cn (fun m hm => (sp_vl_vl (t := 0) hok m hm).1)) _ (Nat.le_refl _)
  have cb := sp_cof_b (V := I 117) (Z := I 118) (b := (b : Int)) (way := 0) (I 108 19).toNat (fun j hj => (hvo j hj).1)
  refine am_e_ss 5 (q := (23, [(1, .inl (b : Int)), (0, .inr (.inr (.inl (some 107))))], [.inl ((I 108 20)), .inl (b : Int)], (am_mm D I J ρ))) rfl ?_
  refine am_e_icmp2 rfl ⟨by omega, by omega⟩ ⟨by omega, by omega⟩ (fun (h1 : (I 108 20) ≤ (b : Int)) => ?_) (fun (h1 : ¬ ((I 108 20) ≤ (b : Int))) => ?_)
  · show am_E _ _ _ 71 [(1, .inl (b : Int)), (0, .inr (.inr (.inl (some 107))))] [] (am_mm D I J ρ) _
    refine am_e_ss 1 (q := (73, [(1, .inl (b : Int)), (0, .inr (.inr (.inl (some 107))))], [.inl (-5)], (am_mm D I J ρ))) rfl ?_
    refine am_e_ireturn rfl rfl ?_
    rw [show n = 0 by omega]
    rfl
  · show am_E _ _ _ 26 [(1, .inl (b : Int)), (0, .inr (.inr (.inl (some 107))))] [] (am_mm D I J ρ) _
    refine am_e_ss 5 (q := (34, [(1, .inl (b : Int)), (0, .inr (.inr (.inl (some 107))))], [.inl ((I 108 22)), .inl (b : Int)], (am_mm D I J ρ))) rfl ?_
    refine am_e_icmp2 rfl ⟨by omega, by omega⟩ ⟨by omega, by omega⟩ (fun (h2 : (I 108 22) ≤ (b : Int)) => ?_) (fun (h2 : ¬ ((I 108 22) ≤ (b : Int))) => ?_)
    · show am_E _ _ _ 71 [(1, .inl (b : Int)), (0, .inr (.inr (.inl (some 107))))] [] (am_mm D I J ρ) _
      refine am_e_ss 1 (q := (73, [(1, .inl (b : Int)), (0, .inr (.inr (.inl (some 107))))], [.inl (-5)], (am_mm D I J ρ))) rfl ?_
      refine am_e_ireturn rfl rfl ?_
      rw [show n = 0 by omega]
      rfl
    · show am_E _ _ _ 37 [(1, .inl (b : Int)), (0, .inr (.inr (.inl (some 107))))] [] (am_mm D I J ρ) _
      have oh := oh (by omega)
      refine am_e_ss 2 (q := (39, [(1, .inl (b : Int)), (0, .inr (.inr (.inl (some 107))))], [.inl (b : Int), .inr (.inr (.inl (some 107)))], (am_mm D I J ρ))) rfl ?_
      refine am_e_virtual (Q := fun r => r = (some (.inl ((am_bi ((I 108 (13 + b)) = 0)))), (am_mm D I J ρ))) rfl rfl (Nat.le_of_ble_eq_true rfl) rfl rfl (Nat.le_of_ble_eq_true rfl) (Nat.le_of_ble_eq_true rfl) (r_isOpen _ (v := (b : Int)) ⟨by omega, by omega⟩ (by exact oD b (by omega))) ?_
      rintro r rfl
      show am_E _ _ _ 42 [(1, .inl (b : Int)), (0, .inr (.inr (.inl (some 107))))] [.inl ((am_bi ((I 108 (13 + b)) = 0)))] (am_mm D I J ρ) _
      refine am_e_ifeq rfl (fun h3 => ?_) (fun h3 => ?_)
      · show am_E _ _ _ 65 [(1, .inl (b : Int)), (0, .inr (.inr (.inl (some 107))))] [] (am_mm D I J ρ) _
        refine am_e_ss 2 (q := (15, [(1, .inl ((b : Int) + 1)), (0, .inr (.inr (.inl (some 107))))], [], (am_mm D I J ρ))) rfl ?_
        obtain ⟨n', rfl⟩ : ∃ n', n = n' + 1 := ⟨n - 1, by omega⟩
        rw [show sp_lookf (I 108) (fun b : Nat => sp_cof (sp_Vr (sp_vl (I 108) 0)) (sp_Zr (sp_vl (I 108) 0)) b 0 (I 108 19).toNat) (n' + 1) b = sp_lookf (I 108) (fun b : Nat => sp_cof (sp_Vr (sp_vl (I 108) 0)) (sp_Zr (sp_vl (I 108) 0)) b 0 (I 108 19).toNat) n' (b + 1) from if_neg (by dsimp only; omega)]
        exact am_less (lv := [(1, .inl ((b + 1) : Int)), (0, .inr (.inr (.inl (some 107))))]) rfl (List.forall_mem_cons.mpr ⟨rfl, List.forall_mem_cons.mpr ⟨rfl, List.forall_mem_nil _⟩⟩) (r_looked_l d (b := b + 1) (n := n') (by omega) hV hok)
      · show am_E _ _ _ 45 [(1, .inl (b : Int)), (0, .inr (.inr (.inl (some 107))))] [] (am_mm D I J ρ) _
        refine am_e_ss 3 (q := (48, [(1, .inl (b : Int)), (0, .inr (.inr (.inl (some 107))))], [.inl 0, .inl (b : Int), .inr (.inr (.inl (some 107)))], (am_mm D I J ρ))) rfl ?_
        refine am_e_virtual (Q := fun r => r = (some (.inl ((sp_cof (I 117) (I 118) (b : Int) 0 (I 108 19).toNat))), (am_mm D I J ρ))) rfl rfl (Nat.le_of_ble_eq_true rfl) rfl rfl (Nat.le_of_ble_eq_true rfl) (Nat.le_of_ble_eq_true rfl) (r_countOf _ (B := B) ⟨by omega, by omega⟩ ⟨by omega, by omega⟩ hok hvo) ?_
        rintro r rfl
        show am_E _ _ _ 51 [(1, .inl (b : Int)), (0, .inr (.inr (.inl (some 107))))] [.inl ((sp_cof (I 117) (I 118) (b : Int) 0 (I 108 19).toNat))] (am_mm D I J ρ) _
        refine am_e_ss 5 (q := (59, [(1, .inl (b : Int)), (0, .inr (.inr (.inl (some 107))))], [.inl (62 + (b : Int)), .inr (.inr (.inl (some 108))), .inl ((sp_cof (I 117) (I 118) (b : Int) 0 (I 108 19).toNat))], (am_mm D I J ρ))) rfl ?_
        refine am_e_iaload (m := 878) rfl rfl (by omega) (by omega) (by omega) ?_
        show am_E _ _ _ 60 [(1, .inl (b : Int)), (0, .inr (.inr (.inl (some 107))))] [.inl ((I 108 (62 + b))), .inl ((sp_cof (I 117) (I 118) (b : Int) 0 (I 108 19).toNat))] (am_mm D I J ρ) _
        refine am_e_icmp2 rfl ⟨by omega, by omega⟩ ⟨by omega, by omega⟩ (fun (h4 : (sp_cof (I 117) (I 118) (b : Int) 0 (I 108 19).toNat) = (I 108 (62 + b))) => ?_) (fun (h4 : ¬ ((sp_cof (I 117) (I 118) (b : Int) 0 (I 108 19).toNat) = (I 108 (62 + b)))) => ?_)
        · show am_E _ _ _ 65 [(1, .inl (b : Int)), (0, .inr (.inr (.inl (some 107))))] [] (am_mm D I J ρ) _
          refine am_e_ss 2 (q := (15, [(1, .inl ((b : Int) + 1)), (0, .inr (.inr (.inl (some 107))))], [], (am_mm D I J ρ))) rfl ?_
          obtain ⟨n', rfl⟩ : ∃ n', n = n' + 1 := ⟨n - 1, by omega⟩
          rw [show sp_lookf (I 108) (fun b : Nat => sp_cof (sp_Vr (sp_vl (I 108) 0)) (sp_Zr (sp_vl (I 108) 0)) b 0 (I 108 19).toNat) (n' + 1) b = sp_lookf (I 108) (fun b : Nat => sp_cof (sp_Vr (sp_vl (I 108) 0)) (sp_Zr (sp_vl (I 108) 0)) b 0 (I 108 19).toNat) n' (b + 1) from if_neg (by dsimp only; omega)]
          exact am_less (lv := [(1, .inl ((b + 1) : Int)), (0, .inr (.inr (.inl (some 107))))]) rfl (List.forall_mem_cons.mpr ⟨rfl, List.forall_mem_cons.mpr ⟨rfl, List.forall_mem_nil _⟩⟩) (r_looked_l d (b := b + 1) (n := n') (by omega) hV hok)
        · show am_E _ _ _ 63 [(1, .inl (b : Int)), (0, .inr (.inr (.inl (some 107))))] [] (am_mm D I J ρ) _
          refine am_e_ss 1 (q := (64, [(1, .inl (b : Int)), (0, .inr (.inr (.inl (some 107))))], [.inl (b : Int)], (am_mm D I J ρ))) rfl ?_
          refine am_e_ireturn rfl rfl ?_
          obtain ⟨n', rfl⟩ : ∃ n', n = n' + 1 := ⟨n - 1, by omega⟩
          rw [show sp_lookf (I 108) (fun b : Nat => sp_cof (sp_Vr (sp_vl (I 108) 0)) (sp_Zr (sp_vl (I 108) 0)) b 0 (I 108 19).toNat) (n' + 1) b = (b : Int) from if_pos (by dsimp only; omega)]
termination_by n
decreasing_by all_goals omega
theorem r_looked {X : Nat × (Nat → Int)} {D : List (Nat × Nat)} {I J : Nat → Nat → Int} {ρ : Nat → Nat → Option Nat} (d : Nat) {B : Int} (hok : r_ok (I 108) B) (hwf : sp_wfS (I 108)) : am_E X (d + 4) 202 0 [(0, .inr (.inr (.inl (some 107))))] [] (am_mm D I J ρ) (fun r => ∃ Q, r = (some (.inl (sp_looked (I 108))), am_mm D (am_wp tA I Q) J ρ)) := by
  have hok2 := hok
  obtain ⟨o0, oG, oH, oD, o19, o20, o21, o22, o23, o24, oK, oV, oP, oM, oS, oY, oHd, oT, oC, oN⟩ := hok
  have hok := hok2
  refine am_e_ss 1 (q := (1, [(0, .inr (.inr (.inl (some 107))))], [.inr (.inr (.inl (some 107)))], (am_mm D I J ρ))) rfl ?_
  refine am_e_virtual (Q := fun r => ∃ Q52, r = (none, (am_mm D (am_wp tLL I Q52) J ρ)) ∧ r_lks (I 108) (Q52 113)) rfl rfl (Nat.le_of_ble_eq_true rfl) rfl rfl (Nat.le_of_ble_eq_true rfl) (Nat.le_of_ble_eq_true rfl) (r_looksForLikes _ (B := B) hok hwf) ?_
  rintro r ⟨Q52, rfl, hl⟩
  show am_E _ _ _ 4 [(0, .inr (.inr (.inl (some 107))))] [] (am_mm D (am_wp tLL I Q52) J ρ) _
  refine am_e_ss 1 (q := (5, [(0, .inr (.inr (.inl (some 107))))], [.inr (.inr (.inl (some 107)))], (am_mm D (am_wp tLL I Q52) J ρ))) rfl ?_
  refine am_e_virtual (Q := fun r => ∃ Q53, r = (none, (am_mm D (am_wp tO (am_wp tLL I Q52) Q53) J ρ)) ∧ Q53 107 20 = sp_ops (I 108) ∧ (∀ m : Nat, m < ((I 108) 19).toNat → am_rowl (Q53 114) (6 * m) (sp_ord (I 108) m)) ∧ (∀ m : Nat, m < ((I 108) 19).toNat → Q53 116 m = ((sp_says (I 108) m).length : Int) ∧ am_rowl (Q53 115) (6 * m) (sp_says (I 108) m))) rfl rfl (Nat.le_of_ble_eq_true rfl) rfl rfl (Nat.le_of_ble_eq_true rfl) (Nat.le_of_ble_eq_true rfl) (r_looksForOrders _ (B := B) hl hok hwf) ?_
  rintro r ⟨Q53, rfl, ⟨hop, hO, hY⟩⟩
  show am_E _ _ _ 8 [(0, .inr (.inr (.inl (some 107))))] [] (am_mm D (am_wp tO (am_wp tLL I Q52) Q53) J ρ) _
  refine am_e_ss 2 (q := (10, [(0, .inr (.inr (.inl (some 107))))], [.inl 0, .inr (.inr (.inl (some 107)))], (am_mm D (am_wp tO (am_wp tLL I Q52) Q53) J ρ))) rfl ?_
  refine am_e_virtual (Q := fun r => ∃ Q54, r = (none, (am_mm D (am_wp tH (am_wp tO (am_wp tLL I Q52) Q53) Q54) J ρ)) ∧ r_rep ((I 108) 19).toNat (Q54 117) (Q54 118) (sp_vl (I 108) 0)) rfl rfl (Nat.le_of_ble_eq_true rfl) rfl rfl (Nat.le_of_ble_eq_true rfl) (Nat.le_of_ble_eq_true rfl) (r_hears _ (B := B) (by omega) hop hO hY hok) ?_
  rintro r ⟨Q54, rfl, hV⟩
  show am_E _ _ _ 13 [(0, .inr (.inr (.inl (some 107))))] [] (am_mm D (am_wp tH (am_wp tO (am_wp tLL I Q52) Q53) Q54) J ρ) _
  refine am_e_ss 2 (q := (15, [(1, .inl 0), (0, .inr (.inr (.inl (some 107))))], [], (am_mm D (am_wp tH (am_wp tO (am_wp tLL I Q52) Q53) Q54) J ρ))) rfl ?_
  refine (am_less (lv := [(1, .inl (0 : Int)), (0, .inr (.inr (.inl (some 107))))]) rfl (List.forall_mem_cons.mpr ⟨rfl, List.forall_mem_cons.mpr ⟨rfl, List.forall_mem_nil _⟩⟩) (r_looked_l (d + 2) (I := am_wp tH (am_wp tO (am_wp tLL I Q52) Q53) Q54) (B := B) (b := 0) (n := (min (I 108 20) (I 108 22)).toNat) (by show _ = (min (I 108 20) (I 108 22)).toNat; omega) hV hok)).imp ?_
  intro r h
  rw [h]
  exact ⟨_, am_r_wp tA (am_k_wp (tH_tA) (am_k_wp (tO_tA) (am_k_wp (tLL_tA) (am_k_id))))⟩
