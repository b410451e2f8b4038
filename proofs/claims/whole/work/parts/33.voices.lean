/-! THE REFERENCE: what is said, voices, choices -/
theorem sp_hd_b {S : Nat → Int} {B : Int} (hok : r_ok S B) (m : Nat) : 0 ≤ sp_hd S m ∧ sp_hd S m ≤ 5 := by
  obtain ⟨o0, oG, oH, oD, o19, o20, o21, o22, o23, o24, oK, oV, oP, oM, oS, oY, oHd, oT, oC, oN⟩ := hok
  unfold sp_hd
  cases hL : sp_ord S m with
  | nil => exact ⟨by show (0 : Int) ≤ ((0 : Nat) : Int); omega, by show ((0 : Nat) : Int) ≤ 5; omega⟩
  | cons a r =>
    have : a ∈ sp_ord S m := by rw [hL]; exact List.mem_cons_self
    have := (sp_ord_mem.mp this).1
    show 0 ≤ (a : Int) ∧ (a : Int) ≤ 5
    omega
theorem sp_hd_of {S O : Nat → Int} {m : Nat} (ho : ¬ sp_ops S = 0) (h : am_rowl O (6 * m) (sp_ord S m)) : O (6 * m) = sp_hd S m := by
  have hne : (sp_ord S m).length ≠ 0 := by
    have := sp_ord_len (S := S) (m := m)
    omega
  unfold sp_hd
  cases hL : sp_ord S m with
  | nil => rw [hL] at hne; exact absurd rfl hne
  | cons a r =>
    have := h 0 a (by rw [hL]; rfl)
    rw [Nat.add_zero] at this
    exact this
theorem sp_first_b {S : Nat → Int} {B : Int} (hok : r_ok S B) : -1 ≤ sp_first S ∧ sp_first S ≤ 5 := by
  obtain ⟨o0, oG, oH, oD, o19, o20, o21, o22, o23, o24, oK, oV, oP, oM, oS, oY, oHd, oT, oC, oN⟩ := hok
  have := (sp_fmk_b (S := S) (h := sp_hd S) (S 20).toNat).1
  unfold sp_first sp_fom
  omega
theorem r_speaks {X : Nat × (Nat → Int)} {D : List (Nat × Nat)} {I J : Nat → Nat → Int} {ρ : Nat → Nat → Option Nat} (d : Nat) {B : Int} {m : Nat} (hm : (m : Int) < I 108 19) (hO : ∀ m : Nat, m < (I 108 19).toNat → am_rowl (I 114) (6 * m) (sp_ord (I 108) m)) (hop : I 107 20 = sp_ops (I 108)) (hok : r_ok (I 108) B) : am_E X (d + 2) 166 0 [(0, .inr (.inr (.inl (some 107)))), (1, .inl (m : Int))] [] (am_mm D I J ρ) (fun r => ∃ Q, r = (none, am_mm D (am_wp tY I Q) J ρ) ∧ am_rowl (Q 115) (6 * m) (sp_says (I 108) m) ∧ Q 116 m = ((sp_says (I 108) m).length : Int) ∧ (∀ i, i < 6 * m ∨ 6 * m + 6 ≤ i → Q 115 i = I 115 i) ∧ (∀ i, i ≠ m → Q 116 i = I 116 i)) := by
  have hok2 := hok
  obtain ⟨o0, oG, oH, oD, o19, o20, o21, o22, o23, o24, oK, oV, oP, oM, oS, oY, oHd, oT, oC, oN⟩ := hok
  have hok := hok2
  have opb := sp_ops_b hok
  have oKm := oK m (by omega)
  have oVm := oV m (by omega)
  have oYm := oY m (by omega)
  refine am_e_ss 5 (q := (8, [(0, .inr (.inr (.inl (some 107)))), (1, .inl (m : Int))], [.inl (26 + (m : Int)), .inr (.inr (.inl (some 108)))], (am_mm D I J ρ))) rfl ?_
  refine am_e_iaload (m := 878) rfl rfl (by omega) (by omega) (by omega) ?_
  show am_E _ _ _ 9 [(0, .inr (.inr (.inl (some 107)))), (1, .inl (m : Int))] [.inl ((I 108 (26 + m)))] (am_mm D I J ρ) _
  refine am_e_ss 6 (q := (18, [(2, .inl ((I 108 (26 + m)))), (0, .inr (.inr (.inl (some 107)))), (1, .inl (m : Int))], [.inl (32 + (m : Int)), .inr (.inr (.inl (some 108)))], (am_mm D I J ρ))) rfl ?_
  refine am_e_iaload (m := 878) rfl rfl (by omega) (by omega) (by omega) ?_
  show am_E _ _ _ 19 [(2, .inl ((I 108 (26 + m)))), (0, .inr (.inr (.inl (some 107)))), (1, .inl (m : Int))] [.inl ((I 108 (32 + m)))] (am_mm D I J ρ) _
  refine am_e_ss 3 (q := (24, [(3, .inl ((I 108 (32 + m)))), (2, .inl ((I 108 (26 + m)))), (0, .inr (.inr (.inl (some 107)))), (1, .inl (m : Int))], [.inl ((I 107 20))], (am_mm D I J ρ))) rfl ?_
  refine am_e_if2 rfl ⟨by omega, by omega⟩ (fun (h1 : (I 107 20) = 0) => ?_) (fun (h1 : ¬ ((I 107 20) = 0)) => ?_)
  · show am_E _ _ _ 43 [(3, .inl ((I 108 (32 + m)))), (2, .inl ((I 108 (26 + m)))), (0, .inr (.inr (.inl (some 107)))), (1, .inl (m : Int))] [] (am_mm D I J ρ) _
    refine am_e_ss 4 (q := (49, [(3, .inl ((I 108 (32 + m)))), (2, .inl ((I 108 (26 + m)))), (0, .inr (.inr (.inl (some 107)))), (1, .inl (m : Int))], [.inl 0, .inl (m : Int), .inr (.inr (.inl (some 116)))], (am_mm D I J ρ))) rfl ?_
    refine am_e_iastore (m := 6) rfl rfl (by omega) (by omega) (by omega) ?_
    show am_E _ _ _ 50 [(3, .inl ((I 108 (32 + m)))), (2, .inl ((I 108 (26 + m)))), (0, .inr (.inr (.inl (some 107)))), (1, .inl (m : Int))] [] (am_mm D (am_up I 116 m 0) J ρ) _
    refine am_e_ss 1 (q := (166, [(3, .inl ((I 108 (32 + m)))), (2, .inl ((I 108 (26 + m)))), (0, .inr (.inr (.inl (some 107)))), (1, .inl (m : Int))], [], (am_mm D (am_up I 116 m 0) J ρ))) rfl ?_
    refine am_e_return rfl rfl ?_
    have es : sp_says (I 108) m = [] := by
      unfold sp_says
      rw [← hop]
      (repeat' split) <;> first | rfl | (exfalso; omega)
    refine ⟨_, am_r_wp tY (am_k_up rfl (am_k_id)), ?_, ?_, fun i _ => rfl, fun i hi => am_up_ne2 (by omega)⟩
    · rw [es]; exact am_rowl_nil
    · rw [es]; exact am_up_at2
  · show am_E _ _ _ 27 [(3, .inl ((I 108 (32 + m)))), (2, .inl ((I 108 (26 + m)))), (0, .inr (.inr (.inl (some 107)))), (1, .inl (m : Int))] [] (am_mm D I J ρ) _
    refine am_e_ss 2 (q := (29, [(3, .inl ((I 108 (32 + m)))), (2, .inl ((I 108 (26 + m)))), (0, .inr (.inr (.inl (some 107)))), (1, .inl (m : Int))], [.inl (m : Int), .inr (.inr (.inl (some 107)))], (am_mm D I J ρ))) rfl ?_
    refine am_e_virtual (Q := fun r => r = (some (.inl ((am_bi ((I 108 (7 + m)) = 0)))), (am_mm D I J ρ))) rfl rfl (Nat.le_of_ble_eq_true rfl) rfl rfl (Nat.le_of_ble_eq_true rfl) (Nat.le_of_ble_eq_true rfl) (r_isHere _ (v := (m : Int)) ⟨by omega, by omega⟩ (by exact oH m (by omega))) ?_
    rintro r rfl
    show am_E _ _ _ 32 [(3, .inl ((I 108 (32 + m)))), (2, .inl ((I 108 (26 + m)))), (0, .inr (.inr (.inl (some 107)))), (1, .inl (m : Int))] [.inl ((am_bi ((I 108 (7 + m)) = 0)))] (am_mm D I J ρ) _
    refine am_e_ifeq rfl (fun h2 => ?_) (fun h2 => ?_)
    · show am_E _ _ _ 43 [(3, .inl ((I 108 (32 + m)))), (2, .inl ((I 108 (26 + m)))), (0, .inr (.inr (.inl (some 107)))), (1, .inl (m : Int))] [] (am_mm D I J ρ) _
      refine am_e_ss 4 (q := (49, [(3, .inl ((I 108 (32 + m)))), (2, .inl ((I 108 (26 + m)))), (0, .inr (.inr (.inl (some 107)))), (1, .inl (m : Int))], [.inl 0, .inl (m : Int), .inr (.inr (.inl (some 116)))], (am_mm D I J ρ))) rfl ?_
      refine am_e_iastore (m := 6) rfl rfl (by omega) (by omega) (by omega) ?_
      show am_E _ _ _ 50 [(3, .inl ((I 108 (32 + m)))), (2, .inl ((I 108 (26 + m)))), (0, .inr (.inr (.inl (some 107)))), (1, .inl (m : Int))] [] (am_mm D (am_up I 116 m 0) J ρ) _
      refine am_e_ss 1 (q := (166, [(3, .inl ((I 108 (32 + m)))), (2, .inl ((I 108 (26 + m)))), (0, .inr (.inr (.inl (some 107)))), (1, .inl (m : Int))], [], (am_mm D (am_up I 116 m 0) J ρ))) rfl ?_
      refine am_e_return rfl rfl ?_
      have es : sp_says (I 108) m = [] := by
        unfold sp_says
        rw [← hop]
        (repeat' split) <;> first | rfl | (exfalso; omega)
      refine ⟨_, am_r_wp tY (am_k_up rfl (am_k_id)), ?_, ?_, fun i _ => rfl, fun i hi => am_up_ne2 (by omega)⟩
      · rw [es]; exact am_rowl_nil
      · rw [es]; exact am_up_at2
    · show am_E _ _ _ 35 [(3, .inl ((I 108 (32 + m)))), (2, .inl ((I 108 (26 + m)))), (0, .inr (.inr (.inl (some 107)))), (1, .inl (m : Int))] [] (am_mm D I J ρ) _
      refine am_e_ss 2 (q := (37, [(3, .inl ((I 108 (32 + m)))), (2, .inl ((I 108 (26 + m)))), (0, .inr (.inr (.inl (some 107)))), (1, .inl (m : Int))], [.inl (m : Int), .inr (.inr (.inl (some 107)))], (am_mm D I J ρ))) rfl ?_
      refine am_e_virtual (Q := fun r => r = (some (.inl ((am_bi ((I 108 (26 + m)) = 6 ∧ (I 108 0) % ((I 108 (32 + m)) + 2) = 0)))), (am_mm D I J ρ))) rfl rfl (Nat.le_of_ble_eq_true rfl) rfl rfl (Nat.le_of_ble_eq_true rfl) (Nat.le_of_ble_eq_true rfl) (r_isAwayNow _ (B := B) (m := (m : Int)) ⟨by omega, by omega⟩ hok) ?_
      rintro r rfl
      show am_E _ _ _ 40 [(3, .inl ((I 108 (32 + m)))), (2, .inl ((I 108 (26 + m)))), (0, .inr (.inr (.inl (some 107)))), (1, .inl (m : Int))] [.inl ((am_bi ((I 108 (26 + m)) = 6 ∧ (I 108 0) % ((I 108 (32 + m)) + 2) = 0)))] (am_mm D I J ρ) _
      refine am_e_ifeq rfl (fun h3 => ?_) (fun h3 => ?_)
      · show am_E _ _ _ 53 [(3, .inl ((I 108 (32 + m)))), (2, .inl ((I 108 (26 + m)))), (0, .inr (.inr (.inl (some 107)))), (1, .inl (m : Int))] [] (am_mm D I J ρ) _
        have hh : ∀ m, m < (I 108 19).toNat → (fun m => I 114 (6 * m)) m = sp_hd (I 108) m := fun m hm => sp_hd_of (by omega) (hO m hm)
        refine am_e_ss 2 (q := (55, [(3, .inl ((I 108 (32 + m)))), (2, .inl ((I 108 (26 + m)))), (0, .inr (.inr (.inl (some 107)))), (1, .inl (m : Int))], [.inl 4, .inl ((I 108 (26 + m)))], (am_mm D I J ρ))) rfl ?_
        refine am_e_icmp2 rfl ⟨by omega, by omega⟩ ⟨by omega, by omega⟩ (fun (h4 : ¬ (I 108 (26 + m)) = 4) => ?_) (fun (h4 : ¬ (¬ (I 108 (26 + m)) = 4)) => ?_)
        · show am_E _ _ _ 89 [(3, .inl ((I 108 (32 + m)))), (2, .inl ((I 108 (26 + m)))), (0, .inr (.inr (.inl (some 107)))), (1, .inl (m : Int))] [] (am_mm D I J ρ) _
          refine am_e_ss 2 (q := (91, [(3, .inl ((I 108 (32 + m)))), (2, .inl ((I 108 (26 + m)))), (0, .inr (.inr (.inl (some 107)))), (1, .inl (m : Int))], [.inl 1, .inl ((I 108 (26 + m)))], (am_mm D I J ρ))) rfl ?_
          refine am_e_icmp2 rfl ⟨by omega, by omega⟩ ⟨by omega, by omega⟩ (fun (h5 : (I 108 (26 + m)) = 1) => ?_) (fun (h5 : ¬ ((I 108 (26 + m)) = 1)) => ?_)
          · show am_E _ _ _ 99 [(3, .inl ((I 108 (32 + m)))), (2, .inl ((I 108 (26 + m)))), (0, .inr (.inr (.inl (some 107)))), (1, .inl (m : Int))] [] (am_mm D I J ρ) _
            refine am_e_ss 1 (q := (100, [(3, .inl ((I 108 (32 + m)))), (2, .inl ((I 108 (26 + m)))), (0, .inr (.inr (.inl (some 107)))), (1, .inl (m : Int))], [.inr (.inr (.inl (some 107)))], (am_mm D I J ρ))) rfl ?_
            refine am_e_virtual (Q := fun r => r = (some (.inl ((sp_first (I 108)))), (am_mm D I J ρ))) rfl rfl (Nat.le_of_ble_eq_true rfl) rfl rfl (Nat.le_of_ble_eq_true rfl) (Nat.le_of_ble_eq_true rfl) ((r_firstOfMost _ (B := B) (fun m hm => by rw [show I 114 (6 * m) = sp_hd (I 108) m from hh m hm]; exact sp_hd_b hok m) hok).imp (fun r h => by rw [h]; unfold sp_first; rw [sp_fom_cg hh])) ?_
            rintro r rfl
            show am_E _ _ _ 103 [(3, .inl ((I 108 (32 + m)))), (2, .inl ((I 108 (26 + m)))), (0, .inr (.inr (.inl (some 107)))), (1, .inl (m : Int))] [.inl ((sp_first (I 108)))] (am_mm D I J ρ) _
            refine am_e_ss 1 (q := (105, [(4, .inl ((sp_first (I 108)))), (3, .inl ((I 108 (32 + m)))), (2, .inl ((I 108 (26 + m)))), (0, .inr (.inr (.inl (some 107)))), (1, .inl (m : Int))], [], (am_mm D I J ρ))) rfl ?_
            have hhm : I 114 (6 * m) = sp_hd (I 108) m := hh m (by omega)
            have hb1 := sp_hd_b hok m
            have hb2 := sp_first_b hok
            refine am_e_ss 8 (q := (116, [(4, .inl ((sp_first (I 108)))), (3, .inl ((I 108 (32 + m)))), (2, .inl ((I 108 (26 + m)))), (0, .inr (.inr (.inl (some 107)))), (1, .inl (m : Int))], [.inl (6 * (m : Int)), .inr (.inr (.inl (some 114))), .inl (m : Int), .inl (m : Int), .inr (.inr (.inl (some 107)))], (am_mm D I J ρ))) rfl ?_
            refine am_e_iaload (m := 36) rfl rfl (by omega) (by omega) (by omega) ?_
            show am_E _ _ _ 117 [(4, .inl ((sp_first (I 108)))), (3, .inl ((I 108 (32 + m)))), (2, .inl ((I 108 (26 + m)))), (0, .inr (.inr (.inl (some 107)))), (1, .inl (m : Int))] [.inl ((I 114 (6 * m))), .inl (m : Int), .inl (m : Int), .inr (.inr (.inl (some 107)))] (am_mm D I J ρ) _
            refine am_e_ss 1 (q := (119, [(4, .inl ((sp_first (I 108)))), (3, .inl ((I 108 (32 + m)))), (2, .inl ((I 108 (26 + m)))), (0, .inr (.inr (.inl (some 107)))), (1, .inl (m : Int))], [.inl ((sp_first (I 108))), .inl ((I 114 (6 * m))), .inl (m : Int), .inl (m : Int), .inr (.inr (.inl (some 107)))], (am_mm D I J ρ))) rfl ?_
            refine am_e_icmp2 rfl ⟨by omega, by omega⟩ ⟨by omega, by omega⟩ (fun (h6 : ¬ (I 114 (6 * m)) = (sp_first (I 108))) => ?_) (fun (h6 : ¬ (¬ (I 114 (6 * m)) = (sp_first (I 108)))) => ?_)
            · show am_E _ _ _ 126 [(4, .inl ((sp_first (I 108)))), (3, .inl ((I 108 (32 + m)))), (2, .inl ((I 108 (26 + m)))), (0, .inr (.inr (.inl (some 107)))), (1, .inl (m : Int))] [.inl (m : Int), .inl (m : Int), .inr (.inr (.inl (some 107)))] (am_mm D I J ρ) _
              refine am_e_ss 1 (q := (128, [(4, .inl ((sp_first (I 108)))), (3, .inl ((I 108 (32 + m)))), (2, .inl ((I 108 (26 + m)))), (0, .inr (.inr (.inl (some 107)))), (1, .inl (m : Int))], [.inl ((sp_first (I 108))), .inl (m : Int), .inl (m : Int), .inr (.inr (.inl (some 107)))], (am_mm D I J ρ))) rfl ?_
              refine am_e_virtual (Q := fun r => ∃ Q10, r = (none, (am_mm D (am_wp tY I Q10) J ρ)) ∧ am_rowl (Q10 115) (6 * m) (sp_sayl (sp_ord (I 108) m) (sp_first (I 108))) ∧ Q10 116 m = ((sp_ord (I 108) m).length : Int) ∧ (∀ i, i < 6 * m ∨ 6 * m + 6 ≤ i → Q10 115 i = I 115 i) ∧ (∀ i, i ≠ m → Q10 116 i = I 116 i)) rfl rfl (Nat.le_of_ble_eq_true rfl) rfl rfl (Nat.le_of_ble_eq_true rfl) (Nat.le_of_ble_eq_true rfl) (r_saysOf _ (m := m) (fn := m) (L := (sp_ord (I 108) m)) (by omega) (by omega) (by omega) ⟨by omega, by omega⟩ (hO _ (by omega)) (hop.trans sp_ord_len.symm) (by have := sp_ord_len (S := I 108) (m := m); omega) (fun x hx => by have := sp_ord_mem.mp hx; omega)) ?_
              rintro r ⟨Q10, rfl, ⟨y1, y2, y3, y4⟩⟩
              show am_E _ _ _ 131 [(4, .inl ((sp_first (I 108)))), (3, .inl ((I 108 (32 + m)))), (2, .inl ((I 108 (26 + m)))), (0, .inr (.inr (.inl (some 107)))), (1, .inl (m : Int))] [] (am_mm D (am_wp tY I Q10) J ρ) _
              refine am_e_ss 1 (q := (166, [(4, .inl ((sp_first (I 108)))), (3, .inl ((I 108 (32 + m)))), (2, .inl ((I 108 (26 + m)))), (0, .inr (.inr (.inl (some 107)))), (1, .inl (m : Int))], [], (am_mm D (am_wp tY I Q10) J ρ))) rfl ?_
              refine am_e_return rfl rfl ?_
              have es : sp_says (I 108) m = (sp_sayl (sp_ord (I 108) m) (sp_first (I 108))) := by
                unfold sp_says
                rw [← hop]
                (repeat' split) <;> first | rfl | (exfalso; omega)
              refine ⟨Q10, rfl, ?_, ?_, y3, y4⟩
              · rw [es]; exact y1
              · rw [es, sp_sayl_len sp_ord_nd]; exact y2
            · show am_E _ _ _ 122 [(4, .inl ((sp_first (I 108)))), (3, .inl ((I 108 (32 + m)))), (2, .inl ((I 108 (26 + m)))), (0, .inr (.inr (.inl (some 107)))), (1, .inl (m : Int))] [.inl (m : Int), .inl (m : Int), .inr (.inr (.inl (some 107)))] (am_mm D I J ρ) _
              refine am_e_ss 2 (q := (128, [(4, .inl ((sp_first (I 108)))), (3, .inl ((I 108 (32 + m)))), (2, .inl ((I 108 (26 + m)))), (0, .inr (.inr (.inl (some 107)))), (1, .inl (m : Int))], [.inl (-1), .inl (m : Int), .inl (m : Int), .inr (.inr (.inl (some 107)))], (am_mm D I J ρ))) rfl ?_
              refine am_e_virtual (Q := fun r => ∃ Q11, r = (none, (am_mm D (am_wp tY I Q11) J ρ)) ∧ am_rowl (Q11 115) (6 * m) (sp_sayl (sp_ord (I 108) m) (-1)) ∧ Q11 116 m = ((sp_ord (I 108) m).length : Int) ∧ (∀ i, i < 6 * m ∨ 6 * m + 6 ≤ i → Q11 115 i = I 115 i) ∧ (∀ i, i ≠ m → Q11 116 i = I 116 i)) rfl rfl (Nat.le_of_ble_eq_true rfl) rfl rfl (Nat.le_of_ble_eq_true rfl) (Nat.le_of_ble_eq_true rfl) (r_saysOf _ (m := m) (fn := m) (L := (sp_ord (I 108) m)) (by omega) (by omega) (by omega) ⟨by omega, by omega⟩ (hO _ (by omega)) (hop.trans sp_ord_len.symm) (by have := sp_ord_len (S := I 108) (m := m); omega) (fun x hx => by have := sp_ord_mem.mp hx; omega)) ?_
              rintro r ⟨Q11, rfl, ⟨y1, y2, y3, y4⟩⟩
              show am_E _ _ _ 131 [(4, .inl ((sp_first (I 108)))), (3, .inl ((I 108 (32 + m)))), (2, .inl ((I 108 (26 + m)))), (0, .inr (.inr (.inl (some 107)))), (1, .inl (m : Int))] [] (am_mm D (am_wp tY I Q11) J ρ) _
              refine am_e_ss 1 (q := (166, [(4, .inl ((sp_first (I 108)))), (3, .inl ((I 108 (32 + m)))), (2, .inl ((I 108 (26 + m)))), (0, .inr (.inr (.inl (some 107)))), (1, .inl (m : Int))], [], (am_mm D (am_wp tY I Q11) J ρ))) rfl ?_
              refine am_e_return rfl rfl ?_
              have es : sp_says (I 108) m = (sp_sayl (sp_ord (I 108) m) (-1)) := by
                unfold sp_says
                rw [← hop]
                (repeat' split) <;> first | rfl | (exfalso; omega)
              refine ⟨Q11, rfl, ?_, ?_, y3, y4⟩
              · rw [es]; exact y1
              · rw [es, sp_sayl_len sp_ord_nd]; exact y2
          · show am_E _ _ _ 94 [(3, .inl ((I 108 (32 + m)))), (2, .inl ((I 108 (26 + m)))), (0, .inr (.inr (.inl (some 107)))), (1, .inl (m : Int))] [] (am_mm D I J ρ) _
            refine am_e_ss 2 (q := (96, [(3, .inl ((I 108 (32 + m)))), (2, .inl ((I 108 (26 + m)))), (0, .inr (.inr (.inl (some 107)))), (1, .inl (m : Int))], [.inl 4, .inl ((I 108 (26 + m)))], (am_mm D I J ρ))) rfl ?_
            refine am_e_icmp2 rfl ⟨by omega, by omega⟩ ⟨by omega, by omega⟩ (fun (h7 : ¬ (I 108 (26 + m)) = 4) => ?_) (fun (h7 : ¬ (¬ (I 108 (26 + m)) = 4)) => ?_)
            · show am_E _ _ _ 134 [(3, .inl ((I 108 (32 + m)))), (2, .inl ((I 108 (26 + m)))), (0, .inr (.inr (.inl (some 107)))), (1, .inl (m : Int))] [] (am_mm D I J ρ) _
              refine am_e_ss 5 (q := (139, [(3, .inl ((I 108 (32 + m)))), (2, .inl ((I 108 (26 + m)))), (0, .inr (.inr (.inl (some 107)))), (1, .inl (m : Int))], [.inl 5, .inl ((I 108 (26 + m))), .inl (m : Int), .inl (m : Int), .inr (.inr (.inl (some 107)))], (am_mm D I J ρ))) rfl ?_
              refine am_e_icmp2 rfl ⟨by omega, by omega⟩ ⟨by omega, by omega⟩ (fun (h8 : ¬ (I 108 (26 + m)) = 5) => ?_) (fun (h8 : ¬ (¬ (I 108 (26 + m)) = 5)) => ?_)
              · show am_E _ _ _ 162 [(3, .inl ((I 108 (32 + m)))), (2, .inl ((I 108 (26 + m)))), (0, .inr (.inr (.inl (some 107)))), (1, .inl (m : Int))] [.inl (m : Int), .inl (m : Int), .inr (.inr (.inl (some 107)))] (am_mm D I J ρ) _
                refine am_e_ss 1 (q := (163, [(3, .inl ((I 108 (32 + m)))), (2, .inl ((I 108 (26 + m)))), (0, .inr (.inr (.inl (some 107)))), (1, .inl (m : Int))], [.inl (-1), .inl (m : Int), .inl (m : Int), .inr (.inr (.inl (some 107)))], (am_mm D I J ρ))) rfl ?_
                refine am_e_virtual (Q := fun r => ∃ Q12, r = (none, (am_mm D (am_wp tY I Q12) J ρ)) ∧ am_rowl (Q12 115) (6 * m) (sp_sayl (sp_ord (I 108) m) (-1)) ∧ Q12 116 m = ((sp_ord (I 108) m).length : Int) ∧ (∀ i, i < 6 * m ∨ 6 * m + 6 ≤ i → Q12 115 i = I 115 i) ∧ (∀ i, i ≠ m → Q12 116 i = I 116 i)) rfl rfl (Nat.le_of_ble_eq_true rfl) rfl rfl (Nat.le_of_ble_eq_true rfl) (Nat.le_of_ble_eq_true rfl) (r_saysOf _ (m := m) (fn := m) (L := (sp_ord (I 108) m)) (by omega) (by omega) (by omega) ⟨by omega, by omega⟩ (hO _ (by omega)) (hop.trans sp_ord_len.symm) (by have := sp_ord_len (S := I 108) (m := m); omega) (fun x hx => by have := sp_ord_mem.mp hx; omega)) ?_
                rintro r ⟨Q12, rfl, ⟨y1, y2, y3, y4⟩⟩
                show am_E _ _ _ 166 [(3, .inl ((I 108 (32 + m)))), (2, .inl ((I 108 (26 + m)))), (0, .inr (.inr (.inl (some 107)))), (1, .inl (m : Int))] [] (am_mm D (am_wp tY I Q12) J ρ) _
                refine am_e_return rfl rfl ?_
                have es : sp_says (I 108) m = (sp_sayl (sp_ord (I 108) m) (-1)) := by
                  unfold sp_says
                  rw [← hop]
                  (repeat' split) <;> first | rfl | (exfalso; omega)
                refine ⟨Q12, rfl, ?_, ?_, y3, y4⟩
                · rw [es]; exact y1
                · rw [es, sp_sayl_len sp_ord_nd]; exact y2
              · show am_E _ _ _ 142 [(3, .inl ((I 108 (32 + m)))), (2, .inl ((I 108 (26 + m)))), (0, .inr (.inr (.inl (some 107)))), (1, .inl (m : Int))] [.inl (m : Int), .inl (m : Int), .inr (.inr (.inl (some 107)))] (am_mm D I J ρ) _
                refine am_e_ss 2 (q := (144, [(3, .inl ((I 108 (32 + m)))), (2, .inl ((I 108 (26 + m)))), (0, .inr (.inr (.inl (some 107)))), (1, .inl (m : Int))], [.inl ((I 108 (32 + m))), .inr (.inr (.inl (some 107))), .inl (m : Int), .inl (m : Int), .inr (.inr (.inl (some 107)))], (am_mm D I J ρ))) rfl ?_
                refine am_e_virtual (Q := fun r => r = (some (.inl ((am_bi (0 ≤ (I 108 (32 + m)) ∧ (I 108 (32 + m)) ≤ ((I 108 20) - 1))))), (am_mm D I J ρ))) rfl rfl (Nat.le_of_ble_eq_true rfl) rfl rfl (Nat.le_of_ble_eq_true rfl) (Nat.le_of_ble_eq_true rfl) (r_isBook _ ⟨by omega, by omega⟩ (show 0 ≤ (I 108 20) ∧ (I 108 20) ≤ 6 by omega)) ?_
                rintro r rfl
                show am_E _ _ _ 147 [(3, .inl ((I 108 (32 + m)))), (2, .inl ((I 108 (26 + m)))), (0, .inr (.inr (.inl (some 107)))), (1, .inl (m : Int))] [.inl ((am_bi (0 ≤ (I 108 (32 + m)) ∧ (I 108 (32 + m)) ≤ ((I 108 20) - 1)))), .inl (m : Int), .inl (m : Int), .inr (.inr (.inl (some 107)))] (am_mm D I J ρ) _
                refine am_e_ifeq rfl (fun h9 => ?_) (fun h9 => ?_)
                · show am_E _ _ _ 162 [(3, .inl ((I 108 (32 + m)))), (2, .inl ((I 108 (26 + m)))), (0, .inr (.inr (.inl (some 107)))), (1, .inl (m : Int))] [.inl (m : Int), .inl (m : Int), .inr (.inr (.inl (some 107)))] (am_mm D I J ρ) _
                  refine am_e_ss 1 (q := (163, [(3, .inl ((I 108 (32 + m)))), (2, .inl ((I 108 (26 + m)))), (0, .inr (.inr (.inl (some 107)))), (1, .inl (m : Int))], [.inl (-1), .inl (m : Int), .inl (m : Int), .inr (.inr (.inl (some 107)))], (am_mm D I J ρ))) rfl ?_
                  refine am_e_virtual (Q := fun r => ∃ Q13, r = (none, (am_mm D (am_wp tY I Q13) J ρ)) ∧ am_rowl (Q13 115) (6 * m) (sp_sayl (sp_ord (I 108) m) (-1)) ∧ Q13 116 m = ((sp_ord (I 108) m).length : Int) ∧ (∀ i, i < 6 * m ∨ 6 * m + 6 ≤ i → Q13 115 i = I 115 i) ∧ (∀ i, i ≠ m → Q13 116 i = I 116 i)) rfl rfl (Nat.le_of_ble_eq_true rfl) rfl rfl (Nat.le_of_ble_eq_true rfl) (Nat.le_of_ble_eq_true rfl) (r_saysOf _ (m := m) (fn := m) (L := (sp_ord (I 108) m)) (by omega) (by omega) (by omega) ⟨by omega, by omega⟩ (hO _ (by omega)) (hop.trans sp_ord_len.symm) (by have := sp_ord_len (S := I 108) (m := m); omega) (fun x hx => by have := sp_ord_mem.mp hx; omega)) ?_
                  rintro r ⟨Q13, rfl, ⟨y1, y2, y3, y4⟩⟩
                  show am_E _ _ _ 166 [(3, .inl ((I 108 (32 + m)))), (2, .inl ((I 108 (26 + m)))), (0, .inr (.inr (.inl (some 107)))), (1, .inl (m : Int))] [] (am_mm D (am_wp tY I Q13) J ρ) _
                  refine am_e_return rfl rfl ?_
                  have es : sp_says (I 108) m = (sp_sayl (sp_ord (I 108) m) (-1)) := by
                    unfold sp_says
                    rw [← hop]
                    (repeat' split) <;> first | rfl | (exfalso; omega)
                  refine ⟨Q13, rfl, ?_, ?_, y3, y4⟩
                  · rw [es]; exact y1
                  · rw [es, sp_sayl_len sp_ord_nd]; exact y2
                · show am_E _ _ _ 150 [(3, .inl ((I 108 (32 + m)))), (2, .inl ((I 108 (26 + m)))), (0, .inr (.inr (.inl (some 107)))), (1, .inl (m : Int))] [.inl (m : Int), .inl (m : Int), .inr (.inr (.inl (some 107)))] (am_mm D I J ρ) _
                  refine am_e_ss 2 (q := (152, [(3, .inl ((I 108 (32 + m)))), (2, .inl ((I 108 (26 + m)))), (0, .inr (.inr (.inl (some 107)))), (1, .inl (m : Int))], [.inl ((I 108 (32 + m))), .inr (.inr (.inl (some 107))), .inl (m : Int), .inl (m : Int), .inr (.inr (.inl (some 107)))], (am_mm D I J ρ))) rfl ?_
                  refine am_e_virtual (Q := fun r => r = (some (.inl ((am_bi ((I 108 ((13 + (I 108 (32 + m)))).toNat) = 0)))), (am_mm D I J ρ))) rfl rfl (Nat.le_of_ble_eq_true rfl) rfl rfl (Nat.le_of_ble_eq_true rfl) (Nat.le_of_ble_eq_true rfl) (r_isOpen _ (v := (I 108 (32 + m))) ⟨by omega, by omega⟩ (by rw [show (13 + (I 108 (32 + m))).toNat = 13 + ((I 108 (32 + m))).toNat by omega]; exact oD _ (by omega))) ?_
                  rintro r rfl
                  show am_E _ _ _ 155 [(3, .inl ((I 108 (32 + m)))), (2, .inl ((I 108 (26 + m)))), (0, .inr (.inr (.inl (some 107)))), (1, .inl (m : Int))] [.inl ((am_bi ((I 108 ((13 + (I 108 (32 + m)))).toNat) = 0))), .inl (m : Int), .inl (m : Int), .inr (.inr (.inl (some 107)))] (am_mm D I J ρ) _
                  refine am_e_ifeq rfl (fun h10 => ?_) (fun h10 => ?_)
                  · show am_E _ _ _ 162 [(3, .inl ((I 108 (32 + m)))), (2, .inl ((I 108 (26 + m)))), (0, .inr (.inr (.inl (some 107)))), (1, .inl (m : Int))] [.inl (m : Int), .inl (m : Int), .inr (.inr (.inl (some 107)))] (am_mm D I J ρ) _
                    refine am_e_ss 1 (q := (163, [(3, .inl ((I 108 (32 + m)))), (2, .inl ((I 108 (26 + m)))), (0, .inr (.inr (.inl (some 107)))), (1, .inl (m : Int))], [.inl (-1), .inl (m : Int), .inl (m : Int), .inr (.inr (.inl (some 107)))], (am_mm D I J ρ))) rfl ?_
                    refine am_e_virtual (Q := fun r => ∃ Q14, r = (none, (am_mm D (am_wp tY I Q14) J ρ)) ∧ am_rowl (Q14 115) (6 * m) (sp_sayl (sp_ord (I 108) m) (-1)) ∧ Q14 116 m = ((sp_ord (I 108) m).length : Int) ∧ (∀ i, i < 6 * m ∨ 6 * m + 6 ≤ i → Q14 115 i = I 115 i) ∧ (∀ i, i ≠ m → Q14 116 i = I 116 i)) rfl rfl (Nat.le_of_ble_eq_true rfl) rfl rfl (Nat.le_of_ble_eq_true rfl) (Nat.le_of_ble_eq_true rfl) (r_saysOf _ (m := m) (fn := m) (L := (sp_ord (I 108) m)) (by omega) (by omega) (by omega) ⟨by omega, by omega⟩ (hO _ (by omega)) (hop.trans sp_ord_len.symm) (by have := sp_ord_len (S := I 108) (m := m); omega) (fun x hx => by have := sp_ord_mem.mp hx; omega)) ?_
                    rintro r ⟨Q14, rfl, ⟨y1, y2, y3, y4⟩⟩
                    show am_E _ _ _ 166 [(3, .inl ((I 108 (32 + m)))), (2, .inl ((I 108 (26 + m)))), (0, .inr (.inr (.inl (some 107)))), (1, .inl (m : Int))] [] (am_mm D (am_wp tY I Q14) J ρ) _
                    refine am_e_return rfl rfl ?_
                    have es : sp_says (I 108) m = (sp_sayl (sp_ord (I 108) m) (-1)) := by
                      unfold sp_says
                      rw [← hop]
                      (repeat' split) <;> first | rfl | (exfalso; omega)
                    refine ⟨Q14, rfl, ?_, ?_, y3, y4⟩
                    · rw [es]; exact y1
                    · rw [es, sp_sayl_len sp_ord_nd]; exact y2
                  · show am_E _ _ _ 158 [(3, .inl ((I 108 (32 + m)))), (2, .inl ((I 108 (26 + m)))), (0, .inr (.inr (.inl (some 107)))), (1, .inl (m : Int))] [.inl (m : Int), .inl (m : Int), .inr (.inr (.inl (some 107)))] (am_mm D I J ρ) _
                    refine am_e_ss 2 (q := (163, [(3, .inl ((I 108 (32 + m)))), (2, .inl ((I 108 (26 + m)))), (0, .inr (.inr (.inl (some 107)))), (1, .inl (m : Int))], [.inl ((I 108 (32 + m))), .inl (m : Int), .inl (m : Int), .inr (.inr (.inl (some 107)))], (am_mm D I J ρ))) rfl ?_
                    refine am_e_virtual (Q := fun r => ∃ Q15, r = (none, (am_mm D (am_wp tY I Q15) J ρ)) ∧ am_rowl (Q15 115) (6 * m) (sp_sayl (sp_ord (I 108) m) (I 108 (32 + m))) ∧ Q15 116 m = ((sp_ord (I 108) m).length : Int) ∧ (∀ i, i < 6 * m ∨ 6 * m + 6 ≤ i → Q15 115 i = I 115 i) ∧ (∀ i, i ≠ m → Q15 116 i = I 116 i)) rfl rfl (Nat.le_of_ble_eq_true rfl) rfl rfl (Nat.le_of_ble_eq_true rfl) (Nat.le_of_ble_eq_true rfl) (r_saysOf _ (m := m) (fn := m) (L := (sp_ord (I 108) m)) (by omega) (by omega) (by omega) ⟨by omega, by omega⟩ (hO _ (by omega)) (hop.trans sp_ord_len.symm) (by have := sp_ord_len (S := I 108) (m := m); omega) (fun x hx => by have := sp_ord_mem.mp hx; omega)) ?_
                    rintro r ⟨Q15, rfl, ⟨y1, y2, y3, y4⟩⟩
                    show am_E _ _ _ 166 [(3, .inl ((I 108 (32 + m)))), (2, .inl ((I 108 (26 + m)))), (0, .inr (.inr (.inl (some 107)))), (1, .inl (m : Int))] [] (am_mm D (am_wp tY I Q15) J ρ) _
                    refine am_e_return rfl rfl ?_
                    have es : sp_says (I 108) m = (sp_sayl (sp_ord (I 108) m) (I 108 (32 + m))) := by
                      unfold sp_says
                      rw [← hop]
                      (repeat' split) <;> first | rfl | (exfalso; omega)
                    refine ⟨Q15, rfl, ?_, ?_, y3, y4⟩
                    · rw [es]; exact y1
                    · rw [es, sp_sayl_len sp_ord_nd]; exact y2
            · show am_E _ _ _ 99 [(3, .inl ((I 108 (32 + m)))), (2, .inl ((I 108 (26 + m)))), (0, .inr (.inr (.inl (some 107)))), (1, .inl (m : Int))] [] (am_mm D I J ρ) _
              refine am_e_ss 1 (q := (100, [(3, .inl ((I 108 (32 + m)))), (2, .inl ((I 108 (26 + m)))), (0, .inr (.inr (.inl (some 107)))), (1, .inl (m : Int))], [.inr (.inr (.inl (some 107)))], (am_mm D I J ρ))) rfl ?_
              refine am_e_virtual (Q := fun r => r = (some (.inl ((sp_first (I 108)))), (am_mm D I J ρ))) rfl rfl (Nat.le_of_ble_eq_true rfl) rfl rfl (Nat.le_of_ble_eq_true rfl) (Nat.le_of_ble_eq_true rfl) ((r_firstOfMost _ (B := B) (fun m hm => by rw [show I 114 (6 * m) = sp_hd (I 108) m from hh m hm]; exact sp_hd_b hok m) hok).imp (fun r h => by rw [h]; unfold sp_first; rw [sp_fom_cg hh])) ?_
              rintro r rfl
              show am_E _ _ _ 103 [(3, .inl ((I 108 (32 + m)))), (2, .inl ((I 108 (26 + m)))), (0, .inr (.inr (.inl (some 107)))), (1, .inl (m : Int))] [.inl ((sp_first (I 108)))] (am_mm D I J ρ) _
              refine am_e_ss 1 (q := (105, [(4, .inl ((sp_first (I 108)))), (3, .inl ((I 108 (32 + m)))), (2, .inl ((I 108 (26 + m)))), (0, .inr (.inr (.inl (some 107)))), (1, .inl (m : Int))], [], (am_mm D I J ρ))) rfl ?_
              have hhm : I 114 (6 * m) = sp_hd (I 108) m := hh m (by omega)
              have hb1 := sp_hd_b hok m
              have hb2 := sp_first_b hok
              refine am_e_ss 8 (q := (116, [(4, .inl ((sp_first (I 108)))), (3, .inl ((I 108 (32 + m)))), (2, .inl ((I 108 (26 + m)))), (0, .inr (.inr (.inl (some 107)))), (1, .inl (m : Int))], [.inl (6 * (m : Int)), .inr (.inr (.inl (some 114))), .inl (m : Int), .inl (m : Int), .inr (.inr (.inl (some 107)))], (am_mm D I J ρ))) rfl ?_
              refine am_e_iaload (m := 36) rfl rfl (by omega) (by omega) (by omega) ?_
              show am_E _ _ _ 117 [(4, .inl ((sp_first (I 108)))), (3, .inl ((I 108 (32 + m)))), (2, .inl ((I 108 (26 + m)))), (0, .inr (.inr (.inl (some 107)))), (1, .inl (m : Int))] [.inl ((I 114 (6 * m))), .inl (m : Int), .inl (m : Int), .inr (.inr (.inl (some 107)))] (am_mm D I J ρ) _
              refine am_e_ss 1 (q := (119, [(4, .inl ((sp_first (I 108)))), (3, .inl ((I 108 (32 + m)))), (2, .inl ((I 108 (26 + m)))), (0, .inr (.inr (.inl (some 107)))), (1, .inl (m : Int))], [.inl ((sp_first (I 108))), .inl ((I 114 (6 * m))), .inl (m : Int), .inl (m : Int), .inr (.inr (.inl (some 107)))], (am_mm D I J ρ))) rfl ?_
              refine am_e_icmp2 rfl ⟨by omega, by omega⟩ ⟨by omega, by omega⟩ (fun (h11 : ¬ (I 114 (6 * m)) = (sp_first (I 108))) => ?_) (fun (h11 : ¬ (¬ (I 114 (6 * m)) = (sp_first (I 108)))) => ?_)
              · show am_E _ _ _ 126 [(4, .inl ((sp_first (I 108)))), (3, .inl ((I 108 (32 + m)))), (2, .inl ((I 108 (26 + m)))), (0, .inr (.inr (.inl (some 107)))), (1, .inl (m : Int))] [.inl (m : Int), .inl (m : Int), .inr (.inr (.inl (some 107)))] (am_mm D I J ρ) _
                refine am_e_ss 1 (q := (128, [(4, .inl ((sp_first (I 108)))), (3, .inl ((I 108 (32 + m)))), (2, .inl ((I 108 (26 + m)))), (0, .inr (.inr (.inl (some 107)))), (1, .inl (m : Int))], [.inl ((sp_first (I 108))), .inl (m : Int), .inl (m : Int), .inr (.inr (.inl (some 107)))], (am_mm D I J ρ))) rfl ?_
                refine am_e_virtual (Q := fun r => ∃ Q16, r = (none, (am_mm D (am_wp tY I Q16) J ρ)) ∧ am_rowl (Q16 115) (6 * m) (sp_sayl (sp_ord (I 108) m) (sp_first (I 108))) ∧ Q16 116 m = ((sp_ord (I 108) m).length : Int) ∧ (∀ i, i < 6 * m ∨ 6 * m + 6 ≤ i → Q16 115 i = I 115 i) ∧ (∀ i, i ≠ m → Q16 116 i = I 116 i)) rfl rfl (Nat.le_of_ble_eq_true rfl) rfl rfl (Nat.le_of_ble_eq_true rfl) (Nat.le_of_ble_eq_true rfl) (r_saysOf _ (m := m) (fn := m) (L := (sp_ord (I 108) m)) (by omega) (by omega) (by omega) ⟨by omega, by omega⟩ (hO _ (by omega)) (hop.trans sp_ord_len.symm) (by have := sp_ord_len (S := I 108) (m := m); omega) (fun x hx => by have := sp_ord_mem.mp hx; omega)) ?_
                rintro r ⟨Q16, rfl, ⟨y1, y2, y3, y4⟩⟩
                show am_E _ _ _ 131 [(4, .inl ((sp_first (I 108)))), (3, .inl ((I 108 (32 + m)))), (2, .inl ((I 108 (26 + m)))), (0, .inr (.inr (.inl (some 107)))), (1, .inl (m : Int))] [] (am_mm D (am_wp tY I Q16) J ρ) _
                refine am_e_ss 1 (q := (166, [(4, .inl ((sp_first (I 108)))), (3, .inl ((I 108 (32 + m)))), (2, .inl ((I 108 (26 + m)))), (0, .inr (.inr (.inl (some 107)))), (1, .inl (m : Int))], [], (am_mm D (am_wp tY I Q16) J ρ))) rfl ?_
                refine am_e_return rfl rfl ?_
                have es : sp_says (I 108) m = (sp_sayl (sp_ord (I 108) m) (sp_first (I 108))) := by
                  unfold sp_says
                  rw [← hop]
                  (repeat' split) <;> first | rfl | (exfalso; omega)
                refine ⟨Q16, rfl, ?_, ?_, y3, y4⟩
                · rw [es]; exact y1
                · rw [es, sp_sayl_len sp_ord_nd]; exact y2
              · show am_E _ _ _ 122 [(4, .inl ((sp_first (I 108)))), (3, .inl ((I 108 (32 + m)))), (2, .inl ((I 108 (26 + m)))), (0, .inr (.inr (.inl (some 107)))), (1, .inl (m : Int))] [.inl (m : Int), .inl (m : Int), .inr (.inr (.inl (some 107)))] (am_mm D I J ρ) _
                refine am_e_ss 2 (q := (128, [(4, .inl ((sp_first (I 108)))), (3, .inl ((I 108 (32 + m)))), (2, .inl ((I 108 (26 + m)))), (0, .inr (.inr (.inl (some 107)))), (1, .inl (m : Int))], [.inl (-1), .inl (m : Int), .inl (m : Int), .inr (.inr (.inl (some 107)))], (am_mm D I J ρ))) rfl ?_
                refine am_e_virtual (Q := fun r => ∃ Q17, r = (none, (am_mm D (am_wp tY I Q17) J ρ)) ∧ am_rowl (Q17 115) (6 * m) (sp_sayl (sp_ord (I 108) m) (-1)) ∧ Q17 116 m = ((sp_ord (I 108) m).length : Int) ∧ (∀ i, i < 6 * m ∨ 6 * m + 6 ≤ i → Q17 115 i = I 115 i) ∧ (∀ i, i ≠ m → Q17 116 i = I 116 i)) rfl rfl (Nat.le_of_ble_eq_true rfl) rfl rfl (Nat.le_of_ble_eq_true rfl) (Nat.le_of_ble_eq_true rfl) (r_saysOf _ (m := m) (fn := m) (L := (sp_ord (I 108) m)) (by omega) (by omega) (by omega) ⟨by omega, by omega⟩ (hO _ (by omega)) (hop.trans sp_ord_len.symm) (by have := sp_ord_len (S := I 108) (m := m); omega) (fun x hx => by have := sp_ord_mem.mp hx; omega)) ?_
                rintro r ⟨Q17, rfl, ⟨y1, y2, y3, y4⟩⟩
                show am_E _ _ _ 131 [(4, .inl ((sp_first (I 108)))), (3, .inl ((I 108 (32 + m)))), (2, .inl ((I 108 (26 + m)))), (0, .inr (.inr (.inl (some 107)))), (1, .inl (m : Int))] [] (am_mm D (am_wp tY I Q17) J ρ) _
                refine am_e_ss 1 (q := (166, [(4, .inl ((sp_first (I 108)))), (3, .inl ((I 108 (32 + m)))), (2, .inl ((I 108 (26 + m)))), (0, .inr (.inr (.inl (some 107)))), (1, .inl (m : Int))], [], (am_mm D (am_wp tY I Q17) J ρ))) rfl ?_
                refine am_e_return rfl rfl ?_
                have es : sp_says (I 108) m = (sp_sayl (sp_ord (I 108) m) (-1)) := by
                  unfold sp_says
                  rw [← hop]
                  (repeat' split) <;> first | rfl | (exfalso; omega)
                refine ⟨Q17, rfl, ?_, ?_, y3, y4⟩
                · rw [es]; exact y1
                · rw [es, sp_sayl_len sp_ord_nd]; exact y2
        · show am_E _ _ _ 58 [(3, .inl ((I 108 (32 + m)))), (2, .inl ((I 108 (26 + m)))), (0, .inr (.inr (.inl (some 107)))), (1, .inl (m : Int))] [] (am_mm D I J ρ) _
          refine am_e_ss 2 (q := (60, [(3, .inl ((I 108 (32 + m)))), (2, .inl ((I 108 (26 + m)))), (0, .inr (.inr (.inl (some 107)))), (1, .inl (m : Int))], [.inl (m : Int), .inl ((I 108 (32 + m)))], (am_mm D I J ρ))) rfl ?_
          refine am_e_icmp2 rfl ⟨by omega, by omega⟩ ⟨by omega, by omega⟩ (fun (h12 : (I 108 (32 + m)) = (m : Int)) => ?_) (fun (h12 : ¬ ((I 108 (32 + m)) = (m : Int))) => ?_)
          · show am_E _ _ _ 89 [(3, .inl ((I 108 (32 + m)))), (2, .inl ((I 108 (26 + m)))), (0, .inr (.inr (.inl (some 107)))), (1, .inl (m : Int))] [] (am_mm D I J ρ) _
            refine am_e_ss 2 (q := (91, [(3, .inl ((I 108 (32 + m)))), (2, .inl ((I 108 (26 + m)))), (0, .inr (.inr (.inl (some 107)))), (1, .inl (m : Int))], [.inl 1, .inl ((I 108 (26 + m)))], (am_mm D I J ρ))) rfl ?_
            refine am_e_icmp2 rfl ⟨by omega, by omega⟩ ⟨by omega, by omega⟩ (fun (h13 : (I 108 (26 + m)) = 1) => ?_) (fun (h13 : ¬ ((I 108 (26 + m)) = 1)) => ?_)
            · show am_E _ _ _ 99 [(3, .inl ((I 108 (32 + m)))), (2, .inl ((I 108 (26 + m)))), (0, .inr (.inr (.inl (some 107)))), (1, .inl (m : Int))] [] (am_mm D I J ρ) _
              refine am_e_ss 1 (q := (100, [(3, .inl ((I 108 (32 + m)))), (2, .inl ((I 108 (26 + m)))), (0, .inr (.inr (.inl (some 107)))), (1, .inl (m : Int))], [.inr (.inr (.inl (some 107)))], (am_mm D I J ρ))) rfl ?_
              refine am_e_virtual (Q := fun r => r = (some (.inl ((sp_first (I 108)))), (am_mm D I J ρ))) rfl rfl (Nat.le_of_ble_eq_true rfl) rfl rfl (Nat.le_of_ble_eq_true rfl) (Nat.le_of_ble_eq_true rfl) ((r_firstOfMost _ (B := B) (fun m hm => by rw [show I 114 (6 * m) = sp_hd (I 108) m from hh m hm]; exact sp_hd_b hok m) hok).imp (fun r h => by rw [h]; unfold sp_first; rw [sp_fom_cg hh])) ?_
              rintro r rfl
              show am_E _ _ _ 103 [(3, .inl ((I 108 (32 + m)))), (2, .inl ((I 108 (26 + m)))), (0, .inr (.inr (.inl (some 107)))), (1, .inl (m : Int))] [.inl ((sp_first (I 108)))] (am_mm D I J ρ) _
              refine am_e_ss 1 (q := (105, [(4, .inl ((sp_first (I 108)))), (3, .inl ((I 108 (32 + m)))), (2, .inl ((I 108 (26 + m)))), (0, .inr (.inr (.inl (some 107)))), (1, .inl (m : Int))], [], (am_mm D I J ρ))) rfl ?_
              have hhm : I 114 (6 * m) = sp_hd (I 108) m := hh m (by omega)
              have hb1 := sp_hd_b hok m
              have hb2 := sp_first_b hok
              refine am_e_ss 8 (q := (116, [(4, .inl ((sp_first (I 108)))), (3, .inl ((I 108 (32 + m)))), (2, .inl ((I 108 (26 + m)))), (0, .inr (.inr (.inl (some 107)))), (1, .inl (m : Int))], [.inl (6 * (m : Int)), .inr (.inr (.inl (some 114))), .inl (m : Int), .inl (m : Int), .inr (.inr (.inl (some 107)))], (am_mm D I J ρ))) rfl ?_
              refine am_e_iaload (m := 36) rfl rfl (by omega) (by omega) (by omega) ?_
              show am_E _ _ _ 117 [(4, .inl ((sp_first (I 108)))), (3, .inl ((I 108 (32 + m)))), (2, .inl ((I 108 (26 + m)))), (0, .inr (.inr (.inl (some 107)))), (1, .inl (m : Int))] [.inl ((I 114 (6 * m))), .inl (m : Int), .inl (m : Int), .inr (.inr (.inl (some 107)))] (am_mm D I J ρ) _
              refine am_e_ss 1 (q := (119, [(4, .inl ((sp_first (I 108)))), (3, .inl ((I 108 (32 + m)))), (2, .inl ((I 108 (26 + m)))), (0, .inr (.inr (.inl (some 107)))), (1, .inl (m : Int))], [.inl ((sp_first (I 108))), .inl ((I 114 (6 * m))), .inl (m : Int), .inl (m : Int), .inr (.inr (.inl (some 107)))], (am_mm D I J ρ))) rfl ?_
              refine am_e_icmp2 rfl ⟨by omega, by omega⟩ ⟨by omega, by omega⟩ (fun (h14 : ¬ (I 114 (6 * m)) = (sp_first (I 108))) => ?_) (fun (h14 : ¬ (¬ (I 114 (6 * m)) = (sp_first (I 108)))) => ?_)
              · show am_E _ _ _ 126 [(4, .inl ((sp_first (I 108)))), (3, .inl ((I 108 (32 + m)))), (2, .inl ((I 108 (26 + m)))), (0, .inr (.inr (.inl (some 107)))), (1, .inl (m : Int))] [.inl (m : Int), .inl (m : Int), .inr (.inr (.inl (some 107)))] (am_mm D I J ρ) _
                refine am_e_ss 1 (q := (128, [(4, .inl ((sp_first (I 108)))), (3, .inl ((I 108 (32 + m)))), (2, .inl ((I 108 (26 + m)))), (0, .inr (.inr (.inl (some 107)))), (1, .inl (m : Int))], [.inl ((sp_first (I 108))), .inl (m : Int), .inl (m : Int), .inr (.inr (.inl (some 107)))], (am_mm D I J ρ))) rfl ?_
                refine am_e_virtual (Q := fun r => ∃ Q18, r = (none, (am_mm D (am_wp tY I Q18) J ρ)) ∧ am_rowl (Q18 115) (6 * m) (sp_sayl (sp_ord (I 108) m) (sp_first (I 108))) ∧ Q18 116 m = ((sp_ord (I 108) m).length : Int) ∧ (∀ i, i < 6 * m ∨ 6 * m + 6 ≤ i → Q18 115 i = I 115 i) ∧ (∀ i, i ≠ m → Q18 116 i = I 116 i)) rfl rfl (Nat.le_of_ble_eq_true rfl) rfl rfl (Nat.le_of_ble_eq_true rfl) (Nat.le_of_ble_eq_true rfl) (r_saysOf _ (m := m) (fn := m) (L := (sp_ord (I 108) m)) (by omega) (by omega) (by omega) ⟨by omega, by omega⟩ (hO _ (by omega)) (hop.trans sp_ord_len.symm) (by have := sp_ord_len (S := I 108) (m := m); omega) (fun x hx => by have := sp_ord_mem.mp hx; omega)) ?_
                rintro r ⟨Q18, rfl, ⟨y1, y2, y3, y4⟩⟩
                show am_E _ _ _ 131 [(4, .inl ((sp_first (I 108)))), (3, .inl ((I 108 (32 + m)))), (2, .inl ((I 108 (26 + m)))), (0, .inr (.inr (.inl (some 107)))), (1, .inl (m : Int))] [] (am_mm D (am_wp tY I Q18) J ρ) _
                refine am_e_ss 1 (q := (166, [(4, .inl ((sp_first (I 108)))), (3, .inl ((I 108 (32 + m)))), (2, .inl ((I 108 (26 + m)))), (0, .inr (.inr (.inl (some 107)))), (1, .inl (m : Int))], [], (am_mm D (am_wp tY I Q18) J ρ))) rfl ?_
                refine am_e_return rfl rfl ?_
                have es : sp_says (I 108) m = (sp_sayl (sp_ord (I 108) m) (sp_first (I 108))) := by
                  unfold sp_says
                  rw [← hop]
                  (repeat' split) <;> first | rfl | (exfalso; omega)
                refine ⟨Q18, rfl, ?_, ?_, y3, y4⟩
                · rw [es]; exact y1
                · rw [es, sp_sayl_len sp_ord_nd]; exact y2
              · show am_E _ _ _ 122 [(4, .inl ((sp_first (I 108)))), (3, .inl ((I 108 (32 + m)))), (2, .inl ((I 108 (26 + m)))), (0, .inr (.inr (.inl (some 107)))), (1, .inl (m : Int))] [.inl (m : Int), .inl (m : Int), .inr (.inr (.inl (some 107)))] (am_mm D I J ρ) _
                refine am_e_ss 2 (q := (128, [(4, .inl ((sp_first (I 108)))), (3, .inl ((I 108 (32 + m)))), (2, .inl ((I 108 (26 + m)))), (0, .inr (.inr (.inl (some 107)))), (1, .inl (m : Int))], [.inl (-1), .inl (m : Int), .inl (m : Int), .inr (.inr (.inl (some 107)))], (am_mm D I J ρ))) rfl ?_
                refine am_e_virtual (Q := fun r => ∃ Q19, r = (none, (am_mm D (am_wp tY I Q19) J ρ)) ∧ am_rowl (Q19 115) (6 * m) (sp_sayl (sp_ord (I 108) m) (-1)) ∧ Q19 116 m = ((sp_ord (I 108) m).length : Int) ∧ (∀ i, i < 6 * m ∨ 6 * m + 6 ≤ i → Q19 115 i = I 115 i) ∧ (∀ i, i ≠ m → Q19 116 i = I 116 i)) rfl rfl (Nat.le_of_ble_eq_true rfl) rfl rfl (Nat.le_of_ble_eq_true rfl) (Nat.le_of_ble_eq_true rfl) (r_saysOf _ (m := m) (fn := m) (L := (sp_ord (I 108) m)) (by omega) (by omega) (by omega) ⟨by omega, by omega⟩ (hO _ (by omega)) (hop.trans sp_ord_len.symm) (by have := sp_ord_len (S := I 108) (m := m); omega) (fun x hx => by have := sp_ord_mem.mp hx; omega)) ?_
                rintro r ⟨Q19, rfl, ⟨y1, y2, y3, y4⟩⟩
                show am_E _ _ _ 131 [(4, .inl ((sp_first (I 108)))), (3, .inl ((I 108 (32 + m)))), (2, .inl ((I 108 (26 + m)))), (0, .inr (.inr (.inl (some 107)))), (1, .inl (m : Int))] [] (am_mm D (am_wp tY I Q19) J ρ) _
                refine am_e_ss 1 (q := (166, [(4, .inl ((sp_first (I 108)))), (3, .inl ((I 108 (32 + m)))), (2, .inl ((I 108 (26 + m)))), (0, .inr (.inr (.inl (some 107)))), (1, .inl (m : Int))], [], (am_mm D (am_wp tY I Q19) J ρ))) rfl ?_
                refine am_e_return rfl rfl ?_
                have es : sp_says (I 108) m = (sp_sayl (sp_ord (I 108) m) (-1)) := by
                  unfold sp_says
                  rw [← hop]
                  (repeat' split) <;> first | rfl | (exfalso; omega)
                refine ⟨Q19, rfl, ?_, ?_, y3, y4⟩
                · rw [es]; exact y1
                · rw [es, sp_sayl_len sp_ord_nd]; exact y2
            · show am_E _ _ _ 94 [(3, .inl ((I 108 (32 + m)))), (2, .inl ((I 108 (26 + m)))), (0, .inr (.inr (.inl (some 107)))), (1, .inl (m : Int))] [] (am_mm D I J ρ) _
              refine am_e_ss 2 (q := (96, [(3, .inl ((I 108 (32 + m)))), (2, .inl ((I 108 (26 + m)))), (0, .inr (.inr (.inl (some 107)))), (1, .inl (m : Int))], [.inl 4, .inl ((I 108 (26 + m)))], (am_mm D I J ρ))) rfl ?_
              refine am_e_icmp2 rfl ⟨by omega, by omega⟩ ⟨by omega, by omega⟩ (fun (h15 : ¬ (I 108 (26 + m)) = 4) => ?_) (fun (h15 : ¬ (¬ (I 108 (26 + m)) = 4)) => ?_)
              · show am_E _ _ _ 134 [(3, .inl ((I 108 (32 + m)))), (2, .inl ((I 108 (26 + m)))), (0, .inr (.inr (.inl (some 107)))), (1, .inl (m : Int))] [] (am_mm D I J ρ) _
                refine am_e_ss 5 (q := (139, [(3, .inl ((I 108 (32 + m)))), (2, .inl ((I 108 (26 + m)))), (0, .inr (.inr (.inl (some 107)))), (1, .inl (m : Int))], [.inl 5, .inl ((I 108 (26 + m))), .inl (m : Int), .inl (m : Int), .inr (.inr (.inl (some 107)))], (am_mm D I J ρ))) rfl ?_
                refine am_e_icmp2 rfl ⟨by omega, by omega⟩ ⟨by omega, by omega⟩ (fun (h16 : ¬ (I 108 (26 + m)) = 5) => ?_) (fun (h16 : ¬ (¬ (I 108 (26 + m)) = 5)) => ?_)
                · show am_E _ _ _ 162 [(3, .inl ((I 108 (32 + m)))), (2, .inl ((I 108 (26 + m)))), (0, .inr (.inr (.inl (some 107)))), (1, .inl (m : Int))] [.inl (m : Int), .inl (m : Int), .inr (.inr (.inl (some 107)))] (am_mm D I J ρ) _
                  refine am_e_ss 1 (q := (163, [(3, .inl ((I 108 (32 + m)))), (2, .inl ((I 108 (26 + m)))), (0, .inr (.inr (.inl (some 107)))), (1, .inl (m : Int))], [.inl (-1), .inl (m : Int), .inl (m : Int), .inr (.inr (.inl (some 107)))], (am_mm D I J ρ))) rfl ?_
                  refine am_e_virtual (Q := fun r => ∃ Q20, r = (none, (am_mm D (am_wp tY I Q20) J ρ)) ∧ am_rowl (Q20 115) (6 * m) (sp_sayl (sp_ord (I 108) m) (-1)) ∧ Q20 116 m = ((sp_ord (I 108) m).length : Int) ∧ (∀ i, i < 6 * m ∨ 6 * m + 6 ≤ i → Q20 115 i = I 115 i) ∧ (∀ i, i ≠ m → Q20 116 i = I 116 i)) rfl rfl (Nat.le_of_ble_eq_true rfl) rfl rfl (Nat.le_of_ble_eq_true rfl) (Nat.le_of_ble_eq_true rfl) (r_saysOf _ (m := m) (fn := m) (L := (sp_ord (I 108) m)) (by omega) (by omega) (by omega) ⟨by omega, by omega⟩ (hO _ (by omega)) (hop.trans sp_ord_len.symm) (by have := sp_ord_len (S := I 108) (m := m); omega) (fun x hx => by have := sp_ord_mem.mp hx; omega)) ?_
                  rintro r ⟨Q20, rfl, ⟨y1, y2, y3, y4⟩⟩
                  show am_E _ _ _ 166 [(3, .inl ((I 108 (32 + m)))), (2, .inl ((I 108 (26 + m)))), (0, .inr (.inr (.inl (some 107)))), (1, .inl (m : Int))] [] (am_mm D (am_wp tY I Q20) J ρ) _
                  refine am_e_return rfl rfl ?_
                  have es : sp_says (I 108) m = (sp_sayl (sp_ord (I 108) m) (-1)) := by
                    unfold sp_says
                    rw [← hop]
                    (repeat' split) <;> first | rfl | (exfalso; omega)
                  refine ⟨Q20, rfl, ?_, ?_, y3, y4⟩
                  · rw [es]; exact y1
                  · rw [es, sp_sayl_len sp_ord_nd]; exact y2
                · show am_E _ _ _ 142 [(3, .inl ((I 108 (32 + m)))), (2, .inl ((I 108 (26 + m)))), (0, .inr (.inr (.inl (some 107)))), (1, .inl (m : Int))] [.inl (m : Int), .inl (m : Int), .inr (.inr (.inl (some 107)))] (am_mm D I J ρ) _
                  refine am_e_ss 2 (q := (144, [(3, .inl ((I 108 (32 + m)))), (2, .inl ((I 108 (26 + m)))), (0, .inr (.inr (.inl (some 107)))), (1, .inl (m : Int))], [.inl ((I 108 (32 + m))), .inr (.inr (.inl (some 107))), .inl (m : Int), .inl (m : Int), .inr (.inr (.inl (some 107)))], (am_mm D I J ρ))) rfl ?_
                  refine am_e_virtual (Q := fun r => r = (some (.inl ((am_bi (0 ≤ (I 108 (32 + m)) ∧ (I 108 (32 + m)) ≤ ((I 108 20) - 1))))), (am_mm D I J ρ))) rfl rfl (Nat.le_of_ble_eq_true rfl) rfl rfl (Nat.le_of_ble_eq_true rfl) (Nat.le_of_ble_eq_true rfl) (r_isBook _ ⟨by omega, by omega⟩ (show 0 ≤ (I 108 20) ∧ (I 108 20) ≤ 6 by omega)) ?_
                  rintro r rfl
                  show am_E _ _ _ 147 [(3, .inl ((I 108 (32 + m)))), (2, .inl ((I 108 (26 + m)))), (0, .inr (.inr (.inl (some 107)))), (1, .inl (m : Int))] [.inl ((am_bi (0 ≤ (I 108 (32 + m)) ∧ (I 108 (32 + m)) ≤ ((I 108 20) - 1)))), .inl (m : Int), .inl (m : Int), .inr (.inr (.inl (some 107)))] (am_mm D I J ρ) _
                  refine am_e_ifeq rfl (fun h17 => ?_) (fun h17 => ?_)
                  · show am_E _ _ _ 162 [(3, .inl ((I 108 (32 + m)))), (2, .inl ((I 108 (26 + m)))), (0, .inr (.inr (.inl (some 107)))), (1, .inl (m : Int))] [.inl (m : Int), .inl (m : Int), .inr (.inr (.inl (some 107)))] (am_mm D I J ρ) _
                    refine am_e_ss 1 (q := (163, [(3, .inl ((I 108 (32 + m)))), (2, .inl ((I 108 (26 + m)))), (0, .inr (.inr (.inl (some 107)))), (1, .inl (m : Int))], [.inl (-1), .inl (m : Int), .inl (m : Int), .inr (.inr (.inl (some 107)))], (am_mm D I J ρ))) rfl ?_
                    refine am_e_virtual (Q := fun r => ∃ Q21, r = (none, (am_mm D (am_wp tY I Q21) J ρ)) ∧ am_rowl (Q21 115) (6 * m) (sp_sayl (sp_ord (I 108) m) (-1)) ∧ Q21 116 m = ((sp_ord (I 108) m).length : Int) ∧ (∀ i, i < 6 * m ∨ 6 * m + 6 ≤ i → Q21 115 i = I 115 i) ∧ (∀ i, i ≠ m → Q21 116 i = I 116 i)) rfl rfl (Nat.le_of_ble_eq_true rfl) rfl rfl (Nat.le_of_ble_eq_true rfl) (Nat.le_of_ble_eq_true rfl) (r_saysOf _ (m := m) (fn := m) (L := (sp_ord (I 108) m)) (by omega) (by omega) (by omega) ⟨by omega, by omega⟩ (hO _ (by omega)) (hop.trans sp_ord_len.symm) (by have := sp_ord_len (S := I 108) (m := m); omega) (fun x hx => by have := sp_ord_mem.mp hx; omega)) ?_
                    rintro r ⟨Q21, rfl, ⟨y1, y2, y3, y4⟩⟩
                    show am_E _ _ _ 166 [(3, .inl ((I 108 (32 + m)))), (2, .inl ((I 108 (26 + m)))), (0, .inr (.inr (.inl (some 107)))), (1, .inl (m : Int))] [] (am_mm D (am_wp tY I Q21) J ρ) _
                    refine am_e_return rfl rfl ?_
                    have es : sp_says (I 108) m = (sp_sayl (sp_ord (I 108) m) (-1)) := by
                      unfold sp_says
                      rw [← hop]
                      (repeat' split) <;> first | rfl | (exfalso; omega)
                    refine ⟨Q21, rfl, ?_, ?_, y3, y4⟩
                    · rw [es]; exact y1
                    · rw [es, sp_sayl_len sp_ord_nd]; exact y2
                  · show am_E _ _ _ 150 [(3, .inl ((I 108 (32 + m)))), (2, .inl ((I 108 (26 + m)))), (0, .inr (.inr (.inl (some 107)))), (1, .inl (m : Int))] [.inl (m : Int), .inl (m : Int), .inr (.inr (.inl (some 107)))] (am_mm D I J ρ) _
                    refine am_e_ss 2 (q := (152, [(3, .inl ((I 108 (32 + m)))), (2, .inl ((I 108 (26 + m)))), (0, .inr (.inr (.inl (some 107)))), (1, .inl (m : Int))], [.inl ((I 108 (32 + m))), .inr (.inr (.inl (some 107))), .inl (m : Int), .inl (m : Int), .inr (.inr (.inl (some 107)))], (am_mm D I J ρ))) rfl ?_
                    refine am_e_virtual (Q := fun r => r = (some (.inl ((am_bi ((I 108 ((13 + (I 108 (32 + m)))).toNat) = 0)))), (am_mm D I J ρ))) rfl rfl (Nat.le_of_ble_eq_true rfl) rfl rfl (Nat.le_of_ble_eq_true rfl) (Nat.le_of_ble_eq_true rfl) (r_isOpen _ (v := (I 108 (32 + m))) ⟨by omega, by omega⟩ (by rw [show (13 + (I 108 (32 + m))).toNat = 13 + ((I 108 (32 + m))).toNat by omega]; exact oD _ (by omega))) ?_
                    rintro r rfl
                    show am_E _ _ _ 155 [(3, .inl ((I 108 (32 + m)))), (2, .inl ((I 108 (26 + m)))), (0, .inr (.inr (.inl (some 107)))), (1, .inl (m : Int))] [.inl ((am_bi ((I 108 ((13 + (I 108 (32 + m)))).toNat) = 0))), .inl (m : Int), .inl (m : Int), .inr (.inr (.inl (some 107)))] (am_mm D I J ρ) _
                    refine am_e_ifeq rfl (fun h18 => ?_) (fun h18 => ?_)
                    · show am_E _ _ _ 162 [(3, .inl ((I 108 (32 + m)))), (2, .inl ((I 108 (26 + m)))), (0, .inr (.inr (.inl (some 107)))), (1, .inl (m : Int))] [.inl (m : Int), .inl (m : Int), .inr (.inr (.inl (some 107)))] (am_mm D I J ρ) _
                      refine am_e_ss 1 (q := (163, [(3, .inl ((I 108 (32 + m)))), (2, .inl ((I 108 (26 + m)))), (0, .inr (.inr (.inl (some 107)))), (1, .inl (m : Int))], [.inl (-1), .inl (m : Int), .inl (m : Int), .inr (.inr (.inl (some 107)))], (am_mm D I J ρ))) rfl ?_
                      refine am_e_virtual (Q := fun r => ∃ Q22, r = (none, (am_mm D (am_wp tY I Q22) J ρ)) ∧ am_rowl (Q22 115) (6 * m) (sp_sayl (sp_ord (I 108) m) (-1)) ∧ Q22 116 m = ((sp_ord (I 108) m).length : Int) ∧ (∀ i, i < 6 * m ∨ 6 * m + 6 ≤ i → Q22 115 i = I 115 i) ∧ (∀ i, i ≠ m → Q22 116 i = I 116 i)) rfl rfl (Nat.le_of_ble_eq_true rfl) rfl rfl (Nat.le_of_ble_eq_true rfl) (Nat.le_of_ble_eq_true rfl) (r_saysOf _ (m := m) (fn := m) (L := (sp_ord (I 108) m)) (by omega) (by omega) (by omega) ⟨by omega, by omega⟩ (hO _ (by omega)) (hop.trans sp_ord_len.symm) (by have := sp_ord_len (S := I 108) (m := m); omega) (fun x hx => by have := sp_ord_mem.mp hx; omega)) ?_
                      rintro r ⟨Q22, rfl, ⟨y1, y2, y3, y4⟩⟩
                      show am_E _ _ _ 166 [(3, .inl ((I 108 (32 + m)))), (2, .inl ((I 108 (26 + m)))), (0, .inr (.inr (.inl (some 107)))), (1, .inl (m : Int))] [] (am_mm D (am_wp tY I Q22) J ρ) _
                      refine am_e_return rfl rfl ?_
                      have es : sp_says (I 108) m = (sp_sayl (sp_ord (I 108) m) (-1)) := by
                        unfold sp_says
                        rw [← hop]
                        (repeat' split) <;> first | rfl | (exfalso; omega)
                      refine ⟨Q22, rfl, ?_, ?_, y3, y4⟩
                      · rw [es]; exact y1
                      · rw [es, sp_sayl_len sp_ord_nd]; exact y2
                    · show am_E _ _ _ 158 [(3, .inl ((I 108 (32 + m)))), (2, .inl ((I 108 (26 + m)))), (0, .inr (.inr (.inl (some 107)))), (1, .inl (m : Int))] [.inl (m : Int), .inl (m : Int), .inr (.inr (.inl (some 107)))] (am_mm D I J ρ) _
                      refine am_e_ss 2 (q := (163, [(3, .inl ((I 108 (32 + m)))), (2, .inl ((I 108 (26 + m)))), (0, .inr (.inr (.inl (some 107)))), (1, .inl (m : Int))], [.inl ((I 108 (32 + m))), .inl (m : Int), .inl (m : Int), .inr (.inr (.inl (some 107)))], (am_mm D I J ρ))) rfl ?_
                      refine am_e_virtual (Q := fun r => ∃ Q23, r = (none, (am_mm D (am_wp tY I Q23) J ρ)) ∧ am_rowl (Q23 115) (6 * m) (sp_sayl (sp_ord (I 108) m) (I 108 (32 + m))) ∧ Q23 116 m = ((sp_ord (I 108) m).length : Int) ∧ (∀ i, i < 6 * m ∨ 6 * m + 6 ≤ i → Q23 115 i = I 115 i) ∧ (∀ i, i ≠ m → Q23 116 i = I 116 i)) rfl rfl (Nat.le_of_ble_eq_true rfl) rfl rfl (Nat.le_of_ble_eq_true rfl) (Nat.le_of_ble_eq_true rfl) (r_saysOf _ (m := m) (fn := m) (L := (sp_ord (I 108) m)) (by omega) (by omega) (by omega) ⟨by omega, by omega⟩ (hO _ (by omega)) (hop.trans sp_ord_len.symm) (by have := sp_ord_len (S := I 108) (m := m); omega) (fun x hx => by have := sp_ord_mem.mp hx; omega)) ?_
                      rintro r ⟨Q23, rfl, ⟨y1, y2, y3, y4⟩⟩
                      show am_E _ _ _ 166 [(3, .inl ((I 108 (32 + m)))), (2, .inl ((I 108 (26 + m)))), (0, .inr (.inr (.inl (some 107)))), (1, .inl (m : Int))] [] (am_mm D (am_wp tY I Q23) J ρ) _
                      refine am_e_return rfl rfl ?_
                      have es : sp_says (I 108) m = (sp_sayl (sp_ord (I 108) m) (I 108 (32 + m))) := by
                        unfold sp_says
                        rw [← hop]
                        (repeat' split) <;> first | rfl | (exfalso; omega)
                      refine ⟨Q23, rfl, ?_, ?_, y3, y4⟩
                      · rw [es]; exact y1
                      · rw [es, sp_sayl_len sp_ord_nd]; exact y2
              · show am_E _ _ _ 99 [(3, .inl ((I 108 (32 + m)))), (2, .inl ((I 108 (26 + m)))), (0, .inr (.inr (.inl (some 107)))), (1, .inl (m : Int))] [] (am_mm D I J ρ) _
                refine am_e_ss 1 (q := (100, [(3, .inl ((I 108 (32 + m)))), (2, .inl ((I 108 (26 + m)))), (0, .inr (.inr (.inl (some 107)))), (1, .inl (m : Int))], [.inr (.inr (.inl (some 107)))], (am_mm D I J ρ))) rfl ?_
                refine am_e_virtual (Q := fun r => r = (some (.inl ((sp_first (I 108)))), (am_mm D I J ρ))) rfl rfl (Nat.le_of_ble_eq_true rfl) rfl rfl (Nat.le_of_ble_eq_true rfl) (Nat.le_of_ble_eq_true rfl) ((r_firstOfMost _ (B := B) (fun m hm => by rw [show I 114 (6 * m) = sp_hd (I 108) m from hh m hm]; exact sp_hd_b hok m) hok).imp (fun r h => by rw [h]; unfold sp_first; rw [sp_fom_cg hh])) ?_
                rintro r rfl
                show am_E _ _ _ 103 [(3, .inl ((I 108 (32 + m)))), (2, .inl ((I 108 (26 + m)))), (0, .inr (.inr (.inl (some 107)))), (1, .inl (m : Int))] [.inl ((sp_first (I 108)))] (am_mm D I J ρ) _
                refine am_e_ss 1 (q := (105, [(4, .inl ((sp_first (I 108)))), (3, .inl ((I 108 (32 + m)))), (2, .inl ((I 108 (26 + m)))), (0, .inr (.inr (.inl (some 107)))), (1, .inl (m : Int))], [], (am_mm D I J ρ))) rfl ?_
                have hhm : I 114 (6 * m) = sp_hd (I 108) m := hh m (by omega)
                have hb1 := sp_hd_b hok m
                have hb2 := sp_first_b hok
                refine am_e_ss 8 (q := (116, [(4, .inl ((sp_first (I 108)))), (3, .inl ((I 108 (32 + m)))), (2, .inl ((I 108 (26 + m)))), (0, .inr (.inr (.inl (some 107)))), (1, .inl (m : Int))], [.inl (6 * (m : Int)), .inr (.inr (.inl (some 114))), .inl (m : Int), .inl (m : Int), .inr (.inr (.inl (some 107)))], (am_mm D I J ρ))) rfl ?_
                refine am_e_iaload (m := 36) rfl rfl (by omega) (by omega) (by omega) ?_
                show am_E _ _ _ 117 [(4, .inl ((sp_first (I 108)))), (3, .inl ((I 108 (32 + m)))), (2, .inl ((I 108 (26 + m)))), (0, .inr (.inr (.inl (some 107)))), (1, .inl (m : Int))] [.inl ((I 114 (6 * m))), .inl (m : Int), .inl (m : Int), .inr (.inr (.inl (some 107)))] (am_mm D I J ρ) _
                refine am_e_ss 1 (q := (119, [(4, .inl ((sp_first (I 108)))), (3, .inl ((I 108 (32 + m)))), (2, .inl ((I 108 (26 + m)))), (0, .inr (.inr (.inl (some 107)))), (1, .inl (m : Int))], [.inl ((sp_first (I 108))), .inl ((I 114 (6 * m))), .inl (m : Int), .inl (m : Int), .inr (.inr (.inl (some 107)))], (am_mm D I J ρ))) rfl ?_
                refine am_e_icmp2 rfl ⟨by omega, by omega⟩ ⟨by omega, by omega⟩ (fun (h19 : ¬ (I 114 (6 * m)) = (sp_first (I 108))) => ?_) (fun (h19 : ¬ (¬ (I 114 (6 * m)) = (sp_first (I 108)))) => ?_)
                · show am_E _ _ _ 126 [(4, .inl ((sp_first (I 108)))), (3, .inl ((I 108 (32 + m)))), (2, .inl ((I 108 (26 + m)))), (0, .inr (.inr (.inl (some 107)))), (1, .inl (m : Int))] [.inl (m : Int), .inl (m : Int), .inr (.inr (.inl (some 107)))] (am_mm D I J ρ) _
                  refine am_e_ss 1 (q := (128, [(4, .inl ((sp_first (I 108)))), (3, .inl ((I 108 (32 + m)))), (2, .inl ((I 108 (26 + m)))), (0, .inr (.inr (.inl (some 107)))), (1, .inl (m : Int))], [.inl ((sp_first (I 108))), .inl (m : Int), .inl (m : Int), .inr (.inr (.inl (some 107)))], (am_mm D I J ρ))) rfl ?_
                  refine am_e_virtual (Q := fun r => ∃ Q24, r = (none, (am_mm D (am_wp tY I Q24) J ρ)) ∧ am_rowl (Q24 115) (6 * m) (sp_sayl (sp_ord (I 108) m) (sp_first (I 108))) ∧ Q24 116 m = ((sp_ord (I 108) m).length : Int) ∧ (∀ i, i < 6 * m ∨ 6 * m + 6 ≤ i → Q24 115 i = I 115 i) ∧ (∀ i, i ≠ m → Q24 116 i = I 116 i)) rfl rfl (Nat.le_of_ble_eq_true rfl) rfl rfl (Nat.le_of_ble_eq_true rfl) (Nat.le_of_ble_eq_true rfl) (r_saysOf _ (m := m) (fn := m) (L := (sp_ord (I 108) m)) (by omega) (by omega) (by omega) ⟨by omega, by omega⟩ (hO _ (by omega)) (hop.trans sp_ord_len.symm) (by have := sp_ord_len (S := I 108) (m := m); omega) (fun x hx => by have := sp_ord_mem.mp hx; omega)) ?_
                  rintro r ⟨Q24, rfl, ⟨y1, y2, y3, y4⟩⟩
                  show am_E _ _ _ 131 [(4, .inl ((sp_first (I 108)))), (3, .inl ((I 108 (32 + m)))), (2, .inl ((I 108 (26 + m)))), (0, .inr (.inr (.inl (some 107)))), (1, .inl (m : Int))] [] (am_mm D (am_wp tY I Q24) J ρ) _
                  refine am_e_ss 1 (q := (166, [(4, .inl ((sp_first (I 108)))), (3, .inl ((I 108 (32 + m)))), (2, .inl ((I 108 (26 + m)))), (0, .inr (.inr (.inl (some 107)))), (1, .inl (m : Int))], [], (am_mm D (am_wp tY I Q24) J ρ))) rfl ?_
                  refine am_e_return rfl rfl ?_
                  have es : sp_says (I 108) m = (sp_sayl (sp_ord (I 108) m) (sp_first (I 108))) := by
                    unfold sp_says
                    rw [← hop]
                    (repeat' split) <;> first | rfl | (exfalso; omega)
                  refine ⟨Q24, rfl, ?_, ?_, y3, y4⟩
                  · rw [es]; exact y1
                  · rw [es, sp_sayl_len sp_ord_nd]; exact y2
                · show am_E _ _ _ 122 [(4, .inl ((sp_first (I 108)))), (3, .inl ((I 108 (32 + m)))), (2, .inl ((I 108 (26 + m)))), (0, .inr (.inr (.inl (some 107)))), (1, .inl (m : Int))] [.inl (m : Int), .inl (m : Int), .inr (.inr (.inl (some 107)))] (am_mm D I J ρ) _
                  refine am_e_ss 2 (q := (128, [(4, .inl ((sp_first (I 108)))), (3, .inl ((I 108 (32 + m)))), (2, .inl ((I 108 (26 + m)))), (0, .inr (.inr (.inl (some 107)))), (1, .inl (m : Int))], [.inl (-1), .inl (m : Int), .inl (m : Int), .inr (.inr (.inl (some 107)))], (am_mm D I J ρ))) rfl ?_
                  refine am_e_virtual (Q := fun r => ∃ Q25, r = (none, (am_mm D (am_wp tY I Q25) J ρ)) ∧ am_rowl (Q25 115) (6 * m) (sp_sayl (sp_ord (I 108) m) (-1)) ∧ Q25 116 m = ((sp_ord (I 108) m).length : Int) ∧ (∀ i, i < 6 * m ∨ 6 * m + 6 ≤ i → Q25 115 i = I 115 i) ∧ (∀ i, i ≠ m → Q25 116 i = I 116 i)) rfl rfl (Nat.le_of_ble_eq_true rfl) rfl rfl (Nat.le_of_ble_eq_true rfl) (Nat.le_of_ble_eq_true rfl) (r_saysOf _ (m := m) (fn := m) (L := (sp_ord (I 108) m)) (by omega) (by omega) (by omega) ⟨by omega, by omega⟩ (hO _ (by omega)) (hop.trans sp_ord_len.symm) (by have := sp_ord_len (S := I 108) (m := m); omega) (fun x hx => by have := sp_ord_mem.mp hx; omega)) ?_
                  rintro r ⟨Q25, rfl, ⟨y1, y2, y3, y4⟩⟩
                  show am_E _ _ _ 131 [(4, .inl ((sp_first (I 108)))), (3, .inl ((I 108 (32 + m)))), (2, .inl ((I 108 (26 + m)))), (0, .inr (.inr (.inl (some 107)))), (1, .inl (m : Int))] [] (am_mm D (am_wp tY I Q25) J ρ) _
                  refine am_e_ss 1 (q := (166, [(4, .inl ((sp_first (I 108)))), (3, .inl ((I 108 (32 + m)))), (2, .inl ((I 108 (26 + m)))), (0, .inr (.inr (.inl (some 107)))), (1, .inl (m : Int))], [], (am_mm D (am_wp tY I Q25) J ρ))) rfl ?_
                  refine am_e_return rfl rfl ?_
                  have es : sp_says (I 108) m = (sp_sayl (sp_ord (I 108) m) (-1)) := by
                    unfold sp_says
                    rw [← hop]
                    (repeat' split) <;> first | rfl | (exfalso; omega)
                  refine ⟨Q25, rfl, ?_, ?_, y3, y4⟩
                  · rw [es]; exact y1
                  · rw [es, sp_sayl_len sp_ord_nd]; exact y2
          · show am_E _ _ _ 63 [(3, .inl ((I 108 (32 + m)))), (2, .inl ((I 108 (26 + m)))), (0, .inr (.inr (.inl (some 107)))), (1, .inl (m : Int))] [] (am_mm D I J ρ) _
            refine am_e_ss 2 (q := (65, [(3, .inl ((I 108 (32 + m)))), (2, .inl ((I 108 (26 + m)))), (0, .inr (.inr (.inl (some 107)))), (1, .inl (m : Int))], [.inl ((I 108 (32 + m))), .inr (.inr (.inl (some 107)))], (am_mm D I J ρ))) rfl ?_
            refine am_e_virtual (Q := fun r => r = (some (.inl ((am_bi (0 ≤ (I 108 (32 + m)) ∧ (I 108 (32 + m)) ≤ ((I 108 19) - 1))))), (am_mm D I J ρ))) rfl rfl (Nat.le_of_ble_eq_true rfl) rfl rfl (Nat.le_of_ble_eq_true rfl) (Nat.le_of_ble_eq_true rfl) (r_isMember _ ⟨by omega, by omega⟩ (show 0 ≤ (I 108 19) ∧ (I 108 19) ≤ 6 by omega)) ?_
            rintro r rfl
            show am_E _ _ _ 68 [(3, .inl ((I 108 (32 + m)))), (2, .inl ((I 108 (26 + m)))), (0, .inr (.inr (.inl (some 107)))), (1, .inl (m : Int))] [.inl ((am_bi (0 ≤ (I 108 (32 + m)) ∧ (I 108 (32 + m)) ≤ ((I 108 19) - 1))))] (am_mm D I J ρ) _
            refine am_e_ifeq rfl (fun h20 => ?_) (fun h20 => ?_)
            · show am_E _ _ _ 89 [(3, .inl ((I 108 (32 + m)))), (2, .inl ((I 108 (26 + m)))), (0, .inr (.inr (.inl (some 107)))), (1, .inl (m : Int))] [] (am_mm D I J ρ) _
              refine am_e_ss 2 (q := (91, [(3, .inl ((I 108 (32 + m)))), (2, .inl ((I 108 (26 + m)))), (0, .inr (.inr (.inl (some 107)))), (1, .inl (m : Int))], [.inl 1, .inl ((I 108 (26 + m)))], (am_mm D I J ρ))) rfl ?_
              refine am_e_icmp2 rfl ⟨by omega, by omega⟩ ⟨by omega, by omega⟩ (fun (h21 : (I 108 (26 + m)) = 1) => ?_) (fun (h21 : ¬ ((I 108 (26 + m)) = 1)) => ?_)
              · show am_E _ _ _ 99 [(3, .inl ((I 108 (32 + m)))), (2, .inl ((I 108 (26 + m)))), (0, .inr (.inr (.inl (some 107)))), (1, .inl (m : Int))] [] (am_mm D I J ρ) _
                refine am_e_ss 1 (q := (100, [(3, .inl ((I 108 (32 + m)))), (2, .inl ((I 108 (26 + m)))), (0, .inr (.inr (.inl (some 107)))), (1, .inl (m : Int))], [.inr (.inr (.inl (some 107)))], (am_mm D I J ρ))) rfl ?_
                refine am_e_virtual (Q := fun r => r = (some (.inl ((sp_first (I 108)))), (am_mm D I J ρ))) rfl rfl (Nat.le_of_ble_eq_true rfl) rfl rfl (Nat.le_of_ble_eq_true rfl) (Nat.le_of_ble_eq_true rfl) ((r_firstOfMost _ (B := B) (fun m hm => by rw [show I 114 (6 * m) = sp_hd (I 108) m from hh m hm]; exact sp_hd_b hok m) hok).imp (fun r h => by rw [h]; unfold sp_first; rw [sp_fom_cg hh])) ?_
                rintro r rfl
                show am_E _ _ _ 103 [(3, .inl ((I 108 (32 + m)))), (2, .inl ((I 108 (26 + m)))), (0, .inr (.inr (.inl (some 107)))), (1, .inl (m : Int))] [.inl ((sp_first (I 108)))] (am_mm D I J ρ) _
                refine am_e_ss 1 (q := (105, [(4, .inl ((sp_first (I 108)))), (3, .inl ((I 108 (32 + m)))), (2, .inl ((I 108 (26 + m)))), (0, .inr (.inr (.inl (some 107)))), (1, .inl (m : Int))], [], (am_mm D I J ρ))) rfl ?_
                have hhm : I 114 (6 * m) = sp_hd (I 108) m := hh m (by omega)
                have hb1 := sp_hd_b hok m
                have hb2 := sp_first_b hok
                refine am_e_ss 8 (q := (116, [(4, .inl ((sp_first (I 108)))), (3, .inl ((I 108 (32 + m)))), (2, .inl ((I 108 (26 + m)))), (0, .inr (.inr (.inl (some 107)))), (1, .inl (m : Int))], [.inl (6 * (m : Int)), .inr (.inr (.inl (some 114))), .inl (m : Int), .inl (m : Int), .inr (.inr (.inl (some 107)))], (am_mm D I J ρ))) rfl ?_
                refine am_e_iaload (m := 36) rfl rfl (by omega) (by omega) (by omega) ?_
                show am_E _ _ _ 117 [(4, .inl ((sp_first (I 108)))), (3, .inl ((I 108 (32 + m)))), (2, .inl ((I 108 (26 + m)))), (0, .inr (.inr (.inl (some 107)))), (1, .inl (m : Int))] [.inl ((I 114 (6 * m))), .inl (m : Int), .inl (m : Int), .inr (.inr (.inl (some 107)))] (am_mm D I J ρ) _
                refine am_e_ss 1 (q := (119, [(4, .inl ((sp_first (I 108)))), (3, .inl ((I 108 (32 + m)))), (2, .inl ((I 108 (26 + m)))), (0, .inr (.inr (.inl (some 107)))), (1, .inl (m : Int))], [.inl ((sp_first (I 108))), .inl ((I 114 (6 * m))), .inl (m : Int), .inl (m : Int), .inr (.inr (.inl (some 107)))], (am_mm D I J ρ))) rfl ?_
                refine am_e_icmp2 rfl ⟨by omega, by omega⟩ ⟨by omega, by omega⟩ (fun (h22 : ¬ (I 114 (6 * m)) = (sp_first (I 108))) => ?_) (fun (h22 : ¬ (¬ (I 114 (6 * m)) = (sp_first (I 108)))) => ?_)
                · show am_E _ _ _ 126 [(4, .inl ((sp_first (I 108)))), (3, .inl ((I 108 (32 + m)))), (2, .inl ((I 108 (26 + m)))), (0, .inr (.inr (.inl (some 107)))), (1, .inl (m : Int))] [.inl (m : Int), .inl (m : Int), .inr (.inr (.inl (some 107)))] (am_mm D I J ρ) _
                  refine am_e_ss 1 (q := (128, [(4, .inl ((sp_first (I 108)))), (3, .inl ((I 108 (32 + m)))), (2, .inl ((I 108 (26 + m)))), (0, .inr (.inr (.inl (some 107)))), (1, .inl (m : Int))], [.inl ((sp_first (I 108))), .inl (m : Int), .inl (m : Int), .inr (.inr (.inl (some 107)))], (am_mm D I J ρ))) rfl ?_
                  refine am_e_virtual (Q := fun r => ∃ Q26, r = (none, (am_mm D (am_wp tY I Q26) J ρ)) ∧ am_rowl (Q26 115) (6 * m) (sp_sayl (sp_ord (I 108) m) (sp_first (I 108))) ∧ Q26 116 m = ((sp_ord (I 108) m).length : Int) ∧ (∀ i, i < 6 * m ∨ 6 * m + 6 ≤ i → Q26 115 i = I 115 i) ∧ (∀ i, i ≠ m → Q26 116 i = I 116 i)) rfl rfl (Nat.le_of_ble_eq_true rfl) rfl rfl (Nat.le_of_ble_eq_true rfl) (Nat.le_of_ble_eq_true rfl) (r_saysOf _ (m := m) (fn := m) (L := (sp_ord (I 108) m)) (by omega) (by omega) (by omega) ⟨by omega, by omega⟩ (hO _ (by omega)) (hop.trans sp_ord_len.symm) (by have := sp_ord_len (S := I 108) (m := m); omega) (fun x hx => by have := sp_ord_mem.mp hx; omega)) ?_
                  rintro r ⟨Q26, rfl, ⟨y1, y2, y3, y4⟩⟩
                  show am_E _ _ _ 131 [(4, .inl ((sp_first (I 108)))), (3, .inl ((I 108 (32 + m)))), (2, .inl ((I 108 (26 + m)))), (0, .inr (.inr (.inl (some 107)))), (1, .inl (m : Int))] [] (am_mm D (am_wp tY I Q26) J ρ) _
                  refine am_e_ss 1 (q := (166, [(4, .inl ((sp_first (I 108)))), (3, .inl ((I 108 (32 + m)))), (2, .inl ((I 108 (26 + m)))), (0, .inr (.inr (.inl (some 107)))), (1, .inl (m : Int))], [], (am_mm D (am_wp tY I Q26) J ρ))) rfl ?_
                  refine am_e_return rfl rfl ?_
                  have es : sp_says (I 108) m = (sp_sayl (sp_ord (I 108) m) (sp_first (I 108))) := by
                    unfold sp_says
                    rw [← hop]
                    (repeat' split) <;> first | rfl | (exfalso; omega)
                  refine ⟨Q26, rfl, ?_, ?_, y3, y4⟩
                  · rw [es]; exact y1
                  · rw [es, sp_sayl_len sp_ord_nd]; exact y2
                · show am_E _ _ _ 122 [(4, .inl ((sp_first (I 108)))), (3, .inl ((I 108 (32 + m)))), (2, .inl ((I 108 (26 + m)))), (0, .inr (.inr (.inl (some 107)))), (1, .inl (m : Int))] [.inl (m : Int), .inl (m : Int), .inr (.inr (.inl (some 107)))] (am_mm D I J ρ) _
                  refine am_e_ss 2 (q := (128, [(4, .inl ((sp_first (I 108)))), (3, .inl ((I 108 (32 + m)))), (2, .inl ((I 108 (26 + m)))), (0, .inr (.inr (.inl (some 107)))), (1, .inl (m : Int))], [.inl (-1), .inl (m : Int), .inl (m : Int), .inr (.inr (.inl (some 107)))], (am_mm D I J ρ))) rfl ?_
                  refine am_e_virtual (Q := fun r => ∃ Q27, r = (none, (am_mm D (am_wp tY I Q27) J ρ)) ∧ am_rowl (Q27 115) (6 * m) (sp_sayl (sp_ord (I 108) m) (-1)) ∧ Q27 116 m = ((sp_ord (I 108) m).length : Int) ∧ (∀ i, i < 6 * m ∨ 6 * m + 6 ≤ i → Q27 115 i = I 115 i) ∧ (∀ i, i ≠ m → Q27 116 i = I 116 i)) rfl rfl (Nat.le_of_ble_eq_true rfl) rfl rfl (Nat.le_of_ble_eq_true rfl) (Nat.le_of_ble_eq_true rfl) (r_saysOf _ (m := m) (fn := m) (L := (sp_ord (I 108) m)) (by omega) (by omega) (by omega) ⟨by omega, by omega⟩ (hO _ (by omega)) (hop.trans sp_ord_len.symm) (by have := sp_ord_len (S := I 108) (m := m); omega) (fun x hx => by have := sp_ord_mem.mp hx; omega)) ?_
                  rintro r ⟨Q27, rfl, ⟨y1, y2, y3, y4⟩⟩
                  show am_E _ _ _ 131 [(4, .inl ((sp_first (I 108)))), (3, .inl ((I 108 (32 + m)))), (2, .inl ((I 108 (26 + m)))), (0, .inr (.inr (.inl (some 107)))), (1, .inl (m : Int))] [] (am_mm D (am_wp tY I Q27) J ρ) _
                  refine am_e_ss 1 (q := (166, [(4, .inl ((sp_first (I 108)))), (3, .inl ((I 108 (32 + m)))), (2, .inl ((I 108 (26 + m)))), (0, .inr (.inr (.inl (some 107)))), (1, .inl (m : Int))], [], (am_mm D (am_wp tY I Q27) J ρ))) rfl ?_
                  refine am_e_return rfl rfl ?_
                  have es : sp_says (I 108) m = (sp_sayl (sp_ord (I 108) m) (-1)) := by
                    unfold sp_says
                    rw [← hop]
                    (repeat' split) <;> first | rfl | (exfalso; omega)
                  refine ⟨Q27, rfl, ?_, ?_, y3, y4⟩
                  · rw [es]; exact y1
                  · rw [es, sp_sayl_len sp_ord_nd]; exact y2
              · show am_E _ _ _ 94 [(3, .inl ((I 108 (32 + m)))), (2, .inl ((I 108 (26 + m)))), (0, .inr (.inr (.inl (some 107)))), (1, .inl (m : Int))] [] (am_mm D I J ρ) _
                refine am_e_ss 2 (q := (96, [(3, .inl ((I 108 (32 + m)))), (2, .inl ((I 108 (26 + m)))), (0, .inr (.inr (.inl (some 107)))), (1, .inl (m : Int))], [.inl 4, .inl ((I 108 (26 + m)))], (am_mm D I J ρ))) rfl ?_
                refine am_e_icmp2 rfl ⟨by omega, by omega⟩ ⟨by omega, by omega⟩ (fun (h23 : ¬ (I 108 (26 + m)) = 4) => ?_) (fun (h23 : ¬ (¬ (I 108 (26 + m)) = 4)) => ?_)
                · show am_E _ _ _ 134 [(3, .inl ((I 108 (32 + m)))), (2, .inl ((I 108 (26 + m)))), (0, .inr (.inr (.inl (some 107)))), (1, .inl (m : Int))] [] (am_mm D I J ρ) _
                  refine am_e_ss 5 (q := (139, [(3, .inl ((I 108 (32 + m)))), (2, .inl ((I 108 (26 + m)))), (0, .inr (.inr (.inl (some 107)))), (1, .inl (m : Int))], [.inl 5, .inl ((I 108 (26 + m))), .inl (m : Int), .inl (m : Int), .inr (.inr (.inl (some 107)))], (am_mm D I J ρ))) rfl ?_
                  refine am_e_icmp2 rfl ⟨by omega, by omega⟩ ⟨by omega, by omega⟩ (fun (h24 : ¬ (I 108 (26 + m)) = 5) => ?_) (fun (h24 : ¬ (¬ (I 108 (26 + m)) = 5)) => ?_)
                  · show am_E _ _ _ 162 [(3, .inl ((I 108 (32 + m)))), (2, .inl ((I 108 (26 + m)))), (0, .inr (.inr (.inl (some 107)))), (1, .inl (m : Int))] [.inl (m : Int), .inl (m : Int), .inr (.inr (.inl (some 107)))] (am_mm D I J ρ) _
                    refine am_e_ss 1 (q := (163, [(3, .inl ((I 108 (32 + m)))), (2, .inl ((I 108 (26 + m)))), (0, .inr (.inr (.inl (some 107)))), (1, .inl (m : Int))], [.inl (-1), .inl (m : Int), .inl (m : Int), .inr (.inr (.inl (some 107)))], (am_mm D I J ρ))) rfl ?_
                    refine am_e_virtual (Q := fun r => ∃ Q28, r = (none, (am_mm D (am_wp tY I Q28) J ρ)) ∧ am_rowl (Q28 115) (6 * m) (sp_sayl (sp_ord (I 108) m) (-1)) ∧ Q28 116 m = ((sp_ord (I 108) m).length : Int) ∧ (∀ i, i < 6 * m ∨ 6 * m + 6 ≤ i → Q28 115 i = I 115 i) ∧ (∀ i, i ≠ m → Q28 116 i = I 116 i)) rfl rfl (Nat.le_of_ble_eq_true rfl) rfl rfl (Nat.le_of_ble_eq_true rfl) (Nat.le_of_ble_eq_true rfl) (r_saysOf _ (m := m) (fn := m) (L := (sp_ord (I 108) m)) (by omega) (by omega) (by omega) ⟨by omega, by omega⟩ (hO _ (by omega)) (hop.trans sp_ord_len.symm) (by have := sp_ord_len (S := I 108) (m := m); omega) (fun x hx => by have := sp_ord_mem.mp hx; omega)) ?_
                    rintro r ⟨Q28, rfl, ⟨y1, y2, y3, y4⟩⟩
                    show am_E _ _ _ 166 [(3, .inl ((I 108 (32 + m)))), (2, .inl ((I 108 (26 + m)))), (0, .inr (.inr (.inl (some 107)))), (1, .inl (m : Int))] [] (am_mm D (am_wp tY I Q28) J ρ) _
                    refine am_e_return rfl rfl ?_
                    have es : sp_says (I 108) m = (sp_sayl (sp_ord (I 108) m) (-1)) := by
                      unfold sp_says
                      rw [← hop]
                      (repeat' split) <;> first | rfl | (exfalso; omega)
                    refine ⟨Q28, rfl, ?_, ?_, y3, y4⟩
                    · rw [es]; exact y1
                    · rw [es, sp_sayl_len sp_ord_nd]; exact y2
                  · show am_E _ _ _ 142 [(3, .inl ((I 108 (32 + m)))), (2, .inl ((I 108 (26 + m)))), (0, .inr (.inr (.inl (some 107)))), (1, .inl (m : Int))] [.inl (m : Int), .inl (m : Int), .inr (.inr (.inl (some 107)))] (am_mm D I J ρ) _
                    refine am_e_ss 2 (q := (144, [(3, .inl ((I 108 (32 + m)))), (2, .inl ((I 108 (26 + m)))), (0, .inr (.inr (.inl (some 107)))), (1, .inl (m : Int))], [.inl ((I 108 (32 + m))), .inr (.inr (.inl (some 107))), .inl (m : Int), .inl (m : Int), .inr (.inr (.inl (some 107)))], (am_mm D I J ρ))) rfl ?_
                    refine am_e_virtual (Q := fun r => r = (some (.inl ((am_bi (0 ≤ (I 108 (32 + m)) ∧ (I 108 (32 + m)) ≤ ((I 108 20) - 1))))), (am_mm D I J ρ))) rfl rfl (Nat.le_of_ble_eq_true rfl) rfl rfl (Nat.le_of_ble_eq_true rfl) (Nat.le_of_ble_eq_true rfl) (r_isBook _ ⟨by omega, by omega⟩ (show 0 ≤ (I 108 20) ∧ (I 108 20) ≤ 6 by omega)) ?_
                    rintro r rfl
                    show am_E _ _ _ 147 [(3, .inl ((I 108 (32 + m)))), (2, .inl ((I 108 (26 + m)))), (0, .inr (.inr (.inl (some 107)))), (1, .inl (m : Int))] [.inl ((am_bi (0 ≤ (I 108 (32 + m)) ∧ (I 108 (32 + m)) ≤ ((I 108 20) - 1)))), .inl (m : Int), .inl (m : Int), .inr (.inr (.inl (some 107)))] (am_mm D I J ρ) _
                    refine am_e_ifeq rfl (fun h25 => ?_) (fun h25 => ?_)
                    · show am_E _ _ _ 162 [(3, .inl ((I 108 (32 + m)))), (2, .inl ((I 108 (26 + m)))), (0, .inr (.inr (.inl (some 107)))), (1, .inl (m : Int))] [.inl (m : Int), .inl (m : Int), .inr (.inr (.inl (some 107)))] (am_mm D I J ρ) _
                      refine am_e_ss 1 (q := (163, [(3, .inl ((I 108 (32 + m)))), (2, .inl ((I 108 (26 + m)))), (0, .inr (.inr (.inl (some 107)))), (1, .inl (m : Int))], [.inl (-1), .inl (m : Int), .inl (m : Int), .inr (.inr (.inl (some 107)))], (am_mm D I J ρ))) rfl ?_
                      refine am_e_virtual (Q := fun r => ∃ Q29, r = (none, (am_mm D (am_wp tY I Q29) J ρ)) ∧ am_rowl (Q29 115) (6 * m) (sp_sayl (sp_ord (I 108) m) (-1)) ∧ Q29 116 m = ((sp_ord (I 108) m).length : Int) ∧ (∀ i, i < 6 * m ∨ 6 * m + 6 ≤ i → Q29 115 i = I 115 i) ∧ (∀ i, i ≠ m → Q29 116 i = I 116 i)) rfl rfl (Nat.le_of_ble_eq_true rfl) rfl rfl (Nat.le_of_ble_eq_true rfl) (Nat.le_of_ble_eq_true rfl) (r_saysOf _ (m := m) (fn := m) (L := (sp_ord (I 108) m)) (by omega) (by omega) (by omega) ⟨by omega, by omega⟩ (hO _ (by omega)) (hop.trans sp_ord_len.symm) (by have := sp_ord_len (S := I 108) (m := m); omega) (fun x hx => by have := sp_ord_mem.mp hx; omega)) ?_
                      rintro r ⟨Q29, rfl, ⟨y1, y2, y3, y4⟩⟩
                      show am_E _ _ _ 166 [(3, .inl ((I 108 (32 + m)))), (2, .inl ((I 108 (26 + m)))), (0, .inr (.inr (.inl (some 107)))), (1, .inl (m : Int))] [] (am_mm D (am_wp tY I Q29) J ρ) _
                      refine am_e_return rfl rfl ?_
                      have es : sp_says (I 108) m = (sp_sayl (sp_ord (I 108) m) (-1)) := by
                        unfold sp_says
                        rw [← hop]
                        (repeat' split) <;> first | rfl | (exfalso; omega)
                      refine ⟨Q29, rfl, ?_, ?_, y3, y4⟩
                      · rw [es]; exact y1
                      · rw [es, sp_sayl_len sp_ord_nd]; exact y2
                    · show am_E _ _ _ 150 [(3, .inl ((I 108 (32 + m)))), (2, .inl ((I 108 (26 + m)))), (0, .inr (.inr (.inl (some 107)))), (1, .inl (m : Int))] [.inl (m : Int), .inl (m : Int), .inr (.inr (.inl (some 107)))] (am_mm D I J ρ) _
                      refine am_e_ss 2 (q := (152, [(3, .inl ((I 108 (32 + m)))), (2, .inl ((I 108 (26 + m)))), (0, .inr (.inr (.inl (some 107)))), (1, .inl (m : Int))], [.inl ((I 108 (32 + m))), .inr (.inr (.inl (some 107))), .inl (m : Int), .inl (m : Int), .inr (.inr (.inl (some 107)))], (am_mm D I J ρ))) rfl ?_
                      refine am_e_virtual (Q := fun r => r = (some (.inl ((am_bi ((I 108 ((13 + (I 108 (32 + m)))).toNat) = 0)))), (am_mm D I J ρ))) rfl rfl (Nat.le_of_ble_eq_true rfl) rfl rfl (Nat.le_of_ble_eq_true rfl) (Nat.le_of_ble_eq_true rfl) (r_isOpen _ (v := (I 108 (32 + m))) ⟨by omega, by omega⟩ (by rw [show (13 + (I 108 (32 + m))).toNat = 13 + ((I 108 (32 + m))).toNat by omega]; exact oD _ (by omega))) ?_
                      rintro r rfl
                      show am_E _ _ _ 155 [(3, .inl ((I 108 (32 + m)))), (2, .inl ((I 108 (26 + m)))), (0, .inr (.inr (.inl (some 107)))), (1, .inl (m : Int))] [.inl ((am_bi ((I 108 ((13 + (I 108 (32 + m)))).toNat) = 0))), .inl (m : Int), .inl (m : Int), .inr (.inr (.inl (some 107)))] (am_mm D I J ρ) _
                      refine am_e_ifeq rfl (fun h26 => ?_) (fun h26 => ?_)
                      · show am_E _ _ _ 162 [(3, .inl ((I 108 (32 + m)))), (2, .inl ((I 108 (26 + m)))), (0, .inr (.inr (.inl (some 107)))), (1, .inl (m : Int))] [.inl (m : Int), .inl (m : Int), .inr (.inr (.inl (some 107)))] (am_mm D I J ρ) _
                        refine am_e_ss 1 (q := (163, [(3, .inl ((I 108 (32 + m)))), (2, .inl ((I 108 (26 + m)))), (0, .inr (.inr (.inl (some 107)))), (1, .inl (m : Int))], [.inl (-1), .inl (m : Int), .inl (m : Int), .inr (.inr (.inl (some 107)))], (am_mm D I J ρ))) rfl ?_
                        refine am_e_virtual (Q := fun r => ∃ Q30, r = (none, (am_mm D (am_wp tY I Q30) J ρ)) ∧ am_rowl (Q30 115) (6 * m) (sp_sayl (sp_ord (I 108) m) (-1)) ∧ Q30 116 m = ((sp_ord (I 108) m).length : Int) ∧ (∀ i, i < 6 * m ∨ 6 * m + 6 ≤ i → Q30 115 i = I 115 i) ∧ (∀ i, i ≠ m → Q30 116 i = I 116 i)) rfl rfl (Nat.le_of_ble_eq_true rfl) rfl rfl (Nat.le_of_ble_eq_true rfl) (Nat.le_of_ble_eq_true rfl) (r_saysOf _ (m := m) (fn := m) (L := (sp_ord (I 108) m)) (by omega) (by omega) (by omega) ⟨by omega, by omega⟩ (hO _ (by omega)) (hop.trans sp_ord_len.symm) (by have := sp_ord_len (S := I 108) (m := m); omega) (fun x hx => by have := sp_ord_mem.mp hx; omega)) ?_
                        rintro r ⟨Q30, rfl, ⟨y1, y2, y3, y4⟩⟩
                        show am_E _ _ _ 166 [(3, .inl ((I 108 (32 + m)))), (2, .inl ((I 108 (26 + m)))), (0, .inr (.inr (.inl (some 107)))), (1, .inl (m : Int))] [] (am_mm D (am_wp tY I Q30) J ρ) _
                        refine am_e_return rfl rfl ?_
                        have es : sp_says (I 108) m = (sp_sayl (sp_ord (I 108) m) (-1)) := by
                          unfold sp_says
                          rw [← hop]
                          (repeat' split) <;> first | rfl | (exfalso; omega)
                        refine ⟨Q30, rfl, ?_, ?_, y3, y4⟩
                        · rw [es]; exact y1
                        · rw [es, sp_sayl_len sp_ord_nd]; exact y2
                      · show am_E _ _ _ 158 [(3, .inl ((I 108 (32 + m)))), (2, .inl ((I 108 (26 + m)))), (0, .inr (.inr (.inl (some 107)))), (1, .inl (m : Int))] [.inl (m : Int), .inl (m : Int), .inr (.inr (.inl (some 107)))] (am_mm D I J ρ) _
                        refine am_e_ss 2 (q := (163, [(3, .inl ((I 108 (32 + m)))), (2, .inl ((I 108 (26 + m)))), (0, .inr (.inr (.inl (some 107)))), (1, .inl (m : Int))], [.inl ((I 108 (32 + m))), .inl (m : Int), .inl (m : Int), .inr (.inr (.inl (some 107)))], (am_mm D I J ρ))) rfl ?_
                        refine am_e_virtual (Q := fun r => ∃ Q31, r = (none, (am_mm D (am_wp tY I Q31) J ρ)) ∧ am_rowl (Q31 115) (6 * m) (sp_sayl (sp_ord (I 108) m) (I 108 (32 + m))) ∧ Q31 116 m = ((sp_ord (I 108) m).length : Int) ∧ (∀ i, i < 6 * m ∨ 6 * m + 6 ≤ i → Q31 115 i = I 115 i) ∧ (∀ i, i ≠ m → Q31 116 i = I 116 i)) rfl rfl (Nat.le_of_ble_eq_true rfl) rfl rfl (Nat.le_of_ble_eq_true rfl) (Nat.le_of_ble_eq_true rfl) (r_saysOf _ (m := m) (fn := m) (L := (sp_ord (I 108) m)) (by omega) (by omega) (by omega) ⟨by omega, by omega⟩ (hO _ (by omega)) (hop.trans sp_ord_len.symm) (by have := sp_ord_len (S := I 108) (m := m); omega) (fun x hx => by have := sp_ord_mem.mp hx; omega)) ?_
                        rintro r ⟨Q31, rfl, ⟨y1, y2, y3, y4⟩⟩
                        show am_E _ _ _ 166 [(3, .inl ((I 108 (32 + m)))), (2, .inl ((I 108 (26 + m)))), (0, .inr (.inr (.inl (some 107)))), (1, .inl (m : Int))] [] (am_mm D (am_wp tY I Q31) J ρ) _
                        refine am_e_return rfl rfl ?_
                        have es : sp_says (I 108) m = (sp_sayl (sp_ord (I 108) m) (I 108 (32 + m))) := by
                          unfold sp_says
                          rw [← hop]
                          (repeat' split) <;> first | rfl | (exfalso; omega)
                        refine ⟨Q31, rfl, ?_, ?_, y3, y4⟩
                        · rw [es]; exact y1
                        · rw [es, sp_sayl_len sp_ord_nd]; exact y2
                · show am_E _ _ _ 99 [(3, .inl ((I 108 (32 + m)))), (2, .inl ((I 108 (26 + m)))), (0, .inr (.inr (.inl (some 107)))), (1, .inl (m : Int))] [] (am_mm D I J ρ) _
                  refine am_e_ss 1 (q := (100, [(3, .inl ((I 108 (32 + m)))), (2, .inl ((I 108 (26 + m)))), (0, .inr (.inr (.inl (some 107)))), (1, .inl (m : Int))], [.inr (.inr (.inl (some 107)))], (am_mm D I J ρ))) rfl ?_
                  refine am_e_virtual (Q := fun r => r = (some (.inl ((sp_first (I 108)))), (am_mm D I J ρ))) rfl rfl (Nat.le_of_ble_eq_true rfl) rfl rfl (Nat.le_of_ble_eq_true rfl) (Nat.le_of_ble_eq_true rfl) ((r_firstOfMost _ (B := B) (fun m hm => by rw [show I 114 (6 * m) = sp_hd (I 108) m from hh m hm]; exact sp_hd_b hok m) hok).imp (fun r h => by rw [h]; unfold sp_first; rw [sp_fom_cg hh])) ?_
                  rintro r rfl
                  show am_E _ _ _ 103 [(3, .inl ((I 108 (32 + m)))), (2, .inl ((I 108 (26 + m)))), (0, .inr (.inr (.inl (some 107)))), (1, .inl (m : Int))] [.inl ((sp_first (I 108)))] (am_mm D I J ρ) _
                  refine am_e_ss 1 (q := (105, [(4, .inl ((sp_first (I 108)))), (3, .inl ((I 108 (32 + m)))), (2, .inl ((I 108 (26 + m)))), (0, .inr (.inr (.inl (some 107)))), (1, .inl (m : Int))], [], (am_mm D I J ρ))) rfl ?_
                  have hhm : I 114 (6 * m) = sp_hd (I 108) m := hh m (by omega)
                  have hb1 := sp_hd_b hok m
                  have hb2 := sp_first_b hok
                  refine am_e_ss 8 (q := (116, [(4, .inl ((sp_first (I 108)))), (3, .inl ((I 108 (32 + m)))), (2, .inl ((I 108 (26 + m)))), (0, .inr (.inr (.inl (some 107)))), (1, .inl (m : Int))], [.inl (6 * (m : Int)), .inr (.inr (.inl (some 114))), .inl (m : Int), .inl (m : Int), .inr (.inr (.inl (some 107)))], (am_mm D I J ρ))) rfl ?_
                  refine am_e_iaload (m := 36) rfl rfl (by omega) (by omega) (by omega) ?_
                  show am_E _ _ _ 117 [(4, .inl ((sp_first (I 108)))), (3, .inl ((I 108 (32 + m)))), (2, .inl ((I 108 (26 + m)))), (0, .inr (.inr (.inl (some 107)))), (1, .inl (m : Int))] [.inl ((I 114 (6 * m))), .inl (m : Int), .inl (m : Int), .inr (.inr (.inl (some 107)))] (am_mm D I J ρ) _
                  refine am_e_ss 1 (q := (119, [(4, .inl ((sp_first (I 108)))), (3, .inl ((I 108 (32 + m)))), (2, .inl ((I 108 (26 + m)))), (0, .inr (.inr (.inl (some 107)))), (1, .inl (m : Int))], [.inl ((sp_first (I 108))), .inl ((I 114 (6 * m))), .inl (m : Int), .inl (m : Int), .inr (.inr (.inl (some 107)))], (am_mm D I J ρ))) rfl ?_
                  refine am_e_icmp2 rfl ⟨by omega, by omega⟩ ⟨by omega, by omega⟩ (fun (h27 : ¬ (I 114 (6 * m)) = (sp_first (I 108))) => ?_) (fun (h27 : ¬ (¬ (I 114 (6 * m)) = (sp_first (I 108)))) => ?_)
                  · show am_E _ _ _ 126 [(4, .inl ((sp_first (I 108)))), (3, .inl ((I 108 (32 + m)))), (2, .inl ((I 108 (26 + m)))), (0, .inr (.inr (.inl (some 107)))), (1, .inl (m : Int))] [.inl (m : Int), .inl (m : Int), .inr (.inr (.inl (some 107)))] (am_mm D I J ρ) _
                    refine am_e_ss 1 (q := (128, [(4, .inl ((sp_first (I 108)))), (3, .inl ((I 108 (32 + m)))), (2, .inl ((I 108 (26 + m)))), (0, .inr (.inr (.inl (some 107)))), (1, .inl (m : Int))], [.inl ((sp_first (I 108))), .inl (m : Int), .inl (m : Int), .inr (.inr (.inl (some 107)))], (am_mm D I J ρ))) rfl ?_
                    refine am_e_virtual (Q := fun r => ∃ Q32, r = (none, (am_mm D (am_wp tY I Q32) J ρ)) ∧ am_rowl (Q32 115) (6 * m) (sp_sayl (sp_ord (I 108) m) (sp_first (I 108))) ∧ Q32 116 m = ((sp_ord (I 108) m).length : Int) ∧ (∀ i, i < 6 * m ∨ 6 * m + 6 ≤ i → Q32 115 i = I 115 i) ∧ (∀ i, i ≠ m → Q32 116 i = I 116 i)) rfl rfl (Nat.le_of_ble_eq_true rfl) rfl rfl (Nat.le_of_ble_eq_true rfl) (Nat.le_of_ble_eq_true rfl) (r_saysOf _ (m := m) (fn := m) (L := (sp_ord (I 108) m)) (by omega) (by omega) (by omega) ⟨by omega, by omega⟩ (hO _ (by omega)) (hop.trans sp_ord_len.symm) (by have := sp_ord_len (S := I 108) (m := m); omega) (fun x hx => by have := sp_ord_mem.mp hx; omega)) ?_
                    rintro r ⟨Q32, rfl, ⟨y1, y2, y3, y4⟩⟩
                    show am_E _ _ _ 131 [(4, .inl ((sp_first (I 108)))), (3, .inl ((I 108 (32 + m)))), (2, .inl ((I 108 (26 + m)))), (0, .inr (.inr (.inl (some 107)))), (1, .inl (m : Int))] [] (am_mm D (am_wp tY I Q32) J ρ) _
                    refine am_e_ss 1 (q := (166, [(4, .inl ((sp_first (I 108)))), (3, .inl ((I 108 (32 + m)))), (2, .inl ((I 108 (26 + m)))), (0, .inr (.inr (.inl (some 107)))), (1, .inl (m : Int))], [], (am_mm D (am_wp tY I Q32) J ρ))) rfl ?_
                    refine am_e_return rfl rfl ?_
                    have es : sp_says (I 108) m = (sp_sayl (sp_ord (I 108) m) (sp_first (I 108))) := by
                      unfold sp_says
                      rw [← hop]
                      (repeat' split) <;> first | rfl | (exfalso; omega)
                    refine ⟨Q32, rfl, ?_, ?_, y3, y4⟩
                    · rw [es]; exact y1
                    · rw [es, sp_sayl_len sp_ord_nd]; exact y2
                  · show am_E _ _ _ 122 [(4, .inl ((sp_first (I 108)))), (3, .inl ((I 108 (32 + m)))), (2, .inl ((I 108 (26 + m)))), (0, .inr (.inr (.inl (some 107)))), (1, .inl (m : Int))] [.inl (m : Int), .inl (m : Int), .inr (.inr (.inl (some 107)))] (am_mm D I J ρ) _
                    refine am_e_ss 2 (q := (128, [(4, .inl ((sp_first (I 108)))), (3, .inl ((I 108 (32 + m)))), (2, .inl ((I 108 (26 + m)))), (0, .inr (.inr (.inl (some 107)))), (1, .inl (m : Int))], [.inl (-1), .inl (m : Int), .inl (m : Int), .inr (.inr (.inl (some 107)))], (am_mm D I J ρ))) rfl ?_
                    refine am_e_virtual (Q := fun r => ∃ Q33, r = (none, (am_mm D (am_wp tY I Q33) J ρ)) ∧ am_rowl (Q33 115) (6 * m) (sp_sayl (sp_ord (I 108) m) (-1)) ∧ Q33 116 m = ((sp_ord (I 108) m).length : Int) ∧ (∀ i, i < 6 * m ∨ 6 * m + 6 ≤ i → Q33 115 i = I 115 i) ∧ (∀ i, i ≠ m → Q33 116 i = I 116 i)) rfl rfl (Nat.le_of_ble_eq_true rfl) rfl rfl (Nat.le_of_ble_eq_true rfl) (Nat.le_of_ble_eq_true rfl) (r_saysOf _ (m := m) (fn := m) (L := (sp_ord (I 108) m)) (by omega) (by omega) (by omega) ⟨by omega, by omega⟩ (hO _ (by omega)) (hop.trans sp_ord_len.symm) (by have := sp_ord_len (S := I 108) (m := m); omega) (fun x hx => by have := sp_ord_mem.mp hx; omega)) ?_
                    rintro r ⟨Q33, rfl, ⟨y1, y2, y3, y4⟩⟩
                    show am_E _ _ _ 131 [(4, .inl ((sp_first (I 108)))), (3, .inl ((I 108 (32 + m)))), (2, .inl ((I 108 (26 + m)))), (0, .inr (.inr (.inl (some 107)))), (1, .inl (m : Int))] [] (am_mm D (am_wp tY I Q33) J ρ) _
                    refine am_e_ss 1 (q := (166, [(4, .inl ((sp_first (I 108)))), (3, .inl ((I 108 (32 + m)))), (2, .inl ((I 108 (26 + m)))), (0, .inr (.inr (.inl (some 107)))), (1, .inl (m : Int))], [], (am_mm D (am_wp tY I Q33) J ρ))) rfl ?_
                    refine am_e_return rfl rfl ?_
                    have es : sp_says (I 108) m = (sp_sayl (sp_ord (I 108) m) (-1)) := by
                      unfold sp_says
                      rw [← hop]
                      (repeat' split) <;> first | rfl | (exfalso; omega)
                    refine ⟨Q33, rfl, ?_, ?_, y3, y4⟩
                    · rw [es]; exact y1
                    · rw [es, sp_sayl_len sp_ord_nd]; exact y2
            · show am_E _ _ _ 71 [(3, .inl ((I 108 (32 + m)))), (2, .inl ((I 108 (26 + m)))), (0, .inr (.inr (.inl (some 107)))), (1, .inl (m : Int))] [] (am_mm D I J ρ) _
              refine am_e_ss 2 (q := (73, [(3, .inl ((I 108 (32 + m)))), (2, .inl ((I 108 (26 + m)))), (0, .inr (.inr (.inl (some 107)))), (1, .inl (m : Int))], [.inl ((I 108 (32 + m))), .inr (.inr (.inl (some 107)))], (am_mm D I J ρ))) rfl ?_
              refine am_e_virtual (Q := fun r => r = (some (.inl ((am_bi ((I 108 ((7 + (I 108 (32 + m)))).toNat) = 0)))), (am_mm D I J ρ))) rfl rfl (Nat.le_of_ble_eq_true rfl) rfl rfl (Nat.le_of_ble_eq_true rfl) (Nat.le_of_ble_eq_true rfl) (r_isHere _ (v := (I 108 (32 + m))) ⟨by omega, by omega⟩ (by rw [show (7 + (I 108 (32 + m))).toNat = 7 + ((I 108 (32 + m))).toNat by omega]; exact oH _ (by omega))) ?_
              rintro r rfl
              show am_E _ _ _ 76 [(3, .inl ((I 108 (32 + m)))), (2, .inl ((I 108 (26 + m)))), (0, .inr (.inr (.inl (some 107)))), (1, .inl (m : Int))] [.inl ((am_bi ((I 108 ((7 + (I 108 (32 + m)))).toNat) = 0)))] (am_mm D I J ρ) _
              refine am_e_ifeq rfl (fun h28 => ?_) (fun h28 => ?_)
              · show am_E _ _ _ 89 [(3, .inl ((I 108 (32 + m)))), (2, .inl ((I 108 (26 + m)))), (0, .inr (.inr (.inl (some 107)))), (1, .inl (m : Int))] [] (am_mm D I J ρ) _
                refine am_e_ss 2 (q := (91, [(3, .inl ((I 108 (32 + m)))), (2, .inl ((I 108 (26 + m)))), (0, .inr (.inr (.inl (some 107)))), (1, .inl (m : Int))], [.inl 1, .inl ((I 108 (26 + m)))], (am_mm D I J ρ))) rfl ?_
                refine am_e_icmp2 rfl ⟨by omega, by omega⟩ ⟨by omega, by omega⟩ (fun (h29 : (I 108 (26 + m)) = 1) => ?_) (fun (h29 : ¬ ((I 108 (26 + m)) = 1)) => ?_)
                · show am_E _ _ _ 99 [(3, .inl ((I 108 (32 + m)))), (2, .inl ((I 108 (26 + m)))), (0, .inr (.inr (.inl (some 107)))), (1, .inl (m : Int))] [] (am_mm D I J ρ) _
                  refine am_e_ss 1 (q := (100, [(3, .inl ((I 108 (32 + m)))), (2, .inl ((I 108 (26 + m)))), (0, .inr (.inr (.inl (some 107)))), (1, .inl (m : Int))], [.inr (.inr (.inl (some 107)))], (am_mm D I J ρ))) rfl ?_
                  refine am_e_virtual (Q := fun r => r = (some (.inl ((sp_first (I 108)))), (am_mm D I J ρ))) rfl rfl (Nat.le_of_ble_eq_true rfl) rfl rfl (Nat.le_of_ble_eq_true rfl) (Nat.le_of_ble_eq_true rfl) ((r_firstOfMost _ (B := B) (fun m hm => by rw [show I 114 (6 * m) = sp_hd (I 108) m from hh m hm]; exact sp_hd_b hok m) hok).imp (fun r h => by rw [h]; unfold sp_first; rw [sp_fom_cg hh])) ?_
                  rintro r rfl
                  show am_E _ _ _ 103 [(3, .inl ((I 108 (32 + m)))), (2, .inl ((I 108 (26 + m)))), (0, .inr (.inr (.inl (some 107)))), (1, .inl (m : Int))] [.inl ((sp_first (I 108)))] (am_mm D I J ρ) _
                  refine am_e_ss 1 (q := (105, [(4, .inl ((sp_first (I 108)))), (3, .inl ((I 108 (32 + m)))), (2, .inl ((I 108 (26 + m)))), (0, .inr (.inr (.inl (some 107)))), (1, .inl (m : Int))], [], (am_mm D I J ρ))) rfl ?_
                  have hhm : I 114 (6 * m) = sp_hd (I 108) m := hh m (by omega)
                  have hb1 := sp_hd_b hok m
                  have hb2 := sp_first_b hok
                  refine am_e_ss 8 (q := (116, [(4, .inl ((sp_first (I 108)))), (3, .inl ((I 108 (32 + m)))), (2, .inl ((I 108 (26 + m)))), (0, .inr (.inr (.inl (some 107)))), (1, .inl (m : Int))], [.inl (6 * (m : Int)), .inr (.inr (.inl (some 114))), .inl (m : Int), .inl (m : Int), .inr (.inr (.inl (some 107)))], (am_mm D I J ρ))) rfl ?_
                  refine am_e_iaload (m := 36) rfl rfl (by omega) (by omega) (by omega) ?_
                  show am_E _ _ _ 117 [(4, .inl ((sp_first (I 108)))), (3, .inl ((I 108 (32 + m)))), (2, .inl ((I 108 (26 + m)))), (0, .inr (.inr (.inl (some 107)))), (1, .inl (m : Int))] [.inl ((I 114 (6 * m))), .inl (m : Int), .inl (m : Int), .inr (.inr (.inl (some 107)))] (am_mm D I J ρ) _
                  refine am_e_ss 1 (q := (119, [(4, .inl ((sp_first (I 108)))), (3, .inl ((I 108 (32 + m)))), (2, .inl ((I 108 (26 + m)))), (0, .inr (.inr (.inl (some 107)))), (1, .inl (m : Int))], [.inl ((sp_first (I 108))), .inl ((I 114 (6 * m))), .inl (m : Int), .inl (m : Int), .inr (.inr (.inl (some 107)))], (am_mm D I J ρ))) rfl ?_
                  refine am_e_icmp2 rfl ⟨by omega, by omega⟩ ⟨by omega, by omega⟩ (fun (h30 : ¬ (I 114 (6 * m)) = (sp_first (I 108))) => ?_) (fun (h30 : ¬ (¬ (I 114 (6 * m)) = (sp_first (I 108)))) => ?_)
                  · show am_E _ _ _ 126 [(4, .inl ((sp_first (I 108)))), (3, .inl ((I 108 (32 + m)))), (2, .inl ((I 108 (26 + m)))), (0, .inr (.inr (.inl (some 107)))), (1, .inl (m : Int))] [.inl (m : Int), .inl (m : Int), .inr (.inr (.inl (some 107)))] (am_mm D I J ρ) _
                    refine am_e_ss 1 (q := (128, [(4, .inl ((sp_first (I 108)))), (3, .inl ((I 108 (32 + m)))), (2, .inl ((I 108 (26 + m)))), (0, .inr (.inr (.inl (some 107)))), (1, .inl (m : Int))], [.inl ((sp_first (I 108))), .inl (m : Int), .inl (m : Int), .inr (.inr (.inl (some 107)))], (am_mm D I J ρ))) rfl ?_
                    refine am_e_virtual (Q := fun r => ∃ Q34, r = (none, (am_mm D (am_wp tY I Q34) J ρ)) ∧ am_rowl (Q34 115) (6 * m) (sp_sayl (sp_ord (I 108) m) (sp_first (I 108))) ∧ Q34 116 m = ((sp_ord (I 108) m).length : Int) ∧ (∀ i, i < 6 * m ∨ 6 * m + 6 ≤ i → Q34 115 i = I 115 i) ∧ (∀ i, i ≠ m → Q34 116 i = I 116 i)) rfl rfl (Nat.le_of_ble_eq_true rfl) rfl rfl (Nat.le_of_ble_eq_true rfl) (Nat.le_of_ble_eq_true rfl) (r_saysOf _ (m := m) (fn := m) (L := (sp_ord (I 108) m)) (by omega) (by omega) (by omega) ⟨by omega, by omega⟩ (hO _ (by omega)) (hop.trans sp_ord_len.symm) (by have := sp_ord_len (S := I 108) (m := m); omega) (fun x hx => by have := sp_ord_mem.mp hx; omega)) ?_
                    rintro r ⟨Q34, rfl, ⟨y1, y2, y3, y4⟩⟩
                    show am_E _ _ _ 131 [(4, .inl ((sp_first (I 108)))), (3, .inl ((I 108 (32 + m)))), (2, .inl ((I 108 (26 + m)))), (0, .inr (.inr (.inl (some 107)))), (1, .inl (m : Int))] [] (am_mm D (am_wp tY I Q34) J ρ) _
                    refine am_e_ss 1 (q := (166, [(4, .inl ((sp_first (I 108)))), (3, .inl ((I 108 (32 + m)))), (2, .inl ((I 108 (26 + m)))), (0, .inr (.inr (.inl (some 107)))), (1, .inl (m : Int))], [], (am_mm D (am_wp tY I Q34) J ρ))) rfl ?_
                    refine am_e_return rfl rfl ?_
                    have es : sp_says (I 108) m = (sp_sayl (sp_ord (I 108) m) (sp_first (I 108))) := by
                      unfold sp_says
                      rw [← hop]
                      (repeat' split) <;> first | rfl | (exfalso; omega)
                    refine ⟨Q34, rfl, ?_, ?_, y3, y4⟩
                    · rw [es]; exact y1
                    · rw [es, sp_sayl_len sp_ord_nd]; exact y2
                  · show am_E _ _ _ 122 [(4, .inl ((sp_first (I 108)))), (3, .inl ((I 108 (32 + m)))), (2, .inl ((I 108 (26 + m)))), (0, .inr (.inr (.inl (some 107)))), (1, .inl (m : Int))] [.inl (m : Int), .inl (m : Int), .inr (.inr (.inl (some 107)))] (am_mm D I J ρ) _
                    refine am_e_ss 2 (q := (128, [(4, .inl ((sp_first (I 108)))), (3, .inl ((I 108 (32 + m)))), (2, .inl ((I 108 (26 + m)))), (0, .inr (.inr (.inl (some 107)))), (1, .inl (m : Int))], [.inl (-1), .inl (m : Int), .inl (m : Int), .inr (.inr (.inl (some 107)))], (am_mm D I J ρ))) rfl ?_
                    refine am_e_virtual (Q := fun r => ∃ Q35, r = (none, (am_mm D (am_wp tY I Q35) J ρ)) ∧ am_rowl (Q35 115) (6 * m) (sp_sayl (sp_ord (I 108) m) (-1)) ∧ Q35 116 m = ((sp_ord (I 108) m).length : Int) ∧ (∀ i, i < 6 * m ∨ 6 * m + 6 ≤ i → Q35 115 i = I 115 i) ∧ (∀ i, i ≠ m → Q35 116 i = I 116 i)) rfl rfl (Nat.le_of_ble_eq_true rfl) rfl rfl (Nat.le_of_ble_eq_true rfl) (Nat.le_of_ble_eq_true rfl) (r_saysOf _ (m := m) (fn := m) (L := (sp_ord (I 108) m)) (by omega) (by omega) (by omega) ⟨by omega, by omega⟩ (hO _ (by omega)) (hop.trans sp_ord_len.symm) (by have := sp_ord_len (S := I 108) (m := m); omega) (fun x hx => by have := sp_ord_mem.mp hx; omega)) ?_
                    rintro r ⟨Q35, rfl, ⟨y1, y2, y3, y4⟩⟩
                    show am_E _ _ _ 131 [(4, .inl ((sp_first (I 108)))), (3, .inl ((I 108 (32 + m)))), (2, .inl ((I 108 (26 + m)))), (0, .inr (.inr (.inl (some 107)))), (1, .inl (m : Int))] [] (am_mm D (am_wp tY I Q35) J ρ) _
                    refine am_e_ss 1 (q := (166, [(4, .inl ((sp_first (I 108)))), (3, .inl ((I 108 (32 + m)))), (2, .inl ((I 108 (26 + m)))), (0, .inr (.inr (.inl (some 107)))), (1, .inl (m : Int))], [], (am_mm D (am_wp tY I Q35) J ρ))) rfl ?_
                    refine am_e_return rfl rfl ?_
                    have es : sp_says (I 108) m = (sp_sayl (sp_ord (I 108) m) (-1)) := by
                      unfold sp_says
                      rw [← hop]
                      (repeat' split) <;> first | rfl | (exfalso; omega)
                    refine ⟨Q35, rfl, ?_, ?_, y3, y4⟩
                    · rw [es]; exact y1
                    · rw [es, sp_sayl_len sp_ord_nd]; exact y2
                · show am_E _ _ _ 94 [(3, .inl ((I 108 (32 + m)))), (2, .inl ((I 108 (26 + m)))), (0, .inr (.inr (.inl (some 107)))), (1, .inl (m : Int))] [] (am_mm D I J ρ) _
                  refine am_e_ss 2 (q := (96, [(3, .inl ((I 108 (32 + m)))), (2, .inl ((I 108 (26 + m)))), (0, .inr (.inr (.inl (some 107)))), (1, .inl (m : Int))], [.inl 4, .inl ((I 108 (26 + m)))], (am_mm D I J ρ))) rfl ?_
                  refine am_e_icmp2 rfl ⟨by omega, by omega⟩ ⟨by omega, by omega⟩ (fun (h31 : ¬ (I 108 (26 + m)) = 4) => ?_) (fun (h31 : ¬ (¬ (I 108 (26 + m)) = 4)) => ?_)
                  · show am_E _ _ _ 134 [(3, .inl ((I 108 (32 + m)))), (2, .inl ((I 108 (26 + m)))), (0, .inr (.inr (.inl (some 107)))), (1, .inl (m : Int))] [] (am_mm D I J ρ) _
                    refine am_e_ss 5 (q := (139, [(3, .inl ((I 108 (32 + m)))), (2, .inl ((I 108 (26 + m)))), (0, .inr (.inr (.inl (some 107)))), (1, .inl (m : Int))], [.inl 5, .inl ((I 108 (26 + m))), .inl (m : Int), .inl (m : Int), .inr (.inr (.inl (some 107)))], (am_mm D I J ρ))) rfl ?_
                    refine am_e_icmp2 rfl ⟨by omega, by omega⟩ ⟨by omega, by omega⟩ (fun (h32 : ¬ (I 108 (26 + m)) = 5) => ?_) (fun (h32 : ¬ (¬ (I 108 (26 + m)) = 5)) => ?_)
                    · show am_E _ _ _ 162 [(3, .inl ((I 108 (32 + m)))), (2, .inl ((I 108 (26 + m)))), (0, .inr (.inr (.inl (some 107)))), (1, .inl (m : Int))] [.inl (m : Int), .inl (m : Int), .inr (.inr (.inl (some 107)))] (am_mm D I J ρ) _
                      refine am_e_ss 1 (q := (163, [(3, .inl ((I 108 (32 + m)))), (2, .inl ((I 108 (26 + m)))), (0, .inr (.inr (.inl (some 107)))), (1, .inl (m : Int))], [.inl (-1), .inl (m : Int), .inl (m : Int), .inr (.inr (.inl (some 107)))], (am_mm D I J ρ))) rfl ?_
                      refine am_e_virtual (Q := fun r => ∃ Q36, r = (none, (am_mm D (am_wp tY I Q36) J ρ)) ∧ am_rowl (Q36 115) (6 * m) (sp_sayl (sp_ord (I 108) m) (-1)) ∧ Q36 116 m = ((sp_ord (I 108) m).length : Int) ∧ (∀ i, i < 6 * m ∨ 6 * m + 6 ≤ i → Q36 115 i = I 115 i) ∧ (∀ i, i ≠ m → Q36 116 i = I 116 i)) rfl rfl (Nat.le_of_ble_eq_true rfl) rfl rfl (Nat.le_of_ble_eq_true rfl) (Nat.le_of_ble_eq_true rfl) (r_saysOf _ (m := m) (fn := m) (L := (sp_ord (I 108) m)) (by omega) (by omega) (by omega) ⟨by omega, by omega⟩ (hO _ (by omega)) (hop.trans sp_ord_len.symm) (by have := sp_ord_len (S := I 108) (m := m); omega) (fun x hx => by have := sp_ord_mem.mp hx; omega)) ?_
                      rintro r ⟨Q36, rfl, ⟨y1, y2, y3, y4⟩⟩
                      show am_E _ _ _ 166 [(3, .inl ((I 108 (32 + m)))), (2, .inl ((I 108 (26 + m)))), (0, .inr (.inr (.inl (some 107)))), (1, .inl (m : Int))] [] (am_mm D (am_wp tY I Q36) J ρ) _
                      refine am_e_return rfl rfl ?_
                      have es : sp_says (I 108) m = (sp_sayl (sp_ord (I 108) m) (-1)) := by
                        unfold sp_says
                        rw [← hop]
                        (repeat' split) <;> first | rfl | (exfalso; omega)
                      refine ⟨Q36, rfl, ?_, ?_, y3, y4⟩
                      · rw [es]; exact y1
                      · rw [es, sp_sayl_len sp_ord_nd]; exact y2
                    · show am_E _ _ _ 142 [(3, .inl ((I 108 (32 + m)))), (2, .inl ((I 108 (26 + m)))), (0, .inr (.inr (.inl (some 107)))), (1, .inl (m : Int))] [.inl (m : Int), .inl (m : Int), .inr (.inr (.inl (some 107)))] (am_mm D I J ρ) _
                      refine am_e_ss 2 (q := (144, [(3, .inl ((I 108 (32 + m)))), (2, .inl ((I 108 (26 + m)))), (0, .inr (.inr (.inl (some 107)))), (1, .inl (m : Int))], [.inl ((I 108 (32 + m))), .inr (.inr (.inl (some 107))), .inl (m : Int), .inl (m : Int), .inr (.inr (.inl (some 107)))], (am_mm D I J ρ))) rfl ?_
                      refine am_e_virtual (Q := fun r => r = (some (.inl ((am_bi (0 ≤ (I 108 (32 + m)) ∧ (I 108 (32 + m)) ≤ ((I 108 20) - 1))))), (am_mm D I J ρ))) rfl rfl (Nat.le_of_ble_eq_true rfl) rfl rfl (Nat.le_of_ble_eq_true rfl) (Nat.le_of_ble_eq_true rfl) (r_isBook _ ⟨by omega, by omega⟩ (show 0 ≤ (I 108 20) ∧ (I 108 20) ≤ 6 by omega)) ?_
                      rintro r rfl
                      show am_E _ _ _ 147 [(3, .inl ((I 108 (32 + m)))), (2, .inl ((I 108 (26 + m)))), (0, .inr (.inr (.inl (some 107)))), (1, .inl (m : Int))] [.inl ((am_bi (0 ≤ (I 108 (32 + m)) ∧ (I 108 (32 + m)) ≤ ((I 108 20) - 1)))), .inl (m : Int), .inl (m : Int), .inr (.inr (.inl (some 107)))] (am_mm D I J ρ) _
                      refine am_e_ifeq rfl (fun h33 => ?_) (fun h33 => ?_)
                      · show am_E _ _ _ 162 [(3, .inl ((I 108 (32 + m)))), (2, .inl ((I 108 (26 + m)))), (0, .inr (.inr (.inl (some 107)))), (1, .inl (m : Int))] [.inl (m : Int), .inl (m : Int), .inr (.inr (.inl (some 107)))] (am_mm D I J ρ) _
                        refine am_e_ss 1 (q := (163, [(3, .inl ((I 108 (32 + m)))), (2, .inl ((I 108 (26 + m)))), (0, .inr (.inr (.inl (some 107)))), (1, .inl (m : Int))], [.inl (-1), .inl (m : Int), .inl (m : Int), .inr (.inr (.inl (some 107)))], (am_mm D I J ρ))) rfl ?_
                        refine am_e_virtual (Q := fun r => ∃ Q37, r = (none, (am_mm D (am_wp tY I Q37) J ρ)) ∧ am_rowl (Q37 115) (6 * m) (sp_sayl (sp_ord (I 108) m) (-1)) ∧ Q37 116 m = ((sp_ord (I 108) m).length : Int) ∧ (∀ i, i < 6 * m ∨ 6 * m + 6 ≤ i → Q37 115 i = I 115 i) ∧ (∀ i, i ≠ m → Q37 116 i = I 116 i)) rfl rfl (Nat.le_of_ble_eq_true rfl) rfl rfl (Nat.le_of_ble_eq_true rfl) (Nat.le_of_ble_eq_true rfl) (r_saysOf _ (m := m) (fn := m) (L := (sp_ord (I 108) m)) (by omega) (by omega) (by omega) ⟨by omega, by omega⟩ (hO _ (by omega)) (hop.trans sp_ord_len.symm) (by have := sp_ord_len (S := I 108) (m := m); omega) (fun x hx => by have := sp_ord_mem.mp hx; omega)) ?_
                        rintro r ⟨Q37, rfl, ⟨y1, y2, y3, y4⟩⟩
                        show am_E _ _ _ 166 [(3, .inl ((I 108 (32 + m)))), (2, .inl ((I 108 (26 + m)))), (0, .inr (.inr (.inl (some 107)))), (1, .inl (m : Int))] [] (am_mm D (am_wp tY I Q37) J ρ) _
                        refine am_e_return rfl rfl ?_
                        have es : sp_says (I 108) m = (sp_sayl (sp_ord (I 108) m) (-1)) := by
                          unfold sp_says
                          rw [← hop]
                          (repeat' split) <;> first | rfl | (exfalso; omega)
                        refine ⟨Q37, rfl, ?_, ?_, y3, y4⟩
                        · rw [es]; exact y1
                        · rw [es, sp_sayl_len sp_ord_nd]; exact y2
                      · show am_E _ _ _ 150 [(3, .inl ((I 108 (32 + m)))), (2, .inl ((I 108 (26 + m)))), (0, .inr (.inr (.inl (some 107)))), (1, .inl (m : Int))] [.inl (m : Int), .inl (m : Int), .inr (.inr (.inl (some 107)))] (am_mm D I J ρ) _
                        refine am_e_ss 2 (q := (152, [(3, .inl ((I 108 (32 + m)))), (2, .inl ((I 108 (26 + m)))), (0, .inr (.inr (.inl (some 107)))), (1, .inl (m : Int))], [.inl ((I 108 (32 + m))), .inr (.inr (.inl (some 107))), .inl (m : Int), .inl (m : Int), .inr (.inr (.inl (some 107)))], (am_mm D I J ρ))) rfl ?_
                        refine am_e_virtual (Q := fun r => r = (some (.inl ((am_bi ((I 108 ((13 + (I 108 (32 + m)))).toNat) = 0)))), (am_mm D I J ρ))) rfl rfl (Nat.le_of_ble_eq_true rfl) rfl rfl (Nat.le_of_ble_eq_true rfl) (Nat.le_of_ble_eq_true rfl) (r_isOpen _ (v := (I 108 (32 + m))) ⟨by omega, by omega⟩ (by rw [show (13 + (I 108 (32 + m))).toNat = 13 + ((I 108 (32 + m))).toNat by omega]; exact oD _ (by omega))) ?_
                        rintro r rfl
                        show am_E _ _ _ 155 [(3, .inl ((I 108 (32 + m)))), (2, .inl ((I 108 (26 + m)))), (0, .inr (.inr (.inl (some 107)))), (1, .inl (m : Int))] [.inl ((am_bi ((I 108 ((13 + (I 108 (32 + m)))).toNat) = 0))), .inl (m : Int), .inl (m : Int), .inr (.inr (.inl (some 107)))] (am_mm D I J ρ) _
                        refine am_e_ifeq rfl (fun h34 => ?_) (fun h34 => ?_)
                        · show am_E _ _ _ 162 [(3, .inl ((I 108 (32 + m)))), (2, .inl ((I 108 (26 + m)))), (0, .inr (.inr (.inl (some 107)))), (1, .inl (m : Int))] [.inl (m : Int), .inl (m : Int), .inr (.inr (.inl (some 107)))] (am_mm D I J ρ) _
                          refine am_e_ss 1 (q := (163, [(3, .inl ((I 108 (32 + m)))), (2, .inl ((I 108 (26 + m)))), (0, .inr (.inr (.inl (some 107)))), (1, .inl (m : Int))], [.inl (-1), .inl (m : Int), .inl (m : Int), .inr (.inr (.inl (some 107)))], (am_mm D I J ρ))) rfl ?_
                          refine am_e_virtual (Q := fun r => ∃ Q38, r = (none, (am_mm D (am_wp tY I Q38) J ρ)) ∧ am_rowl (Q38 115) (6 * m) (sp_sayl (sp_ord (I 108) m) (-1)) ∧ Q38 116 m = ((sp_ord (I 108) m).length : Int) ∧ (∀ i, i < 6 * m ∨ 6 * m + 6 ≤ i → Q38 115 i = I 115 i) ∧ (∀ i, i ≠ m → Q38 116 i = I 116 i)) rfl rfl (Nat.le_of_ble_eq_true rfl) rfl rfl (Nat.le_of_ble_eq_true rfl) (Nat.le_of_ble_eq_true rfl) (r_saysOf _ (m := m) (fn := m) (L := (sp_ord (I 108) m)) (by omega) (by omega) (by omega) ⟨by omega, by omega⟩ (hO _ (by omega)) (hop.trans sp_ord_len.symm) (by have := sp_ord_len (S := I 108) (m := m); omega) (fun x hx => by have := sp_ord_mem.mp hx; omega)) ?_
                          rintro r ⟨Q38, rfl, ⟨y1, y2, y3, y4⟩⟩
                          show am_E _ _ _ 166 [(3, .inl ((I 108 (32 + m)))), (2, .inl ((I 108 (26 + m)))), (0, .inr (.inr (.inl (some 107)))), (1, .inl (m : Int))] [] (am_mm D (am_wp tY I Q38) J ρ) _
                          refine am_e_return rfl rfl ?_
                          have es : sp_says (I 108) m = (sp_sayl (sp_ord (I 108) m) (-1)) := by
                            unfold sp_says
                            rw [← hop]
                            (repeat' split) <;> first | rfl | (exfalso; omega)
                          refine ⟨Q38, rfl, ?_, ?_, y3, y4⟩
                          · rw [es]; exact y1
                          · rw [es, sp_sayl_len sp_ord_nd]; exact y2
                        · show am_E _ _ _ 158 [(3, .inl ((I 108 (32 + m)))), (2, .inl ((I 108 (26 + m)))), (0, .inr (.inr (.inl (some 107)))), (1, .inl (m : Int))] [.inl (m : Int), .inl (m : Int), .inr (.inr (.inl (some 107)))] (am_mm D I J ρ) _
                          refine am_e_ss 2 (q := (163, [(3, .inl ((I 108 (32 + m)))), (2, .inl ((I 108 (26 + m)))), (0, .inr (.inr (.inl (some 107)))), (1, .inl (m : Int))], [.inl ((I 108 (32 + m))), .inl (m : Int), .inl (m : Int), .inr (.inr (.inl (some 107)))], (am_mm D I J ρ))) rfl ?_
                          refine am_e_virtual (Q := fun r => ∃ Q39, r = (none, (am_mm D (am_wp tY I Q39) J ρ)) ∧ am_rowl (Q39 115) (6 * m) (sp_sayl (sp_ord (I 108) m) (I 108 (32 + m))) ∧ Q39 116 m = ((sp_ord (I 108) m).length : Int) ∧ (∀ i, i < 6 * m ∨ 6 * m + 6 ≤ i → Q39 115 i = I 115 i) ∧ (∀ i, i ≠ m → Q39 116 i = I 116 i)) rfl rfl (Nat.le_of_ble_eq_true rfl) rfl rfl (Nat.le_of_ble_eq_true rfl) (Nat.le_of_ble_eq_true rfl) (r_saysOf _ (m := m) (fn := m) (L := (sp_ord (I 108) m)) (by omega) (by omega) (by omega) ⟨by omega, by omega⟩ (hO _ (by omega)) (hop.trans sp_ord_len.symm) (by have := sp_ord_len (S := I 108) (m := m); omega) (fun x hx => by have := sp_ord_mem.mp hx; omega)) ?_
                          rintro r ⟨Q39, rfl, ⟨y1, y2, y3, y4⟩⟩
                          show am_E _ _ _ 166 [(3, .inl ((I 108 (32 + m)))), (2, .inl ((I 108 (26 + m)))), (0, .inr (.inr (.inl (some 107)))), (1, .inl (m : Int))] [] (am_mm D (am_wp tY I Q39) J ρ) _
                          refine am_e_return rfl rfl ?_
                          have es : sp_says (I 108) m = (sp_sayl (sp_ord (I 108) m) (I 108 (32 + m))) := by
                            unfold sp_says
                            rw [← hop]
                            (repeat' split) <;> first | rfl | (exfalso; omega)
                          refine ⟨Q39, rfl, ?_, ?_, y3, y4⟩
                          · rw [es]; exact y1
                          · rw [es, sp_sayl_len sp_ord_nd]; exact y2
                  · show am_E _ _ _ 99 [(3, .inl ((I 108 (32 + m)))), (2, .inl ((I 108 (26 + m)))), (0, .inr (.inr (.inl (some 107)))), (1, .inl (m : Int))] [] (am_mm D I J ρ) _
                    refine am_e_ss 1 (q := (100, [(3, .inl ((I 108 (32 + m)))), (2, .inl ((I 108 (26 + m)))), (0, .inr (.inr (.inl (some 107)))), (1, .inl (m : Int))], [.inr (.inr (.inl (some 107)))], (am_mm D I J ρ))) rfl ?_
                    refine am_e_virtual (Q := fun r => r = (some (.inl ((sp_first (I 108)))), (am_mm D I J ρ))) rfl rfl (Nat.le_of_ble_eq_true rfl) rfl rfl (Nat.le_of_ble_eq_true rfl) (Nat.le_of_ble_eq_true rfl) ((r_firstOfMost _ (B := B) (fun m hm => by rw [show I 114 (6 * m) = sp_hd (I 108) m from hh m hm]; exact sp_hd_b hok m) hok).imp (fun r h => by rw [h]; unfold sp_first; rw [sp_fom_cg hh])) ?_
                    rintro r rfl
                    show am_E _ _ _ 103 [(3, .inl ((I 108 (32 + m)))), (2, .inl ((I 108 (26 + m)))), (0, .inr (.inr (.inl (some 107)))), (1, .inl (m : Int))] [.inl ((sp_first (I 108)))] (am_mm D I J ρ) _
                    refine am_e_ss 1 (q := (105, [(4, .inl ((sp_first (I 108)))), (3, .inl ((I 108 (32 + m)))), (2, .inl ((I 108 (26 + m)))), (0, .inr (.inr (.inl (some 107)))), (1, .inl (m : Int))], [], (am_mm D I J ρ))) rfl ?_
                    have hhm : I 114 (6 * m) = sp_hd (I 108) m := hh m (by omega)
                    have hb1 := sp_hd_b hok m
                    have hb2 := sp_first_b hok
                    refine am_e_ss 8 (q := (116, [(4, .inl ((sp_first (I 108)))), (3, .inl ((I 108 (32 + m)))), (2, .inl ((I 108 (26 + m)))), (0, .inr (.inr (.inl (some 107)))), (1, .inl (m : Int))], [.inl (6 * (m : Int)), .inr (.inr (.inl (some 114))), .inl (m : Int), .inl (m : Int), .inr (.inr (.inl (some 107)))], (am_mm D I J ρ))) rfl ?_
                    refine am_e_iaload (m := 36) rfl rfl (by omega) (by omega) (by omega) ?_
                    show am_E _ _ _ 117 [(4, .inl ((sp_first (I 108)))), (3, .inl ((I 108 (32 + m)))), (2, .inl ((I 108 (26 + m)))), (0, .inr (.inr (.inl (some 107)))), (1, .inl (m : Int))] [.inl ((I 114 (6 * m))), .inl (m : Int), .inl (m : Int), .inr (.inr (.inl (some 107)))] (am_mm D I J ρ) _
                    refine am_e_ss 1 (q := (119, [(4, .inl ((sp_first (I 108)))), (3, .inl ((I 108 (32 + m)))), (2, .inl ((I 108 (26 + m)))), (0, .inr (.inr (.inl (some 107)))), (1, .inl (m : Int))], [.inl ((sp_first (I 108))), .inl ((I 114 (6 * m))), .inl (m : Int), .inl (m : Int), .inr (.inr (.inl (some 107)))], (am_mm D I J ρ))) rfl ?_
                    refine am_e_icmp2 rfl ⟨by omega, by omega⟩ ⟨by omega, by omega⟩ (fun (h35 : ¬ (I 114 (6 * m)) = (sp_first (I 108))) => ?_) (fun (h35 : ¬ (¬ (I 114 (6 * m)) = (sp_first (I 108)))) => ?_)
                    · show am_E _ _ _ 126 [(4, .inl ((sp_first (I 108)))), (3, .inl ((I 108 (32 + m)))), (2, .inl ((I 108 (26 + m)))), (0, .inr (.inr (.inl (some 107)))), (1, .inl (m : Int))] [.inl (m : Int), .inl (m : Int), .inr (.inr (.inl (some 107)))] (am_mm D I J ρ) _
                      refine am_e_ss 1 (q := (128, [(4, .inl ((sp_first (I 108)))), (3, .inl ((I 108 (32 + m)))), (2, .inl ((I 108 (26 + m)))), (0, .inr (.inr (.inl (some 107)))), (1, .inl (m : Int))], [.inl ((sp_first (I 108))), .inl (m : Int), .inl (m : Int), .inr (.inr (.inl (some 107)))], (am_mm D I J ρ))) rfl ?_
                      refine am_e_virtual (Q := fun r => ∃ Q40, r = (none, (am_mm D (am_wp tY I Q40) J ρ)) ∧ am_rowl (Q40 115) (6 * m) (sp_sayl (sp_ord (I 108) m) (sp_first (I 108))) ∧ Q40 116 m = ((sp_ord (I 108) m).length : Int) ∧ (∀ i, i < 6 * m ∨ 6 * m + 6 ≤ i → Q40 115 i = I 115 i) ∧ (∀ i, i ≠ m → Q40 116 i = I 116 i)) rfl rfl (Nat.le_of_ble_eq_true rfl) rfl rfl (Nat.le_of_ble_eq_true rfl) (Nat.le_of_ble_eq_true rfl) (r_saysOf _ (m := m) (fn := m) (L := (sp_ord (I 108) m)) (by omega) (by omega) (by omega) ⟨by omega, by omega⟩ (hO _ (by omega)) (hop.trans sp_ord_len.symm) (by have := sp_ord_len (S := I 108) (m := m); omega) (fun x hx => by have := sp_ord_mem.mp hx; omega)) ?_
                      rintro r ⟨Q40, rfl, ⟨y1, y2, y3, y4⟩⟩
                      show am_E _ _ _ 131 [(4, .inl ((sp_first (I 108)))), (3, .inl ((I 108 (32 + m)))), (2, .inl ((I 108 (26 + m)))), (0, .inr (.inr (.inl (some 107)))), (1, .inl (m : Int))] [] (am_mm D (am_wp tY I Q40) J ρ) _
                      refine am_e_ss 1 (q := (166, [(4, .inl ((sp_first (I 108)))), (3, .inl ((I 108 (32 + m)))), (2, .inl ((I 108 (26 + m)))), (0, .inr (.inr (.inl (some 107)))), (1, .inl (m : Int))], [], (am_mm D (am_wp tY I Q40) J ρ))) rfl ?_
                      refine am_e_return rfl rfl ?_
                      have es : sp_says (I 108) m = (sp_sayl (sp_ord (I 108) m) (sp_first (I 108))) := by
                        unfold sp_says
                        rw [← hop]
                        (repeat' split) <;> first | rfl | (exfalso; omega)
                      refine ⟨Q40, rfl, ?_, ?_, y3, y4⟩
                      · rw [es]; exact y1
                      · rw [es, sp_sayl_len sp_ord_nd]; exact y2
                    · show am_E _ _ _ 122 [(4, .inl ((sp_first (I 108)))), (3, .inl ((I 108 (32 + m)))), (2, .inl ((I 108 (26 + m)))), (0, .inr (.inr (.inl (some 107)))), (1, .inl (m : Int))] [.inl (m : Int), .inl (m : Int), .inr (.inr (.inl (some 107)))] (am_mm D I J ρ) _
                      refine am_e_ss 2 (q := (128, [(4, .inl ((sp_first (I 108)))), (3, .inl ((I 108 (32 + m)))), (2, .inl ((I 108 (26 + m)))), (0, .inr (.inr (.inl (some 107)))), (1, .inl (m : Int))], [.inl (-1), .inl (m : Int), .inl (m : Int), .inr (.inr (.inl (some 107)))], (am_mm D I J ρ))) rfl ?_
                      refine am_e_virtual (Q := fun r => ∃ Q41, r = (none, (am_mm D (am_wp tY I Q41) J ρ)) ∧ am_rowl (Q41 115) (6 * m) (sp_sayl (sp_ord (I 108) m) (-1)) ∧ Q41 116 m = ((sp_ord (I 108) m).length : Int) ∧ (∀ i, i < 6 * m ∨ 6 * m + 6 ≤ i → Q41 115 i = I 115 i) ∧ (∀ i, i ≠ m → Q41 116 i = I 116 i)) rfl rfl (Nat.le_of_ble_eq_true rfl) rfl rfl (Nat.le_of_ble_eq_true rfl) (Nat.le_of_ble_eq_true rfl) (r_saysOf _ (m := m) (fn := m) (L := (sp_ord (I 108) m)) (by omega) (by omega) (by omega) ⟨by omega, by omega⟩ (hO _ (by omega)) (hop.trans sp_ord_len.symm) (by have := sp_ord_len (S := I 108) (m := m); omega) (fun x hx => by have := sp_ord_mem.mp hx; omega)) ?_
                      rintro r ⟨Q41, rfl, ⟨y1, y2, y3, y4⟩⟩
                      show am_E _ _ _ 131 [(4, .inl ((sp_first (I 108)))), (3, .inl ((I 108 (32 + m)))), (2, .inl ((I 108 (26 + m)))), (0, .inr (.inr (.inl (some 107)))), (1, .inl (m : Int))] [] (am_mm D (am_wp tY I Q41) J ρ) _
                      refine am_e_ss 1 (q := (166, [(4, .inl ((sp_first (I 108)))), (3, .inl ((I 108 (32 + m)))), (2, .inl ((I 108 (26 + m)))), (0, .inr (.inr (.inl (some 107)))), (1, .inl (m : Int))], [], (am_mm D (am_wp tY I Q41) J ρ))) rfl ?_
                      refine am_e_return rfl rfl ?_
                      have es : sp_says (I 108) m = (sp_sayl (sp_ord (I 108) m) (-1)) := by
                        unfold sp_says
                        rw [← hop]
                        (repeat' split) <;> first | rfl | (exfalso; omega)
                      refine ⟨Q41, rfl, ?_, ?_, y3, y4⟩
                      · rw [es]; exact y1
                      · rw [es, sp_sayl_len sp_ord_nd]; exact y2
              · show am_E _ _ _ 79 [(3, .inl ((I 108 (32 + m)))), (2, .inl ((I 108 (26 + m)))), (0, .inr (.inr (.inl (some 107)))), (1, .inl (m : Int))] [] (am_mm D I J ρ) _
                refine am_e_ss 4 (q := (83, [(3, .inl ((I 108 (32 + m)))), (2, .inl ((I 108 (26 + m)))), (0, .inr (.inr (.inl (some 107)))), (1, .inl (m : Int))], [.inl (-1), .inl ((I 108 (32 + m))), .inl (m : Int), .inr (.inr (.inl (some 107)))], (am_mm D I J ρ))) rfl ?_
                refine am_e_virtual (Q := fun r => ∃ Q42, r = (none, (am_mm D (am_wp tY I Q42) J ρ)) ∧ am_rowl (Q42 115) (6 * m) (sp_sayl (sp_ord (I 108) ((I 108 (32 + m))).toNat) (-1)) ∧ Q42 116 m = ((sp_ord (I 108) ((I 108 (32 + m))).toNat).length : Int) ∧ (∀ i, i < 6 * m ∨ 6 * m + 6 ≤ i → Q42 115 i = I 115 i) ∧ (∀ i, i ≠ m → Q42 116 i = I 116 i)) rfl rfl (Nat.le_of_ble_eq_true rfl) rfl rfl (Nat.le_of_ble_eq_true rfl) (Nat.le_of_ble_eq_true rfl) (r_saysOf _ (m := m) (fn := ((I 108 (32 + m))).toNat) (L := (sp_ord (I 108) ((I 108 (32 + m))).toNat)) (by omega) (by omega) (by omega) ⟨by omega, by omega⟩ (hO _ (by omega)) (hop.trans sp_ord_len.symm) (by have := sp_ord_len (S := I 108) (m := ((I 108 (32 + m))).toNat); omega) (fun x hx => by have := sp_ord_mem.mp hx; omega)) ?_
                rintro r ⟨Q42, rfl, ⟨y1, y2, y3, y4⟩⟩
                show am_E _ _ _ 86 [(3, .inl ((I 108 (32 + m)))), (2, .inl ((I 108 (26 + m)))), (0, .inr (.inr (.inl (some 107)))), (1, .inl (m : Int))] [] (am_mm D (am_wp tY I Q42) J ρ) _
                refine am_e_ss 1 (q := (166, [(3, .inl ((I 108 (32 + m)))), (2, .inl ((I 108 (26 + m)))), (0, .inr (.inr (.inl (some 107)))), (1, .inl (m : Int))], [], (am_mm D (am_wp tY I Q42) J ρ))) rfl ?_
                refine am_e_return rfl rfl ?_
                have es : sp_says (I 108) m = (sp_sayl (sp_ord (I 108) ((I 108 (32 + m))).toNat) (-1)) := by
                  unfold sp_says
                  rw [← hop]
                  (repeat' split) <;> first | rfl | (exfalso; omega)
                refine ⟨Q42, rfl, ?_, ?_, y3, y4⟩
                · rw [es]; exact y1
                · rw [es, sp_sayl_len sp_ord_nd]; exact y2
      · show am_E _ _ _ 43 [(3, .inl ((I 108 (32 + m)))), (2, .inl ((I 108 (26 + m)))), (0, .inr (.inr (.inl (some 107)))), (1, .inl (m : Int))] [] (am_mm D I J ρ) _
        refine am_e_ss 4 (q := (49, [(3, .inl ((I 108 (32 + m)))), (2, .inl ((I 108 (26 + m)))), (0, .inr (.inr (.inl (some 107)))), (1, .inl (m : Int))], [.inl 0, .inl (m : Int), .inr (.inr (.inl (some 116)))], (am_mm D I J ρ))) rfl ?_
        refine am_e_iastore (m := 6) rfl rfl (by omega) (by omega) (by omega) ?_
        show am_E _ _ _ 50 [(3, .inl ((I 108 (32 + m)))), (2, .inl ((I 108 (26 + m)))), (0, .inr (.inr (.inl (some 107)))), (1, .inl (m : Int))] [] (am_mm D (am_up I 116 m 0) J ρ) _
        refine am_e_ss 1 (q := (166, [(3, .inl ((I 108 (32 + m)))), (2, .inl ((I 108 (26 + m)))), (0, .inr (.inr (.inl (some 107)))), (1, .inl (m : Int))], [], (am_mm D (am_up I 116 m 0) J ρ))) rfl ?_
        refine am_e_return rfl rfl ?_
        have es : sp_says (I 108) m = [] := by
          unfold sp_says
          rw [← hop]
          (repeat' split) <;> first | rfl | (exfalso; omega)
        refine ⟨_, am_r_wp tY (am_k_up rfl (am_k_id)), ?_, ?_, fun i _ => rfl, fun i hi => am_up_ne2 (by omega)⟩
        · rw [es]; exact am_rowl_nil
        · rw [es]; exact am_up_at2
theorem r_lfo2 {X : Nat × (Nat → Int)} {D : List (Nat × Nat)} {I J : Nat → Nat → Int} {ρ : Nat → Nat → Option Nat} (d : Nat) {B : Int} {m : Nat} {Q : Nat → Nat → Int} (hm : (m : Int) ≤ I 108 19) (hop : Q 107 20 = sp_ops (I 108)) (hO : ∀ m : Nat, m < (I 108 19).toNat → am_rowl (Q 114) (6 * m) (sp_ord (I 108) m)) (hq : ∀ j : Nat, j < m → Q 116 j = ((sp_says (I 108) j).length : Int) ∧ am_rowl (Q 115) (6 * j) (sp_says (I 108) j)) (hok : r_ok (I 108) B) : am_E X (d + 3) 167 37 [(1, .inl (m : Int)), (0, .inr (.inr (.inl (some 107))))] [] (am_mm D (am_wp tO I Q) J ρ) (fun r => ∃ Q, r = (none, am_mm D (am_wp tO I Q) J ρ) ∧ Q 107 20 = sp_ops (I 108) ∧ (∀ m : Nat, m < ((I 108) 19).toNat → am_rowl (Q 114) (6 * m) (sp_ord (I 108) m)) ∧ (∀ m : Nat, m < ((I 108) 19).toNat → Q 116 m = ((sp_says (I 108) m).length : Int) ∧ am_rowl (Q 115) (6 * m) (sp_says (I 108) m))) := by
  have hok2 := hok
  obtain ⟨o0, oG, oH, oD, o19, o20, o21, o22, o23, o24, oK, oV, oP, oM, oS, oY, oHd, oT, oC, oN⟩ := hok
  have hok := hok2
  have opb := sp_ops_b hok
  refine am_e_ss 5 (q := (45, [(1, .inl (m : Int)), (0, .inr (.inr (.inl (some 107))))], [.inl ((I 108 19)), .inl (m : Int)], (am_mm D (am_wp tO I Q) J ρ))) rfl ?_
  refine am_e_icmp2 rfl ⟨by omega, by omega⟩ ⟨by omega, by omega⟩ (fun (h1 : (I 108 19) ≤ (m : Int)) => ?_) (fun (h1 : ¬ ((I 108 19) ≤ (m : Int))) => ?_)
  · show am_E _ _ _ 59 [(1, .inl (m : Int)), (0, .inr (.inr (.inl (some 107))))] [] (am_mm D (am_wp tO I Q) J ρ) _
    refine am_e_return rfl rfl ?_
    exact ⟨Q, rfl, hop, hO, fun j hj => hq j (by omega)⟩
  · show am_E _ _ _ 48 [(1, .inl (m : Int)), (0, .inr (.inr (.inl (some 107))))] [] (am_mm D (am_wp tO I Q) J ρ) _
    refine am_e_ss 2 (q := (50, [(1, .inl (m : Int)), (0, .inr (.inr (.inl (some 107))))], [.inl (m : Int), .inr (.inr (.inl (some 107)))], (am_mm D (am_wp tO I Q) J ρ))) rfl ?_
    refine am_e_virtual (Q := fun r => ∃ Q43, r = (none, (am_mm D (am_wp tY (am_wp tO I Q) Q43) J ρ)) ∧ am_rowl (Q43 115) (6 * m) (sp_says (I 108) m) ∧ Q43 116 m = ((sp_says (I 108) m).length : Int) ∧ (∀ i, i < 6 * m ∨ 6 * m + 6 ≤ i → Q43 115 i = (Q 115) i) ∧ (∀ i, i ≠ m → Q43 116 i = (Q 116) i)) rfl rfl (Nat.le_of_ble_eq_true rfl) rfl rfl (Nat.le_of_ble_eq_true rfl) (Nat.le_of_ble_eq_true rfl) (r_speaks _ (B := B) (show ((m : Nat) : Int) < (I 108) 19 by omega) hO hop hok) ?_
    rintro r ⟨Q43, rfl, ⟨y1, y2, y3, y4⟩⟩
    show am_E _ _ _ 53 [(1, .inl (m : Int)), (0, .inr (.inr (.inl (some 107))))] [] (am_mm D (am_wp tY (am_wp tO I Q) Q43) J ρ) _
    refine am_e_ss 2 (q := (37, [(1, .inl ((m : Int) + 1)), (0, .inr (.inr (.inl (some 107))))], [], (am_mm D (am_wp tY (am_wp tO I Q) Q43) J ρ))) rfl ?_
    have e9 : ∀ j : Nat, j < m + 1 → (am_wp tY (am_wp tO I Q) Q43) 116 j = ((sp_says (I 108) j).length : Int) ∧ am_rowl ((am_wp tY (am_wp tO I Q) Q43) 115) (6 * j) (sp_says (I 108) j) := by
      intro j hj
      by_cases e : j = m
      · subst e; exact ⟨y2, y1⟩
      · refine ⟨(y4 j e).trans (hq j (by omega)).1, am_rowl_cg (hq j (by omega)).2 (fun k hk => y3 _ ?_)⟩
        have := sp_says_len (S := I 108) (m := j)
        omega
    refine am_e_wp tO (am_k_wp (tY_tO) (am_k_wp am_k_sub (am_k_id))) ?_
    exact am_less (lv := [(1, .inl ((m + 1) : Int)), (0, .inr (.inr (.inl (some 107))))]) rfl (List.forall_mem_cons.mpr ⟨rfl, List.forall_mem_cons.mpr ⟨rfl, List.forall_mem_nil _⟩⟩) (r_lfo2 d (m := m + 1) (by omega) hop hO e9 hok)
termination_by 7 - m
decreasing_by all_goals omega
theorem r_lfo1 {X : Nat × (Nat → Int)} {D : List (Nat × Nat)} {I J : Nat → Nat → Int} {ρ : Nat → Nat → Option Nat} (d : Nat) {B : Int} {m : Nat} {Q : Nat → Nat → Int} (hm : (m : Int) ≤ I 108 19) (hop : Q 107 20 = sp_ops (I 108)) (hq : ∀ j : Nat, j < m → am_rowl (Q 114) (6 * j) (sp_ord (I 108) j)) (hl : r_lks (I 108) (I 113)) (hok : r_ok (I 108) B) (hwf : sp_wfS (I 108)) : am_E X (d + 3) 167 13 [(1, .inl (m : Int)), (0, .inr (.inr (.inl (some 107))))] [] (am_mm D (am_wp tO1 I Q) J ρ) (fun r => ∃ Q, r = (none, am_mm D (am_wp tO I Q) J ρ) ∧ Q 107 20 = sp_ops (I 108) ∧ (∀ m : Nat, m < ((I 108) 19).toNat → am_rowl (Q 114) (6 * m) (sp_ord (I 108) m)) ∧ (∀ m : Nat, m < ((I 108) 19).toNat → Q 116 m = ((sp_says (I 108) m).length : Int) ∧ am_rowl (Q 115) (6 * m) (sp_says (I 108) m))) := by
  have hok2 := hok
  obtain ⟨o0, oG, oH, oD, o19, o20, o21, o22, o23, o24, oK, oV, oP, oM, oS, oY, oHd, oT, oC, oN⟩ := hok
  have hok := hok2
  have opb := sp_ops_b hok
  refine am_e_ss 5 (q := (21, [(1, .inl (m : Int)), (0, .inr (.inr (.inl (some 107))))], [.inl ((I 108 19)), .inl (m : Int)], (am_mm D (am_wp tO1 I Q) J ρ))) rfl ?_
  refine am_e_icmp2 rfl ⟨by omega, by omega⟩ ⟨by omega, by omega⟩ (fun (h1 : (I 108 19) ≤ (m : Int)) => ?_) (fun (h1 : ¬ ((I 108 19) ≤ (m : Int))) => ?_)
  · show am_E _ _ _ 35 [(1, .inl (m : Int)), (0, .inr (.inr (.inl (some 107))))] [] (am_mm D (am_wp tO1 I Q) J ρ) _
    refine am_e_ss 2 (q := (37, [(1, .inl 0), (0, .inr (.inr (.inl (some 107))))], [], (am_mm D (am_wp tO1 I Q) J ρ))) rfl ?_
    refine am_e_wp tO (am_k_wp (tO1_tO) (am_k_id)) ?_
    exact am_less (lv := [(1, .inl (0 : Int)), (0, .inr (.inr (.inl (some 107))))]) rfl (List.forall_mem_cons.mpr ⟨rfl, List.forall_mem_cons.mpr ⟨rfl, List.forall_mem_nil _⟩⟩) (r_lfo2 d (m := 0) (by omega) hop (fun j hj => hq j (by omega)) (fun j hj => by omega) hok)
  · show am_E _ _ _ 24 [(1, .inl (m : Int)), (0, .inr (.inr (.inl (some 107))))] [] (am_mm D (am_wp tO1 I Q) J ρ) _
    refine am_e_ss 2 (q := (26, [(1, .inl (m : Int)), (0, .inr (.inr (.inl (some 107))))], [.inl (m : Int), .inr (.inr (.inl (some 107)))], (am_mm D (am_wp tO1 I Q) J ρ))) rfl ?_
    refine am_e_virtual (Q := fun r => ∃ Q44, r = (none, (am_mm D (am_wp tS (am_wp tO1 I Q) Q44) J ρ)) ∧ am_rowl (Q44 114) (6 * m) (sp_ord (I 108) m) ∧ ∀ i, i < 6 * m ∨ 6 * m + 6 ≤ i → Q44 114 i = (Q 114) i) rfl rfl (Nat.le_of_ble_eq_true rfl) rfl rfl (Nat.le_of_ble_eq_true rfl) (Nat.le_of_ble_eq_true rfl) (r_sorts _ (B := B) (show ((m : Nat) : Int) < (I 108) 19 by omega) hl hok hwf) ?_
    rintro r ⟨Q44, rfl, ⟨hs1, hs2⟩⟩
    show am_E _ _ _ 29 [(1, .inl (m : Int)), (0, .inr (.inr (.inl (some 107))))] [] (am_mm D (am_wp tS (am_wp tO1 I Q) Q44) J ρ) _
    refine am_e_ss 2 (q := (13, [(1, .inl ((m : Int) + 1)), (0, .inr (.inr (.inl (some 107))))], [], (am_mm D (am_wp tS (am_wp tO1 I Q) Q44) J ρ))) rfl ?_
    have e9 : ∀ j : Nat, j < m + 1 → am_rowl ((am_wp tS (am_wp tO1 I Q) Q44) 114) (6 * j) (sp_ord (I 108) j) := by
      intro j hj
      by_cases e : j = m
      · subst e; exact hs1
      · refine am_rowl_cg (hq j (by omega)) (fun k hk => hs2 _ ?_)
        have := sp_ord_len (S := I 108) (m := j)
        omega
    refine am_e_wp tO1 (am_k_wp (tS_tO1) (am_k_wp am_k_sub (am_k_id))) ?_
    exact am_less (lv := [(1, .inl ((m + 1) : Int)), (0, .inr (.inr (.inl (some 107))))]) rfl (List.forall_mem_cons.mpr ⟨rfl, List.forall_mem_cons.mpr ⟨rfl, List.forall_mem_nil _⟩⟩) (r_lfo1 d (m := m + 1) (by omega) hop e9 hl hok hwf)
termination_by 7 - m
decreasing_by all_goals omega
theorem r_looksForOrders {X : Nat × (Nat → Int)} {D : List (Nat × Nat)} {I J : Nat → Nat → Int} {ρ : Nat → Nat → Option Nat} (d : Nat) {B : Int} (hl : r_lks (I 108) (I 113)) (hok : r_ok (I 108) B) (hwf : sp_wfS (I 108)) : am_E X (d + 3) 167 0 [(0, .inr (.inr (.inl (some 107))))] [] (am_mm D I J ρ) (fun r => ∃ Q, r = (none, am_mm D (am_wp tO I Q) J ρ) ∧ Q 107 20 = sp_ops (I 108) ∧ (∀ m : Nat, m < ((I 108) 19).toNat → am_rowl (Q 114) (6 * m) (sp_ord (I 108) m)) ∧ (∀ m : Nat, m < ((I 108) 19).toNat → Q 116 m = ((sp_says (I 108) m).length : Int) ∧ am_rowl (Q 115) (6 * m) (sp_says (I 108) m))) := by
  have hok2 := hok
  obtain ⟨o0, oG, oH, oD, o19, o20, o21, o22, o23, o24, oK, oV, oP, oM, oS, oY, oHd, oT, oC, oN⟩ := hok
  have hok := hok2
  refine am_e_ss 2 (q := (2, [(0, .inr (.inr (.inl (some 107))))], [.inr (.inr (.inl (some 107))), .inr (.inr (.inl (some 107)))], (am_mm D I J ρ))) rfl ?_
  refine am_e_virtual (Q := fun r => r = (some (.inl ((sp_open (I 108)))), (am_mm D I J ρ))) rfl rfl (Nat.le_of_ble_eq_true rfl) rfl rfl (Nat.le_of_ble_eq_true rfl) (Nat.le_of_ble_eq_true rfl) (r_openBooks _ (B := B) hok) ?_
  rintro r rfl
  show am_E _ _ _ 5 [(0, .inr (.inr (.inl (some 107))))] [.inl ((sp_open (I 108))), .inr (.inr (.inl (some 107)))] (am_mm D I J ρ) _
  refine am_e_static (Q := fun r => r = (some (.inl ((am_pop (sp_open (I 108))))), (am_mm D I J ρ))) rfl (Nat.le_of_ble_eq_true rfl) rfl (Nat.le_of_ble_eq_true rfl) (Nat.le_of_ble_eq_true rfl) (r_count1 _) ?_
  rintro r rfl
  show am_E _ _ _ 8 [(0, .inr (.inr (.inl (some 107))))] [.inl ((am_pop (sp_open (I 108)))), .inr (.inr (.inl (some 107)))] (am_mm D I J ρ) _
  refine am_e_ss 3 (q := (13, [(1, .inl 0), (0, .inr (.inr (.inl (some 107))))], [], (am_mm D (am_up I 107 20 (am_pop (sp_open (I 108)))) J ρ))) rfl ?_
  refine am_e_wp tO1 (am_k_up rfl (am_k_id)) ?_
  exact am_less (lv := [(1, .inl (0 : Int)), (0, .inr (.inr (.inl (some 107))))]) rfl (List.forall_mem_cons.mpr ⟨rfl, List.forall_mem_cons.mpr ⟨rfl, List.forall_mem_nil _⟩⟩) (r_lfo1 d (m := 0) (by omega) (sp_open_pop hok) (fun j hj => by omega) hl hok hwf)
theorem r_hears_l {X : Nat × (Nat → Int)} {D : List (Nat × Nat)} {I J : Nat → Nat → Int} {ρ : Nat → Nat → Option Nat} (d : Nat) {B t : Int} {m k : Nat} {Q : Nat → Nat → Int} (ht : t = 0 ∨ t = 1) (hm : (m : Int) < I 108 19) (hz : Q 118 m = ((sp_vl (I 108) t m).length : Int)) (hk : k ≤ (sp_vl (I 108) t m).length) (hr : am_rowl (Q 117) (6 * m) ((sp_vl (I 108) t m).take k)) (hq : r_rep m (Q 117) (Q 118) (sp_vl (I 108) t)) (hop : I 107 20 = sp_ops (I 108)) (hO : ∀ m : Nat, m < (I 108 19).toNat → am_rowl (I 114) (6 * m) (sp_ord (I 108) m)) (hY : ∀ m : Nat, m < (I 108 19).toNat → I 116 m = ((sp_says (I 108) m).length : Int) ∧ am_rowl (I 115) (6 * m) (sp_says (I 108) m)) (hok : r_ok (I 108) B) : am_E X (d + 1) 169 50 [(3, .inl (k : Int)), (2, .inl (m : Int)), (1, .inl t), (0, .inr (.inr (.inl (some 107))))] [] (am_mm D (am_wp tH I Q) J ρ) (fun r => ∃ Q, r = (none, am_mm D (am_wp tH I Q) J ρ) ∧ r_rep ((I 108) 19).toNat (Q 117) (Q 118) (sp_vl (I 108) t)) := by
  have hok2 := hok
  obtain ⟨o0, oG, oH, oD, o19, o20, o21, o22, o23, o24, oK, oV, oP, oM, oS, oY, oHd, oT, oC, oN⟩ := hok
  have hok := hok2
  have opb := sp_ops_b hok
  have vl := sp_vl_len (S := I 108) (t := t) (m := m)
  refine am_e_ss 4 (q := (56, [(3, .inl (k : Int)), (2, .inl (m : Int)), (1, .inl t), (0, .inr (.inr (.inl (some 107))))], [.inl (m : Int), .inr (.inr (.inl (some 118))), .inl (k : Int)], (am_mm D (am_wp tH I Q) J ρ))) rfl ?_
  refine am_e_iaload (m := 6) rfl rfl (by omega) (by omega) (by omega) ?_
  show am_E _ _ _ 57 [(3, .inl (k : Int)), (2, .inl (m : Int)), (1, .inl t), (0, .inr (.inr (.inl (some 107))))] [.inl ((Q 118 m)), .inl (k : Int)] (am_mm D (am_wp tH I Q) J ρ) _
  refine am_e_icmp2 rfl ⟨by omega, by omega⟩ ⟨by omega, by omega⟩ (fun (h1 : (Q 118 m) ≤ (k : Int)) => ?_) (fun (h1 : ¬ ((Q 118 m) ≤ (k : Int))) => ?_)
  · show am_E _ _ _ 106 [(3, .inl (k : Int)), (2, .inl (m : Int)), (1, .inl t), (0, .inr (.inr (.inl (some 107))))] [] (am_mm D (am_wp tH I Q) J ρ) _
    refine am_e_ss 7 (q := (10, [(2, .inl ((m : Int) + 1)), (3, .inl (k : Int)), (1, .inl t), (0, .inr (.inr (.inl (some 107))))], [.inl ((I 108 19)), .inl ((m : Int) + 1)], (am_mm D (am_wp tH I Q) J ρ))) rfl ?_
    refine am_e_icmp2 rfl ⟨by omega, by omega⟩ ⟨by omega, by omega⟩ (fun (h2 : (I 108 19) ≤ ((m : Int) + 1)) => ?_) (fun (h2 : ¬ ((I 108 19) ≤ ((m : Int) + 1))) => ?_)
    · show am_E _ _ _ 112 [(2, .inl ((m : Int) + 1)), (3, .inl (k : Int)), (1, .inl t), (0, .inr (.inr (.inl (some 107))))] [] (am_mm D (am_wp tH I Q) J ρ) _
      refine am_e_return rfl rfl ?_
      have ek : (sp_vl (I 108) t m).take k = sp_vl (I 108) t m := List.take_of_length_le (by omega)
      rw [ek] at hr
      have e8 : r_rep (m + 1) (Q 117) (Q 118) (sp_vl (I 108) t) := by
        intro j hj
        by_cases e : j = m
        · subst e; exact ⟨hz, hr⟩
        · exact hq j (by omega)
      exact ⟨Q, rfl, fun j hj => e8 j (by omega)⟩
    · show am_E _ _ _ 13 [(2, .inl ((m : Int) + 1)), (3, .inl (k : Int)), (1, .inl t), (0, .inr (.inr (.inl (some 107))))] [] (am_mm D (am_wp tH I Q) J ρ) _
      refine am_e_ss 4 (q := (19, [(2, .inl ((m : Int) + 1)), (3, .inl (k : Int)), (1, .inl t), (0, .inr (.inr (.inl (some 107))))], [.inl t, .inl ((m : Int) + 1), .inr (.inr (.inl (some 118)))], (am_mm D (am_wp tH I Q) J ρ))) rfl ?_
      refine am_e_if2 rfl ⟨by omega, by omega⟩ (fun (h3 : t = 0) => ?_) (fun (h3 : ¬ (t = 0)) => ?_)
      · show am_E _ _ _ 41 [(2, .inl ((m : Int) + 1)), (3, .inl (k : Int)), (1, .inl t), (0, .inr (.inr (.inl (some 107))))] [.inl ((m : Int) + 1), .inr (.inr (.inl (some 118)))] (am_mm D (am_wp tH I Q) J ρ) _
        refine am_e_ss 3 (q := (46, [(2, .inl ((m : Int) + 1)), (3, .inl (k : Int)), (1, .inl t), (0, .inr (.inr (.inl (some 107))))], [.inl ((m : Int) + 1), .inr (.inr (.inl (some 116))), .inl ((m : Int) + 1), .inr (.inr (.inl (some 118)))], (am_mm D (am_wp tH I Q) J ρ))) rfl ?_
        refine am_e_iaload (m := 6) rfl rfl (by omega) (by omega) (by omega) ?_
        show am_E _ _ _ 47 [(2, .inl ((m : Int) + 1)), (3, .inl (k : Int)), (1, .inl t), (0, .inr (.inr (.inl (some 107))))] [.inl ((I 116 (m + 1))), .inl ((m : Int) + 1), .inr (.inr (.inl (some 118)))] (am_mm D (am_wp tH I Q) J ρ) _
        refine am_e_iastore (m := 6) rfl rfl (by omega) (by omega) (by omega) ?_
        show am_E _ _ _ 48 [(2, .inl ((m : Int) + 1)), (3, .inl (k : Int)), (1, .inl t), (0, .inr (.inr (.inl (some 107))))] [] (am_mm D (am_up (am_wp tH I Q) 118 (m + 1) (I 116 (m + 1))) J ρ) _
        refine am_e_ss 2 (q := (50, [(3, .inl 0), (2, .inl ((m : Int) + 1)), (1, .inl t), (0, .inr (.inr (.inl (some 107))))], [], (am_mm D (am_up (am_wp tH I Q) 118 (m + 1) (I 116 (m + 1))) J ρ))) rfl ?_
        have ek : (sp_vl (I 108) t m).take k = sp_vl (I 108) t m := List.take_of_length_le (by omega)
        rw [ek] at hr
        have e8 : r_rep (m + 1) (Q 117) (Q 118) (sp_vl (I 108) t) := by
          intro j hj
          by_cases e : j = m
          · subst e; exact ⟨hz, hr⟩
          · exact hq j (by omega)
        have e7 : r_rep (m + 1) ((am_up (am_wp tH I Q) 118 (m + 1) (I 116 (m + 1))) 117) ((am_up (am_wp tH I Q) 118 (m + 1) (I 116 (m + 1))) 118) (sp_vl (I 108) t) := by
          intro j hj
          exact ⟨(am_up_ne2 (by omega)).trans (e8 j hj).1, (e8 j hj).2⟩
        have hY1 := hY (m + 1) (by omega)
        have hOl := sp_ord_len (S := I 108) (m := m + 1)
        have e6 : (am_up (am_wp tH I Q) 118 (m + 1) (I 116 (m + 1))) 118 (m + 1) = ((sp_vl (I 108) t (m + 1)).length : Int) := by
          refine am_up_at2.trans ?_
          unfold sp_vl
          (repeat' split) <;> first | (exfalso; omega) | (simp only [List.length_nil]; omega) | omega
        refine am_e_wp tH (am_k_up rfl (am_k_wp am_k_sub (am_k_id))) ?_
        exact am_less (lv := [(3, .inl (0 : Int)), (2, .inl ((m + 1) : Int)), (1, .inl t), (0, .inr (.inr (.inl (some 107))))]) rfl (List.forall_mem_cons.mpr ⟨rfl, List.forall_mem_cons.mpr ⟨rfl, List.forall_mem_cons.mpr ⟨rfl, List.forall_mem_cons.mpr ⟨rfl, List.forall_mem_nil _⟩⟩⟩⟩) (r_hears_l d (m := m + 1) (k := 0) ht (by omega) e6 (by omega) am_rowl_nil e7 hop hO hY hok)
      · show am_E _ _ _ 22 [(2, .inl ((m : Int) + 1)), (3, .inl (k : Int)), (1, .inl t), (0, .inr (.inr (.inl (some 107))))] [.inl ((m : Int) + 1), .inr (.inr (.inl (some 118)))] (am_mm D (am_wp tH I Q) J ρ) _
        refine am_e_ss 2 (q := (24, [(2, .inl ((m : Int) + 1)), (3, .inl (k : Int)), (1, .inl t), (0, .inr (.inr (.inl (some 107))))], [.inl ((m : Int) + 1), .inr (.inr (.inl (some 107))), .inl ((m : Int) + 1), .inr (.inr (.inl (some 118)))], (am_mm D (am_wp tH I Q) J ρ))) rfl ?_
        refine am_e_virtual (Q := fun r => r = (some (.inl ((am_bi ((I 108 (7 + (m + 1))) = 0)))), (am_mm D (am_wp tH I Q) J ρ))) rfl rfl (Nat.le_of_ble_eq_true rfl) rfl rfl (Nat.le_of_ble_eq_true rfl) (Nat.le_of_ble_eq_true rfl) (r_isHere _ (v := ((m : Int) + 1)) ⟨by omega, by omega⟩ (by exact oH (m + 1) (by omega))) ?_
        rintro r rfl
        show am_E _ _ _ 27 [(2, .inl ((m : Int) + 1)), (3, .inl (k : Int)), (1, .inl t), (0, .inr (.inr (.inl (some 107))))] [.inl ((am_bi ((I 108 (7 + (m + 1))) = 0))), .inl ((m : Int) + 1), .inr (.inr (.inl (some 118)))] (am_mm D (am_wp tH I Q) J ρ) _
        refine am_e_ifeq rfl (fun h4 => ?_) (fun h4 => ?_)
        · show am_E _ _ _ 37 [(2, .inl ((m : Int) + 1)), (3, .inl (k : Int)), (1, .inl t), (0, .inr (.inr (.inl (some 107))))] [.inl ((m : Int) + 1), .inr (.inr (.inl (some 118)))] (am_mm D (am_wp tH I Q) J ρ) _
          refine am_e_ss 2 (q := (47, [(2, .inl ((m : Int) + 1)), (3, .inl (k : Int)), (1, .inl t), (0, .inr (.inr (.inl (some 107))))], [.inl 0, .inl ((m : Int) + 1), .inr (.inr (.inl (some 118)))], (am_mm D (am_wp tH I Q) J ρ))) rfl ?_
          refine am_e_iastore (m := 6) rfl rfl (by omega) (by omega) (by omega) ?_
          show am_E _ _ _ 48 [(2, .inl ((m : Int) + 1)), (3, .inl (k : Int)), (1, .inl t), (0, .inr (.inr (.inl (some 107))))] [] (am_mm D (am_up (am_wp tH I Q) 118 (m + 1) 0) J ρ) _
          refine am_e_ss 2 (q := (50, [(3, .inl 0), (2, .inl ((m : Int) + 1)), (1, .inl t), (0, .inr (.inr (.inl (some 107))))], [], (am_mm D (am_up (am_wp tH I Q) 118 (m + 1) 0) J ρ))) rfl ?_
          have ek : (sp_vl (I 108) t m).take k = sp_vl (I 108) t m := List.take_of_length_le (by omega)
          rw [ek] at hr
          have e8 : r_rep (m + 1) (Q 117) (Q 118) (sp_vl (I 108) t) := by
            intro j hj
            by_cases e : j = m
            · subst e; exact ⟨hz, hr⟩
            · exact hq j (by omega)
          have e7 : r_rep (m + 1) ((am_up (am_wp tH I Q) 118 (m + 1) 0) 117) ((am_up (am_wp tH I Q) 118 (m + 1) 0) 118) (sp_vl (I 108) t) := by
            intro j hj
            exact ⟨(am_up_ne2 (by omega)).trans (e8 j hj).1, (e8 j hj).2⟩
          have hY1 := hY (m + 1) (by omega)
          have hOl := sp_ord_len (S := I 108) (m := m + 1)
          have e6 : (am_up (am_wp tH I Q) 118 (m + 1) 0) 118 (m + 1) = ((sp_vl (I 108) t (m + 1)).length : Int) := by
            refine am_up_at2.trans ?_
            unfold sp_vl
            (repeat' split) <;> first | (exfalso; omega) | (simp only [List.length_nil]; omega) | omega
          refine am_e_wp tH (am_k_up rfl (am_k_wp am_k_sub (am_k_id))) ?_
          exact am_less (lv := [(3, .inl (0 : Int)), (2, .inl ((m + 1) : Int)), (1, .inl t), (0, .inr (.inr (.inl (some 107))))]) rfl (List.forall_mem_cons.mpr ⟨rfl, List.forall_mem_cons.mpr ⟨rfl, List.forall_mem_cons.mpr ⟨rfl, List.forall_mem_cons.mpr ⟨rfl, List.forall_mem_nil _⟩⟩⟩⟩) (r_hears_l d (m := m + 1) (k := 0) ht (by omega) e6 (by omega) am_rowl_nil e7 hop hO hY hok)
        · show am_E _ _ _ 30 [(2, .inl ((m : Int) + 1)), (3, .inl (k : Int)), (1, .inl t), (0, .inr (.inr (.inl (some 107))))] [.inl ((m : Int) + 1), .inr (.inr (.inl (some 118)))] (am_mm D (am_wp tH I Q) J ρ) _
          refine am_e_ss 3 (q := (47, [(2, .inl ((m : Int) + 1)), (3, .inl (k : Int)), (1, .inl t), (0, .inr (.inr (.inl (some 107))))], [.inl ((I 107 20)), .inl ((m : Int) + 1), .inr (.inr (.inl (some 118)))], (am_mm D (am_wp tH I Q) J ρ))) rfl ?_
          refine am_e_iastore (m := 6) rfl rfl (by omega) (by omega) (by omega) ?_
          show am_E _ _ _ 48 [(2, .inl ((m : Int) + 1)), (3, .inl (k : Int)), (1, .inl t), (0, .inr (.inr (.inl (some 107))))] [] (am_mm D (am_up (am_wp tH I Q) 118 (m + 1) (I 107 20)) J ρ) _
          refine am_e_ss 2 (q := (50, [(3, .inl 0), (2, .inl ((m : Int) + 1)), (1, .inl t), (0, .inr (.inr (.inl (some 107))))], [], (am_mm D (am_up (am_wp tH I Q) 118 (m + 1) (I 107 20)) J ρ))) rfl ?_
          have ek : (sp_vl (I 108) t m).take k = sp_vl (I 108) t m := List.take_of_length_le (by omega)
          rw [ek] at hr
          have e8 : r_rep (m + 1) (Q 117) (Q 118) (sp_vl (I 108) t) := by
            intro j hj
            by_cases e : j = m
            · subst e; exact ⟨hz, hr⟩
            · exact hq j (by omega)
          have e7 : r_rep (m + 1) ((am_up (am_wp tH I Q) 118 (m + 1) (I 107 20)) 117) ((am_up (am_wp tH I Q) 118 (m + 1) (I 107 20)) 118) (sp_vl (I 108) t) := by
            intro j hj
            exact ⟨(am_up_ne2 (by omega)).trans (e8 j hj).1, (e8 j hj).2⟩
          have hY1 := hY (m + 1) (by omega)
          have hOl := sp_ord_len (S := I 108) (m := m + 1)
          have e6 : (am_up (am_wp tH I Q) 118 (m + 1) (I 107 20)) 118 (m + 1) = ((sp_vl (I 108) t (m + 1)).length : Int) := by
            refine am_up_at2.trans ?_
            unfold sp_vl
            (repeat' split) <;> first | (exfalso; omega) | (simp only [List.length_nil]; omega) | omega
          refine am_e_wp tH (am_k_up rfl (am_k_wp am_k_sub (am_k_id))) ?_
          exact am_less (lv := [(3, .inl (0 : Int)), (2, .inl ((m + 1) : Int)), (1, .inl t), (0, .inr (.inr (.inl (some 107))))]) rfl (List.forall_mem_cons.mpr ⟨rfl, List.forall_mem_cons.mpr ⟨rfl, List.forall_mem_cons.mpr ⟨rfl, List.forall_mem_cons.mpr ⟨rfl, List.forall_mem_nil _⟩⟩⟩⟩) (r_hears_l d (m := m + 1) (k := 0) ht (by omega) e6 (by omega) am_rowl_nil e7 hop hO hY hok)
  · show am_E _ _ _ 60 [(3, .inl (k : Int)), (2, .inl (m : Int)), (1, .inl t), (0, .inr (.inr (.inl (some 107))))] [] (am_mm D (am_wp tH I Q) J ρ) _
    refine am_e_ss 8 (q := (71, [(3, .inl (k : Int)), (2, .inl (m : Int)), (1, .inl t), (0, .inr (.inr (.inl (some 107))))], [.inl t, .inl ((6 * (m : Int)) + (k : Int)), .inr (.inr (.inl (some 117)))], (am_mm D (am_wp tH I Q) J ρ))) rfl ?_
    refine am_e_if2 rfl ⟨by omega, by omega⟩ (fun (h5 : t = 0) => ?_) (fun (h5 : ¬ (t = 0)) => ?_)
    · show am_E _ _ _ 88 [(3, .inl (k : Int)), (2, .inl (m : Int)), (1, .inl t), (0, .inr (.inr (.inl (some 107))))] [.inl ((6 * (m : Int)) + (k : Int)), .inr (.inr (.inl (some 117)))] (am_mm D (am_wp tH I Q) J ρ) _
      refine am_e_ss 7 (q := (98, [(3, .inl (k : Int)), (2, .inl (m : Int)), (1, .inl t), (0, .inr (.inr (.inl (some 107))))], [.inl ((6 * (m : Int)) + (k : Int)), .inr (.inr (.inl (some 115))), .inl ((6 * (m : Int)) + (k : Int)), .inr (.inr (.inl (some 117)))], (am_mm D (am_wp tH I Q) J ρ))) rfl ?_
      refine am_e_iaload (m := 36) rfl rfl (by omega) (by omega) (by omega) ?_
      show am_E _ _ _ 99 [(3, .inl (k : Int)), (2, .inl (m : Int)), (1, .inl t), (0, .inr (.inr (.inl (some 107))))] [.inl ((I 115 ((6 * m) + k))), .inl ((6 * (m : Int)) + (k : Int)), .inr (.inr (.inl (some 117)))] (am_mm D (am_wp tH I Q) J ρ) _
      refine am_e_iastore (m := 36) rfl rfl (by omega) (by omega) (by omega) ?_
      show am_E _ _ _ 100 [(3, .inl (k : Int)), (2, .inl (m : Int)), (1, .inl t), (0, .inr (.inr (.inl (some 107))))] [] (am_mm D (am_up (am_wp tH I Q) 117 ((6 * m) + k) (I 115 ((6 * m) + k))) J ρ) _
      refine am_e_ss 2 (q := (50, [(3, .inl ((k : Int) + 1)), (2, .inl (m : Int)), (1, .inl t), (0, .inr (.inr (.inl (some 107))))], [], (am_mm D (am_up (am_wp tH I Q) 117 ((6 * m) + k) (I 115 ((6 * m) + k))) J ρ))) rfl ?_
      have hkl : k < (sp_vl (I 108) t m).length := by omega
      have ev : (I 115 ((6 * m) + k)) = ((sp_vl (I 108) t m)[k] : Int) := by
        have ev : sp_vl (I 108) t m = sp_says (I 108) m := by unfold sp_vl; (repeat' split) <;> first | rfl | (exfalso; omega) | (exfalso; unfold sp_vl at hkl; simp only [*, if_true, if_false] at hkl; simp at hkl; done)
        rw [(hY m (by omega)).2 k _ (List.getElem?_eq_getElem (by rw [← ev]; exact hkl))]
        simp only [ev]
      have e9 : am_rowl ((am_up (am_wp tH I Q) 117 ((6 * m) + k) (I 115 ((6 * m) + k))) 117) (6 * m) ((sp_vl (I 108) t m).take (k + 1)) := by
        rw [List.take_succ, List.getElem?_eq_getElem hkl, Option.toList_some]
        refine am_rowl_snoc (am_rowl_cg hr (fun i hi => ?_)) ?_
        · rw [List.length_take] at hi; exact am_up_ne2 (by omega)
        · rw [List.length_take, Nat.min_eq_left (by omega)]; exact am_up_at2.trans ev
      have e7 : r_rep m ((am_up (am_wp tH I Q) 117 ((6 * m) + k) (I 115 ((6 * m) + k))) 117) ((am_up (am_wp tH I Q) 117 ((6 * m) + k) (I 115 ((6 * m) + k))) 118) (sp_vl (I 108) t) := by
        intro j hj
        refine ⟨(hq j hj).1, am_rowl_cg (hq j hj).2 (fun i hi => am_up_ne2 ?_)⟩
        have := sp_vl_len (S := I 108) (t := t) (m := j)
        omega
      refine am_e_wp tH (am_k_up rfl (am_k_wp am_k_sub (am_k_id))) ?_
      exact am_less (lv := [(3, .inl ((k + 1) : Int)), (2, .inl (m : Int)), (1, .inl t), (0, .inr (.inr (.inl (some 107))))]) rfl (List.forall_mem_cons.mpr ⟨rfl, List.forall_mem_cons.mpr ⟨rfl, List.forall_mem_cons.mpr ⟨rfl, List.forall_mem_cons.mpr ⟨rfl, List.forall_mem_nil _⟩⟩⟩⟩) (r_hears_l d (m := m) (k := k + 1) ht hm hz (by omega) e9 e7 hop hO hY hok)
    · show am_E _ _ _ 74 [(3, .inl (k : Int)), (2, .inl (m : Int)), (1, .inl t), (0, .inr (.inr (.inl (some 107))))] [.inl ((6 * (m : Int)) + (k : Int)), .inr (.inr (.inl (some 117)))] (am_mm D (am_wp tH I Q) J ρ) _
      refine am_e_ss 7 (q := (84, [(3, .inl (k : Int)), (2, .inl (m : Int)), (1, .inl t), (0, .inr (.inr (.inl (some 107))))], [.inl ((6 * (m : Int)) + (k : Int)), .inr (.inr (.inl (some 114))), .inl ((6 * (m : Int)) + (k : Int)), .inr (.inr (.inl (some 117)))], (am_mm D (am_wp tH I Q) J ρ))) rfl ?_
      refine am_e_iaload (m := 36) rfl rfl (by omega) (by omega) (by omega) ?_
      show am_E _ _ _ 85 [(3, .inl (k : Int)), (2, .inl (m : Int)), (1, .inl t), (0, .inr (.inr (.inl (some 107))))] [.inl ((I 114 ((6 * m) + k))), .inl ((6 * (m : Int)) + (k : Int)), .inr (.inr (.inl (some 117)))] (am_mm D (am_wp tH I Q) J ρ) _
      refine am_e_ss 1 (q := (99, [(3, .inl (k : Int)), (2, .inl (m : Int)), (1, .inl t), (0, .inr (.inr (.inl (some 107))))], [.inl ((I 114 ((6 * m) + k))), .inl ((6 * (m : Int)) + (k : Int)), .inr (.inr (.inl (some 117)))], (am_mm D (am_wp tH I Q) J ρ))) rfl ?_
      refine am_e_iastore (m := 36) rfl rfl (by omega) (by omega) (by omega) ?_
      show am_E _ _ _ 100 [(3, .inl (k : Int)), (2, .inl (m : Int)), (1, .inl t), (0, .inr (.inr (.inl (some 107))))] [] (am_mm D (am_up (am_wp tH I Q) 117 ((6 * m) + k) (I 114 ((6 * m) + k))) J ρ) _
      refine am_e_ss 2 (q := (50, [(3, .inl ((k : Int) + 1)), (2, .inl (m : Int)), (1, .inl t), (0, .inr (.inr (.inl (some 107))))], [], (am_mm D (am_up (am_wp tH I Q) 117 ((6 * m) + k) (I 114 ((6 * m) + k))) J ρ))) rfl ?_
      have hkl : k < (sp_vl (I 108) t m).length := by omega
      have ev : (I 114 ((6 * m) + k)) = ((sp_vl (I 108) t m)[k] : Int) := by
        have ev : sp_vl (I 108) t m = sp_ord (I 108) m := by unfold sp_vl; (repeat' split) <;> first | rfl | (exfalso; omega) | (exfalso; unfold sp_vl at hkl; simp only [*, if_true, if_false] at hkl; simp at hkl; done)
        rw [hO m (by omega) k _ (List.getElem?_eq_getElem (by rw [← ev]; exact hkl))]
        simp only [ev]
      have e9 : am_rowl ((am_up (am_wp tH I Q) 117 ((6 * m) + k) (I 114 ((6 * m) + k))) 117) (6 * m) ((sp_vl (I 108) t m).take (k + 1)) := by
        rw [List.take_succ, List.getElem?_eq_getElem hkl, Option.toList_some]
        refine am_rowl_snoc (am_rowl_cg hr (fun i hi => ?_)) ?_
        · rw [List.length_take] at hi; exact am_up_ne2 (by omega)
        · rw [List.length_take, Nat.min_eq_left (by omega)]; exact am_up_at2.trans ev
      have e7 : r_rep m ((am_up (am_wp tH I Q) 117 ((6 * m) + k) (I 114 ((6 * m) + k))) 117) ((am_up (am_wp tH I Q) 117 ((6 * m) + k) (I 114 ((6 * m) + k))) 118) (sp_vl (I 108) t) := by
        intro j hj
        refine ⟨(hq j hj).1, am_rowl_cg (hq j hj).2 (fun i hi => am_up_ne2 ?_)⟩
        have := sp_vl_len (S := I 108) (t := t) (m := j)
        omega
      refine am_e_wp tH (am_k_up rfl (am_k_wp am_k_sub (am_k_id))) ?_
      exact am_less (lv := [(3, .inl ((k + 1) : Int)), (2, .inl (m : Int)), (1, .inl t), (0, .inr (.inr (.inl (some 107))))]) rfl (List.forall_mem_cons.mpr ⟨rfl, List.forall_mem_cons.mpr ⟨rfl, List.forall_mem_cons.mpr ⟨rfl, List.forall_mem_cons.mpr ⟨rfl, List.forall_mem_nil _⟩⟩⟩⟩) (r_hears_l d (m := m) (k := k + 1) ht hm hz (by omega) e9 e7 hop hO hY hok)
termination_by (7 * (7 - m) + (7 - k))
decreasing_by all_goals omega
theorem r_hears {X : Nat × (Nat → Int)} {D : List (Nat × Nat)} {I J : Nat → Nat → Int} {ρ : Nat → Nat → Option Nat} (d : Nat) {B t : Int} (ht : t = 0 ∨ t = 1) (hop : I 107 20 = sp_ops (I 108)) (hO : ∀ m : Nat, m < (I 108 19).toNat → am_rowl (I 114) (6 * m) (sp_ord (I 108) m)) (hY : ∀ m : Nat, m < (I 108 19).toNat → I 116 m = ((sp_says (I 108) m).length : Int) ∧ am_rowl (I 115) (6 * m) (sp_says (I 108) m)) (hok : r_ok (I 108) B) : am_E X (d + 1) 169 0 [(0, .inr (.inr (.inl (some 107)))), (1, .inl t)] [] (am_mm D I J ρ) (fun r => ∃ Q, r = (none, am_mm D (am_wp tH I Q) J ρ) ∧ r_rep ((I 108) 19).toNat (Q 117) (Q 118) (sp_vl (I 108) t)) := by
  have hok2 := hok
  obtain ⟨o0, oG, oH, oD, o19, o20, o21, o22, o23, o24, oK, oV, oP, oM, oS, oY, oHd, oT, oC, oN⟩ := hok
  have hok := hok2
  have opb := sp_ops_b hok
  refine am_e_ss 7 (q := (10, [(2, .inl 0), (0, .inr (.inr (.inl (some 107)))), (1, .inl t)], [.inl ((I 108 19)), .inl 0], (am_mm D I J ρ))) rfl ?_
  refine am_e_icmp2 rfl ⟨by omega, by omega⟩ ⟨by omega, by omega⟩ (fun (h1 : (I 108 19) ≤ 0) => ?_) (fun (h1 : ¬ ((I 108 19) ≤ 0)) => ?_)
  · show am_E _ _ _ 112 [(2, .inl 0), (0, .inr (.inr (.inl (some 107)))), (1, .inl t)] [] (am_mm D I J ρ) _
    refine am_e_return rfl rfl ?_
    exact ⟨I, am_r_wp tH am_k_id, fun j hj => by omega⟩
  · show am_E _ _ _ 13 [(2, .inl 0), (0, .inr (.inr (.inl (some 107)))), (1, .inl t)] [] (am_mm D I J ρ) _
    refine am_e_ss 4 (q := (19, [(2, .inl 0), (0, .inr (.inr (.inl (some 107)))), (1, .inl t)], [.inl t, .inl 0, .inr (.inr (.inl (some 118)))], (am_mm D I J ρ))) rfl ?_
    refine am_e_if2 rfl ⟨by omega, by omega⟩ (fun (h2 : t = 0) => ?_) (fun (h2 : ¬ (t = 0)) => ?_)
    · show am_E _ _ _ 41 [(2, .inl 0), (0, .inr (.inr (.inl (some 107)))), (1, .inl t)] [.inl 0, .inr (.inr (.inl (some 118)))] (am_mm D I J ρ) _
      refine am_e_ss 7 (q := (50, [(3, .inl 0), (2, .inl 0), (0, .inr (.inr (.inl (some 107)))), (1, .inl t)], [], (am_mm D (am_up I 118 0 (I 116 0)) J ρ))) rfl ?_
      have hY1 := hY 0 (by omega)
      have hOl := sp_ord_len (S := I 108) (m := 0)
      have e6 : (am_up I 118 0 (I 116 0)) 118 0 = ((sp_vl (I 108) t 0).length : Int) := by
        refine am_up_at2.trans ?_
        unfold sp_vl
        (repeat' split) <;> first | (exfalso; omega) | (simp only [List.length_nil]; omega) | omega
      refine am_e_wp tH (am_k_up rfl (am_k_id)) ?_
      exact am_less (lv := [(3, .inl (0 : Int)), (2, .inl (0 : Int)), (1, .inl t), (0, .inr (.inr (.inl (some 107))))]) rfl (List.forall_mem_cons.mpr ⟨rfl, List.forall_mem_cons.mpr ⟨rfl, List.forall_mem_cons.mpr ⟨rfl, List.forall_mem_cons.mpr ⟨rfl, List.forall_mem_nil _⟩⟩⟩⟩) (r_hears_l d (m := 0) (k := 0) ht (by omega) e6 (by omega) am_rowl_nil (fun j hj => by omega) hop hO hY hok)
    · show am_E _ _ _ 22 [(2, .inl 0), (0, .inr (.inr (.inl (some 107)))), (1, .inl t)] [.inl 0, .inr (.inr (.inl (some 118)))] (am_mm D I J ρ) _
      refine am_e_ss 2 (q := (24, [(2, .inl 0), (0, .inr (.inr (.inl (some 107)))), (1, .inl t)], [.inl 0, .inr (.inr (.inl (some 107))), .inl 0, .inr (.inr (.inl (some 118)))], (am_mm D I J ρ))) rfl ?_
      refine am_e_virtual (Q := fun r => r = (some (.inl ((am_bi ((I 108 (7 + 0)) = 0)))), (am_mm D I J ρ))) rfl rfl (Nat.le_of_ble_eq_true rfl) rfl rfl (Nat.le_of_ble_eq_true rfl) (Nat.le_of_ble_eq_true rfl) (r_isHere _ (v := 0) ⟨by omega, by omega⟩ (by exact oH 0 (by omega))) ?_
      rintro r rfl
      show am_E _ _ _ 27 [(2, .inl 0), (0, .inr (.inr (.inl (some 107)))), (1, .inl t)] [.inl ((am_bi ((I 108 (7 + 0)) = 0))), .inl 0, .inr (.inr (.inl (some 118)))] (am_mm D I J ρ) _
      refine am_e_ifeq rfl (fun h3 => ?_) (fun h3 => ?_)
      · show am_E _ _ _ 37 [(2, .inl 0), (0, .inr (.inr (.inl (some 107)))), (1, .inl t)] [.inl 0, .inr (.inr (.inl (some 118)))] (am_mm D I J ρ) _
        refine am_e_ss 5 (q := (50, [(3, .inl 0), (2, .inl 0), (0, .inr (.inr (.inl (some 107)))), (1, .inl t)], [], (am_mm D (am_up I 118 0 0) J ρ))) rfl ?_
        have hY1 := hY 0 (by omega)
        have hOl := sp_ord_len (S := I 108) (m := 0)
        have e6 : (am_up I 118 0 0) 118 0 = ((sp_vl (I 108) t 0).length : Int) := by
          refine am_up_at2.trans ?_
          unfold sp_vl
          (repeat' split) <;> first | (exfalso; omega) | (simp only [List.length_nil]; omega) | omega
        refine am_e_wp tH (am_k_up rfl (am_k_id)) ?_
        exact am_less (lv := [(3, .inl (0 : Int)), (2, .inl (0 : Int)), (1, .inl t), (0, .inr (.inr (.inl (some 107))))]) rfl (List.forall_mem_cons.mpr ⟨rfl, List.forall_mem_cons.mpr ⟨rfl, List.forall_mem_cons.mpr ⟨rfl, List.forall_mem_cons.mpr ⟨rfl, List.forall_mem_nil _⟩⟩⟩⟩) (r_hears_l d (m := 0) (k := 0) ht (by omega) e6 (by omega) am_rowl_nil (fun j hj => by omega) hop hO hY hok)
      · show am_E _ _ _ 30 [(2, .inl 0), (0, .inr (.inr (.inl (some 107)))), (1, .inl t)] [.inl 0, .inr (.inr (.inl (some 118)))] (am_mm D I J ρ) _
        refine am_e_ss 6 (q := (50, [(3, .inl 0), (2, .inl 0), (0, .inr (.inr (.inl (some 107)))), (1, .inl t)], [], (am_mm D (am_up I 118 0 (I 107 20)) J ρ))) rfl ?_
        have hY1 := hY 0 (by omega)
        have hOl := sp_ord_len (S := I 108) (m := 0)
        have e6 : (am_up I 118 0 (I 107 20)) 118 0 = ((sp_vl (I 108) t 0).length : Int) := by
          refine am_up_at2.trans ?_
          unfold sp_vl
          (repeat' split) <;> first | (exfalso; omega) | (simp only [List.length_nil]; omega) | omega
        refine am_e_wp tH (am_k_up rfl (am_k_id)) ?_
        exact am_less (lv := [(3, .inl (0 : Int)), (2, .inl (0 : Int)), (1, .inl t), (0, .inr (.inr (.inl (some 107))))]) rfl (List.forall_mem_cons.mpr ⟨rfl, List.forall_mem_cons.mpr ⟨rfl, List.forall_mem_cons.mpr ⟨rfl, List.forall_mem_cons.mpr ⟨rfl, List.forall_mem_nil _⟩⟩⟩⟩) (r_hears_l d (m := 0) (k := 0) ht (by omega) e6 (by omega) am_rowl_nil (fun j hj => by omega) hop hO hY hok)
