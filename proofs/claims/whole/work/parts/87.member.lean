/-! THE CLASS: member, what the relation becomes -/
theorem am_mem_kc : ∀ K, K < 7 → am_mem (am_kc K) = true := by decide
theorem c_member {X : Nat × (Nat → Int)} {D : List (Nat × Nat)} {I J : Nat → Nat → Int} {ρ : Nat → Nat → Option Nat} (d : Nat) {S T : Nat → Int} {B hi ran k v : Int} {row : Nat → Int} (hok : r_ok S B) (hwf : sp_wfS S) (hokT : hi = 1 → r_ok T B) (hrel : c_rel D I ρ S T hi ran row) (hkr : -2147483648 ≤ k ∧ k < 2147483648) (hvr : -2147483648 ≤ v ∧ v < 2147483648) : am_E X (d + 6) 90 0 [(0, .inr (.inr (.inl (some 0)))), (1, .inl k), (2, .inl v)] [] (am_mm D I J ρ) (fun z => ∃ E K J2 ρ2, z = (some (.inl (sp_member S k v).1), am_mm (D ++ E) K J2 ρ2) ∧ (E = [] ∨ E = [(am_kc k.toNat, 3)]) ∧ c_rel (D ++ E) K ρ2 (sp_member S k v).2 T hi ran row ∧ ρ2 35 5 = ρ 35 5 ∧ ∀ c j, 107 ≤ c → c < 124 → K c j = I c j) := by
  have hh : c_hall D I ρ 0 S := hrel.1
  obtain ⟨c7, hsp7, hsp8, _⟩ := hrel.2.2.2.2
  have hl7 := am_lt_at hsp8.1.2.2.2.2
  have hh0 := hh
  obtain ⟨⟨h12, h14, h16, h18, h110⟩, ⟨hr0, hhr, hhd, hgl⟩, ⟨htp, hhn⟩, hbk, hlo, hmem, c, hρc, ⟨hsc0, hcc, hc0, hcs⟩⟩ := hh
  have hsc : (am_S ++ D)[c]? = some (1, 10) := hsc0.1.1
  have h12 : I 1 2 = S 19 := h12
  have h14 : I 1 4 = S 20 := h14
  have h16 : I 1 6 = S 21 := h16
  have h18 : I 1 8 = S 23 := h18
  have h110 : I 1 10 = S 22 := h110
  have hr0 : I 2 0 = S 0 := hr0
  have hhr : I 2 1 = am_bits (sp_hp S) 6 := hhr
  have hhd : I 2 2 = am_bits (sp_dp S) 6 := hhd
  have hgl : ∀ m, m < (S 19).toNat → I 3 m = S (1 + m) := hgl
  have htp : ∀ i, i < (S 23).toNat → I 17 i = S (68 + i) := htp
  have hhn : ∀ i, i < (S 22).toNat → I 18 i = S (62 + i) := hhn
  have hbk : ∀ b, b < (S 20).toNat → I (6 + b) 0 = S (38 + b) ∧ I (6 + b) 1 = S (44 + b) ∧ I (6 + b) 2 = S (50 + b) ∧ I (6 + b) 3 = S (56 + b) := hbk
  have hlo : ∀ m b : Nat, m < (S 19).toNat → b < (S 20).toNat → I (20 + m) b = sp_like S m b ∧ I (27 + m) b = sp_odds S m b := hlo
  have hmem : c_mems D I ρ 4 S := hmem
  have hρc : ρ 1 5 = some c := hρc
  have hh := hh0
  have h19 := r_ok_19 hok
  have hokx := hok
  obtain ⟨o0, oG, oH, oD, o19, o20, o21, o22, o23, o24, oK, oV, oP, oM, oS, oY, oHd, oT, oC, oN⟩ := hok
  have hok := hokx
  refine am_e_ss 1 (q := (1, [(0, .inr (.inr (.inl (some 0)))), (1, .inl k), (2, .inl v)], [.inl k], (am_mm D I J ρ))) rfl ?_
  refine am_e_if2 rfl ⟨by omega, by omega⟩ (fun (hw1 : k < 0) => ?_) (fun (hw1 : ¬ (k < 0)) => ?_)
  · show am_E _ _ _ 10 [(0, .inr (.inr (.inl (some 0)))), (1, .inl k), (2, .inl v)] [] (am_mm D I J ρ) _
    refine am_e_ss 1 (q := (11, [(0, .inr (.inr (.inl (some 0)))), (1, .inl k), (2, .inl v)], [.inl (-1)], (am_mm D I J ρ))) rfl ?_
    refine am_e_ireturn rfl rfl ?_
    rw [show sp_member S k v = ((-1), S) by (unfold sp_member; (repeat' split) <;> first | rfl | (exfalso; omega))]
    exact ⟨[], I, J, ρ, by rw [List.append_nil], Or.inl rfl, by rw [List.append_nil]; exact hrel, rfl, fun _ _ _ _ => rfl⟩
  · show am_E _ _ _ 4 [(0, .inr (.inr (.inl (some 0)))), (1, .inl k), (2, .inl v)] [] (am_mm D I J ρ) _
    refine am_e_ss 2 (q := (7, [(0, .inr (.inr (.inl (some 0)))), (1, .inl k), (2, .inl v)], [.inl 7, .inl k], (am_mm D I J ρ))) rfl ?_
    refine am_e_icmp2 rfl ⟨by omega, by omega⟩ ⟨by omega, by omega⟩ (fun (hw2 : k < 7) => ?_) (fun (hw2 : ¬ (k < 7)) => ?_)
    · show am_E _ _ _ 12 [(0, .inr (.inr (.inl (some 0)))), (1, .inl k), (2, .inl v)] [] (am_mm D I J ρ) _
      refine am_e_ss 1 (q := (13, [(0, .inr (.inr (.inl (some 0)))), (1, .inl k), (2, .inl v)], [.inl v], (am_mm D I J ρ))) rfl ?_
      refine am_e_if2 rfl ⟨by omega, by omega⟩ (fun (hw3 : v < 0) => ?_) (fun (hw3 : ¬ (v < 0)) => ?_)
      · show am_E _ _ _ 22 [(0, .inr (.inr (.inl (some 0)))), (1, .inl k), (2, .inl v)] [] (am_mm D I J ρ) _
        refine am_e_ss 1 (q := (24, [(0, .inr (.inr (.inl (some 0)))), (1, .inl k), (2, .inl v)], [.inl (-2)], (am_mm D I J ρ))) rfl ?_
        refine am_e_ireturn rfl rfl ?_
        rw [show sp_member S k v = ((-2), S) by (unfold sp_member; (repeat' split) <;> first | rfl | (exfalso; omega))]
        exact ⟨[], I, J, ρ, by rw [List.append_nil], Or.inl rfl, by rw [List.append_nil]; exact hrel, rfl, fun _ _ _ _ => rfl⟩
      · show am_E _ _ _ 16 [(0, .inr (.inr (.inl (some 0)))), (1, .inl k), (2, .inl v)] [] (am_mm D I J ρ) _
        refine am_e_ss 2 (q := (19, [(0, .inr (.inr (.inl (some 0)))), (1, .inl k), (2, .inl v)], [.inl 9, .inl v], (am_mm D I J ρ))) rfl ?_
        refine am_e_icmp2 rfl ⟨by omega, by omega⟩ ⟨by omega, by omega⟩ (fun (hw4 : v ≤ 9) => ?_) (fun (hw4 : ¬ (v ≤ 9)) => ?_)
        · show am_E _ _ _ 25 [(0, .inr (.inr (.inl (some 0)))), (1, .inl k), (2, .inl v)] [] (am_mm D I J ρ) _
          refine am_e_ss 4 (q := (34, [(0, .inr (.inr (.inl (some 0)))), (1, .inl k), (2, .inl v)], [.inl 6, .inl ((I 1 2))], (am_mm D I J ρ))) rfl ?_
          refine am_e_icmp2 rfl ⟨by omega, by omega⟩ ⟨by omega, by omega⟩ (fun (hw5 : (I 1 2) < 6) => ?_) (fun (hw5 : ¬ ((I 1 2) < 6)) => ?_)
          · show am_E _ _ _ 40 [(0, .inr (.inr (.inl (some 0)))), (1, .inl k), (2, .inl v)] [] (am_mm D I J ρ) _
            refine am_e_ss 7 (q := (53, [(0, .inr (.inr (.inl (some 0)))), (1, .inl k), (2, .inl v)], [.inl v, .inl ((I 1 2)), .inl k, .inr (.inr (.inl (some 1)))], (am_mm D I J ρ))) rfl ?_
            refine am_e_static (Q := fun r => ∃ Q273 W273 ρ273, r = (some (.inr (.inr (.inl (some (124 + D.length))))), (am_mm (D ++ [(am_kc (k).toNat, 3)]) Q273 W273 ρ273)) ∧ (∀ c j, c ≠ 124 + D.length → Q273 c j = I c j ∧ W273 c j = J c j ∧ ρ273 c j = ρ c j) ∧ Q273 (124 + D.length) 0 = k ∧ Q273 (124 + D.length) 1 = (I 1 2) ∧ Q273 (124 + D.length) 2 = v) rfl (Nat.le_of_ble_eq_true rfl) rfl (Nat.le_of_ble_eq_true rfl) (Nat.le_of_ble_eq_true rfl) (c_newM _ (kind := k) (num := (I 1 2)) (v := v) ⟨by omega, by omega⟩) ?_
            rintro r ⟨Q273, W273, ρ273, rfl, ⟨hq, n0, n1, n2⟩⟩
            have hh2 : c_hall (D ++ [(am_kc (k).toNat, 3)]) Q273 ρ273 0 S := c_hall_new hok (Or.inl rfl) hh (fun c j h => (hq c j (by omega)).1) (fun k j h => (hq k j (by omega)).2.2)
            have hrel2 : c_rel (D ++ [(am_kc (k).toNat, 3)]) Q273 ρ273 S T hi ran row := c_rel_new hok hokT hrel (fun c j h => (hq c j (by omega)).1) (fun k j h => (hq k j (by omega)).2.2)
            have hlast : ∀ c, ρ273 0 7 = some c → c + 5 ≤ 124 + D.length := by
              intro c hc
              rw [(hq 0 7 (by omega)).2.2, hsp7] at hc
              have := Option.some.inj hc
              omega
            show am_E _ _ _ 56 [(0, .inr (.inr (.inl (some 0)))), (1, .inl k), (2, .inl v)] [.inr (.inr (.inl (some (124 + D.length)))), .inr (.inr (.inl (some 1)))] (am_mm (D ++ [(am_kc (k).toNat, 3)]) Q273 W273 ρ273) _
            refine am_e_virtual (Q := fun r => ∃ Q274 ρ274, r = (none, (am_mm (D ++ [(am_kc (k).toNat, 3)]) Q274 W273 ρ274)) ∧ (∀ c j, c_fz c → Q274 c j = Q273 c j) ∧ ρ274 = am_up ρ273 4 (S 19).toNat (some (124 + D.length)) ∧ c_hall (D ++ [(am_kc (k).toNat, 3)]) Q274 ρ274 0 (sp_mb S (S 19).toNat k v)) rfl rfl (Nat.le_of_ble_eq_true rfl) rfl rfl (Nat.le_of_ble_eq_true rfl) (Nat.le_of_ble_eq_true rfl) (c_addM _ (S := S) (n := (S 19).toNat) (kd := k) (v := v) hok hwf hh2 (by omega) (by omega) ⟨by omega, by omega⟩ ⟨by omega, by omega⟩ (by omega) am_new_at (am_mem_kc _ (by omega)) n0 (n1.trans (by omega)) n2) ?_
            rintro r ⟨Q274, ρ274, rfl, ⟨hk1, hk3, hk2⟩⟩
            show am_E _ _ _ 59 [(0, .inr (.inr (.inl (some 0)))), (1, .inl k), (2, .inl v)] [] (am_mm (D ++ [(am_kc (k).toNat, 3)]) Q274 W273 ρ274) _
            refine am_e_ss 5 (q := (68, [(0, .inr (.inr (.inl (some 0)))), (1, .inl k), (2, .inl v)], [.inl ((Q274 1 2) - 1)], (am_mm (D ++ [(am_kc (k).toNat, 3)]) Q274 W273 ρ274))) rfl ?_
            refine am_e_ireturn rfl rfl ?_
            have eb : (sp_member S k v).2 = sp_mb S (S 19).toNat k v := by
              unfold sp_member sp_mb
              rw [if_neg (by omega), if_neg (by omega), if_neg (by omega)]
              rw [show (26 + S 19).toNat = 26 + (S 19).toNat by omega, show (32 + S 19).toNat = 32 + (S 19).toNat by omega, show (1 + S 19).toNat = 1 + (S 19).toNat by omega, show (7 + S 19).toNat = 7 + (S 19).toNat by omega, show (((S 19).toNat : Nat) : Int) = S 19 by omega]
            have e1 : (sp_member S k v).1 = S 19 := by
              unfold sp_member
              rw [if_neg (by omega), if_neg (by omega), if_neg (by omega)]
            have e4 : Q274 1 2 = S 19 + 1 := hk2.1.1.trans ((sp_mb_at (by omega)).2.2.2.2.1.trans (by omega))
            rw [e1, eb, show ((Q274 1 2) - 1) = S 19 by rw [e4]; omega]
            exact ⟨_, _, _, _, rfl, Or.inr rfl, c_rel_m hokT hrel2 (fun c j h => hk1 c j (Or.inl h)) hk3 am_new_at (am_mem_kc _ (by omega)) hlast hk2, by rw [hk3]; exact (if_neg (by omega)).trans (hq 35 5 (by omega)).2.2, fun c j h1 h2 => (hk1 c j (Or.inr ⟨h1, h2⟩)).trans (hq c j (by omega)).1⟩
          · show am_E _ _ _ 37 [(0, .inr (.inr (.inl (some 0)))), (1, .inl k), (2, .inl v)] [] (am_mm D I J ρ) _
            refine am_e_ss 1 (q := (39, [(0, .inr (.inr (.inl (some 0)))), (1, .inl k), (2, .inl v)], [.inl (-4)], (am_mm D I J ρ))) rfl ?_
            refine am_e_ireturn rfl rfl ?_
            rw [show sp_member S k v = ((-4), S) by (unfold sp_member; (repeat' split) <;> first | rfl | (exfalso; omega))]
            exact ⟨[], I, J, ρ, by rw [List.append_nil], Or.inl rfl, by rw [List.append_nil]; exact hrel, rfl, fun _ _ _ _ => rfl⟩
        · show am_E _ _ _ 22 [(0, .inr (.inr (.inl (some 0)))), (1, .inl k), (2, .inl v)] [] (am_mm D I J ρ) _
          refine am_e_ss 1 (q := (24, [(0, .inr (.inr (.inl (some 0)))), (1, .inl k), (2, .inl v)], [.inl (-2)], (am_mm D I J ρ))) rfl ?_
          refine am_e_ireturn rfl rfl ?_
          rw [show sp_member S k v = ((-2), S) by (unfold sp_member; (repeat' split) <;> first | rfl | (exfalso; omega))]
          exact ⟨[], I, J, ρ, by rw [List.append_nil], Or.inl rfl, by rw [List.append_nil]; exact hrel, rfl, fun _ _ _ _ => rfl⟩
    · show am_E _ _ _ 10 [(0, .inr (.inr (.inl (some 0)))), (1, .inl k), (2, .inl v)] [] (am_mm D I J ρ) _
      refine am_e_ss 1 (q := (11, [(0, .inr (.inr (.inl (some 0)))), (1, .inl k), (2, .inl v)], [.inl (-1)], (am_mm D I J ρ))) rfl ?_
      refine am_e_ireturn rfl rfl ?_
      rw [show sp_member S k v = ((-1), S) by (unfold sp_member; (repeat' split) <;> first | rfl | (exfalso; omega))]
      exact ⟨[], I, J, ρ, by rw [List.append_nil], Or.inl rfl, by rw [List.append_nil]; exact hrel, rfl, fun _ _ _ _ => rfl⟩
