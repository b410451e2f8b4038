theorem c_tally_85_l {X : Nat × (Nat → Int)} {D : List (Nat × Nat)} {I J : Nat → Nat → Int} {ρ : Nat → Nat → Option Nat} (d : Nat) {E : Nat → Nat → Int} {z : Int} {L : List Nat} (hz : z = 1 ∨ z = -1) (h71 : I 71 3 = (L.length : Int)) (h6 : L.length ≤ 6) (hn : L.Nodup) (hx6 : ∀ x ∈ L, x < 6) (hrow : am_rowl (I 85) 0 L) {y : Int} {k j x : Nat} (hk : k < L.length) (hj : k < j ∧ j ≤ L.length) (hx : x = L[k]) (hyx : y = (x : Int)) (p87 : ∀ b : Nat, b < 6 → I 87 b = E 87 b + z * (if sp_pl L (b : Int) ≤ (k : Int) ∧ sp_pl L (b : Int) < 2 then 1 else 0)) (p88 : ∀ b : Nat, b < 6 → I 88 b = E 88 b + z * (if sp_pl L (b : Int) ≤ (k : Int) then (L.length : Int) - 1 - sp_pl L (b : Int) else 0)) (p89 : ∀ b : Nat, b < 6 → I 89 b = E 89 b + z * (if sp_pl L (b : Int) = 0 then 1 else 0)) (pld : ∀ a b : Nat, a < 6 → b < 6 → I (91 + a) b = E (91 + a) b + z * sp_ld2 L (k : Int) (j : Int) a b) : am_E X d 76 71 [(5, .inl (j : Int)), (4, .inl y), (3, .inl (k : Int)), (2, .inl z), (1, .inr (.inr (.inl (some 85)))), (0, .inr (.inr (.inl (some 71))))] [] (am_mm D I J ρ) (fun q => ∃ Q, q = (none, am_mm D (am_wp uT I Q) J ρ) ∧ c_talQ E Q z L) := by
  have hx61 : x < 6 := by rw [hx]; exact hx6 _ (List.getElem_mem _)
  refine am_e_ss 3 (q := (77, [(5, .inl (j : Int)), (4, .inl y), (3, .inl (k : Int)), (2, .inl z), (1, .inr (.inr (.inl (some 85)))), (0, .inr (.inr (.inl (some 71))))], [.inl ((I 71 3)), .inl (j : Int)], (am_mm D I J ρ))) rfl ?_
  refine am_e_icmp2 rfl ⟨by omega, by omega⟩ ⟨by omega, by omega⟩ (fun (hw1 : (I 71 3) ≤ (j : Int)) => ?_) (fun (hw1 : ¬ ((I 71 3) ≤ (j : Int))) => ?_)
  · show am_E _ _ _ 118 [(5, .inl (j : Int)), (4, .inl y), (3, .inl (k : Int)), (2, .inl z), (1, .inr (.inr (.inl (some 85)))), (0, .inr (.inr (.inl (some 71))))] [] (am_mm D I J ρ) _
    refine am_e_ss 5 (q := (7, [(3, .inl ((k : Int) + 1)), (5, .inl (j : Int)), (4, .inl y), (2, .inl z), (1, .inr (.inr (.inl (some 85)))), (0, .inr (.inr (.inl (some 71))))], [.inl ((I 71 3)), .inl ((k : Int) + 1)], (am_mm D I J ρ))) rfl ?_
    refine am_e_icmp2 rfl ⟨by omega, by omega⟩ ⟨by omega, by omega⟩ (fun (hw2 : (I 71 3) ≤ ((k : Int) + 1)) => ?_) (fun (hw2 : ¬ ((I 71 3) ≤ ((k : Int) + 1))) => ?_)
    · show am_E _ _ _ 124 [(3, .inl ((k : Int) + 1)), (5, .inl (j : Int)), (4, .inl y), (2, .inl z), (1, .inr (.inr (.inl (some 85)))), (0, .inr (.inr (.inl (some 71))))] [] (am_mm D I J ρ) _
      refine am_e_return rfl rfl ?_
      have ej : j = L.length := by omega
      refine ⟨I, am_r_wp uT am_k_id, ?_, ?_⟩
      · intro b hb
        have bb := sp_pl_b (b := (b : Int)) h6
        rw [p87 b hb, p88 b hb, p89 b hb, sp_scl_0 h6 (by omega) (by omega), sp_scl_1 h6 (by omega) (by omega) (by omega), sp_scl_2 h6 (by omega)]
        exact ⟨rfl, rfl, rfl⟩
      · intro a b ha hb
        rw [pld a b ha hb, ej, sp_ld2_e h6 (by omega)]
    · show am_E _ _ _ 10 [(3, .inl ((k : Int) + 1)), (5, .inl (j : Int)), (4, .inl y), (2, .inl z), (1, .inr (.inr (.inl (some 85)))), (0, .inr (.inr (.inl (some 71))))] [] (am_mm D I J ρ) _
      have hru := hrow (k + 1) _ (List.getElem?_eq_getElem (show k + 1 < L.length by omega))
      rw [Nat.zero_add] at hru
      have hru6 := hx6 _ (List.getElem_mem (show k + 1 < L.length by omega))
      refine am_e_ss 2 (q := (12, [(3, .inl ((k : Int) + 1)), (5, .inl (j : Int)), (4, .inl y), (2, .inl z), (1, .inr (.inr (.inl (some 85)))), (0, .inr (.inr (.inl (some 71))))], [.inl ((k : Int) + 1), .inr (.inr (.inl (some 85)))], (am_mm D I J ρ))) rfl ?_
      refine am_e_iaload (m := 6) rfl rfl (by omega) (by omega) (by omega) ?_
      show am_E _ _ _ 13 [(3, .inl ((k : Int) + 1)), (5, .inl (j : Int)), (4, .inl y), (2, .inl z), (1, .inr (.inr (.inl (some 85)))), (0, .inr (.inr (.inl (some 71))))] [.inl ((I 85 (k + 1)))] (am_mm D I J ρ) _
      refine am_e_ss 5 (q := (22, [(4, .inl ((I 85 (k + 1)))), (3, .inl ((k : Int) + 1)), (5, .inl (j : Int)), (2, .inl z), (1, .inr (.inr (.inl (some 85)))), (0, .inr (.inr (.inl (some 71))))], [.inl ((I 85 (k + 1))), .inr (.inr (.inl (some 88))), .inl ((I 85 (k + 1))), .inr (.inr (.inl (some 88)))], (am_mm D I J ρ))) rfl ?_
      refine am_e_iaload (m := 6) rfl rfl (by omega) (by omega) (by omega) ?_
      show am_E _ _ _ 23 [(4, .inl ((I 85 (k + 1)))), (3, .inl ((k : Int) + 1)), (5, .inl (j : Int)), (2, .inl z), (1, .inr (.inr (.inl (some 85)))), (0, .inr (.inr (.inl (some 71))))] [.inl ((I 88 ((I 85 (k + 1))).toNat)), .inl ((I 85 (k + 1))), .inr (.inr (.inl (some 88)))] (am_mm D I J ρ) _
      refine am_e_ss 9 (q := (34, [(4, .inl ((I 85 (k + 1)))), (3, .inl ((k : Int) + 1)), (5, .inl (j : Int)), (2, .inl z), (1, .inr (.inr (.inl (some 85)))), (0, .inr (.inr (.inl (some 71))))], [.inl ((I 88 ((I 85 (k + 1))).toNat) + (z * (((I 71 3) - 1) - ((k : Int) + 1)))), .inl ((I 85 (k + 1))), .inr (.inr (.inl (some 88)))], (am_mm D I J ρ))) rfl ?_
      refine am_e_iastore (m := 6) rfl rfl (by omega) (by omega) (by omega) ?_
      show am_E _ _ _ 35 [(4, .inl ((I 85 (k + 1)))), (3, .inl ((k : Int) + 1)), (5, .inl (j : Int)), (2, .inl z), (1, .inr (.inr (.inl (some 85)))), (0, .inr (.inr (.inl (some 71))))] [] (am_mm D (am_up I 88 ((I 85 (k + 1))).toNat ((I 88 ((I 85 (k + 1))).toNat) + (z * (((I 71 3) - 1) - ((k : Int) + 1))))) J ρ) _
      refine am_e_ss 1 (q := (36, [(4, .inl ((I 85 (k + 1)))), (3, .inl ((k : Int) + 1)), (5, .inl (j : Int)), (2, .inl z), (1, .inr (.inr (.inl (some 85)))), (0, .inr (.inr (.inl (some 71))))], [.inl ((k : Int) + 1)], (am_mm D (am_up I 88 ((I 85 (k + 1))).toNat ((I 88 ((I 85 (k + 1))).toNat) + (z * (((I 71 3) - 1) - ((k : Int) + 1))))) J ρ))) rfl ?_
      refine am_e_if2 rfl ⟨by omega, by omega⟩ (fun (hw3 : ¬ ((k : Int) + 1) = 0) => ?_) (fun (hw3 : ¬ (¬ ((k : Int) + 1) = 0)) => ?_)
      · show am_E _ _ _ 50 [(4, .inl ((I 85 (k + 1)))), (3, .inl ((k : Int) + 1)), (5, .inl (j : Int)), (2, .inl z), (1, .inr (.inr (.inl (some 85)))), (0, .inr (.inr (.inl (some 71))))] [] (am_mm D (am_up I 88 ((I 85 (k + 1))).toNat ((I 88 ((I 85 (k + 1))).toNat) + (z * (((I 71 3) - 1) - ((k : Int) + 1))))) J ρ) _
        refine am_e_ss 2 (q := (52, [(4, .inl ((I 85 (k + 1)))), (3, .inl ((k : Int) + 1)), (5, .inl (j : Int)), (2, .inl z), (1, .inr (.inr (.inl (some 85)))), (0, .inr (.inr (.inl (some 71))))], [.inl 2, .inl ((k : Int) + 1)], (am_mm D (am_up I 88 ((I 85 (k + 1))).toNat ((I 88 ((I 85 (k + 1))).toNat) + (z * (((I 71 3) - 1) - ((k : Int) + 1))))) J ρ))) rfl ?_
        refine am_e_icmp2 rfl ⟨by omega, by omega⟩ ⟨by omega, by omega⟩ (fun (hw4 : 2 ≤ ((k : Int) + 1)) => ?_) (fun (hw4 : ¬ (2 ≤ ((k : Int) + 1))) => ?_)
        · show am_E _ _ _ 66 [(4, .inl ((I 85 (k + 1)))), (3, .inl ((k : Int) + 1)), (5, .inl (j : Int)), (2, .inl z), (1, .inr (.inr (.inl (some 85)))), (0, .inr (.inr (.inl (some 71))))] [] (am_mm D (am_up I 88 ((I 85 (k + 1))).toNat ((I 88 ((I 85 (k + 1))).toNat) + (z * (((I 71 3) - 1) - ((k : Int) + 1))))) J ρ) _
          refine am_e_ss 4 (q := (71, [(5, .inl (((k : Int) + 1) + 1)), (4, .inl ((I 85 (k + 1)))), (3, .inl ((k : Int) + 1)), (2, .inl z), (1, .inr (.inr (.inl (some 85)))), (0, .inr (.inr (.inl (some 71))))], [], (am_mm D (am_up I 88 ((I 85 (k + 1))).toNat ((I 88 ((I 85 (k + 1))).toNat) + (z * (((I 71 3) - 1) - ((k : Int) + 1))))) J ρ))) rfl ?_
          have ej : j = L.length := by omega
          subst ej
          have hk2 : k + 1 < L.length := by omega
          obtain ⟨u, hu⟩ : ∃ u, u = L[(k + 1)] := ⟨_, rfl⟩
          have huy := hrow (k + 1) _ (List.getElem?_eq_getElem hk2)
          rw [Nat.zero_add, ← hu] at huy
          have hu6 : u < 6 := by rw [hu]; exact hx6 _ (List.getElem_mem _)
          have huk := fun b : Nat => sp_pl_k (b := b) h6 hn hk2
          have eu : ((I 85 (k + 1))).toNat = u := by omega
          have e7 : ∀ b : Nat, b < 6 → (am_up I 88 ((I 85 (k + 1))).toNat ((I 88 ((I 85 (k + 1))).toNat) + (z * (((I 71 3) - 1) - ((k : Int) + 1))))) 87 b = E 87 b + z * (if sp_pl L (b : Int) ≤ ((k + 1 : Nat) : Int) ∧ sp_pl L (b : Int) < 2 then 1 else 0) := by
            intro b hb
            have bb := sp_pl_b (b := (b : Int)) h6
            have ub := huk b
            rw [← hu] at ub
            have ob := p87 b hb
            rw [show (am_up I 88 ((I 85 (k + 1))).toNat ((I 88 ((I 85 (k + 1))).toNat) + (z * (((I 71 3) - 1) - ((k : Int) + 1))))) 87 b = I 87 b from (am_up_ne2 (by omega))]
            rcases hz with rfl | rfl <;> (repeat' split at *) <;> first | omega | (exfalso; omega)
          have e8 : ∀ b : Nat, b < 6 → (am_up I 88 ((I 85 (k + 1))).toNat ((I 88 ((I 85 (k + 1))).toNat) + (z * (((I 71 3) - 1) - ((k : Int) + 1))))) 88 b = E 88 b + z * (if sp_pl L (b : Int) ≤ ((k + 1 : Nat) : Int) then (L.length : Int) - 1 - sp_pl L (b : Int) else 0) := by
            intro b hb
            have bb := sp_pl_b (b := (b : Int)) h6
            have ub := huk b
            rw [← hu] at ub
            have ob := p88 b hb
            by_cases e : b = u
            · subst e
              have hb1 := ub.mpr rfl
              rw [show (am_up I 88 ((I 85 (k + 1))).toNat ((I 88 ((I 85 (k + 1))).toNat) + (z * (((I 71 3) - 1) - ((k : Int) + 1))))) 88 b = ((I 88 ((I 85 (k + 1))).toNat) + (z * (((I 71 3) - 1) - ((k : Int) + 1)))) from (by rw [← eu]; exact am_up_at2), eu]
              rcases hz with rfl | rfl <;> (repeat' split at *) <;> first | omega | (exfalso; omega)
            · rw [show (am_up I 88 ((I 85 (k + 1))).toNat ((I 88 ((I 85 (k + 1))).toNat) + (z * (((I 71 3) - 1) - ((k : Int) + 1))))) 88 b = I 88 b from (am_up_ne2 (by omega))]
              rcases hz with rfl | rfl <;> (repeat' split at *) <;> first | omega | (exfalso; omega)
          have e9 : ∀ b : Nat, b < 6 → (am_up I 88 ((I 85 (k + 1))).toNat ((I 88 ((I 85 (k + 1))).toNat) + (z * (((I 71 3) - 1) - ((k : Int) + 1))))) 89 b = E 89 b + z * (if sp_pl L (b : Int) = 0 then 1 else 0) := by
            intro b hb
            have bb := sp_pl_b (b := (b : Int)) h6
            have ub := huk b
            rw [← hu] at ub
            have ob := p89 b hb
            rw [show (am_up I 88 ((I 85 (k + 1))).toNat ((I 88 ((I 85 (k + 1))).toNat) + (z * (((I 71 3) - 1) - ((k : Int) + 1))))) 89 b = I 89 b from (am_up_ne2 (by omega))]
            rcases hz with rfl | rfl <;> (repeat' split at *) <;> first | omega | (exfalso; omega)
          have e4 : ∀ a b : Nat, a < 6 → b < 6 → (am_up I 88 ((I 85 (k + 1))).toNat ((I 88 ((I 85 (k + 1))).toNat) + (z * (((I 71 3) - 1) - ((k : Int) + 1))))) (91 + a) b = E (91 + a) b + z * sp_ld2 L ((k + 1 : Nat) : Int) ((k + 1 + 1 : Nat) : Int) a b := by
            intro a b ha hb
            rw [show (am_up I 88 ((I 85 (k + 1))).toNat ((I 88 ((I 85 (k + 1))).toNat) + (z * (((I 71 3) - 1) - ((k : Int) + 1))))) (91 + a) b = I (91 + a) b from (am_up_ne2 (by omega)), pld a b ha hb, sp_ld2_n h6]
            rfl
          refine (am_less (lv := [(5, .inl (((k + 1) + 1) : Int)), (4, .inl ((I 85 (k + 1)))), (3, .inl ((k + 1) : Int)), (2, .inl z), (1, .inr (.inr (.inl (some 85)))), (0, .inr (.inr (.inl (some 71))))]) rfl (List.forall_mem_cons.mpr ⟨rfl, List.forall_mem_cons.mpr ⟨rfl, List.forall_mem_cons.mpr ⟨rfl, List.forall_mem_cons.mpr ⟨rfl, List.forall_mem_cons.mpr ⟨rfl, List.forall_mem_cons.mpr ⟨rfl, List.forall_mem_nil _⟩⟩⟩⟩⟩⟩) (c_tally_85_l (I := am_up I 88 ((I 85 (k + 1))).toNat ((I 88 ((I 85 (k + 1))).toNat) + (z * (((I 71 3) - 1) - ((k : Int) + 1))))) d (E := E) (k := (k + 1)) (j := (k + 1) + 1) (x := u) hz h71 h6 hn hx6 hrow hk2 (by omega) hu huy e7 e8 e9 e4)).imp ?_
          rintro q ⟨Q9, rfl, h9⟩
          exact ⟨Q9, am_r_wk uT (am_k_up rfl (am_k_id)), h9⟩
        · show am_E _ _ _ 55 [(4, .inl ((I 85 (k + 1)))), (3, .inl ((k : Int) + 1)), (5, .inl (j : Int)), (2, .inl z), (1, .inr (.inr (.inl (some 85)))), (0, .inr (.inr (.inl (some 71))))] [] (am_mm D (am_up I 88 ((I 85 (k + 1))).toNat ((I 88 ((I 85 (k + 1))).toNat) + (z * (((I 71 3) - 1) - ((k : Int) + 1))))) J ρ) _
          refine am_e_ss 4 (q := (62, [(4, .inl ((I 85 (k + 1)))), (3, .inl ((k : Int) + 1)), (5, .inl (j : Int)), (2, .inl z), (1, .inr (.inr (.inl (some 85)))), (0, .inr (.inr (.inl (some 71))))], [.inl ((I 85 (k + 1))), .inr (.inr (.inl (some 87))), .inl ((I 85 (k + 1))), .inr (.inr (.inl (some 87)))], (am_mm D (am_up I 88 ((I 85 (k + 1))).toNat ((I 88 ((I 85 (k + 1))).toNat) + (z * (((I 71 3) - 1) - ((k : Int) + 1))))) J ρ))) rfl ?_
          refine am_e_iaload (m := 6) rfl rfl (by omega) (by omega) (by omega) ?_
          show am_E _ _ _ 63 [(4, .inl ((I 85 (k + 1)))), (3, .inl ((k : Int) + 1)), (5, .inl (j : Int)), (2, .inl z), (1, .inr (.inr (.inl (some 85)))), (0, .inr (.inr (.inl (some 71))))] [.inl ((I 87 ((I 85 (k + 1))).toNat)), .inl ((I 85 (k + 1))), .inr (.inr (.inl (some 87)))] (am_mm D (am_up I 88 ((I 85 (k + 1))).toNat ((I 88 ((I 85 (k + 1))).toNat) + (z * (((I 71 3) - 1) - ((k : Int) + 1))))) J ρ) _
          refine am_e_ss 2 (q := (65, [(4, .inl ((I 85 (k + 1)))), (3, .inl ((k : Int) + 1)), (5, .inl (j : Int)), (2, .inl z), (1, .inr (.inr (.inl (some 85)))), (0, .inr (.inr (.inl (some 71))))], [.inl ((I 87 ((I 85 (k + 1))).toNat) + z), .inl ((I 85 (k + 1))), .inr (.inr (.inl (some 87)))], (am_mm D (am_up I 88 ((I 85 (k + 1))).toNat ((I 88 ((I 85 (k + 1))).toNat) + (z * (((I 71 3) - 1) - ((k : Int) + 1))))) J ρ))) rfl ?_
          refine am_e_iastore (m := 6) rfl rfl (by omega) (by omega) (by omega) ?_
          show am_E _ _ _ 66 [(4, .inl ((I 85 (k + 1)))), (3, .inl ((k : Int) + 1)), (5, .inl (j : Int)), (2, .inl z), (1, .inr (.inr (.inl (some 85)))), (0, .inr (.inr (.inl (some 71))))] [] (am_mm D (am_up (am_up I 88 ((I 85 (k + 1))).toNat ((I 88 ((I 85 (k + 1))).toNat) + (z * (((I 71 3) - 1) - ((k : Int) + 1))))) 87 ((I 85 (k + 1))).toNat ((I 87 ((I 85 (k + 1))).toNat) + z)) J ρ) _
          refine am_e_ss 4 (q := (71, [(5, .inl (((k : Int) + 1) + 1)), (4, .inl ((I 85 (k + 1)))), (3, .inl ((k : Int) + 1)), (2, .inl z), (1, .inr (.inr (.inl (some 85)))), (0, .inr (.inr (.inl (some 71))))], [], (am_mm D (am_up (am_up I 88 ((I 85 (k + 1))).toNat ((I 88 ((I 85 (k + 1))).toNat) + (z * (((I 71 3) - 1) - ((k : Int) + 1))))) 87 ((I 85 (k + 1))).toNat ((I 87 ((I 85 (k + 1))).toNat) + z)) J ρ))) rfl ?_
          have ej : j = L.length := by omega
          subst ej
          have hk2 : k + 1 < L.length := by omega
          obtain ⟨u, hu⟩ : ∃ u, u = L[(k + 1)] := ⟨_, rfl⟩
          have huy := hrow (k + 1) _ (List.getElem?_eq_getElem hk2)
          rw [Nat.zero_add, ← hu] at huy
          have hu6 : u < 6 := by rw [hu]; exact hx6 _ (List.getElem_mem _)
          have huk := fun b : Nat => sp_pl_k (b := b) h6 hn hk2
          have eu : ((I 85 (k + 1))).toNat = u := by omega
          have e7 : ∀ b : Nat, b < 6 → (am_up (am_up I 88 ((I 85 (k + 1))).toNat ((I 88 ((I 85 (k + 1))).toNat) + (z * (((I 71 3) - 1) - ((k : Int) + 1))))) 87 ((I 85 (k + 1))).toNat ((I 87 ((I 85 (k + 1))).toNat) + z)) 87 b = E 87 b + z * (if sp_pl L (b : Int) ≤ ((k + 1 : Nat) : Int) ∧ sp_pl L (b : Int) < 2 then 1 else 0) := by
            intro b hb
            have bb := sp_pl_b (b := (b : Int)) h6
            have ub := huk b
            rw [← hu] at ub
            have ob := p87 b hb
            by_cases e : b = u
            · subst e
              have hb1 := ub.mpr rfl
              rw [show (am_up (am_up I 88 ((I 85 (k + 1))).toNat ((I 88 ((I 85 (k + 1))).toNat) + (z * (((I 71 3) - 1) - ((k : Int) + 1))))) 87 ((I 85 (k + 1))).toNat ((I 87 ((I 85 (k + 1))).toNat) + z)) 87 b = ((I 87 ((I 85 (k + 1))).toNat) + z) from (by rw [← eu]; exact am_up_at2), eu]
              rcases hz with rfl | rfl <;> (repeat' split at *) <;> first | omega | (exfalso; omega)
            · rw [show (am_up (am_up I 88 ((I 85 (k + 1))).toNat ((I 88 ((I 85 (k + 1))).toNat) + (z * (((I 71 3) - 1) - ((k : Int) + 1))))) 87 ((I 85 (k + 1))).toNat ((I 87 ((I 85 (k + 1))).toNat) + z)) 87 b = I 87 b from (am_up_ne2 (by omega)).trans ((am_up_ne2 (by omega)))]
              rcases hz with rfl | rfl <;> (repeat' split at *) <;> first | omega | (exfalso; omega)
          have e8 : ∀ b : Nat, b < 6 → (am_up (am_up I 88 ((I 85 (k + 1))).toNat ((I 88 ((I 85 (k + 1))).toNat) + (z * (((I 71 3) - 1) - ((k : Int) + 1))))) 87 ((I 85 (k + 1))).toNat ((I 87 ((I 85 (k + 1))).toNat) + z)) 88 b = E 88 b + z * (if sp_pl L (b : Int) ≤ ((k + 1 : Nat) : Int) then (L.length : Int) - 1 - sp_pl L (b : Int) else 0) := by
            intro b hb
            have bb := sp_pl_b (b := (b : Int)) h6
            have ub := huk b
            rw [← hu] at ub
            have ob := p88 b hb
            by_cases e : b = u
            · subst e
              have hb1 := ub.mpr rfl
              rw [show (am_up (am_up I 88 ((I 85 (k + 1))).toNat ((I 88 ((I 85 (k + 1))).toNat) + (z * (((I 71 3) - 1) - ((k : Int) + 1))))) 87 ((I 85 (k + 1))).toNat ((I 87 ((I 85 (k + 1))).toNat) + z)) 88 b = ((I 88 ((I 85 (k + 1))).toNat) + (z * (((I 71 3) - 1) - ((k : Int) + 1)))) from (am_up_ne2 (by omega)).trans ((by rw [← eu]; exact am_up_at2)), eu]
              rcases hz with rfl | rfl <;> (repeat' split at *) <;> first | omega | (exfalso; omega)
            · rw [show (am_up (am_up I 88 ((I 85 (k + 1))).toNat ((I 88 ((I 85 (k + 1))).toNat) + (z * (((I 71 3) - 1) - ((k : Int) + 1))))) 87 ((I 85 (k + 1))).toNat ((I 87 ((I 85 (k + 1))).toNat) + z)) 88 b = I 88 b from (am_up_ne2 (by omega)).trans ((am_up_ne2 (by omega)))]
              rcases hz with rfl | rfl <;> (repeat' split at *) <;> first | omega | (exfalso; omega)
          have e9 : ∀ b : Nat, b < 6 → (am_up (am_up I 88 ((I 85 (k + 1))).toNat ((I 88 ((I 85 (k + 1))).toNat) + (z * (((I 71 3) - 1) - ((k : Int) + 1))))) 87 ((I 85 (k + 1))).toNat ((I 87 ((I 85 (k + 1))).toNat) + z)) 89 b = E 89 b + z * (if sp_pl L (b : Int) = 0 then 1 else 0) := by
            intro b hb
            have bb := sp_pl_b (b := (b : Int)) h6
            have ub := huk b
            rw [← hu] at ub
            have ob := p89 b hb
            rw [show (am_up (am_up I 88 ((I 85 (k + 1))).toNat ((I 88 ((I 85 (k + 1))).toNat) + (z * (((I 71 3) - 1) - ((k : Int) + 1))))) 87 ((I 85 (k + 1))).toNat ((I 87 ((I 85 (k + 1))).toNat) + z)) 89 b = I 89 b from (am_up_ne2 (by omega)).trans ((am_up_ne2 (by omega)))]
            rcases hz with rfl | rfl <;> (repeat' split at *) <;> first | omega | (exfalso; omega)
          have e4 : ∀ a b : Nat, a < 6 → b < 6 → (am_up (am_up I 88 ((I 85 (k + 1))).toNat ((I 88 ((I 85 (k + 1))).toNat) + (z * (((I 71 3) - 1) - ((k : Int) + 1))))) 87 ((I 85 (k + 1))).toNat ((I 87 ((I 85 (k + 1))).toNat) + z)) (91 + a) b = E (91 + a) b + z * sp_ld2 L ((k + 1 : Nat) : Int) ((k + 1 + 1 : Nat) : Int) a b := by
            intro a b ha hb
            rw [show (am_up (am_up I 88 ((I 85 (k + 1))).toNat ((I 88 ((I 85 (k + 1))).toNat) + (z * (((I 71 3) - 1) - ((k : Int) + 1))))) 87 ((I 85 (k + 1))).toNat ((I 87 ((I 85 (k + 1))).toNat) + z)) (91 + a) b = I (91 + a) b from (am_up_ne2 (by omega)).trans ((am_up_ne2 (by omega))), pld a b ha hb, sp_ld2_n h6]
            rfl
          refine (am_less (lv := [(5, .inl (((k + 1) + 1) : Int)), (4, .inl ((I 85 (k + 1)))), (3, .inl ((k + 1) : Int)), (2, .inl z), (1, .inr (.inr (.inl (some 85)))), (0, .inr (.inr (.inl (some 71))))]) rfl (List.forall_mem_cons.mpr ⟨rfl, List.forall_mem_cons.mpr ⟨rfl, List.forall_mem_cons.mpr ⟨rfl, List.forall_mem_cons.mpr ⟨rfl, List.forall_mem_cons.mpr ⟨rfl, List.forall_mem_cons.mpr ⟨rfl, List.forall_mem_nil _⟩⟩⟩⟩⟩⟩) (c_tally_85_l (I := am_up (am_up I 88 ((I 85 (k + 1))).toNat ((I 88 ((I 85 (k + 1))).toNat) + (z * (((I 71 3) - 1) - ((k : Int) + 1))))) 87 ((I 85 (k + 1))).toNat ((I 87 ((I 85 (k + 1))).toNat) + z)) d (E := E) (k := (k + 1)) (j := (k + 1) + 1) (x := u) hz h71 h6 hn hx6 hrow hk2 (by omega) hu huy e7 e8 e9 e4)).imp ?_
          rintro q ⟨Q9, rfl, h9⟩
          exact ⟨Q9, am_r_wk uT (am_k_up rfl (am_k_up rfl (am_k_id))), h9⟩
      · show am_E _ _ _ 39 [(4, .inl ((I 85 (k + 1)))), (3, .inl ((k : Int) + 1)), (5, .inl (j : Int)), (2, .inl z), (1, .inr (.inr (.inl (some 85)))), (0, .inr (.inr (.inl (some 71))))] [] (am_mm D (am_up I 88 ((I 85 (k + 1))).toNat ((I 88 ((I 85 (k + 1))).toNat) + (z * (((I 71 3) - 1) - ((k : Int) + 1))))) J ρ) _
        refine am_e_ss 4 (q := (46, [(4, .inl ((I 85 (k + 1)))), (3, .inl ((k : Int) + 1)), (5, .inl (j : Int)), (2, .inl z), (1, .inr (.inr (.inl (some 85)))), (0, .inr (.inr (.inl (some 71))))], [.inl ((I 85 (k + 1))), .inr (.inr (.inl (some 89))), .inl ((I 85 (k + 1))), .inr (.inr (.inl (some 89)))], (am_mm D (am_up I 88 ((I 85 (k + 1))).toNat ((I 88 ((I 85 (k + 1))).toNat) + (z * (((I 71 3) - 1) - ((k : Int) + 1))))) J ρ))) rfl ?_
        refine am_e_iaload (m := 6) rfl rfl (by omega) (by omega) (by omega) ?_
        show am_E _ _ _ 47 [(4, .inl ((I 85 (k + 1)))), (3, .inl ((k : Int) + 1)), (5, .inl (j : Int)), (2, .inl z), (1, .inr (.inr (.inl (some 85)))), (0, .inr (.inr (.inl (some 71))))] [.inl ((I 89 ((I 85 (k + 1))).toNat)), .inl ((I 85 (k + 1))), .inr (.inr (.inl (some 89)))] (am_mm D (am_up I 88 ((I 85 (k + 1))).toNat ((I 88 ((I 85 (k + 1))).toNat) + (z * (((I 71 3) - 1) - ((k : Int) + 1))))) J ρ) _
        refine am_e_ss 2 (q := (49, [(4, .inl ((I 85 (k + 1)))), (3, .inl ((k : Int) + 1)), (5, .inl (j : Int)), (2, .inl z), (1, .inr (.inr (.inl (some 85)))), (0, .inr (.inr (.inl (some 71))))], [.inl ((I 89 ((I 85 (k + 1))).toNat) + z), .inl ((I 85 (k + 1))), .inr (.inr (.inl (some 89)))], (am_mm D (am_up I 88 ((I 85 (k + 1))).toNat ((I 88 ((I 85 (k + 1))).toNat) + (z * (((I 71 3) - 1) - ((k : Int) + 1))))) J ρ))) rfl ?_
        refine am_e_iastore (m := 6) rfl rfl (by omega) (by omega) (by omega) ?_
        show am_E _ _ _ 50 [(4, .inl ((I 85 (k + 1)))), (3, .inl ((k : Int) + 1)), (5, .inl (j : Int)), (2, .inl z), (1, .inr (.inr (.inl (some 85)))), (0, .inr (.inr (.inl (some 71))))] [] (am_mm D (am_up (am_up I 88 ((I 85 (k + 1))).toNat ((I 88 ((I 85 (k + 1))).toNat) + (z * (((I 71 3) - 1) - ((k : Int) + 1))))) 89 ((I 85 (k + 1))).toNat ((I 89 ((I 85 (k + 1))).toNat) + z)) J ρ) _
        refine am_e_ss 2 (q := (52, [(4, .inl ((I 85 (k + 1)))), (3, .inl ((k : Int) + 1)), (5, .inl (j : Int)), (2, .inl z), (1, .inr (.inr (.inl (some 85)))), (0, .inr (.inr (.inl (some 71))))], [.inl 2, .inl ((k : Int) + 1)], (am_mm D (am_up (am_up I 88 ((I 85 (k + 1))).toNat ((I 88 ((I 85 (k + 1))).toNat) + (z * (((I 71 3) - 1) - ((k : Int) + 1))))) 89 ((I 85 (k + 1))).toNat ((I 89 ((I 85 (k + 1))).toNat) + z)) J ρ))) rfl ?_
        refine am_e_icmp2 rfl ⟨by omega, by omega⟩ ⟨by omega, by omega⟩ (fun (hw5 : 2 ≤ ((k : Int) + 1)) => ?_) (fun (hw5 : ¬ (2 ≤ ((k : Int) + 1))) => ?_)
        · show am_E _ _ _ 66 [(4, .inl ((I 85 (k + 1)))), (3, .inl ((k : Int) + 1)), (5, .inl (j : Int)), (2, .inl z), (1, .inr (.inr (.inl (some 85)))), (0, .inr (.inr (.inl (some 71))))] [] (am_mm D (am_up (am_up I 88 ((I 85 (k + 1))).toNat ((I 88 ((I 85 (k + 1))).toNat) + (z * (((I 71 3) - 1) - ((k : Int) + 1))))) 89 ((I 85 (k + 1))).toNat ((I 89 ((I 85 (k + 1))).toNat) + z)) J ρ) _
          refine am_e_ss 4 (q := (71, [(5, .inl (((k : Int) + 1) + 1)), (4, .inl ((I 85 (k + 1)))), (3, .inl ((k : Int) + 1)), (2, .inl z), (1, .inr (.inr (.inl (some 85)))), (0, .inr (.inr (.inl (some 71))))], [], (am_mm D (am_up (am_up I 88 ((I 85 (k + 1))).toNat ((I 88 ((I 85 (k + 1))).toNat) + (z * (((I 71 3) - 1) - ((k : Int) + 1))))) 89 ((I 85 (k + 1))).toNat ((I 89 ((I 85 (k + 1))).toNat) + z)) J ρ))) rfl ?_
          have ej : j = L.length := by omega
          subst ej
          have hk2 : k + 1 < L.length := by omega
          obtain ⟨u, hu⟩ : ∃ u, u = L[(k + 1)] := ⟨_, rfl⟩
          have huy := hrow (k + 1) _ (List.getElem?_eq_getElem hk2)
          rw [Nat.zero_add, ← hu] at huy
          have hu6 : u < 6 := by rw [hu]; exact hx6 _ (List.getElem_mem _)
          have huk := fun b : Nat => sp_pl_k (b := b) h6 hn hk2
          have eu : ((I 85 (k + 1))).toNat = u := by omega
          have e7 : ∀ b : Nat, b < 6 → (am_up (am_up I 88 ((I 85 (k + 1))).toNat ((I 88 ((I 85 (k + 1))).toNat) + (z * (((I 71 3) - 1) - ((k : Int) + 1))))) 89 ((I 85 (k + 1))).toNat ((I 89 ((I 85 (k + 1))).toNat) + z)) 87 b = E 87 b + z * (if sp_pl L (b : Int) ≤ ((k + 1 : Nat) : Int) ∧ sp_pl L (b : Int) < 2 then 1 else 0) := by
            intro b hb
            have bb := sp_pl_b (b := (b : Int)) h6
            have ub := huk b
            rw [← hu] at ub
            have ob := p87 b hb
            rw [show (am_up (am_up I 88 ((I 85 (k + 1))).toNat ((I 88 ((I 85 (k + 1))).toNat) + (z * (((I 71 3) - 1) - ((k : Int) + 1))))) 89 ((I 85 (k + 1))).toNat ((I 89 ((I 85 (k + 1))).toNat) + z)) 87 b = I 87 b from (am_up_ne2 (by omega)).trans ((am_up_ne2 (by omega)))]
            rcases hz with rfl | rfl <;> (repeat' split at *) <;> first | omega | (exfalso; omega)
          have e8 : ∀ b : Nat, b < 6 → (am_up (am_up I 88 ((I 85 (k + 1))).toNat ((I 88 ((I 85 (k + 1))).toNat) + (z * (((I 71 3) - 1) - ((k : Int) + 1))))) 89 ((I 85 (k + 1))).toNat ((I 89 ((I 85 (k + 1))).toNat) + z)) 88 b = E 88 b + z * (if sp_pl L (b : Int) ≤ ((k + 1 : Nat) : Int) then (L.length : Int) - 1 - sp_pl L (b : Int) else 0) := by
            intro b hb
            have bb := sp_pl_b (b := (b : Int)) h6
            have ub := huk b
            rw [← hu] at ub
            have ob := p88 b hb
            by_cases e : b = u
            · subst e
              have hb1 := ub.mpr rfl
              rw [show (am_up (am_up I 88 ((I 85 (k + 1))).toNat ((I 88 ((I 85 (k + 1))).toNat) + (z * (((I 71 3) - 1) - ((k : Int) + 1))))) 89 ((I 85 (k + 1))).toNat ((I 89 ((I 85 (k + 1))).toNat) + z)) 88 b = ((I 88 ((I 85 (k + 1))).toNat) + (z * (((I 71 3) - 1) - ((k : Int) + 1)))) from (am_up_ne2 (by omega)).trans ((by rw [← eu]; exact am_up_at2)), eu]
              rcases hz with rfl | rfl <;> (repeat' split at *) <;> first | omega | (exfalso; omega)
            · rw [show (am_up (am_up I 88 ((I 85 (k + 1))).toNat ((I 88 ((I 85 (k + 1))).toNat) + (z * (((I 71 3) - 1) - ((k : Int) + 1))))) 89 ((I 85 (k + 1))).toNat ((I 89 ((I 85 (k + 1))).toNat) + z)) 88 b = I 88 b from (am_up_ne2 (by omega)).trans ((am_up_ne2 (by omega)))]
              rcases hz with rfl | rfl <;> (repeat' split at *) <;> first | omega | (exfalso; omega)
          have e9 : ∀ b : Nat, b < 6 → (am_up (am_up I 88 ((I 85 (k + 1))).toNat ((I 88 ((I 85 (k + 1))).toNat) + (z * (((I 71 3) - 1) - ((k : Int) + 1))))) 89 ((I 85 (k + 1))).toNat ((I 89 ((I 85 (k + 1))).toNat) + z)) 89 b = E 89 b + z * (if sp_pl L (b : Int) = 0 then 1 else 0) := by
            intro b hb
            have bb := sp_pl_b (b := (b : Int)) h6
            have ub := huk b
            rw [← hu] at ub
            have ob := p89 b hb
            by_cases e : b = u
            · subst e
              have hb1 := ub.mpr rfl
              rw [show (am_up (am_up I 88 ((I 85 (k + 1))).toNat ((I 88 ((I 85 (k + 1))).toNat) + (z * (((I 71 3) - 1) - ((k : Int) + 1))))) 89 ((I 85 (k + 1))).toNat ((I 89 ((I 85 (k + 1))).toNat) + z)) 89 b = ((I 89 ((I 85 (k + 1))).toNat) + z) from (by rw [← eu]; exact am_up_at2), eu]
              rcases hz with rfl | rfl <;> (repeat' split at *) <;> first | omega | (exfalso; omega)
            · rw [show (am_up (am_up I 88 ((I 85 (k + 1))).toNat ((I 88 ((I 85 (k + 1))).toNat) + (z * (((I 71 3) - 1) - ((k : Int) + 1))))) 89 ((I 85 (k + 1))).toNat ((I 89 ((I 85 (k + 1))).toNat) + z)) 89 b = I 89 b from (am_up_ne2 (by omega)).trans ((am_up_ne2 (by omega)))]
              rcases hz with rfl | rfl <;> (repeat' split at *) <;> first | omega | (exfalso; omega)
          have e4 : ∀ a b : Nat, a < 6 → b < 6 → (am_up (am_up I 88 ((I 85 (k + 1))).toNat ((I 88 ((I 85 (k + 1))).toNat) + (z * (((I 71 3) - 1) - ((k : Int) + 1))))) 89 ((I 85 (k + 1))).toNat ((I 89 ((I 85 (k + 1))).toNat) + z)) (91 + a) b = E (91 + a) b + z * sp_ld2 L ((k + 1 : Nat) : Int) ((k + 1 + 1 : Nat) : Int) a b := by
            intro a b ha hb
            rw [show (am_up (am_up I 88 ((I 85 (k + 1))).toNat ((I 88 ((I 85 (k + 1))).toNat) + (z * (((I 71 3) - 1) - ((k : Int) + 1))))) 89 ((I 85 (k + 1))).toNat ((I 89 ((I 85 (k + 1))).toNat) + z)) (91 + a) b = I (91 + a) b from (am_up_ne2 (by omega)).trans ((am_up_ne2 (by omega))), pld a b ha hb, sp_ld2_n h6]
            rfl
          refine (am_less (lv := [(5, .inl (((k + 1) + 1) : Int)), (4, .inl ((I 85 (k + 1)))), (3, .inl ((k + 1) : Int)), (2, .inl z), (1, .inr (.inr (.inl (some 85)))), (0, .inr (.inr (.inl (some 71))))]) rfl (List.forall_mem_cons.mpr ⟨rfl, List.forall_mem_cons.mpr ⟨rfl, List.forall_mem_cons.mpr ⟨rfl, List.forall_mem_cons.mpr ⟨rfl, List.forall_mem_cons.mpr ⟨rfl, List.forall_mem_cons.mpr ⟨rfl, List.forall_mem_nil _⟩⟩⟩⟩⟩⟩) (c_tally_85_l (I := am_up (am_up I 88 ((I 85 (k + 1))).toNat ((I 88 ((I 85 (k + 1))).toNat) + (z * (((I 71 3) - 1) - ((k : Int) + 1))))) 89 ((I 85 (k + 1))).toNat ((I 89 ((I 85 (k + 1))).toNat) + z)) d (E := E) (k := (k + 1)) (j := (k + 1) + 1) (x := u) hz h71 h6 hn hx6 hrow hk2 (by omega) hu huy e7 e8 e9 e4)).imp ?_
          rintro q ⟨Q9, rfl, h9⟩
          exact ⟨Q9, am_r_wk uT (am_k_up rfl (am_k_up rfl (am_k_id))), h9⟩
        · show am_E _ _ _ 55 [(4, .inl ((I 85 (k + 1)))), (3, .inl ((k : Int) + 1)), (5, .inl (j : Int)), (2, .inl z), (1, .inr (.inr (.inl (some 85)))), (0, .inr (.inr (.inl (some 71))))] [] (am_mm D (am_up (am_up I 88 ((I 85 (k + 1))).toNat ((I 88 ((I 85 (k + 1))).toNat) + (z * (((I 71 3) - 1) - ((k : Int) + 1))))) 89 ((I 85 (k + 1))).toNat ((I 89 ((I 85 (k + 1))).toNat) + z)) J ρ) _
          refine am_e_ss 4 (q := (62, [(4, .inl ((I 85 (k + 1)))), (3, .inl ((k : Int) + 1)), (5, .inl (j : Int)), (2, .inl z), (1, .inr (.inr (.inl (some 85)))), (0, .inr (.inr (.inl (some 71))))], [.inl ((I 85 (k + 1))), .inr (.inr (.inl (some 87))), .inl ((I 85 (k + 1))), .inr (.inr (.inl (some 87)))], (am_mm D (am_up (am_up I 88 ((I 85 (k + 1))).toNat ((I 88 ((I 85 (k + 1))).toNat) + (z * (((I 71 3) - 1) - ((k : Int) + 1))))) 89 ((I 85 (k + 1))).toNat ((I 89 ((I 85 (k + 1))).toNat) + z)) J ρ))) rfl ?_
          refine am_e_iaload (m := 6) rfl rfl (by omega) (by omega) (by omega) ?_
          show am_E _ _ _ 63 [(4, .inl ((I 85 (k + 1)))), (3, .inl ((k : Int) + 1)), (5, .inl (j : Int)), (2, .inl z), (1, .inr (.inr (.inl (some 85)))), (0, .inr (.inr (.inl (some 71))))] [.inl ((I 87 ((I 85 (k + 1))).toNat)), .inl ((I 85 (k + 1))), .inr (.inr (.inl (some 87)))] (am_mm D (am_up (am_up I 88 ((I 85 (k + 1))).toNat ((I 88 ((I 85 (k + 1))).toNat) + (z * (((I 71 3) - 1) - ((k : Int) + 1))))) 89 ((I 85 (k + 1))).toNat ((I 89 ((I 85 (k + 1))).toNat) + z)) J ρ) _
          refine am_e_ss 2 (q := (65, [(4, .inl ((I 85 (k + 1)))), (3, .inl ((k : Int) + 1)), (5, .inl (j : Int)), (2, .inl z), (1, .inr (.inr (.inl (some 85)))), (0, .inr (.inr (.inl (some 71))))], [.inl ((I 87 ((I 85 (k + 1))).toNat) + z), .inl ((I 85 (k + 1))), .inr (.inr (.inl (some 87)))], (am_mm D (am_up (am_up I 88 ((I 85 (k + 1))).toNat ((I 88 ((I 85 (k + 1))).toNat) + (z * (((I 71 3) - 1) - ((k : Int) + 1))))) 89 ((I 85 (k + 1))).toNat ((I 89 ((I 85 (k + 1))).toNat) + z)) J ρ))) rfl ?_
          refine am_e_iastore (m := 6) rfl rfl (by omega) (by omega) (by omega) ?_
          show am_E _ _ _ 66 [(4, .inl ((I 85 (k + 1)))), (3, .inl ((k : Int) + 1)), (5, .inl (j : Int)), (2, .inl z), (1, .inr (.inr (.inl (some 85)))), (0, .inr (.inr (.inl (some 71))))] [] (am_mm D (am_up (am_up (am_up I 88 ((I 85 (k + 1))).toNat ((I 88 ((I 85 (k + 1))).toNat) + (z * (((I 71 3) - 1) - ((k : Int) + 1))))) 89 ((I 85 (k + 1))).toNat ((I 89 ((I 85 (k + 1))).toNat) + z)) 87 ((I 85 (k + 1))).toNat ((I 87 ((I 85 (k + 1))).toNat) + z)) J ρ) _
          refine am_e_ss 4 (q := (71, [(5, .inl (((k : Int) + 1) + 1)), (4, .inl ((I 85 (k + 1)))), (3, .inl ((k : Int) + 1)), (2, .inl z), (1, .inr (.inr (.inl (some 85)))), (0, .inr (.inr (.inl (some 71))))], [], (am_mm D (am_up (am_up (am_up I 88 ((I 85 (k + 1))).toNat ((I 88 ((I 85 (k + 1))).toNat) + (z * (((I 71 3) - 1) - ((k : Int) + 1))))) 89 ((I 85 (k + 1))).toNat ((I 89 ((I 85 (k + 1))).toNat) + z)) 87 ((I 85 (k + 1))).toNat ((I 87 ((I 85 (k + 1))).toNat) + z)) J ρ))) rfl ?_
          have ej : j = L.length := by omega
          subst ej
          have hk2 : k + 1 < L.length := by omega
          obtain ⟨u, hu⟩ : ∃ u, u = L[(k + 1)] := ⟨_, rfl⟩
          have huy := hrow (k + 1) _ (List.getElem?_eq_getElem hk2)
          rw [Nat.zero_add, ← hu] at huy
          have hu6 : u < 6 := by rw [hu]; exact hx6 _ (List.getElem_mem _)
          have huk := fun b : Nat => sp_pl_k (b := b) h6 hn hk2
          have eu : ((I 85 (k + 1))).toNat = u := by omega
          have e7 : ∀ b : Nat, b < 6 → (am_up (am_up (am_up I 88 ((I 85 (k + 1))).toNat ((I 88 ((I 85 (k + 1))).toNat) + (z * (((I 71 3) - 1) - ((k : Int) + 1))))) 89 ((I 85 (k + 1))).toNat ((I 89 ((I 85 (k + 1))).toNat) + z)) 87 ((I 85 (k + 1))).toNat ((I 87 ((I 85 (k + 1))).toNat) + z)) 87 b = E 87 b + z * (if sp_pl L (b : Int) ≤ ((k + 1 : Nat) : Int) ∧ sp_pl L (b : Int) < 2 then 1 else 0) := by
            intro b hb
            have bb := sp_pl_b (b := (b : Int)) h6
            have ub := huk b
            rw [← hu] at ub
            have ob := p87 b hb
            by_cases e : b = u
            · subst e
              have hb1 := ub.mpr rfl
              rw [show (am_up (am_up (am_up I 88 ((I 85 (k + 1))).toNat ((I 88 ((I 85 (k + 1))).toNat) + (z * (((I 71 3) - 1) - ((k : Int) + 1))))) 89 ((I 85 (k + 1))).toNat ((I 89 ((I 85 (k + 1))).toNat) + z)) 87 ((I 85 (k + 1))).toNat ((I 87 ((I 85 (k + 1))).toNat) + z)) 87 b = ((I 87 ((I 85 (k + 1))).toNat) + z) from (by rw [← eu]; exact am_up_at2), eu]
              rcases hz with rfl | rfl <;> (repeat' split at *) <;> first | omega | (exfalso; omega)
            · rw [show (am_up (am_up (am_up I 88 ((I 85 (k + 1))).toNat ((I 88 ((I 85 (k + 1))).toNat) + (z * (((I 71 3) - 1) - ((k : Int) + 1))))) 89 ((I 85 (k + 1))).toNat ((I 89 ((I 85 (k + 1))).toNat) + z)) 87 ((I 85 (k + 1))).toNat ((I 87 ((I 85 (k + 1))).toNat) + z)) 87 b = I 87 b from (am_up_ne2 (by omega)).trans ((am_up_ne2 (by omega)).trans ((am_up_ne2 (by omega))))]
              rcases hz with rfl | rfl <;> (repeat' split at *) <;> first | omega | (exfalso; omega)
          have e8 : ∀ b : Nat, b < 6 → (am_up (am_up (am_up I 88 ((I 85 (k + 1))).toNat ((I 88 ((I 85 (k + 1))).toNat) + (z * (((I 71 3) - 1) - ((k : Int) + 1))))) 89 ((I 85 (k + 1))).toNat ((I 89 ((I 85 (k + 1))).toNat) + z)) 87 ((I 85 (k + 1))).toNat ((I 87 ((I 85 (k + 1))).toNat) + z)) 88 b = E 88 b + z * (if sp_pl L (b : Int) ≤ ((k + 1 : Nat) : Int) then (L.length : Int) - 1 - sp_pl L (b : Int) else 0) := by
            intro b hb
            have bb := sp_pl_b (b := (b : Int)) h6
            have ub := huk b
            rw [← hu] at ub
            have ob := p88 b hb
            by_cases e : b = u
            · subst e
              have hb1 := ub.mpr rfl
              rw [show (am_up (am_up (am_up I 88 ((I 85 (k + 1))).toNat ((I 88 ((I 85 (k + 1))).toNat) + (z * (((I 71 3) - 1) - ((k : Int) + 1))))) 89 ((I 85 (k + 1))).toNat ((I 89 ((I 85 (k + 1))).toNat) + z)) 87 ((I 85 (k + 1))).toNat ((I 87 ((I 85 (k + 1))).toNat) + z)) 88 b = ((I 88 ((I 85 (k + 1))).toNat) + (z * (((I 71 3) - 1) - ((k : Int) + 1)))) from (am_up_ne2 (by omega)).trans ((am_up_ne2 (by omega)).trans ((by rw [← eu]; exact am_up_at2))), eu]
              rcases hz with rfl | rfl <;> (repeat' split at *) <;> first | omega | (exfalso; omega)
            · rw [show (am_up (am_up (am_up I 88 ((I 85 (k + 1))).toNat ((I 88 ((I 85 (k + 1))).toNat) + (z * (((I 71 3) - 1) - ((k : Int) + 1))))) 89 ((I 85 (k + 1))).toNat ((I 89 ((I 85 (k + 1))).toNat) + z)) 87 ((I 85 (k + 1))).toNat ((I 87 ((I 85 (k + 1))).toNat) + z)) 88 b = I 88 b from (am_up_ne2 (by omega)).trans ((am_up_ne2 (by omega)).trans ((am_up_ne2 (by omega))))]
              rcases hz with rfl | rfl <;> (repeat' split at *) <;> first | omega | (exfalso; omega)
          have e9 : ∀ b : Nat, b < 6 → (am_up (am_up (am_up I 88 ((I 85 (k + 1))).toNat ((I 88 ((I 85 (k + 1))).toNat) + (z * (((I 71 3) - 1) - ((k : Int) + 1))))) 89 ((I 85 (k + 1))).toNat ((I 89 ((I 85 (k + 1))).toNat) + z)) 87 ((I 85 (k + 1))).toNat ((I 87 ((I 85 (k + 1))).toNat) + z)) 89 b = E 89 b + z * (if sp_pl L (b : Int) = 0 then 1 else 0) := by
            intro b hb
            have bb := sp_pl_b (b := (b : Int)) h6
            have ub := huk b
            rw [← hu] at ub
            have ob := p89 b hb
            by_cases e : b = u
            · subst e
              have hb1 := ub.mpr rfl
              rw [show (am_up (am_up (am_up I 88 ((I 85 (k + 1))).toNat ((I 88 ((I 85 (k + 1))).toNat) + (z * (((I 71 3) - 1) - ((k : Int) + 1))))) 89 ((I 85 (k + 1))).toNat ((I 89 ((I 85 (k + 1))).toNat) + z)) 87 ((I 85 (k + 1))).toNat ((I 87 ((I 85 (k + 1))).toNat) + z)) 89 b = ((I 89 ((I 85 (k + 1))).toNat) + z) from (am_up_ne2 (by omega)).trans ((by rw [← eu]; exact am_up_at2)), eu]
              rcases hz with rfl | rfl <;> (repeat' split at *) <;> first | omega | (exfalso; omega)
            · rw [show (am_up (am_up (am_up I 88 ((I 85 (k + 1))).toNat ((I 88 ((I 85 (k + 1))).toNat) + (z * (((I 71 3) - 1) - ((k : Int) + 1))))) 89 ((I 85 (k + 1))).toNat ((I 89 ((I 85 (k + 1))).toNat) + z)) 87 ((I 85 (k + 1))).toNat ((I 87 ((I 85 (k + 1))).toNat) + z)) 89 b = I 89 b from (am_up_ne2 (by omega)).trans ((am_up_ne2 (by omega)).trans ((am_up_ne2 (by omega))))]
              rcases hz with rfl | rfl <;> (repeat' split at *) <;> first | omega | (exfalso; omega)
          have e4 : ∀ a b : Nat, a < 6 → b < 6 → (am_up (am_up (am_up I 88 ((I 85 (k + 1))).toNat ((I 88 ((I 85 (k + 1))).toNat) + (z * (((I 71 3) - 1) - ((k : Int) + 1))))) 89 ((I 85 (k + 1))).toNat ((I 89 ((I 85 (k + 1))).toNat) + z)) 87 ((I 85 (k + 1))).toNat ((I 87 ((I 85 (k + 1))).toNat) + z)) (91 + a) b = E (91 + a) b + z * sp_ld2 L ((k + 1 : Nat) : Int) ((k + 1 + 1 : Nat) : Int) a b := by
            intro a b ha hb
            rw [show (am_up (am_up (am_up I 88 ((I 85 (k + 1))).toNat ((I 88 ((I 85 (k + 1))).toNat) + (z * (((I 71 3) - 1) - ((k : Int) + 1))))) 89 ((I 85 (k + 1))).toNat ((I 89 ((I 85 (k + 1))).toNat) + z)) 87 ((I 85 (k + 1))).toNat ((I 87 ((I 85 (k + 1))).toNat) + z)) (91 + a) b = I (91 + a) b from (am_up_ne2 (by omega)).trans ((am_up_ne2 (by omega)).trans ((am_up_ne2 (by omega)))), pld a b ha hb, sp_ld2_n h6]
            rfl
          refine (am_less (lv := [(5, .inl (((k + 1) + 1) : Int)), (4, .inl ((I 85 (k + 1)))), (3, .inl ((k + 1) : Int)), (2, .inl z), (1, .inr (.inr (.inl (some 85)))), (0, .inr (.inr (.inl (some 71))))]) rfl (List.forall_mem_cons.mpr ⟨rfl, List.forall_mem_cons.mpr ⟨rfl, List.forall_mem_cons.mpr ⟨rfl, List.forall_mem_cons.mpr ⟨rfl, List.forall_mem_cons.mpr ⟨rfl, List.forall_mem_cons.mpr ⟨rfl, List.forall_mem_nil _⟩⟩⟩⟩⟩⟩) (c_tally_85_l (I := am_up (am_up (am_up I 88 ((I 85 (k + 1))).toNat ((I 88 ((I 85 (k + 1))).toNat) + (z * (((I 71 3) - 1) - ((k : Int) + 1))))) 89 ((I 85 (k + 1))).toNat ((I 89 ((I 85 (k + 1))).toNat) + z)) 87 ((I 85 (k + 1))).toNat ((I 87 ((I 85 (k + 1))).toNat) + z)) d (E := E) (k := (k + 1)) (j := (k + 1) + 1) (x := u) hz h71 h6 hn hx6 hrow hk2 (by omega) hu huy e7 e8 e9 e4)).imp ?_
          rintro q ⟨Q9, rfl, h9⟩
          exact ⟨Q9, am_r_wk uT (am_k_up rfl (am_k_up rfl (am_k_up rfl (am_k_id)))), h9⟩
  · show am_E _ _ _ 80 [(5, .inl (j : Int)), (4, .inl y), (3, .inl (k : Int)), (2, .inl z), (1, .inr (.inr (.inl (some 85)))), (0, .inr (.inr (.inl (some 71))))] [] (am_mm D I J ρ) _
    obtain ⟨v, hv⟩ : ∃ v, v = L[j] := ⟨_, rfl⟩
    have hjy := hrow j _ (List.getElem?_eq_getElem (show j < L.length by omega))
    rw [Nat.zero_add, ← hv] at hjy
    have hv6 : v < 6 := by rw [hv]; exact hx6 _ (List.getElem_mem _)
    have hxv : ¬ x = v := by
      intro e
      rw [hx, hv] at e
      have := am_nd_inj hn hk (by omega) e
      omega
    refine am_e_ss 3 (q := (86, [(5, .inl (j : Int)), (4, .inl y), (3, .inl (k : Int)), (2, .inl z), (1, .inr (.inr (.inl (some 85)))), (0, .inr (.inr (.inl (some 71))))], [.inl y, .inr (.inr (.inl (some 90)))], (am_mm D I J ρ))) rfl ?_
    refine am_e_aaload (m := 6) (c := 23) rfl rfl (by decide) (by omega) (by omega) (by omega) ?_
    rw [show ((am_mm D I J ρ)).2.2.2 90 (y).toNat = some (91 + x) from (by rw [hyx]; exact am_r90 (ρ := ρ) (by omega))]
    show am_E _ _ _ 87 [(5, .inl (j : Int)), (4, .inl y), (3, .inl (k : Int)), (2, .inl z), (1, .inr (.inr (.inl (some 85)))), (0, .inr (.inr (.inl (some 71))))] [.inr (.inr (.inl (some (91 + x))))] (am_mm D I J ρ) _
    refine am_e_ss 2 (q := (90, [(5, .inl (j : Int)), (4, .inl y), (3, .inl (k : Int)), (2, .inl z), (1, .inr (.inr (.inl (some 85)))), (0, .inr (.inr (.inl (some 71))))], [.inl (j : Int), .inr (.inr (.inl (some 85))), .inr (.inr (.inl (some (91 + x))))], (am_mm D I J ρ))) rfl ?_
    refine am_e_iaload (m := 6) rfl rfl (by omega) (by omega) (by omega) ?_
    show am_E _ _ _ 91 [(5, .inl (j : Int)), (4, .inl y), (3, .inl (k : Int)), (2, .inl z), (1, .inr (.inr (.inl (some 85)))), (0, .inr (.inr (.inl (some 71))))] [.inl ((I 85 j)), .inr (.inr (.inl (some (91 + x))))] (am_mm D I J ρ) _
    refine am_e_ss 1 (q := (92, [(5, .inl (j : Int)), (4, .inl y), (3, .inl (k : Int)), (2, .inl z), (1, .inr (.inr (.inl (some 85)))), (0, .inr (.inr (.inl (some 71))))], [.inl ((I 85 j)), .inr (.inr (.inl (some (91 + x)))), .inl ((I 85 j)), .inr (.inr (.inl (some (91 + x))))], (am_mm D I J ρ))) rfl ?_
    refine am_e_iaload (m := 6) rfl (am_k91 (by omega)) (by omega) (by omega) (by omega) ?_
    show am_E _ _ _ 93 [(5, .inl (j : Int)), (4, .inl y), (3, .inl (k : Int)), (2, .inl z), (1, .inr (.inr (.inl (some 85)))), (0, .inr (.inr (.inl (some 71))))] [.inl ((I (91 + x) ((I 85 j)).toNat)), .inl ((I 85 j)), .inr (.inr (.inl (some (91 + x))))] (am_mm D I J ρ) _
    refine am_e_ss 2 (q := (95, [(5, .inl (j : Int)), (4, .inl y), (3, .inl (k : Int)), (2, .inl z), (1, .inr (.inr (.inl (some 85)))), (0, .inr (.inr (.inl (some 71))))], [.inl ((I (91 + x) ((I 85 j)).toNat) + z), .inl ((I 85 j)), .inr (.inr (.inl (some (91 + x))))], (am_mm D I J ρ))) rfl ?_
    refine am_e_iastore (m := 6) rfl (am_k91 (by omega)) (by omega) (by omega) (by omega) ?_
    show am_E _ _ _ 96 [(5, .inl (j : Int)), (4, .inl y), (3, .inl (k : Int)), (2, .inl z), (1, .inr (.inr (.inl (some 85)))), (0, .inr (.inr (.inl (some 71))))] [] (am_mm D (am_up I (91 + x) ((I 85 j)).toNat ((I (91 + x) ((I 85 j)).toNat) + z)) J ρ) _
    refine am_e_ss 4 (q := (103, [(5, .inl (j : Int)), (4, .inl y), (3, .inl (k : Int)), (2, .inl z), (1, .inr (.inr (.inl (some 85)))), (0, .inr (.inr (.inl (some 71))))], [.inl (j : Int), .inr (.inr (.inl (some 85))), .inr (.inr (.inl (some 90)))], (am_mm D (am_up I (91 + x) ((I 85 j)).toNat ((I (91 + x) ((I 85 j)).toNat) + z)) J ρ))) rfl ?_
    refine am_e_iaload (m := 6) rfl rfl (by omega) (by omega) (by omega) ?_
    show am_E _ _ _ 104 [(5, .inl (j : Int)), (4, .inl y), (3, .inl (k : Int)), (2, .inl z), (1, .inr (.inr (.inl (some 85)))), (0, .inr (.inr (.inl (some 71))))] [.inl (((am_up I (91 + x) ((I 85 j)).toNat ((I (91 + x) ((I 85 j)).toNat) + z)) 85 j)), .inr (.inr (.inl (some 90)))] (am_mm D (am_up I (91 + x) ((I 85 j)).toNat ((I (91 + x) ((I 85 j)).toNat) + z)) J ρ) _
    have hrd2 : ((am_up I (91 + x) ((I 85 j)).toNat ((I (91 + x) ((I 85 j)).toNat) + z)) 85 j) = ((v : Nat) : Int) := (am_up_ne2 (by omega)).trans hjy
    refine am_e_aaload (m := 6) (c := 23) rfl rfl (by decide) (by omega) (by omega) (by omega) ?_
    rw [show ((am_mm D (am_up I (91 + x) ((I 85 j)).toNat ((I (91 + x) ((I 85 j)).toNat) + z)) J ρ)).2.2.2 90 (((am_up I (91 + x) ((I 85 j)).toNat ((I (91 + x) ((I 85 j)).toNat) + z)) 85 j)).toNat = some (91 + v) from (by rw [hrd2]; exact am_r90 (ρ := ρ) (by omega))]
    show am_E _ _ _ 105 [(5, .inl (j : Int)), (4, .inl y), (3, .inl (k : Int)), (2, .inl z), (1, .inr (.inr (.inl (some 85)))), (0, .inr (.inr (.inl (some 71))))] [.inr (.inr (.inl (some (91 + v))))] (am_mm D (am_up I (91 + x) ((I 85 j)).toNat ((I (91 + x) ((I 85 j)).toNat) + z)) J ρ) _
    refine am_e_ss 2 (q := (108, [(5, .inl (j : Int)), (4, .inl y), (3, .inl (k : Int)), (2, .inl z), (1, .inr (.inr (.inl (some 85)))), (0, .inr (.inr (.inl (some 71))))], [.inl y, .inr (.inr (.inl (some (91 + v)))), .inl y, .inr (.inr (.inl (some (91 + v))))], (am_mm D (am_up I (91 + x) ((I 85 j)).toNat ((I (91 + x) ((I 85 j)).toNat) + z)) J ρ))) rfl ?_
    refine am_e_iaload (m := 6) rfl (am_k91 (by omega)) (by omega) (by omega) (by omega) ?_
    show am_E _ _ _ 109 [(5, .inl (j : Int)), (4, .inl y), (3, .inl (k : Int)), (2, .inl z), (1, .inr (.inr (.inl (some 85)))), (0, .inr (.inr (.inl (some 71))))] [.inl (((am_up I (91 + x) ((I 85 j)).toNat ((I (91 + x) ((I 85 j)).toNat) + z)) (91 + v) (y).toNat)), .inl y, .inr (.inr (.inl (some (91 + v))))] (am_mm D (am_up I (91 + x) ((I 85 j)).toNat ((I (91 + x) ((I 85 j)).toNat) + z)) J ρ) _
    refine am_e_ss 2 (q := (111, [(5, .inl (j : Int)), (4, .inl y), (3, .inl (k : Int)), (2, .inl z), (1, .inr (.inr (.inl (some 85)))), (0, .inr (.inr (.inl (some 71))))], [.inl (((am_up I (91 + x) ((I 85 j)).toNat ((I (91 + x) ((I 85 j)).toNat) + z)) (91 + v) (y).toNat) - z), .inl y, .inr (.inr (.inl (some (91 + v))))], (am_mm D (am_up I (91 + x) ((I 85 j)).toNat ((I (91 + x) ((I 85 j)).toNat) + z)) J ρ))) rfl ?_
    refine am_e_iastore (m := 6) rfl (am_k91 (by omega)) (by omega) (by omega) (by omega) ?_
    show am_E _ _ _ 112 [(5, .inl (j : Int)), (4, .inl y), (3, .inl (k : Int)), (2, .inl z), (1, .inr (.inr (.inl (some 85)))), (0, .inr (.inr (.inl (some 71))))] [] (am_mm D (am_up (am_up I (91 + x) ((I 85 j)).toNat ((I (91 + x) ((I 85 j)).toNat) + z)) (91 + v) (y).toNat (((am_up I (91 + x) ((I 85 j)).toNat ((I (91 + x) ((I 85 j)).toNat) + z)) (91 + v) (y).toNat) - z)) J ρ) _
    refine am_e_ss 2 (q := (71, [(5, .inl ((j : Int) + 1)), (4, .inl y), (3, .inl (k : Int)), (2, .inl z), (1, .inr (.inr (.inl (some 85)))), (0, .inr (.inr (.inl (some 71))))], [], (am_mm D (am_up (am_up I (91 + x) ((I 85 j)).toNat ((I (91 + x) ((I 85 j)).toNat) + z)) (91 + v) (y).toNat (((am_up I (91 + x) ((I 85 j)).toNat ((I (91 + x) ((I 85 j)).toNat) + z)) (91 + v) (y).toNat) - z)) J ρ))) rfl ?_
    have hvj := fun b : Nat => sp_pl_k (b := b) h6 hn (show j < L.length by omega)
    have hxk := fun b : Nat => sp_pl_k (b := b) h6 hn hk
    have eiv : ((I 85 j)).toNat = v := by omega
    have eiy : (y).toNat = x := by omega
    have hsec : (am_up I (91 + x) ((I 85 j)).toNat (((I (91 + x) ((I 85 j)).toNat) + z))) (91 + v) (y).toNat = I (91 + v) x := by rw [eiy]; exact am_up_ne2 (by omega)
    have e4 : ∀ a b : Nat, a < 6 → b < 6 → (am_up (am_up I (91 + x) ((I 85 j)).toNat ((I (91 + x) ((I 85 j)).toNat) + z)) (91 + v) (y).toNat (((am_up I (91 + x) ((I 85 j)).toNat ((I (91 + x) ((I 85 j)).toNat) + z)) (91 + v) (y).toNat) - z)) (91 + a) b = E (91 + a) b + z * sp_ld2 L (k : Int) ((j + 1 : Nat) : Int) a b := by
      intro a b ha hb
      have pab := pld a b ha hb
      have ba := sp_pl_b (b := (a : Int)) h6
      have bb := sp_pl_b (b := (b : Int)) h6
      have ja := hvj a
      have jb := hvj b
      have ka := hxk a
      have kb := hxk b
      rw [← hv] at ja jb
      rw [← hx] at ka kb
      by_cases e1 : a = v ∧ b = x
      · obtain ⟨ea, eb⟩ := e1
        rw [ea] at ba ja
        rw [eb] at bb kb
        rw [ea, eb] at pab ⊢
        rw [show (am_up (am_up I (91 + x) ((I 85 j)).toNat ((I (91 + x) ((I 85 j)).toNat) + z)) (91 + v) (y).toNat (((am_up I (91 + x) ((I 85 j)).toNat ((I (91 + x) ((I 85 j)).toNat) + z)) (91 + v) (y).toNat) - z)) (91 + v) x = (((am_up I (91 + x) ((I 85 j)).toNat ((I (91 + x) ((I 85 j)).toNat) + z)) (91 + v) (y).toNat) - z) from by rw [← eiy]; exact am_up_at2]
        have hj1 := ja.mpr rfl
        have hk1 := kb.mpr rfl
        rw [show sp_ld2 L (k : Int) ((j + 1 : Nat) : Int) v x = -1 by (unfold sp_ld2; rw [if_neg (by omega), if_pos (by omega)])]
        rw [show sp_ld2 L (k : Int) (j : Int) v x = 0 by (unfold sp_ld2; rw [if_neg (by omega), if_neg (by omega)])] at pab
        rcases hz with rfl | rfl <;> omega
      · by_cases e2 : a = x ∧ b = v
        · obtain ⟨ea, eb⟩ := e2
          rw [ea] at ba ka
          rw [eb] at bb jb
          rw [ea, eb] at pab ⊢
          rw [show (am_up (am_up I (91 + x) ((I 85 j)).toNat ((I (91 + x) ((I 85 j)).toNat) + z)) (91 + v) (y).toNat (((am_up I (91 + x) ((I 85 j)).toNat ((I (91 + x) ((I 85 j)).toNat) + z)) (91 + v) (y).toNat) - z)) (91 + x) v = ((I (91 + x) ((I 85 j)).toNat) + z) from (am_up_ne2 (by omega)).trans (by rw [← eiv]; exact am_up_at2)]
          have hj1 := jb.mpr rfl
          have hk1 := ka.mpr rfl
          rw [eiv, show sp_ld2 L (k : Int) ((j + 1 : Nat) : Int) x v = 1 by (unfold sp_ld2; rw [if_pos (by omega)])]
          rw [show sp_ld2 L (k : Int) (j : Int) x v = 0 by (unfold sp_ld2; rw [if_neg (by omega), if_neg (by omega)])] at pab
          rcases hz with rfl | rfl <;> omega
        · rw [show (am_up (am_up I (91 + x) ((I 85 j)).toNat ((I (91 + x) ((I 85 j)).toNat) + z)) (91 + v) (y).toNat (((am_up I (91 + x) ((I 85 j)).toNat ((I (91 + x) ((I 85 j)).toNat) + z)) (91 + v) (y).toNat) - z)) (91 + a) b = I (91 + a) b from (am_up_ne2 (by omega)).trans (am_up_ne2 (by omega)), pab]
          rw [show sp_ld2 L (k : Int) ((j + 1 : Nat) : Int) a b = sp_ld2 L (k : Int) (j : Int) a b by (unfold sp_ld2; (repeat' split) <;> first | rfl | (exfalso; omega))]
    have e7 : ∀ b : Nat, b < 6 → (am_up (am_up I (91 + x) ((I 85 j)).toNat ((I (91 + x) ((I 85 j)).toNat) + z)) (91 + v) (y).toNat (((am_up I (91 + x) ((I 85 j)).toNat ((I (91 + x) ((I 85 j)).toNat) + z)) (91 + v) (y).toNat) - z)) 87 b = E 87 b + z * (if sp_pl L (b : Int) ≤ (k : Int) ∧ sp_pl L (b : Int) < 2 then 1 else 0) := fun b hb => (am_up_ne2 (by omega)).trans ((am_up_ne2 (by omega)).trans (p87 b hb))
    have e8 : ∀ b : Nat, b < 6 → (am_up (am_up I (91 + x) ((I 85 j)).toNat ((I (91 + x) ((I 85 j)).toNat) + z)) (91 + v) (y).toNat (((am_up I (91 + x) ((I 85 j)).toNat ((I (91 + x) ((I 85 j)).toNat) + z)) (91 + v) (y).toNat) - z)) 88 b = E 88 b + z * (if sp_pl L (b : Int) ≤ (k : Int) then (L.length : Int) - 1 - sp_pl L (b : Int) else 0) := fun b hb => (am_up_ne2 (by omega)).trans ((am_up_ne2 (by omega)).trans (p88 b hb))
    have e9 : ∀ b : Nat, b < 6 → (am_up (am_up I (91 + x) ((I 85 j)).toNat ((I (91 + x) ((I 85 j)).toNat) + z)) (91 + v) (y).toNat (((am_up I (91 + x) ((I 85 j)).toNat ((I (91 + x) ((I 85 j)).toNat) + z)) (91 + v) (y).toNat) - z)) 89 b = E 89 b + z * (if sp_pl L (b : Int) = 0 then 1 else 0) := fun b hb => (am_up_ne2 (by omega)).trans ((am_up_ne2 (by omega)).trans (p89 b hb))
    have er : am_rowl ((am_up (am_up I (91 + x) ((I 85 j)).toNat ((I (91 + x) ((I 85 j)).toNat) + z)) (91 + v) (y).toNat (((am_up I (91 + x) ((I 85 j)).toNat ((I (91 + x) ((I 85 j)).toNat) + z)) (91 + v) (y).toNat) - z)) 85) 0 L := am_rowl_cg hrow (fun i hi => (am_up_ne2 (by omega)).trans (am_up_ne2 (by omega)))
    have eh : (am_up (am_up I (91 + x) ((I 85 j)).toNat ((I (91 + x) ((I 85 j)).toNat) + z)) (91 + v) (y).toNat (((am_up I (91 + x) ((I 85 j)).toNat ((I (91 + x) ((I 85 j)).toNat) + z)) (91 + v) (y).toNat) - z)) 71 3 = (L.length : Int) := (am_up_ne2 (by omega)).trans ((am_up_ne2 (by omega)).trans h71)
    refine (am_less (lv := [(5, .inl ((j + 1) : Int)), (4, .inl y), (3, .inl (k : Int)), (2, .inl z), (1, .inr (.inr (.inl (some 85)))), (0, .inr (.inr (.inl (some 71))))]) rfl (List.forall_mem_cons.mpr ⟨rfl, List.forall_mem_cons.mpr ⟨rfl, List.forall_mem_cons.mpr ⟨rfl, List.forall_mem_cons.mpr ⟨rfl, List.forall_mem_cons.mpr ⟨rfl, List.forall_mem_cons.mpr ⟨rfl, List.forall_mem_nil _⟩⟩⟩⟩⟩⟩) (c_tally_85_l (I := am_up (am_up I (91 + x) ((I 85 j)).toNat ((I (91 + x) ((I 85 j)).toNat) + z)) (91 + v) (y).toNat (((am_up I (91 + x) ((I 85 j)).toNat ((I (91 + x) ((I 85 j)).toNat) + z)) (91 + v) (y).toNat) - z)) d (E := E) (k := k) (j := j + 1) (x := x) hz eh h6 hn hx6 er hk (by omega) hx hyx e7 e8 e9 e4)).imp ?_
    rintro q ⟨Q9, rfl, h9⟩
    exact ⟨Q9, am_r_wk uT (am_k_up (by unfold uT; simp; omega) (am_k_up (by unfold uT; simp; omega) (am_k_id))), h9⟩
termination_by (8 * (7 - k) + (7 - j))
decreasing_by all_goals omega
theorem c_tally_85 {X : Nat × (Nat → Int)} {D : List (Nat × Nat)} {I J : Nat → Nat → Int} {ρ : Nat → Nat → Option Nat} (d : Nat) {z : Int} {L : List Nat} (hz : z = 1 ∨ z = -1) (h71 : I 71 3 = (L.length : Int)) (h6 : L.length ≤ 6) (hn : L.Nodup) (hx6 : ∀ x ∈ L, x < 6) (hrow : am_rowl (I 85) 0 L)  : am_E X d 76 0 [(0, .inr (.inr (.inl (some 71)))), (1, .inr (.inr (.inl (some 85)))), (2, .inl z)] [] (am_mm D I J ρ) (fun q => ∃ Q, q = (none, am_mm D (am_wp uT I Q) J ρ) ∧ c_talQ I Q z L) := by
  refine am_e_ss 5 (q := (7, [(3, .inl 0), (0, .inr (.inr (.inl (some 71)))), (1, .inr (.inr (.inl (some 85)))), (2, .inl z)], [.inl ((I 71 3)), .inl 0], (am_mm D I J ρ))) rfl ?_
  refine am_e_icmp2 rfl ⟨by omega, by omega⟩ ⟨by omega, by omega⟩ (fun (hw1 : (I 71 3) ≤ 0) => ?_) (fun (hw1 : ¬ ((I 71 3) ≤ 0)) => ?_)
  · show am_E _ _ _ 124 [(3, .inl 0), (0, .inr (.inr (.inl (some 71)))), (1, .inr (.inr (.inl (some 85)))), (2, .inl z)] [] (am_mm D I J ρ) _
    refine am_e_return rfl rfl ?_
    have e0 : L = [] := List.eq_nil_of_length_eq_zero (by omega)
    subst e0
    refine ⟨I, am_r_wp uT am_k_id, ?_, ?_⟩
    · intro b hb
      refine ⟨?_, ?_, ?_⟩ <;> (show _ = _ + z * 0) <;> omega
    · intro a b ha hb
      show _ = _ + z * 0
      omega
  · show am_E _ _ _ 10 [(3, .inl 0), (0, .inr (.inr (.inl (some 71)))), (1, .inr (.inr (.inl (some 85)))), (2, .inl z)] [] (am_mm D I J ρ) _
    have hru := hrow 0 _ (List.getElem?_eq_getElem (show 0 < L.length by omega))
    rw [Nat.zero_add] at hru
    have hru6 := hx6 _ (List.getElem_mem (show 0 < L.length by omega))
    refine am_e_ss 8 (q := (22, [(4, .inl ((I 85 0))), (3, .inl 0), (0, .inr (.inr (.inl (some 71)))), (1, .inr (.inr (.inl (some 85)))), (2, .inl z)], [.inl ((I 85 0)), .inr (.inr (.inl (some 88))), .inl ((I 85 0)), .inr (.inr (.inl (some 88)))], (am_mm D I J ρ))) rfl ?_
    refine am_e_iaload (m := 6) rfl rfl (by omega) (by omega) (by omega) ?_
    show am_E _ _ _ 23 [(4, .inl ((I 85 0))), (3, .inl 0), (0, .inr (.inr (.inl (some 71)))), (1, .inr (.inr (.inl (some 85)))), (2, .inl z)] [.inl ((I 88 ((I 85 0)).toNat)), .inl ((I 85 0)), .inr (.inr (.inl (some 88)))] (am_mm D I J ρ) _
    refine am_e_ss 9 (q := (34, [(4, .inl ((I 85 0))), (3, .inl 0), (0, .inr (.inr (.inl (some 71)))), (1, .inr (.inr (.inl (some 85)))), (2, .inl z)], [.inl ((I 88 ((I 85 0)).toNat) + (z * (((I 71 3) - 1) - 0))), .inl ((I 85 0)), .inr (.inr (.inl (some 88)))], (am_mm D I J ρ))) rfl ?_
    refine am_e_iastore (m := 6) rfl rfl (by omega) (by omega) (by omega) ?_
    show am_E _ _ _ 35 [(4, .inl ((I 85 0))), (3, .inl 0), (0, .inr (.inr (.inl (some 71)))), (1, .inr (.inr (.inl (some 85)))), (2, .inl z)] [] (am_mm D (am_up I 88 ((I 85 0)).toNat ((I 88 ((I 85 0)).toNat) + (z * (((I 71 3) - 1) - 0)))) J ρ) _
    refine am_e_ss 1 (q := (36, [(4, .inl ((I 85 0))), (3, .inl 0), (0, .inr (.inr (.inl (some 71)))), (1, .inr (.inr (.inl (some 85)))), (2, .inl z)], [.inl 0], (am_mm D (am_up I 88 ((I 85 0)).toNat ((I 88 ((I 85 0)).toNat) + (z * (((I 71 3) - 1) - 0)))) J ρ))) rfl ?_
    refine am_e_s (q := (39, [(4, .inl ((I 85 0))), (3, .inl 0), (0, .inr (.inr (.inl (some 71)))), (1, .inr (.inr (.inl (some 85)))), (2, .inl z)], [], (am_mm D (am_up I 88 ((I 85 0)).toNat ((I 88 ((I 85 0)).toNat) + (z * (((I 71 3) - 1) - 0)))) J ρ))) rfl rfl ?_
    refine am_e_ss 4 (q := (46, [(4, .inl ((I 85 0))), (3, .inl 0), (0, .inr (.inr (.inl (some 71)))), (1, .inr (.inr (.inl (some 85)))), (2, .inl z)], [.inl ((I 85 0)), .inr (.inr (.inl (some 89))), .inl ((I 85 0)), .inr (.inr (.inl (some 89)))], (am_mm D (am_up I 88 ((I 85 0)).toNat ((I 88 ((I 85 0)).toNat) + (z * (((I 71 3) - 1) - 0)))) J ρ))) rfl ?_
    refine am_e_iaload (m := 6) rfl rfl (by omega) (by omega) (by omega) ?_
    show am_E _ _ _ 47 [(4, .inl ((I 85 0))), (3, .inl 0), (0, .inr (.inr (.inl (some 71)))), (1, .inr (.inr (.inl (some 85)))), (2, .inl z)] [.inl ((I 89 ((I 85 0)).toNat)), .inl ((I 85 0)), .inr (.inr (.inl (some 89)))] (am_mm D (am_up I 88 ((I 85 0)).toNat ((I 88 ((I 85 0)).toNat) + (z * (((I 71 3) - 1) - 0)))) J ρ) _
    refine am_e_ss 2 (q := (49, [(4, .inl ((I 85 0))), (3, .inl 0), (0, .inr (.inr (.inl (some 71)))), (1, .inr (.inr (.inl (some 85)))), (2, .inl z)], [.inl ((I 89 ((I 85 0)).toNat) + z), .inl ((I 85 0)), .inr (.inr (.inl (some 89)))], (am_mm D (am_up I 88 ((I 85 0)).toNat ((I 88 ((I 85 0)).toNat) + (z * (((I 71 3) - 1) - 0)))) J ρ))) rfl ?_
    refine am_e_iastore (m := 6) rfl rfl (by omega) (by omega) (by omega) ?_
    show am_E _ _ _ 50 [(4, .inl ((I 85 0))), (3, .inl 0), (0, .inr (.inr (.inl (some 71)))), (1, .inr (.inr (.inl (some 85)))), (2, .inl z)] [] (am_mm D (am_up (am_up I 88 ((I 85 0)).toNat ((I 88 ((I 85 0)).toNat) + (z * (((I 71 3) - 1) - 0)))) 89 ((I 85 0)).toNat ((I 89 ((I 85 0)).toNat) + z)) J ρ) _
    refine am_e_ss 2 (q := (52, [(4, .inl ((I 85 0))), (3, .inl 0), (0, .inr (.inr (.inl (some 71)))), (1, .inr (.inr (.inl (some 85)))), (2, .inl z)], [.inl 2, .inl 0], (am_mm D (am_up (am_up I 88 ((I 85 0)).toNat ((I 88 ((I 85 0)).toNat) + (z * (((I 71 3) - 1) - 0)))) 89 ((I 85 0)).toNat ((I 89 ((I 85 0)).toNat) + z)) J ρ))) rfl ?_
    refine am_e_s (q := (55, [(4, .inl ((I 85 0))), (3, .inl 0), (0, .inr (.inr (.inl (some 71)))), (1, .inr (.inr (.inl (some 85)))), (2, .inl z)], [], (am_mm D (am_up (am_up I 88 ((I 85 0)).toNat ((I 88 ((I 85 0)).toNat) + (z * (((I 71 3) - 1) - 0)))) 89 ((I 85 0)).toNat ((I 89 ((I 85 0)).toNat) + z)) J ρ))) rfl rfl ?_
    refine am_e_ss 4 (q := (62, [(4, .inl ((I 85 0))), (3, .inl 0), (0, .inr (.inr (.inl (some 71)))), (1, .inr (.inr (.inl (some 85)))), (2, .inl z)], [.inl ((I 85 0)), .inr (.inr (.inl (some 87))), .inl ((I 85 0)), .inr (.inr (.inl (some 87)))], (am_mm D (am_up (am_up I 88 ((I 85 0)).toNat ((I 88 ((I 85 0)).toNat) + (z * (((I 71 3) - 1) - 0)))) 89 ((I 85 0)).toNat ((I 89 ((I 85 0)).toNat) + z)) J ρ))) rfl ?_
    refine am_e_iaload (m := 6) rfl rfl (by omega) (by omega) (by omega) ?_
    show am_E _ _ _ 63 [(4, .inl ((I 85 0))), (3, .inl 0), (0, .inr (.inr (.inl (some 71)))), (1, .inr (.inr (.inl (some 85)))), (2, .inl z)] [.inl ((I 87 ((I 85 0)).toNat)), .inl ((I 85 0)), .inr (.inr (.inl (some 87)))] (am_mm D (am_up (am_up I 88 ((I 85 0)).toNat ((I 88 ((I 85 0)).toNat) + (z * (((I 71 3) - 1) - 0)))) 89 ((I 85 0)).toNat ((I 89 ((I 85 0)).toNat) + z)) J ρ) _
    refine am_e_ss 2 (q := (65, [(4, .inl ((I 85 0))), (3, .inl 0), (0, .inr (.inr (.inl (some 71)))), (1, .inr (.inr (.inl (some 85)))), (2, .inl z)], [.inl ((I 87 ((I 85 0)).toNat) + z), .inl ((I 85 0)), .inr (.inr (.inl (some 87)))], (am_mm D (am_up (am_up I 88 ((I 85 0)).toNat ((I 88 ((I 85 0)).toNat) + (z * (((I 71 3) - 1) - 0)))) 89 ((I 85 0)).toNat ((I 89 ((I 85 0)).toNat) + z)) J ρ))) rfl ?_
    refine am_e_iastore (m := 6) rfl rfl (by omega) (by omega) (by omega) ?_
    show am_E _ _ _ 66 [(4, .inl ((I 85 0))), (3, .inl 0), (0, .inr (.inr (.inl (some 71)))), (1, .inr (.inr (.inl (some 85)))), (2, .inl z)] [] (am_mm D (am_up (am_up (am_up I 88 ((I 85 0)).toNat ((I 88 ((I 85 0)).toNat) + (z * (((I 71 3) - 1) - 0)))) 89 ((I 85 0)).toNat ((I 89 ((I 85 0)).toNat) + z)) 87 ((I 85 0)).toNat ((I 87 ((I 85 0)).toNat) + z)) J ρ) _
    refine am_e_ss 4 (q := (71, [(5, .inl (0 + 1)), (4, .inl ((I 85 0))), (3, .inl 0), (0, .inr (.inr (.inl (some 71)))), (1, .inr (.inr (.inl (some 85)))), (2, .inl z)], [], (am_mm D (am_up (am_up (am_up I 88 ((I 85 0)).toNat ((I 88 ((I 85 0)).toNat) + (z * (((I 71 3) - 1) - 0)))) 89 ((I 85 0)).toNat ((I 89 ((I 85 0)).toNat) + z)) 87 ((I 85 0)).toNat ((I 87 ((I 85 0)).toNat) + z)) J ρ))) rfl ?_
    have g7 : ∀ b, I 87 b = I 87 b := fun b => rfl
    have g8 : ∀ b, I 88 b = I 88 b := fun b => rfl
    have g9 : ∀ b, I 89 b = I 89 b := fun b => rfl
    have gl : ∀ a b, I (91 + a) b = I (91 + a) b := fun a b => rfl
    have hk : 0 < L.length := by omega
    obtain ⟨u, hu⟩ : ∃ u, u = L[0] := ⟨_, rfl⟩
    have huy := hrow 0 _ (List.getElem?_eq_getElem hk)
    rw [Nat.zero_add, ← hu] at huy
    have hu6 : u < 6 := by rw [hu]; exact hx6 _ (List.getElem_mem _)
    have huk := fun b : Nat => sp_pl_k (b := b) h6 hn hk
    have eu : ((I 85 0)).toNat = u := by omega
    have e7 : ∀ b : Nat, b < 6 → (am_up (am_up (am_up I 88 ((I 85 0)).toNat ((I 88 ((I 85 0)).toNat) + (z * (((I 71 3) - 1) - 0)))) 89 ((I 85 0)).toNat ((I 89 ((I 85 0)).toNat) + z)) 87 ((I 85 0)).toNat ((I 87 ((I 85 0)).toNat) + z)) 87 b = I 87 b + z * (if sp_pl L (b : Int) ≤ ((0 : Nat) : Int) ∧ sp_pl L (b : Int) < 2 then 1 else 0) := by
      intro b hb
      have bb := sp_pl_b (b := (b : Int)) h6
      have ub := huk b
      rw [← hu] at ub
      have ob : I 87 b = I 87 b := g7 b
      by_cases e : b = u
      · subst e
        have hb1 := ub.mpr rfl
        rw [show (am_up (am_up (am_up I 88 ((I 85 0)).toNat ((I 88 ((I 85 0)).toNat) + (z * (((I 71 3) - 1) - 0)))) 89 ((I 85 0)).toNat ((I 89 ((I 85 0)).toNat) + z)) 87 ((I 85 0)).toNat ((I 87 ((I 85 0)).toNat) + z)) 87 b = ((I 87 ((I 85 0)).toNat) + z) from (by rw [← eu]; exact am_up_at2), eu]
        rcases hz with rfl | rfl <;> (repeat' split at *) <;> first | omega | (exfalso; omega)
      · rw [show (am_up (am_up (am_up I 88 ((I 85 0)).toNat ((I 88 ((I 85 0)).toNat) + (z * (((I 71 3) - 1) - 0)))) 89 ((I 85 0)).toNat ((I 89 ((I 85 0)).toNat) + z)) 87 ((I 85 0)).toNat ((I 87 ((I 85 0)).toNat) + z)) 87 b = I 87 b from (am_up_ne2 (by omega)).trans ((am_up_ne2 (by omega)).trans ((am_up_ne2 (by omega))))]
        rcases hz with rfl | rfl <;> (repeat' split at *) <;> first | omega | (exfalso; omega)
    have e8 : ∀ b : Nat, b < 6 → (am_up (am_up (am_up I 88 ((I 85 0)).toNat ((I 88 ((I 85 0)).toNat) + (z * (((I 71 3) - 1) - 0)))) 89 ((I 85 0)).toNat ((I 89 ((I 85 0)).toNat) + z)) 87 ((I 85 0)).toNat ((I 87 ((I 85 0)).toNat) + z)) 88 b = I 88 b + z * (if sp_pl L (b : Int) ≤ ((0 : Nat) : Int) then (L.length : Int) - 1 - sp_pl L (b : Int) else 0) := by
      intro b hb
      have bb := sp_pl_b (b := (b : Int)) h6
      have ub := huk b
      rw [← hu] at ub
      have ob : I 88 b = I 88 b := g8 b
      by_cases e : b = u
      · subst e
        have hb1 := ub.mpr rfl
        rw [show (am_up (am_up (am_up I 88 ((I 85 0)).toNat ((I 88 ((I 85 0)).toNat) + (z * (((I 71 3) - 1) - 0)))) 89 ((I 85 0)).toNat ((I 89 ((I 85 0)).toNat) + z)) 87 ((I 85 0)).toNat ((I 87 ((I 85 0)).toNat) + z)) 88 b = ((I 88 ((I 85 0)).toNat) + (z * (((I 71 3) - 1) - 0))) from (am_up_ne2 (by omega)).trans ((am_up_ne2 (by omega)).trans ((by rw [← eu]; exact am_up_at2))), eu]
        rcases hz with rfl | rfl <;> (repeat' split at *) <;> first | omega | (exfalso; omega)
      · rw [show (am_up (am_up (am_up I 88 ((I 85 0)).toNat ((I 88 ((I 85 0)).toNat) + (z * (((I 71 3) - 1) - 0)))) 89 ((I 85 0)).toNat ((I 89 ((I 85 0)).toNat) + z)) 87 ((I 85 0)).toNat ((I 87 ((I 85 0)).toNat) + z)) 88 b = I 88 b from (am_up_ne2 (by omega)).trans ((am_up_ne2 (by omega)).trans ((am_up_ne2 (by omega))))]
        rcases hz with rfl | rfl <;> (repeat' split at *) <;> first | omega | (exfalso; omega)
    have e9 : ∀ b : Nat, b < 6 → (am_up (am_up (am_up I 88 ((I 85 0)).toNat ((I 88 ((I 85 0)).toNat) + (z * (((I 71 3) - 1) - 0)))) 89 ((I 85 0)).toNat ((I 89 ((I 85 0)).toNat) + z)) 87 ((I 85 0)).toNat ((I 87 ((I 85 0)).toNat) + z)) 89 b = I 89 b + z * (if sp_pl L (b : Int) = 0 then 1 else 0) := by
      intro b hb
      have bb := sp_pl_b (b := (b : Int)) h6
      have ub := huk b
      rw [← hu] at ub
      have ob : I 89 b = I 89 b := g9 b
      by_cases e : b = u
      · subst e
        have hb1 := ub.mpr rfl
        rw [show (am_up (am_up (am_up I 88 ((I 85 0)).toNat ((I 88 ((I 85 0)).toNat) + (z * (((I 71 3) - 1) - 0)))) 89 ((I 85 0)).toNat ((I 89 ((I 85 0)).toNat) + z)) 87 ((I 85 0)).toNat ((I 87 ((I 85 0)).toNat) + z)) 89 b = ((I 89 ((I 85 0)).toNat) + z) from (am_up_ne2 (by omega)).trans ((by rw [← eu]; exact am_up_at2)), eu]
        rcases hz with rfl | rfl <;> (repeat' split at *) <;> first | omega | (exfalso; omega)
      · rw [show (am_up (am_up (am_up I 88 ((I 85 0)).toNat ((I 88 ((I 85 0)).toNat) + (z * (((I 71 3) - 1) - 0)))) 89 ((I 85 0)).toNat ((I 89 ((I 85 0)).toNat) + z)) 87 ((I 85 0)).toNat ((I 87 ((I 85 0)).toNat) + z)) 89 b = I 89 b from (am_up_ne2 (by omega)).trans ((am_up_ne2 (by omega)).trans ((am_up_ne2 (by omega))))]
        rcases hz with rfl | rfl <;> (repeat' split at *) <;> first | omega | (exfalso; omega)
    have e4 : ∀ a b : Nat, a < 6 → b < 6 → (am_up (am_up (am_up I 88 ((I 85 0)).toNat ((I 88 ((I 85 0)).toNat) + (z * (((I 71 3) - 1) - 0)))) 89 ((I 85 0)).toNat ((I 89 ((I 85 0)).toNat) + z)) 87 ((I 85 0)).toNat ((I 87 ((I 85 0)).toNat) + z)) (91 + a) b = I (91 + a) b + z * sp_ld2 L ((0 : Nat) : Int) ((0 + 1 : Nat) : Int) a b := by
      intro a b ha hb
      rw [show (am_up (am_up (am_up I 88 ((I 85 0)).toNat ((I 88 ((I 85 0)).toNat) + (z * (((I 71 3) - 1) - 0)))) 89 ((I 85 0)).toNat ((I 89 ((I 85 0)).toNat) + z)) 87 ((I 85 0)).toNat ((I 87 ((I 85 0)).toNat) + z)) (91 + a) b = I (91 + a) b from (am_up_ne2 (by omega)).trans ((am_up_ne2 (by omega)).trans ((am_up_ne2 (by omega)))), show sp_ld2 L ((0 : Nat) : Int) ((0 + 1 : Nat) : Int) a b = 0 from sp_ld2_0 h6, gl a b]
      omega
    refine (am_less (lv := [(5, .inl ((0 + 1) : Int)), (4, .inl ((I 85 0))), (3, .inl (0 : Int)), (2, .inl z), (1, .inr (.inr (.inl (some 85)))), (0, .inr (.inr (.inl (some 71))))]) rfl (List.forall_mem_cons.mpr ⟨rfl, List.forall_mem_cons.mpr ⟨rfl, List.forall_mem_cons.mpr ⟨rfl, List.forall_mem_cons.mpr ⟨rfl, List.forall_mem_cons.mpr ⟨rfl, List.forall_mem_cons.mpr ⟨rfl, List.forall_mem_nil _⟩⟩⟩⟩⟩⟩) (c_tally_85_l (I := am_up (am_up (am_up I 88 ((I 85 0)).toNat ((I 88 ((I 85 0)).toNat) + (z * (((I 71 3) - 1) - 0)))) 89 ((I 85 0)).toNat ((I 89 ((I 85 0)).toNat) + z)) 87 ((I 85 0)).toNat ((I 87 ((I 85 0)).toNat) + z)) d (E := I) (k := 0) (j := 0 + 1) (x := u) hz h71 h6 hn hx6 hrow hk (by omega) hu huy e7 e8 e9 e4)).imp ?_
    rintro q ⟨Q9, rfl, h9⟩
    exact ⟨Q9, am_r_wk uT (am_k_up rfl (am_k_up rfl (am_k_up rfl (am_k_id)))), h9⟩
