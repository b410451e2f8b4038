/-! THE CLASS: the whole text -/
def k_pR (I0 K : Nat → Nat → Int) (hs : Nat → Int) (z c : Nat) : Nat × Option (List ps_C) → Prop
  | (q, none) => (∀ k j, k_p2 c k → K k j = I0 k j) ∧ K c 1 = (q : Int)
  | (q, some cs) => k_ct I0 K hs z c cs q ∧ K c 2 = (cs.length : Int)
theorem k_ct_0 {I : Nat → Nat → Int} {hs : Nat → Int} {z c : Nat} (hc : 18 ≤ c) (hz1 : z ≤ 100) (th : ∀ i, i < z → I 17 i = hs i) (te : ∀ i, z ≤ i → hs i = -1) (tb : ∀ i, -1 ≤ hs i ∧ hs i ≤ 127) : k_ct I (am_up (am_up (am_up (am_up (am_up I c 9 (z : Int)) c 1 0) c 0 5) c 2 0) c 3 0) hs z c [] 0 := by
  refine ⟨fun k j hk => ?_, ⟨?_, ?_, hz1, Nat.zero_le _, fun i hi => ?_, te, tb⟩, hc, ?_, fun i hi => by simp at hi, am_up_at2, fun i hi => by simp [ps_codes] at hi, Nat.le_refl _⟩
  · unfold k_p2 at hk
    rw [am_up_ne2 (by omega), am_up_ne2 (by omega), am_up_ne2 (by omega), am_up_ne2 (by omega), am_up_ne2 (by omega)]
  · rw [am_up_ne2 (by omega), am_up_ne2 (by omega), am_up_ne2 (by omega), am_up_at2]; rfl
  · rw [am_up_ne2 (by omega), am_up_ne2 (by omega), am_up_ne2 (by omega), am_up_ne2 (by omega), am_up_at2]
  · rw [am_up_ne2 (by omega), am_up_ne2 (by omega), am_up_ne2 (by omega), am_up_ne2 (by omega), am_up_ne2 (by omega)]; exact th i hi
  · rw [am_up_ne2 (by omega), am_up_ne2 (by omega), am_up_at2]; rfl
theorem am_mut_ge {c i : Nat} (h : 124 ≤ c) : am_mut c i = true := by
  have hb : Nat.ble 124 c = true := Nat.ble_eq_true_of_le h
  unfold am_mut
  split <;> first | exact hb | (exfalso; omega)
theorem am_mut_8 {c : Nat} (h : c = 102 ∨ 124 ≤ c) : am_mut c 8 = true := by
  rcases h with rfl | h
  · rfl
  · exact am_mut_ge h
theorem k_sh_up {D : List (Nat × Nat)} {ρ : Nat → Nat → Option Nat} {c : Nat} (h : c_clk D ρ c) (hmu : am_mut c 8 = true) : k_sh D (am_up ρ c 8 (some 17)) c := by
  obtain ⟨h1, h2, h3, h4, h5⟩ := h
  have e : ∀ j, j ≠ 8 → am_Rf (am_up ρ c 8 (some 17)) c j = am_Rf ρ c j := fun j hj => am_Rf_cg (if_neg (by omega))
  refine ⟨⟨h1, (e 4 (by omega)).trans h2, (e 5 (by omega)).trans h3, (e 6 (by omega)).trans h4, (e 7 (by omega)).trans h5⟩, ?_⟩
  show (if am_mut c 8 = true then am_up ρ c 8 (some 17) c 8 else _) = some 17
  rw [if_pos hmu]
  exact if_pos ⟨rfl, rfl⟩
theorem k_parse_l {X : Nat × (Nat → Int)} {D : List (Nat × Nat)} {I J : Nat → Nat → Int} {ρ : Nat → Nat → Option Nat} (d : Nat) {I0 : Nat → Nat → Int} {hs : Nat → Int} {z c p i n : Nat} {cs : List ps_C} (hsh : k_sh D ρ c) (hct : k_ct I0 I hs z c cs p) (hil : i = cs.length) (hin : i + n = 10) (hn1 : 1 ≤ n) : am_E X (d + 19) 6 37 [(3, .inl (i : Int)), (0, .inr (.inr (.inl (some c))))] [] (am_mm D I J ρ) (fun r => ∃ K, r = (some (.inl (am_bi ((pt_cs hs z n p cs).2.isSome = true))), am_mm D K J ρ) ∧ k_pR I0 K hs z c (pt_cs hs z n p cs)) := by
  have hclk0 := hsh.1
  have hr8 := hsh.2
  have hclk := hclk0
  obtain ⟨⟨hsc, hs1, hs2, hs3, hs4⟩, hr1, hr2, hr3, hr4⟩ := hclk
  refine am_e_ss 2 (q := (40, [(3, .inl (i : Int)), (0, .inr (.inr (.inl (some c))))], [.inl 10, .inl (i : Int)], (am_mm D I J ρ))) rfl ?_
  refine am_e_icmp2 rfl ⟨by omega, by omega⟩ ⟨by omega, by omega⟩ (fun (hw1 : 10 ≤ (i : Int)) => ?_) (fun (hw1 : ¬ (10 ≤ (i : Int))) => ?_)
  · show am_E _ _ _ 96 [(3, .inl (i : Int)), (0, .inr (.inr (.inl (some c))))] [] (am_mm D I J ρ) _
    refine am_e_ss 1 (q := (97, [(3, .inl (i : Int)), (0, .inr (.inr (.inl (some c))))], [.inl 0], (am_mm D I J ρ))) rfl ?_
    refine am_e_ireturn rfl rfl ?_
    exfalso
    omega
  · show am_E _ _ _ 43 [(3, .inl (i : Int)), (0, .inr (.inr (.inl (some c))))] [] (am_mm D I J ρ) _
    refine am_e_ss 2 (q := (45, [(3, .inl (i : Int)), (0, .inr (.inr (.inl (some c))))], [.inl (i : Int), .inr (.inr (.inl (some c)))], (am_mm D I J ρ))) rfl ?_
    refine am_e_virtual (Q := fun r => ∃ K149, r = (some (.inl ((am_bi ((pt_cl hs p).2.isSome = true)))), (am_mm D K149 J ρ)) ∧ k_cR I0 K149 hs z c cs (pt_cl hs p)) rfl rfl (Nat.le_of_ble_eq_true rfl) (am_kd_of hsc (by decide)) rfl (Nat.le_of_ble_eq_true rfl) (Nat.le_of_ble_eq_true rfl) (k_clause _ hsh hct hil (by omega)) ?_
    rintro r ⟨K149, rfl, g149⟩
    show am_E _ _ _ 48 [(3, .inl (i : Int)), (0, .inr (.inr (.inl (some c))))] [.inl ((am_bi ((pt_cl hs p).2.isSome = true)))] (am_mm D K149 J ρ) _
    refine am_e_ifne rfl (fun hw2 => ?_) (fun hw2 => ?_)
    · show am_E _ _ _ 53 [(3, .inl (i : Int)), (0, .inr (.inr (.inl (some c))))] [] (am_mm D K149 J ρ) _
      obtain ⟨q, x, hC⟩ : ∃ q x, pt_cl hs p = (q, some x) := by
        rcases hC : pt_cl hs p with ⟨q, _ | x⟩
        · exfalso; rw [hC] at hw2; exact absurd hw2 (show ¬ (false = true) by decide)
        · exact ⟨q, x, rfl⟩
      rw [hC] at g149
      have g149 : k_ct I0 K149 hs z c (cs ++ [x]) q := g149
      show am_E _ _ _ 53 [(3, .inl (i : Int)), (0, .inr (.inr (.inl (some c))))] [] (am_mm D K149 J ρ) _
      refine am_e_ss 4 (q := (57, [(3, .inl (i : Int)), (0, .inr (.inr (.inl (some c))))], [.inl ((i : Int) + 1), .inr (.inr (.inl (some c)))], (am_mm D K149 J ρ))) rfl ?_
      refine am_e_putfield (c := 1) (m := 10) (f := 2) (M' := (am_mm D (am_up K149 c 2 ((i : Int) + 1)) J ρ)) rfl hsc rfl (by decide) (by decide) rfl ?_
      show am_E _ _ _ 60 [(3, .inl (i : Int)), (0, .inr (.inr (.inl (some c))))] [] (am_mm D (am_up K149 c 2 ((i : Int) + 1)) J ρ) _
      have g150 := k_ct_2 (v := (i : Int) + 1) g149
      have e2 : am_up K149 c 2 ((i : Int) + 1) c 2 = (i : Int) + 1 := am_up_at2
      generalize am_up K149 c 2 ((i : Int) + 1) = K150 at g150 e2 ⊢
      have q1 : K150 c 1 = (q : Int) := g150.2.1.1
      have q9 : K150 c 9 = (z : Int) := g150.2.1.2.1
      have qz := g150.2.1.2.2.1
      have qp := g150.2.1.2.2.2.1
      have tq := g150.2.1.2.2.2.2.2.2 q
      obtain ⟨n2, hn2⟩ : ∃ n2, n = n2 + 1 := ⟨n - 1, by omega⟩
      have ers : pt_cs hs z n p cs = pt_rs hs z n2 q (cs ++ [x]) := by rw [hn2, pt_cs_rs, hC]
      rw [ers]
      have hlx : (cs ++ [x]).length = i + 1 := by rw [List.length_append, List.length_singleton]; omega
      show am_E _ _ _ 60 [(3, .inl (i : Int)), (0, .inr (.inr (.inl (some c))))] [] (am_mm D K150 J ρ) _
      refine am_e_ss 1 (q := (61, [(3, .inl (i : Int)), (0, .inr (.inr (.inl (some c))))], [.inr (.inr (.inl (some c)))], (am_mm D K150 J ρ))) rfl ?_
      refine am_e_getfield (c := 1) (m := 10) (f := 1) rfl hsc rfl (by decide) (by decide) ?_
      show am_E _ _ _ 64 [(3, .inl (i : Int)), (0, .inr (.inr (.inl (some c))))] [.inl ((K150 c 1))] (am_mm D K150 J ρ) _
      refine am_e_ss 1 (q := (65, [(3, .inl (i : Int)), (0, .inr (.inr (.inl (some c))))], [.inr (.inr (.inl (some c))), .inl ((K150 c 1))], (am_mm D K150 J ρ))) rfl ?_
      refine am_e_getfield (c := 1) (m := 10) (f := 9) rfl hsc rfl (by decide) (by decide) ?_
      show am_E _ _ _ 68 [(3, .inl (i : Int)), (0, .inr (.inr (.inl (some c))))] [.inl ((K150 c 9)), .inl ((K150 c 1))] (am_mm D K150 J ρ) _
      refine am_e_icmp2 rfl ⟨by omega, by omega⟩ ⟨by omega, by omega⟩ (fun (hw3 : ¬ (K150 c 1) = (K150 c 9)) => ?_) (fun (hw3 : ¬ (¬ (K150 c 1) = (K150 c 9))) => ?_)
      · show am_E _ _ _ 73 [(3, .inl (i : Int)), (0, .inr (.inr (.inl (some c))))] [] (am_mm D K150 J ρ) _
        refine am_e_ss 2 (q := (76, [(3, .inl (i : Int)), (0, .inr (.inr (.inl (some c))))], [.inl 9, .inl (i : Int)], (am_mm D K150 J ρ))) rfl ?_
        refine am_e_icmp2 rfl ⟨by omega, by omega⟩ ⟨by omega, by omega⟩ (fun (hw4 : (i : Int) = 9) => ?_) (fun (hw4 : ¬ ((i : Int) = 9)) => ?_)
        · show am_E _ _ _ 88 [(3, .inl (i : Int)), (0, .inr (.inr (.inl (some c))))] [] (am_mm D K150 J ρ) _
          refine am_e_ss 1 (q := (89, [(3, .inl (i : Int)), (0, .inr (.inr (.inl (some c))))], [.inl 0], (am_mm D K150 J ρ))) rfl ?_
          refine am_e_ireturn rfl rfl ?_
          rw [show pt_rs hs z n2 q (cs ++ [x]) = (q, none) by unfold pt_rs; rw [if_neg (by omega), if_pos (by omega)]]
          exact ⟨_, by rw [am_bi_no rfl], g150.1, q1⟩
        · show am_E _ _ _ 79 [(3, .inl (i : Int)), (0, .inr (.inr (.inl (some c))))] [] (am_mm D K150 J ρ) _
          refine am_e_ss 2 (q := (82, [(3, .inl (i : Int)), (0, .inr (.inr (.inl (some c))))], [.inl 59, .inr (.inr (.inl (some c)))], (am_mm D K150 J ρ))) rfl ?_
          refine am_e_virtual (Q := fun r => ∃ K151, r = (some (.inl ((am_bi (hs q = 59)))), (am_mm D K151 J ρ)) ∧ k_cs K150 K151 hs z c (if hs q = 59 then q + 1 else q, some (ps_codes (cs ++ [x])))) rfl rfl (Nat.le_of_ble_eq_true rfl) (am_kd_of hsc (by decide)) rfl (Nat.le_of_ble_eq_true rfl) (Nat.le_of_ble_eq_true rfl) (k_take _ hsh (k_ct_cs g150) (s := 59) (by decide)) ?_
          rintro r ⟨K151, rfl, g151⟩
          show am_E _ _ _ 85 [(3, .inl (i : Int)), (0, .inr (.inr (.inl (some c))))] [.inl ((am_bi (hs q = 59)))] (am_mm D K151 J ρ) _
          refine am_e_ifne rfl (fun hw5 => ?_) (fun hw5 => ?_)
          · show am_E _ _ _ 90 [(3, .inl (i : Int)), (0, .inr (.inr (.inl (some c))))] [] (am_mm D K151 J ρ) _
            refine am_e_ss 2 (q := (37, [(3, .inl ((i : Int) + 1)), (0, .inr (.inr (.inl (some c))))], [], (am_mm D K151 J ρ))) rfl ?_
            rw [if_pos hw5] at g151
            rw [show pt_rs hs z n2 q (cs ++ [x]) = pt_cs hs z n2 (q + 1) (cs ++ [x]) by unfold pt_rs; rw [if_neg (by omega), if_neg (by omega)]]
            exact am_less (lv := [(3, .inl ((i + 1) : Int)), (0, .inr (.inr (.inl (some c))))]) rfl (List.forall_mem_cons.mpr ⟨rfl, List.forall_mem_cons.mpr ⟨rfl, List.forall_mem_nil _⟩⟩) (k_parse_l d (i := i + 1) (n := n2) hsh (k_ct_go g150 g151) (by omega) (by omega) (by omega))
          · show am_E _ _ _ 88 [(3, .inl (i : Int)), (0, .inr (.inr (.inl (some c))))] [] (am_mm D K151 J ρ) _
            refine am_e_ss 1 (q := (89, [(3, .inl (i : Int)), (0, .inr (.inr (.inl (some c))))], [.inl 0], (am_mm D K151 J ρ))) rfl ?_
            refine am_e_ireturn rfl rfl ?_
            rw [if_neg hw5] at g151
            rw [show pt_rs hs z n2 q (cs ++ [x]) = (q, none) by unfold pt_rs; rw [if_neg (by omega), if_pos (Or.inr hw5)]]
            exact ⟨_, by rw [am_bi_no rfl], (k_ct_go g150 g151).1, g151.2.1.1⟩
      · show am_E _ _ _ 71 [(3, .inl (i : Int)), (0, .inr (.inr (.inl (some c))))] [] (am_mm D K150 J ρ) _
        refine am_e_ss 1 (q := (72, [(3, .inl (i : Int)), (0, .inr (.inr (.inl (some c))))], [.inl 1], (am_mm D K150 J ρ))) rfl ?_
        refine am_e_ireturn rfl rfl ?_
        rw [show pt_rs hs z n2 q (cs ++ [x]) = (q, some (cs ++ [x])) from if_pos (by omega)]
        exact ⟨_, by rw [am_bi_so rfl], g150, by rw [hlx]; omega⟩
    · show am_E _ _ _ 51 [(3, .inl (i : Int)), (0, .inr (.inr (.inl (some c))))] [] (am_mm D K149 J ρ) _
      refine am_e_ss 1 (q := (52, [(3, .inl (i : Int)), (0, .inr (.inr (.inl (some c))))], [.inl 0], (am_mm D K149 J ρ))) rfl ?_
      refine am_e_ireturn rfl rfl ?_
      obtain ⟨n2, hn2⟩ : ∃ n2, n = n2 + 1 := ⟨n - 1, by omega⟩
      rcases hC : pt_cl hs p with ⟨q, _ | x⟩
      · rw [hC] at g149
        rw [show pt_cs hs z n p cs = (q, none) by rw [hn2, pt_cs_rs, hC]]
        exact ⟨_, by rw [am_bi_no rfl], g149⟩
      · exfalso; rw [hC] at hw2; exact hw2 rfl
termination_by n
decreasing_by all_goals omega
theorem k_min {X : Nat × (Nat → Int)} {D : List (Nat × Nat)} {I J : Nat → Nat → Int} {ρ : Nat → Nat → Option Nat} (d : Nat) {x y : Int} (hx : 0 ≤ x ∧ x ≤ y) (hy : y ≤ 100) : am_E X d 219 0 [(0, .inl x), (1, .inl y)] [] (am_mm D I J ρ) (fun r => r = (some (.inl x), (am_mm D I J ρ))) := by
  refine am_e_ss 2 (q := (2, [(0, .inl x), (1, .inl y)], [.inl y, .inl x], (am_mm D I J ρ))) rfl ?_
  refine am_e_icmp2 rfl ⟨by omega, by omega⟩ ⟨by omega, by omega⟩ (fun (hw1 : y < x) => ?_) (fun (hw1 : ¬ (y < x)) => ?_)
  · show am_E _ _ _ 9 [(0, .inl x), (1, .inl y)] [] (am_mm D I J ρ) _
    refine am_e_ss 1 (q := (10, [(0, .inl x), (1, .inl y)], [.inl y], (am_mm D I J ρ))) rfl ?_
    refine am_e_ireturn rfl rfl ?_
    exfalso
    omega
  · show am_E _ _ _ 5 [(0, .inl x), (1, .inl y)] [] (am_mm D I J ρ) _
    refine am_e_ss 2 (q := (10, [(0, .inl x), (1, .inl y)], [.inl x], (am_mm D I J ρ))) rfl ?_
    refine am_e_ireturn rfl rfl ?_
    rfl
theorem k_parse {X : Nat × (Nat → Int)} {D : List (Nat × Nat)} {I J : Nat → Nat → Int} {ρ : Nat → Nat → Option Nat} (d : Nat) {hs : Nat → Int} {z c : Nat} (hclk0 : c_clk D ρ c) (hcc : c = 102 ∨ 124 ≤ c) (hz1 : z ≤ 100) (th : ∀ i, i < z → I 17 i = hs i) (te : ∀ i, z ≤ i → hs i = -1) (tb : ∀ i, -1 ≤ hs i ∧ hs i ≤ 127) : am_E X (d + 19) 6 0 [(0, .inr (.inr (.inl (some c)))), (1, .inr (.inr (.inl (some 17)))), (2, .inl (z : Int))] [] (am_mm D I J ρ) (fun r => ∃ K, r = (some (.inl (am_bi ((pt_cs hs z 10 0 []).2.isSome = true))), am_mm D K J (am_up ρ c 8 (some 17))) ∧ k_pR I K hs z c (pt_cs hs z 10 0 [])) := by
  have hclk := hclk0
  obtain ⟨⟨hsc, hs1, hs2, hs3, hs4⟩, hr1, hr2, hr3, hr4⟩ := hclk
  have hmu := am_mut_8 hcc
  refine am_e_ss 2 (q := (2, [(0, .inr (.inr (.inl (some c)))), (1, .inr (.inr (.inl (some 17)))), (2, .inl (z : Int))], [.inr (.inr (.inl (some 17))), .inr (.inr (.inl (some c)))], (am_mm D I J ρ))) rfl ?_
  refine am_e_putR (c := 1) (m := 10) (f := 8) rfl hsc rfl (by decide) (by decide) rfl hmu ?_
  show am_E _ _ _ 5 [(0, .inr (.inr (.inl (some c)))), (1, .inr (.inr (.inl (some 17)))), (2, .inl (z : Int))] [] (am_mm D I J (am_up ρ c 8 (some 17))) _
  refine am_e_ss 4 (q := (9, [(0, .inr (.inr (.inl (some c)))), (1, .inr (.inr (.inl (some 17)))), (2, .inl (z : Int))], [.inl 100, .inl (z : Int), .inr (.inr (.inl (some c)))], (am_mm D I J (am_up ρ c 8 (some 17))))) rfl ?_
  refine am_e_static (Q := fun r => r = (some (.inl (z : Int)), (am_mm D I J (am_up ρ c 8 (some 17))))) rfl (Nat.le_of_ble_eq_true rfl) rfl (Nat.le_of_ble_eq_true rfl) (Nat.le_of_ble_eq_true rfl) (k_min _ (x := (z : Int)) (y := 100) ⟨by omega, by omega⟩ (by omega)) ?_
  rintro r rfl
  show am_E _ _ _ 12 [(0, .inr (.inr (.inl (some c)))), (1, .inr (.inr (.inl (some 17)))), (2, .inl (z : Int))] [.inl (z : Int), .inr (.inr (.inl (some c)))] (am_mm D I J (am_up ρ c 8 (some 17))) _
  refine am_e_putfield (c := 1) (m := 10) (f := 9) (M' := (am_mm D (am_up I c 9 (z : Int)) J (am_up ρ c 8 (some 17)))) rfl hsc rfl (by decide) (by decide) rfl ?_
  show am_E _ _ _ 15 [(0, .inr (.inr (.inl (some c)))), (1, .inr (.inr (.inl (some 17)))), (2, .inl (z : Int))] [] (am_mm D (am_up I c 9 (z : Int)) J (am_up ρ c 8 (some 17))) _
  refine am_e_ss 2 (q := (17, [(0, .inr (.inr (.inl (some c)))), (1, .inr (.inr (.inl (some 17)))), (2, .inl (z : Int))], [.inl 0, .inr (.inr (.inl (some c)))], (am_mm D (am_up I c 9 (z : Int)) J (am_up ρ c 8 (some 17))))) rfl ?_
  refine am_e_putfield (c := 1) (m := 10) (f := 1) (M' := (am_mm D (am_up (am_up I c 9 (z : Int)) c 1 0) J (am_up ρ c 8 (some 17)))) rfl hsc rfl (by decide) (by decide) rfl ?_
  show am_E _ _ _ 20 [(0, .inr (.inr (.inl (some c)))), (1, .inr (.inr (.inl (some 17)))), (2, .inl (z : Int))] [] (am_mm D (am_up (am_up I c 9 (z : Int)) c 1 0) J (am_up ρ c 8 (some 17))) _
  refine am_e_ss 2 (q := (22, [(0, .inr (.inr (.inl (some c)))), (1, .inr (.inr (.inl (some 17)))), (2, .inl (z : Int))], [.inl 5, .inr (.inr (.inl (some c)))], (am_mm D (am_up (am_up I c 9 (z : Int)) c 1 0) J (am_up ρ c 8 (some 17))))) rfl ?_
  refine am_e_putfield (c := 1) (m := 10) (f := 0) (M' := (am_mm D (am_up (am_up (am_up I c 9 (z : Int)) c 1 0) c 0 5) J (am_up ρ c 8 (some 17)))) rfl hsc rfl (by decide) (by decide) rfl ?_
  show am_E _ _ _ 25 [(0, .inr (.inr (.inl (some c)))), (1, .inr (.inr (.inl (some 17)))), (2, .inl (z : Int))] [] (am_mm D (am_up (am_up (am_up I c 9 (z : Int)) c 1 0) c 0 5) J (am_up ρ c 8 (some 17))) _
  refine am_e_ss 2 (q := (27, [(0, .inr (.inr (.inl (some c)))), (1, .inr (.inr (.inl (some 17)))), (2, .inl (z : Int))], [.inl 0, .inr (.inr (.inl (some c)))], (am_mm D (am_up (am_up (am_up I c 9 (z : Int)) c 1 0) c 0 5) J (am_up ρ c 8 (some 17))))) rfl ?_
  refine am_e_putfield (c := 1) (m := 10) (f := 2) (M' := (am_mm D (am_up (am_up (am_up (am_up I c 9 (z : Int)) c 1 0) c 0 5) c 2 0) J (am_up ρ c 8 (some 17)))) rfl hsc rfl (by decide) (by decide) rfl ?_
  show am_E _ _ _ 30 [(0, .inr (.inr (.inl (some c)))), (1, .inr (.inr (.inl (some 17)))), (2, .inl (z : Int))] [] (am_mm D (am_up (am_up (am_up (am_up I c 9 (z : Int)) c 1 0) c 0 5) c 2 0) J (am_up ρ c 8 (some 17))) _
  refine am_e_ss 2 (q := (32, [(0, .inr (.inr (.inl (some c)))), (1, .inr (.inr (.inl (some 17)))), (2, .inl (z : Int))], [.inl 0, .inr (.inr (.inl (some c)))], (am_mm D (am_up (am_up (am_up (am_up I c 9 (z : Int)) c 1 0) c 0 5) c 2 0) J (am_up ρ c 8 (some 17))))) rfl ?_
  refine am_e_putfield (c := 1) (m := 10) (f := 3) (M' := (am_mm D (am_up (am_up (am_up (am_up (am_up I c 9 (z : Int)) c 1 0) c 0 5) c 2 0) c 3 0) J (am_up ρ c 8 (some 17)))) rfl hsc rfl (by decide) (by decide) rfl ?_
  show am_E _ _ _ 35 [(0, .inr (.inr (.inl (some c)))), (1, .inr (.inr (.inl (some 17)))), (2, .inl (z : Int))] [] (am_mm D (am_up (am_up (am_up (am_up (am_up I c 9 (z : Int)) c 1 0) c 0 5) c 2 0) c 3 0) J (am_up ρ c 8 (some 17))) _
  refine am_e_ss 2 (q := (37, [(3, .inl 0), (0, .inr (.inr (.inl (some c)))), (1, .inr (.inr (.inl (some 17)))), (2, .inl (z : Int))], [], (am_mm D (am_up (am_up (am_up (am_up (am_up I c 9 (z : Int)) c 1 0) c 0 5) c 2 0) c 3 0) J (am_up ρ c 8 (some 17))))) rfl ?_
  have g0 := k_ct_0 (I := I) (c := c) (by omega) hz1 th te tb
  have ee := k_parse_l (X := X) (J := J) (I := am_up (am_up (am_up (am_up (am_up I c 9 (z : Int)) c 1 0) c 0 5) c 2 0) c 3 0) d (i := 0) (n := 10) (k_sh_up hclk0 hmu) g0 rfl rfl (by decide)
  exact am_less (lv := [(3, .inl 0), (0, .inr (.inr (.inl (some c))))]) rfl (List.forall_mem_cons.mpr ⟨rfl, List.forall_mem_cons.mpr ⟨rfl, List.forall_mem_nil _⟩⟩) ee
