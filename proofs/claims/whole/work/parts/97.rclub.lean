/-! THE REFERENCE: club -/
def pt_cm (cs : List ps_C) : Int := cs.foldl (fun w x => if x.1 = 3 then x.2.1 else w) 5
theorem pt_cm_snoc {cs : List ps_C} {x : ps_C} : pt_cm (cs ++ [x]) = if x.1 = 3 then x.2.1 else pt_cm cs := by
  unfold pt_cm
  rw [List.foldl_append]; rfl
theorem ps_fl_snoc {cs : List ps_C} {x : ps_C} : ps_fl (cs ++ [x]) = ps_fl cs ++ ps_fl [x] := by
  unfold ps_fl
  rw [List.flatMap_append]
def pt_rs (h : Nat → Int) (z n p : Nat) (cs : List ps_C) : Nat × Option (List ps_C) := if p = z then (p, some cs) else if n = 0 ∨ ¬ h p = 59 then (p, none) else pt_cs h z n (p + 1) cs
theorem pt_cs_rs {h : Nat → Int} {z n p : Nat} {cs : List ps_C} : pt_cs h z (n + 1) p cs = (match pt_cl h p with
  | (q, none) => (q, none)
  | (q, some x) => pt_rs h z n q (cs ++ [x])) := rfl
def r_cend (I0 K : Nat → Nat → Int) (a : Nat) (v : Int) : Nat × Option (List ps_C) → Prop
  | (q, none) => v = -10 - (q : Int) ∧ (∀ c i, r_pk a c i → K c i = I0 c i) ∧ (0 ≤ K 108 (173 + a) ∧ K 108 (173 + a) ≤ 100) ∧ (0 ≤ K 108 (168 + a) ∧ K 108 (168 + a) ≤ 99)
  | (_, some cs) => v = (a : Int) ∧ (∀ c i, r_pk a c i → (c = 108 → i ≠ 21 ∧ i ≠ 24) → K c i = I0 c i) ∧ K 108 21 = (a : Int) + 1 ∧ K 108 24 = (a : Int) ∧ K 108 (168 + a) = pt_cm cs ∧ r_em K a (ps_fl cs)
def r_i0 (I : Nat → Nat → Int) (a z : Nat) : Nat → Nat → Int := am_up (am_up (am_up I 107 5 (a : Int)) 107 7 (z : Int)) 108 23 0
theorem r_cs_0 {I : Nat → Nat → Int} {hs : Nat → Int} {z a : Nat} (ha5 : a < 5) (hz1 : z ≤ 100) (hh : ∀ i, i < z → I 108 (68 + i) = hs i) (te : ∀ i, z ≤ i → hs i = -1) (tb : ∀ i, -1 ≤ hs i ∧ hs i ≤ 127) : r_cs (r_i0 I a z) (am_up (am_up (am_up (am_up (am_up (r_i0 I a z) 108 (168 + a) 5) 108 (173 + a) 0) 107 6 0) 107 8 0) 107 9 0) hs z a 5 0 (0, some []) := by
  have k7 : ∀ i, i ≠ 6 → i ≠ 8 → i ≠ 9 → am_up (am_up (am_up (am_up (am_up (r_i0 I a z) 108 (168 + a) 5) 108 (173 + a) 0) 107 6 0) 107 8 0) 107 9 0 107 i = r_i0 I a z 107 i := by
    intro i h1 h2 h3
    rw [am_up_ne2 (by omega), am_up_ne2 (by omega), am_up_ne2 (by omega), am_up_ne2 (by omega), am_up_ne2 (by omega)]
  have k8 : ∀ i, i ≠ 168 + a → i ≠ 173 + a → am_up (am_up (am_up (am_up (am_up (r_i0 I a z) 108 (168 + a) 5) 108 (173 + a) 0) 107 6 0) 107 8 0) 107 9 0 108 i = r_i0 I a z 108 i := by
    intro i h1 h2
    rw [am_up_ne2 (by omega), am_up_ne2 (by omega), am_up_ne2 (by omega), am_up_ne2 (by omega), am_up_ne2 (by omega)]
  refine ⟨fun c i hk => ?_, ⟨?_, ?_, hz1, Nat.zero_le _, fun i hi => ?_, te, tb⟩, ⟨?_, ha5⟩, ?_, am_up_at2, ?_, ⟨?_, fun i hi => by simp at hi⟩, Nat.le_refl _⟩
  · unfold r_pk at hk
    by_cases e7 : c = 107
    · subst e7; have := hk.1 rfl; exact k7 i this.1 this.2.1 this.2.2
    · by_cases e8 : c = 108
      · subst e8; have := hk.2 rfl; exact k8 i this.1 this.2.1
      · rw [am_up_ne2 (by omega), am_up_ne2 (by omega), am_up_ne2 (by omega), am_up_ne2 (by omega), am_up_ne2 (by omega)]
  · rw [am_up_ne2 (by omega), am_up_ne2 (by omega), am_up_at2]; rfl
  · rw [k7 7 (by omega) (by omega) (by omega)]; unfold r_i0; rw [am_up_ne2 (by omega), am_up_at2]
  · rw [k8 _ (by omega) (by omega)]; unfold r_i0; rw [am_up_ne2 (by omega), am_up_ne2 (by omega), am_up_ne2 (by omega)]; exact hh i hi
  · rw [k7 5 (by omega) (by omega) (by omega)]; unfold r_i0; rw [am_up_ne2 (by omega), am_up_ne2 (by omega), am_up_at2]
  · rw [am_up_ne2 (by omega), am_up_ne2 (by omega), am_up_ne2 (by omega), am_up_ne2 (by omega), am_up_at2]
  · rw [am_up_ne2 (by omega), am_up_at2]
  · rw [am_up_ne2 (by omega), am_up_ne2 (by omega), am_up_ne2 (by omega), am_up_at2]; rfl
theorem r_cend_no {I0 K : Nat → Nat → Int} {hs : Nat → Int} {z a : Nat} {w e : Int} {R : pt_R} (h : r_cs I0 K hs z a w e R) (hw : 0 ≤ w ∧ w ≤ 99) : r_cend I0 K a (-10 - (R.1 : Int)) (R.1, none) := by
  obtain ⟨h1, ⟨t6, t7, tz, tp, th, te, tb⟩, h3, h4, h5, h6⟩ := h
  refine ⟨rfl, h1, ?_, by rw [h4]; exact hw⟩
  obtain ⟨q, _ | L⟩ := R
  · exact h6.2
  · obtain ⟨h6, ⟨h7, h8⟩, h9⟩ := h6
    have tp : q ≤ z := tp
    have h9 : L.length ≤ q := h9
    omega
theorem r_cend_ok {I0 K : Nat → Nat → Int} {hs : Nat → Int} {z a p : Nat} {e : Int} {cs : List ps_C} (h : r_cs I0 K hs z a (pt_cm cs) e (p, some (ps_fl cs))) : r_cend I0 (am_up (am_up K 108 21 ((a : Int) + 1)) 108 24 (a : Int)) a (a : Int) (p, some cs) := by
  obtain ⟨h1, ⟨t6, t7, tz, tp, th, te, tb⟩, h3, h4, h5, h6, ⟨h7, h8⟩, h9⟩ := h
  refine ⟨rfl, fun c i hk hk2 => ?_, ?_, am_up_at2, ?_, ?_, fun i hi => ?_⟩
  · rw [am_up_ne2 (by omega), am_up_ne2 (by omega)]; exact h1 c i hk
  · rw [am_up_ne2 (by omega), am_up_at2]
  · rw [am_up_ne2 (by omega), am_up_ne2 (by omega)]; exact h4
  · rw [am_up_ne2 (by omega), am_up_ne2 (by omega)]; exact h7
  · rw [am_up_ne2 (by omega), am_up_ne2 (by omega)]; exact h8 i hi
theorem r_club_w {X : Nat × (Nat → Int)} {D : List (Nat × Nat)} {I J : Nat → Nat → Int} {ρ : Nat → Nat → Option Nat} (d : Nat) {I0 : Nat → Nat → Int} {hs : Nat → Int} {z a p : Nat} {w i : Int} (hcs : r_cs I0 I hs z a w 0 (p, none)) (hw : 0 ≤ w ∧ w ≤ 99) : am_E X d 147 93 [(1, .inl i), (0, .inr (.inr (.inl (some 107))))] [] (am_mm D I J ρ) (fun r => ∃ v K, r = (some (.inl v), am_mm D K J ρ) ∧ r_cend I0 K a v (p, none)) := by
  have h8 : I 107 8 = 1 := hcs.2.2.2.2.2.1
  have t6 : I 107 6 = (p : Int) := hcs.2.1.1
  refine am_e_ss 2 (q := (97, [(1, .inl i), (0, .inr (.inr (.inl (some 107))))], [.inl ((I 107 8))], (am_mm D I J ρ))) rfl ?_
  refine am_e_if2 rfl ⟨by omega, by omega⟩ (fun (hw1 : ¬ (I 107 8) = 0) => ?_) (fun (hw1 : ¬ (¬ (I 107 8) = 0)) => ?_)
  · show am_E _ _ _ 135 [(1, .inl i), (0, .inr (.inr (.inl (some 107))))] [] (am_mm D I J ρ) _
    refine am_e_ss 2 (q := (139, [(1, .inl i), (0, .inr (.inr (.inl (some 107))))], [.inl ((I 107 8))], (am_mm D I J ρ))) rfl ?_
    refine am_e_if2 rfl ⟨by omega, by omega⟩ (fun (hw2 : ¬ (I 107 8) = 0) => ?_) (fun (hw2 : ¬ (¬ (I 107 8) = 0)) => ?_)
    · show am_E _ _ _ 153 [(1, .inl i), (0, .inr (.inr (.inl (some 107))))] [] (am_mm D I J ρ) _
      refine am_e_ss 4 (q := (160, [(1, .inl i), (0, .inr (.inr (.inl (some 107))))], [.inl ((-10) - (I 107 6))], (am_mm D I J ρ))) rfl ?_
      refine am_e_ireturn rfl rfl ?_
      rw [t6]
      exact ⟨_, _, rfl, r_cend_no hcs hw⟩
    · show am_E _ _ _ 142 [(1, .inl i), (0, .inr (.inr (.inl (some 107))))] [] (am_mm D I J ρ) _
      exfalso
      omega
  · show am_E _ _ _ 100 [(1, .inl i), (0, .inr (.inr (.inl (some 107))))] [] (am_mm D I J ρ) _
    exfalso
    omega
theorem r_club_l {X : Nat × (Nat → Int)} {D : List (Nat × Nat)} {I J : Nat → Nat → Int} {ρ : Nat → Nat → Option Nat} (d : Nat) {I0 : Nat → Nat → Int} {hs : Nat → Int} {z a p i n : Nat} {cs : List ps_C} (hin : i + n = 10) (hcs : r_cs I0 I hs z a (pt_cm cs) 0 (p, some (ps_fl cs))) (h21 : I0 108 21 = (a : Int)) (hcm : 0 ≤ pt_cm cs ∧ pt_cm cs ≤ 99) : am_E X (d + 26) 147 93 [(1, .inl (i : Int)), (0, .inr (.inr (.inl (some 107))))] [] (am_mm D I J ρ) (fun r => ∃ v K, r = (some (.inl v), am_mm D K J ρ) ∧ r_cend I0 K a v (pt_rs hs z n p cs)) := by
  have h8 : I 107 8 = 0 := hcs.2.2.2.2.2.1
  have t6 : I 107 6 = (p : Int) := hcs.2.1.1
  have tb := hcs.2.1.2.2.2.2.2.2
  have tbp := tb p
  have tz := hcs.2.1.2.2.1
  have tpz : p ≤ z := hcs.2.1.2.2.2.1
  have ed : I 107 9 = 0 := hcs.2.2.2.2.1
  have te := hcs.2.1.2.2.2.2.2.1
  have t70 : I 107 7 = (z : Int) := hcs.2.1.2.1
  have ha5 := hcs.2.2.1.2
  refine am_e_ss 2 (q := (97, [(1, .inl (i : Int)), (0, .inr (.inr (.inl (some 107))))], [.inl ((I 107 8))], (am_mm D I J ρ))) rfl ?_
  refine am_e_if2 rfl ⟨by omega, by omega⟩ (fun (hw1 : ¬ (I 107 8) = 0) => ?_) (fun (hw1 : ¬ (¬ (I 107 8) = 0)) => ?_)
  · show am_E _ _ _ 135 [(1, .inl (i : Int)), (0, .inr (.inr (.inl (some 107))))] [] (am_mm D I J ρ) _
    refine am_e_ss 2 (q := (139, [(1, .inl (i : Int)), (0, .inr (.inr (.inl (some 107))))], [.inl ((I 107 8))], (am_mm D I J ρ))) rfl ?_
    refine am_e_if2 rfl ⟨by omega, by omega⟩ (fun (hw2 : ¬ (I 107 8) = 0) => ?_) (fun (hw2 : ¬ (¬ (I 107 8) = 0)) => ?_)
    · show am_E _ _ _ 153 [(1, .inl (i : Int)), (0, .inr (.inr (.inl (some 107))))] [] (am_mm D I J ρ) _
      refine am_e_ss 4 (q := (160, [(1, .inl (i : Int)), (0, .inr (.inr (.inl (some 107))))], [.inl ((-10) - (I 107 6))], (am_mm D I J ρ))) rfl ?_
      refine am_e_ireturn rfl rfl ?_
      have t7 : I 107 7 = (z : Int) := hcs.2.1.2.1
      first
      | (exfalso; omega)
      | (rw [show pt_rs hs z n p cs = (p, none) by unfold pt_rs; rw [if_neg (by omega), if_pos (by omega)], t6]; exact ⟨_, _, rfl, r_cend_no hcs hcm⟩)
    · show am_E _ _ _ 142 [(1, .inl (i : Int)), (0, .inr (.inr (.inl (some 107))))] [] (am_mm D I J ρ) _
      refine am_e_ss 4 (q := (150, [(1, .inl (i : Int)), (0, .inr (.inr (.inl (some 107))))], [.inl ((I 107 7)), .inl ((I 107 6))], (am_mm D I J ρ))) rfl ?_
      refine am_e_icmp2 rfl ⟨by omega, by omega⟩ ⟨by omega, by omega⟩ (fun (hw3 : (I 107 6) = (I 107 7)) => ?_) (fun (hw3 : ¬ ((I 107 6) = (I 107 7))) => ?_)
      · show am_E _ _ _ 161 [(1, .inl (i : Int)), (0, .inr (.inr (.inl (some 107))))] [] (am_mm D I J ρ) _
        refine am_e_ss 16 (q := (187, [(1, .inl (i : Int)), (0, .inr (.inr (.inl (some 107))))], [.inl ((I 107 5))], (am_mm D (am_up (am_up I 108 21 ((I 108 21) + 1)) 108 24 (I 107 5)) J ρ))) rfl ?_
        refine am_e_ireturn rfl rfl ?_
        have e2 : I 108 21 = (a : Int) := (hcs.1 108 21 ⟨fun h => absurd h (by decide), fun _ => by omega⟩).trans h21
        have h5 : I 107 5 = (a : Int) := hcs.2.2.1.1
        rw [h5, e2]
        have t7 : I 107 7 = (z : Int) := hcs.2.1.2.1
        rw [show pt_rs hs z n p cs = (p, some cs) from if_pos (by omega)]
        exact ⟨_, _, rfl, r_cend_ok hcs⟩
      · show am_E _ _ _ 153 [(1, .inl (i : Int)), (0, .inr (.inr (.inl (some 107))))] [] (am_mm D I J ρ) _
        refine am_e_ss 4 (q := (160, [(1, .inl (i : Int)), (0, .inr (.inr (.inl (some 107))))], [.inl ((-10) - (I 107 6))], (am_mm D I J ρ))) rfl ?_
        refine am_e_ireturn rfl rfl ?_
        have t7 : I 107 7 = (z : Int) := hcs.2.1.2.1
        first
        | (exfalso; omega)
        | (rw [show pt_rs hs z n p cs = (p, none) by unfold pt_rs; rw [if_neg (by omega), if_pos (by omega)], t6]; exact ⟨_, _, rfl, r_cend_no hcs hcm⟩)
  · show am_E _ _ _ 100 [(1, .inl (i : Int)), (0, .inr (.inr (.inl (some 107))))] [] (am_mm D I J ρ) _
    refine am_e_ss 2 (q := (103, [(1, .inl (i : Int)), (0, .inr (.inr (.inl (some 107))))], [.inl 10, .inl (i : Int)], (am_mm D I J ρ))) rfl ?_
    refine am_e_icmp2 rfl ⟨by omega, by omega⟩ ⟨by omega, by omega⟩ (fun (hw4 : 10 ≤ (i : Int)) => ?_) (fun (hw4 : ¬ (10 ≤ (i : Int))) => ?_)
    · show am_E _ _ _ 135 [(1, .inl (i : Int)), (0, .inr (.inr (.inl (some 107))))] [] (am_mm D I J ρ) _
      refine am_e_ss 2 (q := (139, [(1, .inl (i : Int)), (0, .inr (.inr (.inl (some 107))))], [.inl ((I 107 8))], (am_mm D I J ρ))) rfl ?_
      refine am_e_if2 rfl ⟨by omega, by omega⟩ (fun (hw5 : ¬ (I 107 8) = 0) => ?_) (fun (hw5 : ¬ (¬ (I 107 8) = 0)) => ?_)
      · show am_E _ _ _ 153 [(1, .inl (i : Int)), (0, .inr (.inr (.inl (some 107))))] [] (am_mm D I J ρ) _
        refine am_e_ss 4 (q := (160, [(1, .inl (i : Int)), (0, .inr (.inr (.inl (some 107))))], [.inl ((-10) - (I 107 6))], (am_mm D I J ρ))) rfl ?_
        refine am_e_ireturn rfl rfl ?_
        have t7 : I 107 7 = (z : Int) := hcs.2.1.2.1
        first
        | (exfalso; omega)
        | (rw [show pt_rs hs z n p cs = (p, none) by unfold pt_rs; rw [if_neg (by omega), if_pos (by omega)], t6]; exact ⟨_, _, rfl, r_cend_no hcs hcm⟩)
      · show am_E _ _ _ 142 [(1, .inl (i : Int)), (0, .inr (.inr (.inl (some 107))))] [] (am_mm D I J ρ) _
        refine am_e_ss 4 (q := (150, [(1, .inl (i : Int)), (0, .inr (.inr (.inl (some 107))))], [.inl ((I 107 7)), .inl ((I 107 6))], (am_mm D I J ρ))) rfl ?_
        refine am_e_icmp2 rfl ⟨by omega, by omega⟩ ⟨by omega, by omega⟩ (fun (hw6 : (I 107 6) = (I 107 7)) => ?_) (fun (hw6 : ¬ ((I 107 6) = (I 107 7))) => ?_)
        · show am_E _ _ _ 161 [(1, .inl (i : Int)), (0, .inr (.inr (.inl (some 107))))] [] (am_mm D I J ρ) _
          refine am_e_ss 16 (q := (187, [(1, .inl (i : Int)), (0, .inr (.inr (.inl (some 107))))], [.inl ((I 107 5))], (am_mm D (am_up (am_up I 108 21 ((I 108 21) + 1)) 108 24 (I 107 5)) J ρ))) rfl ?_
          refine am_e_ireturn rfl rfl ?_
          have e2 : I 108 21 = (a : Int) := (hcs.1 108 21 ⟨fun h => absurd h (by decide), fun _ => by omega⟩).trans h21
          have h5 : I 107 5 = (a : Int) := hcs.2.2.1.1
          rw [h5, e2]
          have t7 : I 107 7 = (z : Int) := hcs.2.1.2.1
          rw [show pt_rs hs z n p cs = (p, some cs) from if_pos (by omega)]
          exact ⟨_, _, rfl, r_cend_ok hcs⟩
        · show am_E _ _ _ 153 [(1, .inl (i : Int)), (0, .inr (.inr (.inl (some 107))))] [] (am_mm D I J ρ) _
          refine am_e_ss 4 (q := (160, [(1, .inl (i : Int)), (0, .inr (.inr (.inl (some 107))))], [.inl ((-10) - (I 107 6))], (am_mm D I J ρ))) rfl ?_
          refine am_e_ireturn rfl rfl ?_
          have t7 : I 107 7 = (z : Int) := hcs.2.1.2.1
          first
          | (exfalso; omega)
          | (rw [show pt_rs hs z n p cs = (p, none) by unfold pt_rs; rw [if_neg (by omega), if_pos (by omega)], t6]; exact ⟨_, _, rfl, r_cend_no hcs hcm⟩)
    · show am_E _ _ _ 106 [(1, .inl (i : Int)), (0, .inr (.inr (.inl (some 107))))] [] (am_mm D I J ρ) _
      refine am_e_ss 1 (q := (107, [(1, .inl (i : Int)), (0, .inr (.inr (.inl (some 107))))], [.inr (.inr (.inl (some 107)))], (am_mm D I J ρ))) rfl ?_
      refine am_e_virtual (Q := fun r => r = (some (.inl ((hs p))), (am_mm D I J ρ))) rfl rfl (Nat.le_of_ble_eq_true rfl) rfl rfl (Nat.le_of_ble_eq_true rfl) (Nat.le_of_ble_eq_true rfl) (r_hereC _ hcs) ?_
      rintro r rfl
      show am_E _ _ _ 110 [(1, .inl (i : Int)), (0, .inr (.inr (.inl (some 107))))] [.inl ((hs p))] (am_mm D I J ρ) _
      refine am_e_ss 1 (q := (112, [(1, .inl (i : Int)), (0, .inr (.inr (.inl (some 107))))], [.inl 59, .inl ((hs p))], (am_mm D I J ρ))) rfl ?_
      refine am_e_icmp2 rfl ⟨by omega, by omega⟩ ⟨by omega, by omega⟩ (fun (hw7 : ¬ (hs p) = 59) => ?_) (fun (hw7 : ¬ (¬ (hs p) = 59)) => ?_)
      · show am_E _ _ _ 135 [(1, .inl (i : Int)), (0, .inr (.inr (.inl (some 107))))] [] (am_mm D I J ρ) _
        refine am_e_ss 2 (q := (139, [(1, .inl (i : Int)), (0, .inr (.inr (.inl (some 107))))], [.inl ((I 107 8))], (am_mm D I J ρ))) rfl ?_
        refine am_e_if2 rfl ⟨by omega, by omega⟩ (fun (hw8 : ¬ (I 107 8) = 0) => ?_) (fun (hw8 : ¬ (¬ (I 107 8) = 0)) => ?_)
        · show am_E _ _ _ 153 [(1, .inl (i : Int)), (0, .inr (.inr (.inl (some 107))))] [] (am_mm D I J ρ) _
          refine am_e_ss 4 (q := (160, [(1, .inl (i : Int)), (0, .inr (.inr (.inl (some 107))))], [.inl ((-10) - (I 107 6))], (am_mm D I J ρ))) rfl ?_
          refine am_e_ireturn rfl rfl ?_
          have t7 : I 107 7 = (z : Int) := hcs.2.1.2.1
          first
          | (exfalso; omega)
          | (rw [show pt_rs hs z n p cs = (p, none) by unfold pt_rs; rw [if_neg (by omega), if_pos (by omega)], t6]; exact ⟨_, _, rfl, r_cend_no hcs hcm⟩)
        · show am_E _ _ _ 142 [(1, .inl (i : Int)), (0, .inr (.inr (.inl (some 107))))] [] (am_mm D I J ρ) _
          refine am_e_ss 4 (q := (150, [(1, .inl (i : Int)), (0, .inr (.inr (.inl (some 107))))], [.inl ((I 107 7)), .inl ((I 107 6))], (am_mm D I J ρ))) rfl ?_
          refine am_e_icmp2 rfl ⟨by omega, by omega⟩ ⟨by omega, by omega⟩ (fun (hw9 : (I 107 6) = (I 107 7)) => ?_) (fun (hw9 : ¬ ((I 107 6) = (I 107 7))) => ?_)
          · show am_E _ _ _ 161 [(1, .inl (i : Int)), (0, .inr (.inr (.inl (some 107))))] [] (am_mm D I J ρ) _
            refine am_e_ss 16 (q := (187, [(1, .inl (i : Int)), (0, .inr (.inr (.inl (some 107))))], [.inl ((I 107 5))], (am_mm D (am_up (am_up I 108 21 ((I 108 21) + 1)) 108 24 (I 107 5)) J ρ))) rfl ?_
            refine am_e_ireturn rfl rfl ?_
            have e2 : I 108 21 = (a : Int) := (hcs.1 108 21 ⟨fun h => absurd h (by decide), fun _ => by omega⟩).trans h21
            have h5 : I 107 5 = (a : Int) := hcs.2.2.1.1
            rw [h5, e2]
            have t7 : I 107 7 = (z : Int) := hcs.2.1.2.1
            rw [show pt_rs hs z n p cs = (p, some cs) from if_pos (by omega)]
            exact ⟨_, _, rfl, r_cend_ok hcs⟩
          · show am_E _ _ _ 153 [(1, .inl (i : Int)), (0, .inr (.inr (.inl (some 107))))] [] (am_mm D I J ρ) _
            refine am_e_ss 4 (q := (160, [(1, .inl (i : Int)), (0, .inr (.inr (.inl (some 107))))], [.inl ((-10) - (I 107 6))], (am_mm D I J ρ))) rfl ?_
            refine am_e_ireturn rfl rfl ?_
            have t7 : I 107 7 = (z : Int) := hcs.2.1.2.1
            first
            | (exfalso; omega)
            | (rw [show pt_rs hs z n p cs = (p, none) by unfold pt_rs; rw [if_neg (by omega), if_pos (by omega)], t6]; exact ⟨_, _, rfl, r_cend_no hcs hcm⟩)
      · show am_E _ _ _ 115 [(1, .inl (i : Int)), (0, .inr (.inr (.inl (some 107))))] [] (am_mm D I J ρ) _
        refine am_e_ss 6 (q := (125, [(1, .inl (i : Int)), (0, .inr (.inr (.inl (some 107))))], [], (am_mm D (am_up I 107 6 ((I 107 6) + 1)) J ρ))) rfl ?_
        have u82 : I 107 6 = ((p : Nat) : Int) := hcs.2.1.1
        rw [u82]
        have g82 := r_cs_6 hcs (r_cs_lt hcs (show 0 ≤ hs (p) by omega))
        have gb82 := tb (p + 1)
        generalize am_up I 107 6 (((p : Nat) : Int) + 1) = K82 at g82 ⊢
        have k882 : K82 107 8 = 0 := g82.2.2.2.2.2.1
        show am_E _ _ _ 125 [(1, .inl (i : Int)), (0, .inr (.inr (.inl (some 107))))] [] (am_mm D K82 J ρ) _
        refine am_e_ss 1 (q := (126, [(1, .inl (i : Int)), (0, .inr (.inr (.inl (some 107))))], [.inr (.inr (.inl (some 107)))], (am_mm D K82 J ρ))) rfl ?_
        refine am_e_virtual (Q := fun r => ∃ K83 w83, r = (none, (am_mm D K83 J ρ)) ∧ r_cs I0 K83 hs z a w83 0 ((pt_cr hs (p + 1) (ps_fl cs))) ∧ w83 = pt_wn hs (p + 1) (pt_cm cs)) rfl rfl (Nat.le_of_ble_eq_true rfl) rfl rfl (Nat.le_of_ble_eq_true rfl) (Nat.le_of_ble_eq_true rfl) (r_clause _ g82) ?_
        rintro r ⟨K83, w83, rfl, g83, hw83⟩
        show am_E _ _ _ 129 [(1, .inl (i : Int)), (0, .inr (.inr (.inl (some 107))))] [] (am_mm D K83 J ρ) _
        refine am_e_ss 2 (q := (93, [(1, .inl ((i : Int) + 1)), (0, .inr (.inr (.inl (some 107))))], [], (am_mm D K83 J ρ))) rfl ?_
        obtain ⟨n2, hn2⟩ : ∃ n2, n = n2 + 1 := ⟨n - 1, by omega⟩
        rw [show pt_rs hs z n p cs = pt_cs hs z (n2 + 1) (p + 1) cs by unfold pt_rs; rw [if_neg (by intro e; have := te p (by omega); omega), if_neg (by omega), hn2]]
        rw [pt_cs_rs]
        unfold pt_cr at g83
        unfold pt_wn at hw83
        rcases hC : pt_cl hs (p + 1) with ⟨q, _ | x⟩
        · rw [hC] at g83 hw83
          have hw83 : w83 = pt_cm cs := hw83
          exact am_less (lv := [(1, .inl ((i : Int) + 1)), (0, .inr (.inr (.inl (some 107))))]) rfl (List.forall_mem_cons.mpr ⟨rfl, List.forall_mem_cons.mpr ⟨rfl, List.forall_mem_nil _⟩⟩) (r_club_w _ g83 (by omega))
        · rw [hC] at g83 hw83
          have hx := pt_cl_ok te hC
          have hx2 : 0 ≤ x.2.1 ∧ x.2.1 ≤ 99 := hx.2.2.2.2.1
          have hc2 : w83 = pt_cm (cs ++ [x]) := by rw [pt_cm_snoc]; exact hw83
          rw [hc2] at g83
          have g83 : r_cs I0 K83 hs z a (pt_cm (cs ++ [x])) 0 ((q, some (ps_fl (cs ++ [x])))) := by
            rw [ps_fl_snoc]; exact g83
          have hcm2 : 0 ≤ pt_cm (cs ++ [x]) ∧ pt_cm (cs ++ [x]) ≤ 99 := by rw [pt_cm_snoc]; split <;> omega
          exact am_less (lv := [(1, .inl ((i + 1) : Int)), (0, .inr (.inr (.inl (some 107))))]) rfl (List.forall_mem_cons.mpr ⟨rfl, List.forall_mem_cons.mpr ⟨rfl, List.forall_mem_nil _⟩⟩) (r_club_l d (i := i + 1) (n := n2) (by omega) g83 h21 hcm2)
termination_by n
decreasing_by all_goals omega
theorem r_club5 {X : Nat × (Nat → Int)} {D : List (Nat × Nat)} {I J : Nat → Nat → Int} {ρ : Nat → Nat → Option Nat} (d : Nat) (h21 : I 108 21 = 5) : am_E X d 147 0 [(0, .inr (.inr (.inl (some 107))))] [] (am_mm D I J ρ) (fun r => r = (some (.inl (-4)), (am_mm D I J ρ))) := by
  refine am_e_ss 5 (q := (8, [(0, .inr (.inr (.inl (some 107))))], [.inl 5, .inl ((I 108 21))], (am_mm D I J ρ))) rfl ?_
  refine am_e_icmp2 rfl ⟨by omega, by omega⟩ ⟨by omega, by omega⟩ (fun (hw1 : ¬ (I 108 21) = 5) => ?_) (fun (hw1 : ¬ (¬ (I 108 21) = 5)) => ?_)
  · show am_E _ _ _ 14 [(0, .inr (.inr (.inl (some 107))))] [] (am_mm D I J ρ) _
    exfalso
    omega
  · show am_E _ _ _ 11 [(0, .inr (.inr (.inl (some 107))))] [] (am_mm D I J ρ) _
    refine am_e_ss 1 (q := (13, [(0, .inr (.inr (.inl (some 107))))], [.inl (-4)], (am_mm D I J ρ))) rfl ?_
    refine am_e_ireturn rfl rfl ?_
    rfl
theorem r_club {X : Nat × (Nat → Int)} {D : List (Nat × Nat)} {I J : Nat → Nat → Int} {ρ : Nat → Nat → Option Nat} (d : Nat) {hs : Nat → Int} {z a : Nat} (h21 : I 108 21 = (a : Int)) (h23 : I 108 23 = (z : Int)) (ha5 : a < 5) (hz1 : z ≤ 100) (hh : ∀ i, i < z → I 108 (68 + i) = hs i) (te : ∀ i, z ≤ i → hs i = -1) (tb : ∀ i, -1 ≤ hs i ∧ hs i ≤ 127) : am_E X (d + 26) 147 0 [(0, .inr (.inr (.inl (some 107))))] [] (am_mm D I J ρ) (fun r => ∃ v K, r = (some (.inl v), am_mm D K J ρ) ∧ r_cend (r_i0 I a z) K a v (pt_cs hs z 10 0 [])) := by
  refine am_e_ss 5 (q := (8, [(0, .inr (.inr (.inl (some 107))))], [.inl 5, .inl ((I 108 21))], (am_mm D I J ρ))) rfl ?_
  refine am_e_icmp2 rfl ⟨by omega, by omega⟩ ⟨by omega, by omega⟩ (fun (hw1 : ¬ (I 108 21) = 5) => ?_) (fun (hw1 : ¬ (¬ (I 108 21) = 5)) => ?_)
  · show am_E _ _ _ 14 [(0, .inr (.inr (.inl (some 107))))] [] (am_mm D I J ρ) _
    refine am_e_ss 24 (q := (57, [(0, .inr (.inr (.inl (some 107))))], [.inl 5, .inl (168 + (I 108 21)), .inr (.inr (.inl (some 108)))], (am_mm D (am_up (am_up (am_up I 107 5 (I 108 21)) 107 7 (I 108 23)) 108 23 0) J ρ))) rfl ?_
    refine am_e_iastore (m := 878) rfl rfl (by omega) (by omega) (by omega) ?_
    show am_E _ _ _ 58 [(0, .inr (.inr (.inl (some 107))))] [] (am_mm D (am_up (am_up (am_up (am_up I 107 5 (I 108 21)) 107 7 (I 108 23)) 108 23 0) 108 ((168 + (I 108 21))).toNat 5) J ρ) _
    refine am_e_ss 7 (q := (71, [(0, .inr (.inr (.inl (some 107))))], [.inl 0, .inl (173 + (I 108 21)), .inr (.inr (.inl (some 108)))], (am_mm D (am_up (am_up (am_up (am_up I 107 5 (I 108 21)) 107 7 (I 108 23)) 108 23 0) 108 ((168 + (I 108 21))).toNat 5) J ρ))) rfl ?_
    refine am_e_iastore (m := 878) rfl rfl (by omega) (by omega) (by omega) ?_
    show am_E _ _ _ 72 [(0, .inr (.inr (.inl (some 107))))] [] (am_mm D (am_up (am_up (am_up (am_up (am_up I 107 5 (I 108 21)) 107 7 (I 108 23)) 108 23 0) 108 ((168 + (I 108 21))).toNat 5) 108 ((173 + (I 108 21))).toNat 0) J ρ) _
    refine am_e_ss 9 (q := (87, [(0, .inr (.inr (.inl (some 107))))], [], (am_mm D (am_up (am_up (am_up (am_up (am_up (am_up (am_up (am_up I 107 5 (I 108 21)) 107 7 (I 108 23)) 108 23 0) 108 ((168 + (I 108 21))).toNat 5) 108 ((173 + (I 108 21))).toNat 0) 107 6 0) 107 8 0) 107 9 0) J ρ))) rfl ?_
    have e1 : am_up (am_up (am_up (am_up (am_up (am_up (am_up (am_up I 107 5 (I 108 21)) 107 7 (I 108 23)) 108 23 0) 108 ((168 + (I 108 21))).toNat 5) 108 ((173 + (I 108 21))).toNat 0) 107 6 0) 107 8 0) 107 9 0 = am_up (am_up (am_up (am_up (am_up (r_i0 I a z) 108 (168 + a) 5) 108 (173 + a) 0) 107 6 0) 107 8 0) 107 9 0 := by
      unfold r_i0
      rw [h21, h23, show (168 + (a : Int)).toNat = 168 + a by omega, show (173 + (a : Int)).toNat = 173 + a by omega]
    rw [e1]
    have g84 := r_cs_0 (I := I) ha5 hz1 hh te tb
    have i21 : r_i0 I a z 108 21 = (a : Int) := by unfold r_i0; rw [am_up_ne2 (by omega), am_up_ne2 (by omega), am_up_ne2 (by omega)]; exact h21
    generalize am_up (am_up (am_up (am_up (am_up (r_i0 I a z) 108 (168 + a) 5) 108 (173 + a) 0) 107 6 0) 107 8 0) 107 9 0 = K84 at g84 ⊢
    generalize r_i0 I a z = I0 at g84 i21 ⊢
    have h21 := i21
    show am_E _ _ _ 87 [(0, .inr (.inr (.inl (some 107))))] [] (am_mm D K84 J ρ) _
    refine am_e_ss 3 (q := (90, [(1, .inl 1), (0, .inr (.inr (.inl (some 107))))], [.inr (.inr (.inl (some 107)))], (am_mm D K84 J ρ))) rfl ?_
    refine am_e_virtual (Q := fun r => ∃ K85 w85, r = (none, (am_mm D K85 J ρ)) ∧ r_cs I0 K85 hs z a w85 0 ((pt_cr hs 0 [])) ∧ w85 = pt_wn hs (0) 5) rfl rfl (Nat.le_of_ble_eq_true rfl) rfl rfl (Nat.le_of_ble_eq_true rfl) (Nat.le_of_ble_eq_true rfl) (r_clause _ g84) ?_
    rintro r ⟨K85, w85, rfl, g85, hw85⟩
    show am_E _ _ _ 93 [(1, .inl 1), (0, .inr (.inr (.inl (some 107))))] [] (am_mm D K85 J ρ) _
    rw [pt_cs_rs]
    unfold pt_cr at g85
    unfold pt_wn at hw85
    rcases hC : pt_cl hs 0 with ⟨q, _ | x⟩
    · rw [hC] at g85 hw85
      have hw85 : w85 = 5 := hw85
      exact am_less (lv := [(1, .inl 1), (0, .inr (.inr (.inl (some 107))))]) rfl (List.forall_mem_cons.mpr ⟨rfl, List.forall_mem_cons.mpr ⟨rfl, List.forall_mem_nil _⟩⟩) (r_club_w _ g85 (by omega))
    · rw [hC] at g85 hw85
      have hx := pt_cl_ok te hC
      have hx2 : 0 ≤ x.2.1 ∧ x.2.1 ≤ 99 := hx.2.2.2.2.1
      have hc2 : w85 = pt_cm ([] ++ [x]) := by rw [pt_cm_snoc]; exact hw85
      rw [hc2] at g85
      have g85 : r_cs I0 K85 hs z a (pt_cm ([] ++ [x])) 0 ((q, some (ps_fl ([] ++ [x])))) := by
        rw [ps_fl_snoc]; exact g85
      have hcm2 : 0 ≤ pt_cm ([] ++ [x]) ∧ pt_cm ([] ++ [x]) ≤ 99 := by rw [pt_cm_snoc]; split <;> first | omega | (show 0 ≤ (5 : Int) ∧ (5 : Int) ≤ 99; omega)
      exact am_less (lv := [(1, .inl ((1) : Int)), (0, .inr (.inr (.inl (some 107))))]) rfl (List.forall_mem_cons.mpr ⟨rfl, List.forall_mem_cons.mpr ⟨rfl, List.forall_mem_nil _⟩⟩) (r_club_l d (i := 1) (n := 9) (by omega) g85 h21 hcm2)
  · show am_E _ _ _ 11 [(0, .inr (.inr (.inl (some 107))))] [] (am_mm D I J ρ) _
    exfalso
    omega
