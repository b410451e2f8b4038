def t9 : Nat → Nat → Bool := fun c i => Nat.beq c 119
theorem r_enough_4 {X : Nat × (Nat → Int)} {D : List (Nat × Nat)} {I J : Nat → Nat → Int} {ρ : Nat → Nat → Option Nat} (d : Nat) {B b k part : Int} (hb : 0 ≤ b ∧ b < I 108 20) (hk : 0 ≤ k ∧ k ≤ 6) (hpart : part = 0 ∨ part = 1) {u : Int} {j : Nat} (hj : k ≤ (j : Int) ∧ j ≤ 7) (hu : u = sp_upk (sp_wy (I 108) b (I 108 19).toNat) k.toNat (j - k.toNat)) (hw : ∀ i, i < 7 → J 119 i = (sp_wy (I 108) b (I 108 19).toNat) i) (hok : r_ok (I 108) B) : am_E X (d + 1) 189 179 [(8, .inl (j : Int)), (6, .inr (.inl u)), (4, .inr (.inl (sp_low (I 108) (I 108 19).toNat))), (3, .inl part), (2, .inl k), (0, .inr (.inr (.inl (some 107))))] [] (am_mm D I J ρ) (fun r => ∃ Q W, r = (some (.inr (.inl (sp_enough (I 108) b k part))), am_mm D (am_wp tL I Q) (am_wp t9 J W) ρ)) := by
  have hok2 := hok
  obtain ⟨o0, oG, oH, oD, o19, o20, o21, o22, o23, o24, oK, oV, oP, oM, oS, oY, oHd, oT, oC, oN⟩ := hok
  have hok := hok2
  refine am_e_ss 2 (q := (183, [(8, .inl (j : Int)), (6, .inr (.inl u)), (4, .inr (.inl (sp_low (I 108) (I 108 19).toNat))), (3, .inl part), (2, .inl k), (0, .inr (.inr (.inl (some 107))))], [.inl 7, .inl (j : Int)], (am_mm D I J ρ))) rfl ?_
  refine am_e_icmp2 rfl ⟨by omega, by omega⟩ ⟨by omega, by omega⟩ (fun (h1 : 7 ≤ (j : Int)) => ?_) (fun (h1 : ¬ (7 ≤ (j : Int))) => ?_)
  · show am_E _ _ _ 204 [(8, .inl (j : Int)), (6, .inr (.inl u)), (4, .inr (.inl (sp_low (I 108) (I 108 19).toNat))), (3, .inl part), (2, .inl k), (0, .inr (.inr (.inl (some 107))))] [] (am_mm D I J ρ) _
    have hub : 0 ≤ u ∧ u ≤ sp_low (I 108) (I 108 19).toNat := by
      rw [hu, show j = 7 by omega]
      exact sp_up_b (by omega)
    have hlb := sp_low_6 (S := I 108) (m := (I 108 19).toNat) (by omega)
    refine am_e_ss 3 (q := (209, [(8, .inl (j : Int)), (6, .inr (.inl u)), (4, .inr (.inl (sp_low (I 108) (I 108 19).toNat))), (3, .inl part), (2, .inl k), (0, .inr (.inr (.inl (some 107))))], [.inl part, .inr (.inl (sp_low (I 108) (I 108 19).toNat)), .inr (.inl u)], (am_mm D I J ρ))) rfl ?_
    refine am_e_static (Q := fun r => r = (some (.inr (.inl (sp_frac u (sp_low (I 108) (I 108 19).toNat) part))), (am_mm D I J ρ))) rfl (Nat.le_of_ble_eq_true rfl) rfl (Nat.le_of_ble_eq_true rfl) (Nat.le_of_ble_eq_true rfl) (r_lowestI _ ⟨by omega, by omega⟩ ⟨by omega, by omega⟩ (by omega)) ?_
    rintro r rfl
    show am_E _ _ _ 212 [(8, .inl (j : Int)), (6, .inr (.inl u)), (4, .inr (.inl (sp_low (I 108) (I 108 19).toNat))), (3, .inl part), (2, .inl k), (0, .inr (.inr (.inl (some 107))))] [.inr (.inl (sp_frac u (sp_low (I 108) (I 108 19).toNat) part))] (am_mm D I J ρ) _
    refine am_e_lreturn rfl rfl ?_
    rw [show sp_enough (I 108) b k part = (sp_frac u (sp_low (I 108) (I 108 19).toNat) part) by
      rw [hu, show j = 7 by omega]
      unfold sp_enough
      rw [if_neg (by omega), if_neg (by omega), if_neg (by omega)]
      rfl]
    exact ⟨I, J, am_r_wp2 tL t9 am_k_id am_k_id⟩
  · show am_E _ _ _ 186 [(8, .inl (j : Int)), (6, .inr (.inl u)), (4, .inr (.inl (sp_low (I 108) (I 108 19).toNat))), (3, .inl part), (2, .inl k), (0, .inr (.inr (.inl (some 107))))] [] (am_mm D I J ρ) _
    refine am_e_ss 4 (q := (194, [(8, .inl (j : Int)), (6, .inr (.inl u)), (4, .inr (.inl (sp_low (I 108) (I 108 19).toNat))), (3, .inl part), (2, .inl k), (0, .inr (.inr (.inl (some 107))))], [.inl (j : Int), .inr (.inr (.inl (some 119))), .inr (.inl u)], (am_mm D I J ρ))) rfl ?_
    refine am_e_laload (m := 7) rfl rfl (by omega) (by omega) (by omega) ?_
    show am_E _ _ _ 195 [(8, .inl (j : Int)), (6, .inr (.inl u)), (4, .inr (.inl (sp_low (I 108) (I 108 19).toNat))), (3, .inl part), (2, .inl k), (0, .inr (.inr (.inl (some 107))))] [.inr (.inl (J 119 j)), .inr (.inl u)] (am_mm D I J ρ) _
    refine am_e_ss 4 (q := (179, [(8, .inl ((j : Int) + 1)), (6, .inr (.inl (u + (J 119 j)))), (4, .inr (.inl (sp_low (I 108) (I 108 19).toNat))), (3, .inl part), (2, .inl k), (0, .inr (.inr (.inl (some 107))))], [], (am_mm D I J ρ))) rfl ?_
    have e9 : (u + (J 119 j)) = sp_upk (sp_wy (I 108) b (I 108 19).toNat) k.toNat (j + 1 - k.toNat) := by
      rw [show j + 1 - k.toNat = (j - k.toNat) + 1 by omega]
      show _ = sp_upk (sp_wy (I 108) b (I 108 19).toNat) k.toNat (j - k.toNat) + (sp_wy (I 108) b (I 108 19).toNat) (k.toNat + (j - k.toNat))
      rw [← hu, show k.toNat + (j - k.toNat) = j by omega, hw j (by omega)]
    refine (am_less (lv := [(8, .inl ((j + 1) : Int)), (6, .inr (.inl (u + (J 119 j)))), (4, .inr (.inl (sp_low (I 108) (I 108 19).toNat))), (3, .inl part), (2, .inl k), (0, .inr (.inr (.inl (some 107))))]) rfl (List.forall_mem_cons.mpr ⟨rfl, List.forall_mem_cons.mpr ⟨rfl, List.forall_mem_cons.mpr ⟨rfl, List.forall_mem_cons.mpr ⟨rfl, List.forall_mem_cons.mpr ⟨rfl, List.forall_mem_cons.mpr ⟨rfl, List.forall_mem_nil _⟩⟩⟩⟩⟩⟩) (r_enough_4 d (B := B) (j := j + 1) (k := k) hb hk hpart (by omega) e9 hw hok)).imp ?_
    rintro r ⟨Q9, W9, rfl⟩
    exact ⟨_, _, am_r_wp2 tL t9 (am_k_wp am_k_sub (am_k_id)) (am_k_wp am_k_sub am_k_id)⟩
termination_by 7 - j
decreasing_by all_goals omega
/-- what the loop over members gives from a member on -/
def r_en2 (X : Nat × (Nat → Int)) (D : List (Nat × Nat)) (ρ : Nat → Nat → Option Nat) (d : Nat) (b k part : Int) (S : Nat → Int) (m : Nat) : Prop := ∀ (I J : Nat → Nat → Int) (B lo : Int), I 108 = S → (∀ i, i < 7 → J 119 i = sp_wy S b m i) → lo = sp_low S m → r_ok (I 108) B → sp_wfS (I 108) → am_E X (d + 3) 189 70 [(6, .inl (m : Int)), (4, .inr (.inl lo)), (3, .inl part), (2, .inl k), (1, .inl b), (0, .inr (.inr (.inl (some 107))))] [] (am_mm D I J ρ) (fun r => ∃ Q W, r = (some (.inr (.inl (sp_enough (I 108) b k part))), am_mm D (am_wp tL I Q) (am_wp t9 J W) ρ))
theorem r_enough_3 {X : Nat × (Nat → Int)} {D : List (Nat × Nat)} {I J : Nat → Nat → Int} {ρ : Nat → Nat → Option Nat} (d : Nat) {B b k part : Int} (hb : 0 ≤ b ∧ b < I 108 20) (hk : 0 ≤ k ∧ k ≤ 6) (hpart : part = 0 ∨ part = 1) {e p lo : Int} {m jn : Nat} (hm : (m : Int) < I 108 19) (hp : p = sp_odds (I 108) m b) (hhr : I 108 (7 + m) = 0) (he : e = (jn : Int) - 1 ∧ jn ≤ 7) (hhi : ∀ i, jn ≤ i → i < 7 → J 119 i = sp_wyk p (sp_wy (I 108) b m) i) (hlo2 : ∀ i, i < jn → J 119 i = (sp_wy (I 108) b m) i) (hlo : lo = sp_low (I 108) m) (ih : r_en2 X D ρ d b k part (I 108) (m + 1)) (hok : r_ok (I 108) B) (hwf : sp_wfS (I 108)) : am_E X (d + 3) 189 104 [(8, .inl e), (7, .inl p), (6, .inl (m : Int)), (4, .inr (.inl lo)), (3, .inl part), (2, .inl k), (1, .inl b), (0, .inr (.inr (.inl (some 107))))] [] (am_mm D I J ρ) (fun r => ∃ Q W, r = (some (.inr (.inl (sp_enough (I 108) b k part))), am_mm D (am_wp tL I Q) (am_wp t9 J W) ρ)) := by
  have pb := sp_odds_b (I 108) m b
  rw [← hp] at pb
  refine am_e_ss 1 (q := (106, [(8, .inl e), (7, .inl p), (6, .inl (m : Int)), (4, .inr (.inl lo)), (3, .inl part), (2, .inl k), (1, .inl b), (0, .inr (.inr (.inl (some 107))))], [.inl e], (am_mm D I J ρ))) rfl ?_
  refine am_e_if2 rfl ⟨by omega, by omega⟩ (fun (h1 : e < 0) => ?_) (fun (h1 : ¬ (e < 0)) => ?_)
  · show am_E _ _ _ 159 [(8, .inl e), (7, .inl p), (6, .inl (m : Int)), (4, .inr (.inl lo)), (3, .inl part), (2, .inl k), (1, .inl b), (0, .inr (.inr (.inl (some 107))))] [] (am_mm D I J ρ) _
    refine am_e_ss 6 (q := (70, [(6, .inl ((m : Int) + 1)), (4, .inr (.inl (lo * (10)))), (8, .inl e), (7, .inl p), (3, .inl part), (2, .inl k), (1, .inl b), (0, .inr (.inr (.inl (some 107))))], [], (am_mm D I J ρ))) rfl ?_
    have hall : ∀ i, i < 7 → J 119 i = sp_wy (I 108) b (m + 1) i := by
      intro i hi
      unfold sp_wy
      rw [if_pos hhr]
      have := hhi i (by omega) hi
      rw [hp] at this
      exact this
    have elo : (lo * (10)) = sp_low (I 108) (m + 1) := by unfold sp_low; rw [if_pos hhr, ← hlo]
    refine (am_less (lv := [(6, .inl ((m + 1) : Int)), (4, .inr (.inl (lo * (10)))), (3, .inl part), (2, .inl k), (1, .inl b), (0, .inr (.inr (.inl (some 107))))]) rfl (List.forall_mem_cons.mpr ⟨rfl, List.forall_mem_cons.mpr ⟨rfl, List.forall_mem_cons.mpr ⟨rfl, List.forall_mem_cons.mpr ⟨rfl, List.forall_mem_cons.mpr ⟨rfl, List.forall_mem_cons.mpr ⟨rfl, List.forall_mem_nil _⟩⟩⟩⟩⟩⟩) (ih _ _ B _ rfl hall elo hok hwf)).imp ?_
    rintro r ⟨Q9, W9, rfl⟩
    exact ⟨_, _, am_r_wp2 tL t9 (am_k_wp am_k_sub (am_k_id)) (am_k_wp am_k_sub am_k_id)⟩
  · show am_E _ _ _ 109 [(8, .inl e), (7, .inl p), (6, .inl (m : Int)), (4, .inr (.inl lo)), (3, .inl part), (2, .inl k), (1, .inl b), (0, .inr (.inr (.inl (some 107))))] [] (am_mm D I J ρ) _
    refine am_e_ss 6 (q := (121, [(8, .inl e), (7, .inl p), (6, .inl (m : Int)), (4, .inr (.inl lo)), (3, .inl part), (2, .inl k), (1, .inl b), (0, .inr (.inr (.inl (some 107))))], [.inl e, .inr (.inr (.inl (some 119))), .inl e, .inr (.inr (.inl (some 119)))], (am_mm D I J ρ))) rfl ?_
    refine am_e_laload (m := 7) rfl rfl (by omega) (by omega) (by omega) ?_
    show am_E _ _ _ 122 [(8, .inl e), (7, .inl p), (6, .inl (m : Int)), (4, .inr (.inl lo)), (3, .inl part), (2, .inl k), (1, .inl b), (0, .inr (.inr (.inl (some 107))))] [.inr (.inl (J 119 (e).toNat)), .inl e, .inr (.inr (.inl (some 119)))] (am_mm D I J ρ) _
    refine am_e_ss 6 (q := (131, [(8, .inl e), (7, .inl p), (6, .inl (m : Int)), (4, .inr (.inl lo)), (3, .inl part), (2, .inl k), (1, .inl b), (0, .inr (.inr (.inl (some 107))))], [.inl e, .inr (.inl ((J 119 (e).toNat) * (am_w (10 - p)))), .inl e, .inr (.inr (.inl (some 119)))], (am_mm D I J ρ))) rfl ?_
    refine am_e_if2 rfl ⟨by omega, by omega⟩ (fun (h2 : e ≤ 0) => ?_) (fun (h2 : ¬ (e ≤ 0)) => ?_)
    · show am_E _ _ _ 150 [(8, .inl e), (7, .inl p), (6, .inl (m : Int)), (4, .inr (.inl lo)), (3, .inl part), (2, .inl k), (1, .inl b), (0, .inr (.inr (.inl (some 107))))] [.inr (.inl ((J 119 (e).toNat) * (am_w (10 - p)))), .inl e, .inr (.inr (.inl (some 119)))] (am_mm D I J ρ) _
      refine am_e_ss 2 (q := (152, [(8, .inl e), (7, .inl p), (6, .inl (m : Int)), (4, .inr (.inl lo)), (3, .inl part), (2, .inl k), (1, .inl b), (0, .inr (.inr (.inl (some 107))))], [.inr (.inl (((J 119 (e).toNat) * (am_w (10 - p))) + 0)), .inl e, .inr (.inr (.inl (some 119)))], (am_mm D I J ρ))) rfl ?_
      refine am_e_lastore (m := 7) rfl rfl (by omega) (by omega) (by omega) ?_
      show am_E _ _ _ 153 [(8, .inl e), (7, .inl p), (6, .inl (m : Int)), (4, .inr (.inl lo)), (3, .inl part), (2, .inl k), (1, .inl b), (0, .inr (.inr (.inl (some 107))))] [] (am_mm D I (am_up J 119 (e).toNat (((J 119 (e).toNat) * (am_w (10 - p))) + 0)) ρ) _
      refine am_e_ss 2 (q := (104, [(8, .inl (e + (-1))), (7, .inl p), (6, .inl (m : Int)), (4, .inr (.inl lo)), (3, .inl part), (2, .inl k), (1, .inl b), (0, .inr (.inr (.inl (some 107))))], [], (am_mm D I (am_up J 119 (e).toNat (((J 119 (e).toNat) * (am_w (10 - p))) + 0)) ρ))) rfl ?_
      have e9 : ∀ i, jn - 1 ≤ i → i < 7 → (am_up J 119 (e).toNat (((J 119 (e).toNat) * (am_w (10 - p))) + 0)) 119 i = sp_wyk p (sp_wy (I 108) b m) i := by
        intro i h1 h2
        by_cases e : i = jn - 1
        · subst e
          rw [show jn - 1 = (e).toNat by omega]
          refine am_up_at2.trans ?_
          unfold sp_wyk
          rw [am_w_id (z := 10 - p) (by omega) (by omega), if_pos (by omega), ← hlo2 _ (show (e).toNat < jn by omega)]
        · exact (am_up_ne2 (by omega)).trans (hhi i (by omega) h2)
      have e8 : ∀ i, i < jn - 1 → (am_up J 119 (e).toNat (((J 119 (e).toNat) * (am_w (10 - p))) + 0)) 119 i = (sp_wy (I 108) b m) i := fun i hi => (am_up_ne2 (by omega)).trans (hlo2 i (by omega))
      refine (am_less (lv := [(8, .inl ((e + -1))), (7, .inl p), (6, .inl (m : Int)), (4, .inr (.inl lo)), (3, .inl part), (2, .inl k), (1, .inl b), (0, .inr (.inr (.inl (some 107))))]) rfl (List.forall_mem_cons.mpr ⟨rfl, List.forall_mem_cons.mpr ⟨rfl, List.forall_mem_cons.mpr ⟨rfl, List.forall_mem_cons.mpr ⟨rfl, List.forall_mem_cons.mpr ⟨rfl, List.forall_mem_cons.mpr ⟨rfl, List.forall_mem_cons.mpr ⟨rfl, List.forall_mem_cons.mpr ⟨rfl, List.forall_mem_nil _⟩⟩⟩⟩⟩⟩⟩⟩) (r_enough_3 d (B := B) (e := e + -1) (jn := jn - 1) (k := k) hb hk hpart hm hp hhr (by omega) e9 e8 hlo ih hok hwf)).imp ?_
      rintro r ⟨Q9, W9, rfl⟩
      exact ⟨_, _, am_r_wp2 tL t9 (am_k_wp am_k_sub (am_k_id)) (am_k_wp am_k_sub (am_k_up rfl am_k_id))⟩
    · show am_E _ _ _ 134 [(8, .inl e), (7, .inl p), (6, .inl (m : Int)), (4, .inr (.inl lo)), (3, .inl part), (2, .inl k), (1, .inl b), (0, .inr (.inr (.inl (some 107))))] [.inr (.inl ((J 119 (e).toNat) * (am_w (10 - p)))), .inl e, .inr (.inr (.inl (some 119)))] (am_mm D I J ρ) _
      refine am_e_ss 5 (q := (142, [(8, .inl e), (7, .inl p), (6, .inl (m : Int)), (4, .inr (.inl lo)), (3, .inl part), (2, .inl k), (1, .inl b), (0, .inr (.inr (.inl (some 107))))], [.inl (e - 1), .inr (.inr (.inl (some 119))), .inr (.inl ((J 119 (e).toNat) * (am_w (10 - p)))), .inl e, .inr (.inr (.inl (some 119)))], (am_mm D I J ρ))) rfl ?_
      refine am_e_laload (m := 7) rfl rfl (by omega) (by omega) (by omega) ?_
      show am_E _ _ _ 143 [(8, .inl e), (7, .inl p), (6, .inl (m : Int)), (4, .inr (.inl lo)), (3, .inl part), (2, .inl k), (1, .inl b), (0, .inr (.inr (.inl (some 107))))] [.inr (.inl (J 119 ((e - 1)).toNat)), .inr (.inl ((J 119 (e).toNat) * (am_w (10 - p)))), .inl e, .inr (.inr (.inl (some 119)))] (am_mm D I J ρ) _
      refine am_e_ss 5 (q := (152, [(8, .inl e), (7, .inl p), (6, .inl (m : Int)), (4, .inr (.inl lo)), (3, .inl part), (2, .inl k), (1, .inl b), (0, .inr (.inr (.inl (some 107))))], [.inr (.inl (((J 119 (e).toNat) * (am_w (10 - p))) + ((J 119 ((e - 1)).toNat) * (am_w p)))), .inl e, .inr (.inr (.inl (some 119)))], (am_mm D I J ρ))) rfl ?_
      refine am_e_lastore (m := 7) rfl rfl (by omega) (by omega) (by omega) ?_
      show am_E _ _ _ 153 [(8, .inl e), (7, .inl p), (6, .inl (m : Int)), (4, .inr (.inl lo)), (3, .inl part), (2, .inl k), (1, .inl b), (0, .inr (.inr (.inl (some 107))))] [] (am_mm D I (am_up J 119 (e).toNat (((J 119 (e).toNat) * (am_w (10 - p))) + ((J 119 ((e - 1)).toNat) * (am_w p)))) ρ) _
      refine am_e_ss 2 (q := (104, [(8, .inl (e + (-1))), (7, .inl p), (6, .inl (m : Int)), (4, .inr (.inl lo)), (3, .inl part), (2, .inl k), (1, .inl b), (0, .inr (.inr (.inl (some 107))))], [], (am_mm D I (am_up J 119 (e).toNat (((J 119 (e).toNat) * (am_w (10 - p))) + ((J 119 ((e - 1)).toNat) * (am_w p)))) ρ))) rfl ?_
      have e9 : ∀ i, jn - 1 ≤ i → i < 7 → (am_up J 119 (e).toNat (((J 119 (e).toNat) * (am_w (10 - p))) + ((J 119 ((e - 1)).toNat) * (am_w p)))) 119 i = sp_wyk p (sp_wy (I 108) b m) i := by
        intro i h1 h2
        by_cases e : i = jn - 1
        · subst e
          rw [show jn - 1 = (e).toNat by omega]
          refine am_up_at2.trans ?_
          unfold sp_wyk
          rw [am_w_id (z := 10 - p) (by omega) (by omega), am_w_id (z := p) (by omega) (by omega), if_neg (by omega), ← hlo2 _ (show (e).toNat < jn by omega), show (e - 1).toNat = (e).toNat - 1 by omega, ← hlo2 _ (show (e).toNat - 1 < jn by omega)]
        · exact (am_up_ne2 (by omega)).trans (hhi i (by omega) h2)
      have e8 : ∀ i, i < jn - 1 → (am_up J 119 (e).toNat (((J 119 (e).toNat) * (am_w (10 - p))) + ((J 119 ((e - 1)).toNat) * (am_w p)))) 119 i = (sp_wy (I 108) b m) i := fun i hi => (am_up_ne2 (by omega)).trans (hlo2 i (by omega))
      refine (am_less (lv := [(8, .inl ((e + -1))), (7, .inl p), (6, .inl (m : Int)), (4, .inr (.inl lo)), (3, .inl part), (2, .inl k), (1, .inl b), (0, .inr (.inr (.inl (some 107))))]) rfl (List.forall_mem_cons.mpr ⟨rfl, List.forall_mem_cons.mpr ⟨rfl, List.forall_mem_cons.mpr ⟨rfl, List.forall_mem_cons.mpr ⟨rfl, List.forall_mem_cons.mpr ⟨rfl, List.forall_mem_cons.mpr ⟨rfl, List.forall_mem_cons.mpr ⟨rfl, List.forall_mem_cons.mpr ⟨rfl, List.forall_mem_nil _⟩⟩⟩⟩⟩⟩⟩⟩) (r_enough_3 d (B := B) (e := e + -1) (jn := jn - 1) (k := k) hb hk hpart hm hp hhr (by omega) e9 e8 hlo ih hok hwf)).imp ?_
      rintro r ⟨Q9, W9, rfl⟩
      exact ⟨_, _, am_r_wp2 tL t9 (am_k_wp am_k_sub (am_k_id)) (am_k_wp am_k_sub (am_k_up rfl am_k_id))⟩
termination_by jn
decreasing_by all_goals omega

theorem r_enough_2 {X : Nat × (Nat → Int)} {D : List (Nat × Nat)} {I J : Nat → Nat → Int} {ρ : Nat → Nat → Option Nat} (d : Nat) {B b k part : Int} (hb : 0 ≤ b ∧ b < I 108 20) (hk : 0 ≤ k ∧ k ≤ 6) (hpart : part = 0 ∨ part = 1) {lo : Int} {m : Nat} (hm : (m : Int) ≤ I 108 19) (hw : ∀ i, i < 7 → J 119 i = sp_wy (I 108) b m i) (hlo : lo = sp_low (I 108) m) (ih : (m : Int) < I 108 19 → r_en2 X D ρ d b k part (I 108) (m + 1)) (hok : r_ok (I 108) B) (hwf : sp_wfS (I 108)) : am_E X (d + 3) 189 70 [(6, .inl (m : Int)), (4, .inr (.inl lo)), (3, .inl part), (2, .inl k), (1, .inl b), (0, .inr (.inr (.inl (some 107))))] [] (am_mm D I J ρ) (fun r => ∃ Q W, r = (some (.inr (.inl (sp_enough (I 108) b k part))), am_mm D (am_wp tL I Q) (am_wp t9 J W) ρ)) := by
  have hok2 := hok
  obtain ⟨o0, oG, oH, oD, o19, o20, o21, o22, o23, o24, oK, oV, oP, oM, oS, oY, oHd, oT, oC, oN⟩ := hok
  have hok := hok2
  refine am_e_ss 5 (q := (79, [(6, .inl (m : Int)), (4, .inr (.inl lo)), (3, .inl part), (2, .inl k), (1, .inl b), (0, .inr (.inr (.inl (some 107))))], [.inl ((I 108 19)), .inl (m : Int)], (am_mm D I J ρ))) rfl ?_
  refine am_e_icmp2 rfl ⟨by omega, by omega⟩ ⟨by omega, by omega⟩ (fun (h1 : (I 108 19) ≤ (m : Int)) => ?_) (fun (h1 : ¬ ((I 108 19) ≤ (m : Int))) => ?_)
  · show am_E _ _ _ 173 [(6, .inl (m : Int)), (4, .inr (.inl lo)), (3, .inl part), (2, .inl k), (1, .inl b), (0, .inr (.inr (.inl (some 107))))] [] (am_mm D I J ρ) _
    refine am_e_ss 4 (q := (179, [(8, .inl k), (6, .inr (.inl 0)), (4, .inr (.inl lo)), (3, .inl part), (2, .inl k), (1, .inl b), (0, .inr (.inr (.inl (some 107))))], [], (am_mm D I J ρ))) rfl ?_
    have em : m = (I 108 19).toNat := by omega
    subst em
    subst hlo
    obtain ⟨kn, rfl⟩ : ∃ kn : Nat, k = (kn : Int) := ⟨k.toNat, by omega⟩
    refine (am_less (lv := [(8, .inl (kn : Int)), (6, .inr (.inl 0)), (4, .inr (.inl (sp_low (I 108) (I 108 19).toNat))), (3, .inl part), (2, .inl (kn : Int)), (0, .inr (.inr (.inl (some 107))))]) rfl (List.forall_mem_cons.mpr ⟨rfl, List.forall_mem_cons.mpr ⟨rfl, List.forall_mem_cons.mpr ⟨rfl, List.forall_mem_cons.mpr ⟨rfl, List.forall_mem_cons.mpr ⟨rfl, List.forall_mem_cons.mpr ⟨rfl, List.forall_mem_nil _⟩⟩⟩⟩⟩⟩) (r_enough_4 (d + 2) (B := B) (j := kn) (k := (kn : Int)) (u := 0) hb hk hpart (by omega) (by rw [show kn - (kn : Int).toNat = 0 by omega]; rfl) hw hok)).imp ?_
    rintro r ⟨Q9, W9, rfl⟩
    exact ⟨_, _, am_r_wp2 tL t9 (am_k_wp am_k_sub (am_k_id)) (am_k_wp am_k_sub am_k_id)⟩
  · show am_E _ _ _ 82 [(6, .inl (m : Int)), (4, .inr (.inl lo)), (3, .inl part), (2, .inl k), (1, .inl b), (0, .inr (.inr (.inl (some 107))))] [] (am_mm D I J ρ) _
    refine am_e_ss 2 (q := (85, [(6, .inl (m : Int)), (4, .inr (.inl lo)), (3, .inl part), (2, .inl k), (1, .inl b), (0, .inr (.inr (.inl (some 107))))], [.inl (m : Int), .inr (.inr (.inl (some 107)))], (am_mm D I J ρ))) rfl ?_
    refine am_e_virtual (Q := fun r => r = (some (.inl ((am_bi ((I 108 (7 + m)) = 0)))), (am_mm D I J ρ))) rfl rfl (Nat.le_of_ble_eq_true rfl) rfl rfl (Nat.le_of_ble_eq_true rfl) (Nat.le_of_ble_eq_true rfl) (r_isHere _ (v := (m : Int)) ⟨by omega, by omega⟩ (by exact oH m (by omega))) ?_
    rintro r rfl
    show am_E _ _ _ 88 [(6, .inl (m : Int)), (4, .inr (.inl lo)), (3, .inl part), (2, .inl k), (1, .inl b), (0, .inr (.inr (.inl (some 107))))] [.inl ((am_bi ((I 108 (7 + m)) = 0)))] (am_mm D I J ρ) _
    refine am_e_ifeq rfl (fun h2 => ?_) (fun h2 => ?_)
    · show am_E _ _ _ 167 [(6, .inl (m : Int)), (4, .inr (.inl lo)), (3, .inl part), (2, .inl k), (1, .inl b), (0, .inr (.inr (.inl (some 107))))] [] (am_mm D I J ρ) _
      refine am_e_ss 2 (q := (70, [(6, .inl ((m : Int) + 1)), (4, .inr (.inl lo)), (3, .inl part), (2, .inl k), (1, .inl b), (0, .inr (.inr (.inl (some 107))))], [], (am_mm D I J ρ))) rfl ?_
      have ih := ih (by omega)
      have hall : ∀ i, i < 7 → J 119 i = sp_wy (I 108) b (m + 1) i := by
        intro i hi
        unfold sp_wy
        rw [if_neg (by omega)]
        exact hw i hi
      have elo : lo = sp_low (I 108) (m + 1) := by unfold sp_low; rw [if_neg (by omega)]; exact hlo
      refine (am_less (lv := [(6, .inl ((m + 1) : Int)), (4, .inr (.inl lo)), (3, .inl part), (2, .inl k), (1, .inl b), (0, .inr (.inr (.inl (some 107))))]) rfl (List.forall_mem_cons.mpr ⟨rfl, List.forall_mem_cons.mpr ⟨rfl, List.forall_mem_cons.mpr ⟨rfl, List.forall_mem_cons.mpr ⟨rfl, List.forall_mem_cons.mpr ⟨rfl, List.forall_mem_cons.mpr ⟨rfl, List.forall_mem_nil _⟩⟩⟩⟩⟩⟩) (ih _ _ B _ rfl hall elo hok hwf)).imp ?_
      rintro r ⟨Q9, W9, rfl⟩
      exact ⟨_, _, am_r_wp2 tL t9 (am_k_wp am_k_sub (am_k_id)) (am_k_wp am_k_sub am_k_id)⟩
    · show am_E _ _ _ 91 [(6, .inl (m : Int)), (4, .inr (.inl lo)), (3, .inl part), (2, .inl k), (1, .inl b), (0, .inr (.inr (.inl (some 107))))] [] (am_mm D I J ρ) _
      refine am_e_ss 3 (q := (95, [(6, .inl (m : Int)), (4, .inr (.inl lo)), (3, .inl part), (2, .inl k), (1, .inl b), (0, .inr (.inr (.inl (some 107))))], [.inl b, .inl (m : Int), .inr (.inr (.inl (some 107)))], (am_mm D I J ρ))) rfl ?_
      refine am_e_virtual (Q := fun r => ∃ Q62, r = (some (.inl ((sp_odds (I 108) (m : Int) b))), (am_mm D (am_wp tL I Q62) J ρ)) ∧ True) rfl rfl (Nat.le_of_ble_eq_true rfl) rfl rfl (Nat.le_of_ble_eq_true rfl) (Nat.le_of_ble_eq_true rfl) ((r_readsOf _ (B := B) ⟨by omega, by omega⟩ ⟨by omega, by omega⟩ hok hwf).imp (fun r h => by obtain ⟨Q, e⟩ := h; exact ⟨Q, e, True.intro⟩)) ?_
      rintro r ⟨Q62, rfl, -⟩
      have obQ62 := sp_odds_b (I 108) (m : Int) b
      show am_E _ _ _ 98 [(6, .inl (m : Int)), (4, .inr (.inl lo)), (3, .inl part), (2, .inl k), (1, .inl b), (0, .inr (.inr (.inl (some 107))))] [.inl ((sp_odds (I 108) (m : Int) b))] (am_mm D (am_wp tL I Q62) J ρ) _
      refine am_e_ss 3 (q := (104, [(8, .inl 6), (7, .inl ((sp_odds (I 108) (m : Int) b))), (6, .inl (m : Int)), (4, .inr (.inl lo)), (3, .inl part), (2, .inl k), (1, .inl b), (0, .inr (.inr (.inl (some 107))))], [], (am_mm D (am_wp tL I Q62) J ρ))) rfl ?_
      have ih := ih (by omega)
      refine (am_less (lv := [(8, .inl 6), (7, .inl ((sp_odds (I 108) (m : Int) b))), (6, .inl (m : Int)), (4, .inr (.inl lo)), (3, .inl part), (2, .inl k), (1, .inl b), (0, .inr (.inr (.inl (some 107))))]) rfl (List.forall_mem_cons.mpr ⟨rfl, List.forall_mem_cons.mpr ⟨rfl, List.forall_mem_cons.mpr ⟨rfl, List.forall_mem_cons.mpr ⟨rfl, List.forall_mem_cons.mpr ⟨rfl, List.forall_mem_cons.mpr ⟨rfl, List.forall_mem_cons.mpr ⟨rfl, List.forall_mem_cons.mpr ⟨rfl, List.forall_mem_nil _⟩⟩⟩⟩⟩⟩⟩⟩) (r_enough_3 d (I := am_wp tL I Q62) (B := B) (e := 6) (jn := 7) (k := k) (m := m) (lo := lo) hb hk hpart (show (m : Int) < I 108 19 by omega) rfl (show I 108 (7 + m) = 0 by omega) (by omega) (fun i h1 h2 => by omega) hw hlo ih hok hwf)).imp ?_
      rintro r ⟨Q9, W9, rfl⟩
      exact ⟨_, _, am_r_wp2 tL t9 (am_k_wp am_k_sub (am_k_wp am_k_sub (am_k_id))) (am_k_wp am_k_sub am_k_id)⟩
theorem r_en2_all {X : Nat × (Nat → Int)} {D : List (Nat × Nat)} {ρ : Nat → Nat → Option Nat} (d : Nat) {b k part : Int} {S : Nat → Int} (hb : 0 ≤ b ∧ b < S 20) (hk : 0 ≤ k ∧ k ≤ 6) (hpart : part = 0 ∨ part = 1) : ∀ n m : Nat, (S 19) = (n : Int) + (m : Int) → r_en2 X D ρ d b k part S m := by
  intro n
  induction n with
  | zero =>
    intro m hm I J B lo hS hw hlo hok hwf
    subst hS
    exact r_enough_2 d hb hk hpart (by omega) hw hlo (fun h => by omega) hok hwf
  | succ n ih =>
    intro m hm I J B lo hS hw hlo hok hwf
    subst hS
    exact r_enough_2 d hb hk hpart (by omega) hw hlo (fun _ => ih (m + 1) (by omega)) hok hwf
theorem r_enough_1 {X : Nat × (Nat → Int)} {D : List (Nat × Nat)} {I J : Nat → Nat → Int} {ρ : Nat → Nat → Option Nat} (d : Nat) {B b k part : Int} (hb : 0 ≤ b ∧ b < I 108 20) (hk : 0 ≤ k ∧ k ≤ 6) (hpart : part = 0 ∨ part = 1) {j : Nat} (hj : j ≤ 7) (hw : ∀ i, i < j → J 119 i = (if i = 0 then 1 else 0)) (hok : r_ok (I 108) B) (hwf : sp_wfS (I 108)) : am_E X (d + 3) 189 34 [(4, .inl (j : Int)), (3, .inl part), (2, .inl k), (1, .inl b), (0, .inr (.inr (.inl (some 107))))] [] (am_mm D I J ρ) (fun r => ∃ Q W, r = (some (.inr (.inl (sp_enough (I 108) b k part))), am_mm D (am_wp tL I Q) (am_wp t9 J W) ρ)) := by
  have hok2 := hok
  obtain ⟨o0, oG, oH, oD, o19, o20, o21, o22, o23, o24, oK, oV, oP, oM, oS, oY, oHd, oT, oC, oN⟩ := hok
  have hok := hok2
  refine am_e_ss 2 (q := (38, [(4, .inl (j : Int)), (3, .inl part), (2, .inl k), (1, .inl b), (0, .inr (.inr (.inl (some 107))))], [.inl 7, .inl (j : Int)], (am_mm D I J ρ))) rfl ?_
  refine am_e_icmp2 rfl ⟨by omega, by omega⟩ ⟨by omega, by omega⟩ (fun (h1 : 7 ≤ (j : Int)) => ?_) (fun (h1 : ¬ (7 ≤ (j : Int))) => ?_)
  · show am_E _ _ _ 64 [(4, .inl (j : Int)), (3, .inl part), (2, .inl k), (1, .inl b), (0, .inr (.inr (.inl (some 107))))] [] (am_mm D I J ρ) _
    refine am_e_ss 4 (q := (70, [(6, .inl 0), (4, .inr (.inl 1)), (3, .inl part), (2, .inl k), (1, .inl b), (0, .inr (.inr (.inl (some 107))))], [], (am_mm D I J ρ))) rfl ?_
    refine (am_less (lv := [(6, .inl (0 : Int)), (4, .inr (.inl 1)), (3, .inl part), (2, .inl k), (1, .inl b), (0, .inr (.inr (.inl (some 107))))]) rfl (List.forall_mem_cons.mpr ⟨rfl, List.forall_mem_cons.mpr ⟨rfl, List.forall_mem_cons.mpr ⟨rfl, List.forall_mem_cons.mpr ⟨rfl, List.forall_mem_cons.mpr ⟨rfl, List.forall_mem_cons.mpr ⟨rfl, List.forall_mem_nil _⟩⟩⟩⟩⟩⟩) (r_en2_all d (b := b) (k := k) (part := part) hb hk hpart (I 108 19).toNat 0 (by omega) I J B 1 rfl (fun i hi => hw i (by omega)) rfl hok hwf)).imp ?_
    rintro r ⟨Q9, W9, rfl⟩
    exact ⟨_, _, am_r_wp2 tL t9 (am_k_wp am_k_sub (am_k_id)) (am_k_wp am_k_sub am_k_id)⟩
  · show am_E _ _ _ 41 [(4, .inl (j : Int)), (3, .inl part), (2, .inl k), (1, .inl b), (0, .inr (.inr (.inl (some 107))))] [] (am_mm D I J ρ) _
    refine am_e_ss 4 (q := (49, [(4, .inl (j : Int)), (3, .inl part), (2, .inl k), (1, .inl b), (0, .inr (.inr (.inl (some 107))))], [.inl (j : Int), .inl (j : Int), .inr (.inr (.inl (some 119)))], (am_mm D I J ρ))) rfl ?_
    refine am_e_if2 rfl ⟨by omega, by omega⟩ (fun (h2 : ¬ (j : Int) = 0) => ?_) (fun (h2 : ¬ (¬ (j : Int) = 0)) => ?_)
    · show am_E _ _ _ 56 [(4, .inl (j : Int)), (3, .inl part), (2, .inl k), (1, .inl b), (0, .inr (.inr (.inl (some 107))))] [.inl (j : Int), .inr (.inr (.inl (some 119)))] (am_mm D I J ρ) _
      refine am_e_ss 1 (q := (57, [(4, .inl (j : Int)), (3, .inl part), (2, .inl k), (1, .inl b), (0, .inr (.inr (.inl (some 107))))], [.inr (.inl 0), .inl (j : Int), .inr (.inr (.inl (some 119)))], (am_mm D I J ρ))) rfl ?_
      refine am_e_lastore (m := 7) rfl rfl (by omega) (by omega) (by omega) ?_
      show am_E _ _ _ 58 [(4, .inl (j : Int)), (3, .inl part), (2, .inl k), (1, .inl b), (0, .inr (.inr (.inl (some 107))))] [] (am_mm D I (am_up J 119 j 0) ρ) _
      refine am_e_ss 2 (q := (34, [(4, .inl ((j : Int) + 1)), (3, .inl part), (2, .inl k), (1, .inl b), (0, .inr (.inr (.inl (some 107))))], [], (am_mm D I (am_up J 119 j 0) ρ))) rfl ?_
      have e9 : ∀ i, i < j + 1 → (am_up J 119 j 0) 119 i = (if i = 0 then 1 else 0) := by
        intro i hi
        by_cases e : i = j
        · subst e; refine am_up_at2.trans ?_; (split <;> omega)
        · exact (am_up_ne2 (by omega)).trans (hw i (by omega))
      refine (am_less (lv := [(4, .inl ((j + 1) : Int)), (3, .inl part), (2, .inl k), (1, .inl b), (0, .inr (.inr (.inl (some 107))))]) rfl (List.forall_mem_cons.mpr ⟨rfl, List.forall_mem_cons.mpr ⟨rfl, List.forall_mem_cons.mpr ⟨rfl, List.forall_mem_cons.mpr ⟨rfl, List.forall_mem_cons.mpr ⟨rfl, List.forall_mem_nil _⟩⟩⟩⟩⟩) (r_enough_1 d (B := B) (j := j + 1) (k := k) hb hk hpart (by omega) e9 hok hwf)).imp ?_
      rintro r ⟨Q9, W9, rfl⟩
      exact ⟨_, _, am_r_wp2 tL t9 (am_k_wp am_k_sub (am_k_id)) (am_k_wp am_k_sub (am_k_up rfl am_k_id))⟩
    · show am_E _ _ _ 52 [(4, .inl (j : Int)), (3, .inl part), (2, .inl k), (1, .inl b), (0, .inr (.inr (.inl (some 107))))] [.inl (j : Int), .inr (.inr (.inl (some 119)))] (am_mm D I J ρ) _
      refine am_e_ss 2 (q := (57, [(4, .inl (j : Int)), (3, .inl part), (2, .inl k), (1, .inl b), (0, .inr (.inr (.inl (some 107))))], [.inr (.inl 1), .inl (j : Int), .inr (.inr (.inl (some 119)))], (am_mm D I J ρ))) rfl ?_
      refine am_e_lastore (m := 7) rfl rfl (by omega) (by omega) (by omega) ?_
      show am_E _ _ _ 58 [(4, .inl (j : Int)), (3, .inl part), (2, .inl k), (1, .inl b), (0, .inr (.inr (.inl (some 107))))] [] (am_mm D I (am_up J 119 j 1) ρ) _
      refine am_e_ss 2 (q := (34, [(4, .inl ((j : Int) + 1)), (3, .inl part), (2, .inl k), (1, .inl b), (0, .inr (.inr (.inl (some 107))))], [], (am_mm D I (am_up J 119 j 1) ρ))) rfl ?_
      have e9 : ∀ i, i < j + 1 → (am_up J 119 j 1) 119 i = (if i = 0 then 1 else 0) := by
        intro i hi
        by_cases e : i = j
        · subst e; refine am_up_at2.trans ?_; (split <;> omega)
        · exact (am_up_ne2 (by omega)).trans (hw i (by omega))
      refine (am_less (lv := [(4, .inl ((j + 1) : Int)), (3, .inl part), (2, .inl k), (1, .inl b), (0, .inr (.inr (.inl (some 107))))]) rfl (List.forall_mem_cons.mpr ⟨rfl, List.forall_mem_cons.mpr ⟨rfl, List.forall_mem_cons.mpr ⟨rfl, List.forall_mem_cons.mpr ⟨rfl, List.forall_mem_cons.mpr ⟨rfl, List.forall_mem_nil _⟩⟩⟩⟩⟩) (r_enough_1 d (B := B) (j := j + 1) (k := k) hb hk hpart (by omega) e9 hok hwf)).imp ?_
      rintro r ⟨Q9, W9, rfl⟩
      exact ⟨_, _, am_r_wp2 tL t9 (am_k_wp am_k_sub (am_k_id)) (am_k_wp am_k_sub (am_k_up rfl am_k_id))⟩
termination_by 7 - j
decreasing_by all_goals omega
theorem r_enough {X : Nat × (Nat → Int)} {D : List (Nat × Nat)} {I J : Nat → Nat → Int} {ρ : Nat → Nat → Option Nat} (d : Nat) {B b k part : Int} (hb : -2147483648 ≤ b ∧ b < 2147483648) (hk : -2147483648 ≤ k ∧ k < 2147483648) (hpart : -2147483648 ≤ part ∧ part < 2147483648) (hok : r_ok (I 108) B) (hwf : sp_wfS (I 108)) : am_E X (d + 3) 189 0 [(0, .inr (.inr (.inl (some 107)))), (1, .inl b), (2, .inl k), (3, .inl part)] [] (am_mm D I J ρ) (fun r => ∃ Q W, r = (some (.inr (.inl (sp_enough (I 108) b k part))), am_mm D (am_wp tL I Q) (am_wp t9 J W) ρ)) := by
  have hok2 := hok
  obtain ⟨o0, oG, oH, oD, o19, o20, o21, o22, o23, o24, oK, oV, oP, oM, oS, oY, oHd, oT, oC, oN⟩ := hok
  have hok := hok2
  refine am_e_ss 2 (q := (2, [(0, .inr (.inr (.inl (some 107)))), (1, .inl b), (2, .inl k), (3, .inl part)], [.inl b, .inr (.inr (.inl (some 107)))], (am_mm D I J ρ))) rfl ?_
  refine am_e_virtual (Q := fun r => r = (some (.inl ((am_bi (0 ≤ b ∧ b ≤ ((I 108 20) - 1))))), (am_mm D I J ρ))) rfl rfl (Nat.le_of_ble_eq_true rfl) rfl rfl (Nat.le_of_ble_eq_true rfl) (Nat.le_of_ble_eq_true rfl) (r_isBook _ ⟨by omega, by omega⟩ (show 0 ≤ (I 108 20) ∧ (I 108 20) ≤ 6 by omega)) ?_
  rintro r rfl
  show am_E _ _ _ 5 [(0, .inr (.inr (.inl (some 107)))), (1, .inl b), (2, .inl k), (3, .inl part)] [.inl ((am_bi (0 ≤ b ∧ b ≤ ((I 108 20) - 1))))] (am_mm D I J ρ) _
  refine am_e_ifeq rfl (fun h1 => ?_) (fun h1 => ?_)
  · show am_E _ _ _ 27 [(0, .inr (.inr (.inl (some 107)))), (1, .inl b), (2, .inl k), (3, .inl part)] [] (am_mm D I J ρ) _
    refine am_e_ss 1 (q := (30, [(0, .inr (.inr (.inl (some 107)))), (1, .inl b), (2, .inl k), (3, .inl part)], [.inr (.inl (-9223372036854775808))], (am_mm D I J ρ))) rfl ?_
    refine am_e_lreturn rfl rfl ?_
    rw [show sp_enough (I 108) b k part = (-9223372036854775808) by (unfold sp_enough; (repeat' split) <;> first | rfl | (exfalso; omega))]
    exact ⟨I, J, am_r_wp2 tL t9 am_k_id am_k_id⟩
  · show am_E _ _ _ 8 [(0, .inr (.inr (.inl (some 107)))), (1, .inl b), (2, .inl k), (3, .inl part)] [] (am_mm D I J ρ) _
    refine am_e_ss 3 (q := (12, [(0, .inr (.inr (.inl (some 107)))), (1, .inl b), (2, .inl k), (3, .inl part)], [.inl 6, .inl 0, .inl k], (am_mm D I J ρ))) rfl ?_
    refine am_e_static (Q := fun r => r = (some (.inl ((am_bi (0 ≤ k ∧ k ≤ 6)))), (am_mm D I J ρ))) rfl (Nat.le_of_ble_eq_true rfl) rfl (Nat.le_of_ble_eq_true rfl) (Nat.le_of_ble_eq_true rfl) (r_in _ ⟨by omega, by omega⟩ ⟨by omega, by omega⟩ ⟨by omega, by omega⟩) ?_
    rintro r rfl
    show am_E _ _ _ 15 [(0, .inr (.inr (.inl (some 107)))), (1, .inl b), (2, .inl k), (3, .inl part)] [.inl ((am_bi (0 ≤ k ∧ k ≤ 6)))] (am_mm D I J ρ) _
    refine am_e_ifeq rfl (fun h2 => ?_) (fun h2 => ?_)
    · show am_E _ _ _ 27 [(0, .inr (.inr (.inl (some 107)))), (1, .inl b), (2, .inl k), (3, .inl part)] [] (am_mm D I J ρ) _
      refine am_e_ss 1 (q := (30, [(0, .inr (.inr (.inl (some 107)))), (1, .inl b), (2, .inl k), (3, .inl part)], [.inr (.inl (-9223372036854775808))], (am_mm D I J ρ))) rfl ?_
      refine am_e_lreturn rfl rfl ?_
      rw [show sp_enough (I 108) b k part = (-9223372036854775808) by (unfold sp_enough; (repeat' split) <;> first | rfl | (exfalso; omega))]
      exact ⟨I, J, am_r_wp2 tL t9 am_k_id am_k_id⟩
    · show am_E _ _ _ 18 [(0, .inr (.inr (.inl (some 107)))), (1, .inl b), (2, .inl k), (3, .inl part)] [] (am_mm D I J ρ) _
      refine am_e_ss 3 (q := (21, [(0, .inr (.inr (.inl (some 107)))), (1, .inl b), (2, .inl k), (3, .inl part)], [.inl 1, .inl 0, .inl part], (am_mm D I J ρ))) rfl ?_
      refine am_e_static (Q := fun r => r = (some (.inl ((am_bi (0 ≤ part ∧ part ≤ 1)))), (am_mm D I J ρ))) rfl (Nat.le_of_ble_eq_true rfl) rfl (Nat.le_of_ble_eq_true rfl) (Nat.le_of_ble_eq_true rfl) (r_in _ ⟨by omega, by omega⟩ ⟨by omega, by omega⟩ ⟨by omega, by omega⟩) ?_
      rintro r rfl
      show am_E _ _ _ 24 [(0, .inr (.inr (.inl (some 107)))), (1, .inl b), (2, .inl k), (3, .inl part)] [.inl ((am_bi (0 ≤ part ∧ part ≤ 1)))] (am_mm D I J ρ) _
      refine am_e_ifne rfl (fun h3 => ?_) (fun h3 => ?_)
      · show am_E _ _ _ 31 [(0, .inr (.inr (.inl (some 107)))), (1, .inl b), (2, .inl k), (3, .inl part)] [] (am_mm D I J ρ) _
        refine am_e_ss 2 (q := (34, [(4, .inl 0), (0, .inr (.inr (.inl (some 107)))), (1, .inl b), (2, .inl k), (3, .inl part)], [], (am_mm D I J ρ))) rfl ?_
        refine (am_less (lv := [(4, .inl (0 : Int)), (3, .inl part), (2, .inl k), (1, .inl b), (0, .inr (.inr (.inl (some 107))))]) rfl (List.forall_mem_cons.mpr ⟨rfl, List.forall_mem_cons.mpr ⟨rfl, List.forall_mem_cons.mpr ⟨rfl, List.forall_mem_cons.mpr ⟨rfl, List.forall_mem_cons.mpr ⟨rfl, List.forall_mem_nil _⟩⟩⟩⟩⟩) (r_enough_1 d (B := B) (j := 0) (k := k) (by omega) (by omega) (by omega) (by omega) (fun i hi => by omega) hok hwf)).imp ?_
        rintro r ⟨Q9, W9, rfl⟩
        exact ⟨_, _, am_r_wp2 tL t9 (am_k_wp am_k_sub (am_k_id)) (am_k_wp am_k_sub am_k_id)⟩
      · show am_E _ _ _ 27 [(0, .inr (.inr (.inl (some 107)))), (1, .inl b), (2, .inl k), (3, .inl part)] [] (am_mm D I J ρ) _
        refine am_e_ss 1 (q := (30, [(0, .inr (.inr (.inl (some 107)))), (1, .inl b), (2, .inl k), (3, .inl part)], [.inr (.inl (-9223372036854775808))], (am_mm D I J ρ))) rfl ?_
        refine am_e_lreturn rfl rfl ?_
        rw [show sp_enough (I 108) b k part = (-9223372036854775808) by (unfold sp_enough; (repeat' split) <;> first | rfl | (exfalso; omega))]
        exact ⟨I, J, am_r_wp2 tL t9 am_k_id am_k_id⟩
