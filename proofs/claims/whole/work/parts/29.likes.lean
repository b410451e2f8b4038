theorem sp_row_j {f stp r r' : Nat → Int} {n : Nat} (hw : sp_wf stp n) : ∀ k, k ≤ n → ∀ j : Nat, (j : Int) < sp_top stp k → sp_row f stp r k j = sp_row f stp r' k j := by
  intro k
  induction k with
  | zero => intro _ j hj; have : (j : Int) < 0 := hj; omega
  | succ k ih =>
    intro hk j hj
    have h1 := ih (by omega)
    have h2 := hw k (by omega)
    rw [sp_row_s, sp_row_s]
    rw [sp_top_s] at hj
    unfold am_u1
    by_cases a1 : 0 ≤ stp k
    · rw [if_pos a1] at hj
      rw [if_pos a1, if_pos a1]
      show (if j = _ then _ else _) = (if j = _ then _ else _)
      split
      · rfl
      · exact h1 j (by omega)
    · rw [if_neg a1] at hj
      rw [if_neg a1, if_neg a1]
      by_cases a2 : stp k = -1
      · rw [if_pos a2] at hj
        rw [if_pos a2, if_pos a2]
        have h3 := h2.2.2.1 a2
        show (if j = _ then _ else _) = (if j = _ then _ else _)
        split
        · rw [h1 _ (by omega)]
        · exact h1 j (by omega)
      · rw [if_neg a2] at hj
        rw [if_neg a2, if_neg a2]
        by_cases a3 : -10 < stp k
        · rw [if_pos a3] at hj
          rw [if_pos a3, if_pos a3]
          have h3 := h2.2.2.2.1 a3 (by omega)
          show (if j = _ then _ else _) = (if j = _ then _ else _)
          split
          · rw [h1 (sp_top stp k - 1 - 1).toNat (by omega), h1 (sp_top stp k - 1).toNat (by omega)]
          · exact h1 j (by omega)
        · rw [if_neg a3] at hj
          omega
theorem sp_lkg_j {f stp r r' : Nat → Int} {n : Nat} (hw : sp_wf stp n) : ∀ k, k ≤ n → sp_lkg f stp r k = sp_lkg f stp r' k ∧ sp_rdg f stp r k = sp_rdg f stp r' k := by
  intro k
  induction k with
  | zero => intro _; exact ⟨rfl, rfl⟩
  | succ k ih =>
    intro hk
    obtain ⟨h1, h2⟩ := ih (by omega)
    have h3 := (hw k (by omega)).2.2.2.2
    rw [sp_lkg_s, sp_lkg_s, sp_rdg_s, sp_rdg_s, h1, h2]
    by_cases a : stp k ≤ -10
    · rw [if_pos a, if_pos a, if_pos a, if_pos a, sp_row_j (r' := r') hw k (by omega) 0 (by have := h3 a; omega)]
      exact ⟨rfl, rfl⟩
    · rw [if_neg a, if_neg a, if_neg a, if_neg a]
      exact ⟨rfl, rfl⟩
/-- LIKE and READS -/
def sp_lk (S : Nat → Int) (m b : Int) : Int := sp_liking S m b (fun _ => 0)
def sp_rd' (S : Nat → Int) (m b : Int) : Int := sp_reading S m b (fun _ => 0)
def sp_like (S : Nat → Int) (m b : Int) : Int := ((50 + sp_lk S m b) + (if (S (26 + m).toNat = 2 ∨ S (26 + m).toNat = 5) ∧ S (56 + b).toNat = m then 5 * S (32 + m).toNat else 0)) - (if S (26 + m).toNat = 3 ∨ S (26 + m).toNat = 6 then S (38 + b).toNat / 2 else 0)
def sp_odd1 (S : Nat → Int) (m b : Int) : Int := (3 + Int.tdiv (sp_like S m b) 20) + sp_rd' S m b
def sp_odd2 (S : Nat → Int) (m b : Int) : Int := if S (26 + m).toNat = 6 then Int.tdiv (sp_odd1 S m b) 2 else sp_odd1 S m b
def sp_odds (S : Nat → Int) (m b : Int) : Int := if S (56 + b).toNat = m then 10 else if sp_odd2 S m b < 0 then 0 else if 10 < sp_odd2 S m b then 10 else sp_odd2 S m b
def sp_away (S : Nat → Int) (m : Int) : Prop := S (26 + m).toNat = 6 ∧ S 0 % (S (32 + m).toNat + 2) = 0
def sp_cmg (S : Nat → Int) (m b : Int) : Prop := ¬ (S (26 + m).toNat = 6 ∧ S 0 % (S (32 + m).toNat + 2) = 0) ∧ sp_come S ≤ sp_odds S m b
theorem sp_wfS_n {S : Nat → Int} {B : Int} (hok : r_ok S B) : 0 ≤ sp_many S ∧ sp_many S ≤ 140 := by
  obtain ⟨o0, oG, oH, oD, o19, o20, o21, o22, o23, o24, oK, oV, oP, oM, oS, oY, oHd, oT, oC, oN⟩ := hok
  unfold sp_many
  split
  · omega
  · have := oN (S 24).toNat (by omega)
    rw [show 173 + (S 24).toNat = (173 + S 24).toNat by omega] at this
    omega
theorem sp_lk_b {S : Nat → Int} {B : Int} (hok : r_ok S B) (hw : sp_wfS S) (m b : Int) : (-70000 ≤ sp_lk S m b ∧ sp_lk S m b ≤ 70000) ∧ (-70000 ≤ sp_rd' S m b ∧ sp_rd' S m b ≤ 70000) := by
  have h0 := sp_wfS_n hok
  have h1 := sp_lkg_b (f := sp_fa S m b) (r := fun _ => 0) hw _ (Nat.le_refl _)
  have h2 := sp_rdg_b (f := sp_fa S m b) (r := fun _ => 0) hw _ (Nat.le_refl _)
  refine ⟨?_, ?_⟩
  · show -70000 ≤ sp_lkg _ _ _ _ ∧ sp_lkg _ _ _ _ ≤ 70000
    omega
  · show -70000 ≤ sp_rdg _ _ _ _ ∧ sp_rdg _ _ _ _ ≤ 70000
    omega
theorem sp_like_b {S : Nat → Int} {B : Int} (hok : r_ok S B) (hw : sp_wfS S) {m b : Int} (hm : 0 ≤ m ∧ m < 6) (hb : 0 ≤ b ∧ b < 6) : -80000 ≤ sp_like S m b ∧ sp_like S m b ≤ 80000 := by
  have h := sp_lk_b hok hw m b
  obtain ⟨o0, oG, oH, oD, o19, o20, o21, o22, o23, o24, oK, oV, oP, oM, oS, oY, oHd, oT, oC, oN⟩ := hok
  have v := oV m.toNat (by omega)
  have p := oP b.toNat (by omega)
  rw [show 32 + m.toNat = (32 + m).toNat by omega] at v
  rw [show 38 + b.toNat = (38 + b).toNat by omega] at p
  unfold sp_like
  split <;> split <;> omega
theorem am_tdiv_b {z y c : Int} (hy : 0 < y) (hz : -c ≤ z ∧ z ≤ c) : -c ≤ z.tdiv y ∧ z.tdiv y ≤ c := by
  rcases Int.le_total 0 z with h | h
  · rw [Int.tdiv_eq_ediv_of_nonneg h]
    have a1 : 0 ≤ z / y := Int.ediv_nonneg h (by omega)
    have a2 : z / y ≤ z := Int.ediv_le_self y h
    omega
  · have e : z.tdiv y = -((-z) / y) := by
      rw [← Int.tdiv_eq_ediv_of_nonneg (a := -z) (b := y) (by omega), Int.neg_tdiv, Int.neg_neg]
    rw [e]
    have a1 : 0 ≤ (-z) / y := Int.ediv_nonneg (by omega) (by omega)
    have a2 : (-z) / y ≤ -z := Int.ediv_le_self y (by omega)
    omega
theorem sp_odds_b (S : Nat → Int) (m b : Int) : 0 ≤ sp_odds S m b ∧ sp_odds S m b ≤ 10 := by
  unfold sp_odds
  (repeat' split) <;> omega
theorem r_come_b {S : Nat → Int} {B : Int} (hok : r_ok S B) : 0 ≤ sp_come S ∧ sp_come S ≤ 99 := by
  obtain ⟨o0, oG, oH, oD, o19, o20, o21, o22, o23, o24, oK, oV, oP, oM, oS, oY, oHd, oT, oC, oN⟩ := hok
  unfold sp_come
  split
  · omega
  · have := oC (S 24).toNat (by omega)
    rw [show 168 + (S 24).toNat = (168 + S 24).toNat by omega] at this
    omega
set_option maxRecDepth 2000 in
theorem r_looks {X : Nat × (Nat → Int)} {D : List (Nat × Nat)} {I J : Nat → Nat → Int} {ρ : Nat → Nat → Option Nat} (d : Nat) {B m b : Int} (hm : 0 ≤ m ∧ m < 6) (hb : 0 ≤ b ∧ b < 6) (hok : r_ok (I 108) B) (hwf : sp_wfS (I 108)) : am_E X d 158 0 [(0, .inr (.inr (.inl (some 107)))), (1, .inl m), (2, .inl b)] [] (am_mm D I J ρ) (fun r => ∃ Q, r = (none, am_mm D (am_wp tL I Q) J ρ) ∧ Q 107 12 = sp_lk (I 108) m b ∧ Q 107 13 = sp_rd' (I 108) m b) := by
  have hok2 := hok
  obtain ⟨o0, oG, oH, oD, o19, o20, o21, o22, o23, o24, oK, oV, oP, oM, oS, oY, oHd, oT, oC, oN⟩ := hok
  have oK_m := oK m.toNat (by omega)
  rw [show 26 + m.toNat = (26 + m).toNat by omega] at oK_m
  have oV_m := oV m.toNat (by omega)
  rw [show 32 + m.toNat = (32 + m).toNat by omega] at oV_m
  have oP_b := oP b.toNat (by omega)
  rw [show 38 + b.toNat = (38 + b).toNat by omega] at oP_b
  have oM_b := oM b.toNat (by omega)
  rw [show 44 + b.toNat = (44 + b).toNat by omega] at oM_b
  have oS_b := oS b.toNat (by omega)
  rw [show 50 + b.toNat = (50 + b).toNat by omega] at oS_b
  have oY_b := oY b.toNat (by omega)
  rw [show 56 + b.toNat = (56 + b).toNat by omega] at oY_b
  have hok := hok2
  refine am_e_ss 13 (q := (20, [(0, .inr (.inr (.inl (some 107)))), (1, .inl m), (2, .inl b)], [.inl (26 + m), .inr (.inr (.inl (some 108))), .inl 1, .inr (.inr (.inl (some 111)))], (am_mm D (am_up I 111 0 m) J ρ))) rfl ?_
  refine am_e_iaload (m := 878) rfl rfl (by omega) (by omega) (by omega) ?_
  show am_E _ _ _ 21 [(0, .inr (.inr (.inl (some 107)))), (1, .inl m), (2, .inl b)] [.inl ((I 108 ((26 + m)).toNat)), .inl 1, .inr (.inr (.inl (some 111)))] (am_mm D (am_up I 111 0 m) J ρ) _
  refine am_e_ss 14 (q := (42, [(0, .inr (.inr (.inl (some 107)))), (1, .inl m), (2, .inl b)], [.inl (38 + b), .inr (.inr (.inl (some 108))), .inl 3, .inr (.inr (.inl (some 111)))], (am_mm D (am_up (am_up (am_up I 111 0 m) 111 1 (I 108 ((26 + m)).toNat)) 111 2 b) J ρ))) rfl ?_
  refine am_e_iaload (m := 878) rfl rfl (by omega) (by omega) (by omega) ?_
  show am_E _ _ _ 43 [(0, .inr (.inr (.inl (some 107)))), (1, .inl m), (2, .inl b)] [.inl ((I 108 ((38 + b)).toNat)), .inl 3, .inr (.inr (.inl (some 111)))] (am_mm D (am_up (am_up (am_up I 111 0 m) 111 1 (I 108 ((26 + m)).toNat)) 111 2 b) J ρ) _
  refine am_e_ss 1 (q := (45, [(0, .inr (.inr (.inl (some 107)))), (1, .inl m), (2, .inl b)], [.inl 10, .inl ((I 108 ((38 + b)).toNat)), .inl 3, .inr (.inr (.inl (some 111)))], (am_mm D (am_up (am_up (am_up I 111 0 m) 111 1 (I 108 ((26 + m)).toNat)) 111 2 b) J ρ))) rfl ?_
  refine am_e_idivp rfl ⟨by omega, by omega⟩ ⟨by omega, by omega⟩ ?_
  show am_E _ _ _ 46 [(0, .inr (.inr (.inl (some 107)))), (1, .inl m), (2, .inl b)] [.inl (((I 108 ((38 + b)).toNat) / 10)), .inl 3, .inr (.inr (.inl (some 111)))] (am_mm D (am_up (am_up (am_up I 111 0 m) 111 1 (I 108 ((26 + m)).toNat)) 111 2 b) J ρ) _
  refine am_e_ss 9 (q := (60, [(0, .inr (.inr (.inl (some 107)))), (1, .inl m), (2, .inl b)], [.inl (44 + b), .inr (.inr (.inl (some 108))), .inl 4, .inr (.inr (.inl (some 111)))], (am_mm D (am_up (am_up (am_up (am_up I 111 0 m) 111 1 (I 108 ((26 + m)).toNat)) 111 2 b) 111 3 ((I 108 ((38 + b)).toNat) / 10)) J ρ))) rfl ?_
  refine am_e_iaload (m := 878) rfl rfl (by omega) (by omega) (by omega) ?_
  show am_E _ _ _ 61 [(0, .inr (.inr (.inl (some 107)))), (1, .inl m), (2, .inl b)] [.inl ((I 108 ((44 + b)).toNat)), .inl 4, .inr (.inr (.inl (some 111)))] (am_mm D (am_up (am_up (am_up (am_up I 111 0 m) 111 1 (I 108 ((26 + m)).toNat)) 111 2 b) 111 3 ((I 108 ((38 + b)).toNat) / 10)) J ρ) _
  refine am_e_ss 9 (q := (75, [(0, .inr (.inr (.inl (some 107)))), (1, .inl m), (2, .inl b)], [.inl (50 + b), .inr (.inr (.inl (some 108))), .inl 5, .inr (.inr (.inl (some 111)))], (am_mm D (am_up (am_up (am_up (am_up (am_up I 111 0 m) 111 1 (I 108 ((26 + m)).toNat)) 111 2 b) 111 3 ((I 108 ((38 + b)).toNat) / 10)) 111 4 (I 108 ((44 + b)).toNat)) J ρ))) rfl ?_
  refine am_e_iaload (m := 878) rfl rfl (by omega) (by omega) (by omega) ?_
  show am_E _ _ _ 76 [(0, .inr (.inr (.inl (some 107)))), (1, .inl m), (2, .inl b)] [.inl ((I 108 ((50 + b)).toNat)), .inl 5, .inr (.inr (.inl (some 111)))] (am_mm D (am_up (am_up (am_up (am_up (am_up I 111 0 m) 111 1 (I 108 ((26 + m)).toNat)) 111 2 b) 111 3 ((I 108 ((38 + b)).toNat) / 10)) 111 4 (I 108 ((44 + b)).toNat)) J ρ) _
  refine am_e_ss 12 (q := (95, [(0, .inr (.inr (.inl (some 107)))), (1, .inl m), (2, .inl b)], [.inl (-1), .inl ((I 108 24))], (am_mm D (am_up (am_up (am_up (am_up (am_up (am_up (am_up (am_up I 111 0 m) 111 1 (I 108 ((26 + m)).toNat)) 111 2 b) 111 3 ((I 108 ((38 + b)).toNat) / 10)) 111 4 (I 108 ((44 + b)).toNat)) 111 5 (I 108 ((50 + b)).toNat)) 107 12 0) 107 13 0) J ρ))) rfl ?_
  refine am_e_icmp2 rfl ⟨by omega, by omega⟩ ⟨by omega, by omega⟩ (fun (h1 : ¬ (I 108 24) = (-1)) => ?_) (fun (h1 : ¬ (¬ (I 108 24) = (-1))) => ?_)
  · show am_E _ _ _ 102 [(0, .inr (.inr (.inl (some 107)))), (1, .inl m), (2, .inl b)] [] (am_mm D (am_up (am_up (am_up (am_up (am_up (am_up (am_up (am_up I 111 0 m) 111 1 (I 108 ((26 + m)).toNat)) 111 2 b) 111 3 ((I 108 ((38 + b)).toNat) / 10)) 111 4 (I 108 ((44 + b)).toNat)) 111 5 (I 108 ((50 + b)).toNat)) 107 12 0) 107 13 0) J ρ) _
    refine am_e_ss 8 (q := (117, [(0, .inr (.inr (.inl (some 107)))), (1, .inl m), (2, .inl b)], [.inl (173 + (I 108 24)), .inr (.inr (.inl (some 108)))], (am_mm D (am_up (am_up (am_up (am_up (am_up (am_up (am_up (am_up I 111 0 m) 111 1 (I 108 ((26 + m)).toNat)) 111 2 b) 111 3 ((I 108 ((38 + b)).toNat) / 10)) 111 4 (I 108 ((44 + b)).toNat)) 111 5 (I 108 ((50 + b)).toNat)) 107 12 0) 107 13 0) J ρ))) rfl ?_
    refine am_e_iaload (m := 878) rfl rfl (by omega) (by omega) (by omega) ?_
    show am_E _ _ _ 118 [(0, .inr (.inr (.inl (some 107)))), (1, .inl m), (2, .inl b)] [.inl ((I 108 ((173 + (I 108 24))).toNat))] (am_mm D (am_up (am_up (am_up (am_up (am_up (am_up (am_up (am_up I 111 0 m) 111 1 (I 108 ((26 + m)).toNat)) 111 2 b) 111 3 ((I 108 ((38 + b)).toNat) / 10)) 111 4 (I 108 ((44 + b)).toNat)) 111 5 (I 108 ((50 + b)).toNat)) 107 12 0) 107 13 0) J ρ) _
    refine am_e_ss 14 (q := (143, [(6, .inl (178 + (140 * (I 108 24)))), (5, .inl 0), (4, .inl (178 + (140 * (I 108 24)))), (3, .inl ((I 108 ((173 + (I 108 24))).toNat))), (0, .inr (.inr (.inl (some 107)))), (1, .inl m), (2, .inl b)], [], (am_mm D (am_up (am_up (am_up (am_up (am_up (am_up (am_up (am_up I 111 0 m) 111 1 (I 108 ((26 + m)).toNat)) 111 2 b) 111 3 ((I 108 ((38 + b)).toNat) / 10)) 111 4 (I 108 ((44 + b)).toNat)) 111 5 (I 108 ((50 + b)).toNat)) 107 12 0) 107 13 0) J ρ))) rfl ?_
    have en : (I 108 ((173 + (I 108 24))).toNat) = ((sp_many (I 108)).toNat : Int) := by
      have := sp_wfS_n hok
      unfold sp_many at *
      split at * <;> omega
    have ef : ∀ j, j < 6 → (am_up (am_up (am_up (am_up (am_up (am_up (am_up (am_up I 111 0 m) 111 1 (I 108 ((26 + m)).toNat)) 111 2 b) 111 3 ((I 108 ((38 + b)).toNat) / 10)) 111 4 (I 108 ((44 + b)).toNat)) 111 5 (I 108 ((50 + b)).toNat)) 107 12 0) 107 13 0) 111 j = sp_fa (I 108) m b j := by
      intro j hj
      have : j = 0 ∨ j = 1 ∨ j = 2 ∨ j = 3 ∨ j = 4 ∨ j = 5 := by omega
      rcases this with rfl | rfl | rfl | rfl | rfl | rfl <;> rfl
    have efr : ∀ j, j < 6 → -2147483648 ≤ sp_fa (I 108) m b j ∧ sp_fa (I 108) m b j < 2147483648 := by
      intro j hj
      unfold sp_fa
      (repeat' split) <;> omega
    refine am_e_wp tK am_k_id ?_
    refine (am_less (lv := [(6, .inl ((178 + (140 * (I 108 24))))), (5, .inl 0), (4, .inl ((178 + (140 * (I 108 24))))), (3, .inl ((I 108 ((173 + (I 108 24))).toNat))), (0, .inr (.inr (.inl (some 107))))]) rfl (List.forall_mem_cons.mpr ⟨rfl, List.forall_mem_cons.mpr ⟨rfl, List.forall_mem_cons.mpr ⟨rfl, List.forall_mem_cons.mpr ⟨rfl, List.forall_mem_cons.mpr ⟨rfl, List.forall_mem_nil _⟩⟩⟩⟩⟩) (r_looks_l d (I := am_up (am_up (am_up (am_up (am_up (am_up (am_up (am_up I 111 0 m) 111 1 (I 108 ((26 + m)).toNat)) 111 2 b) 111 3 ((I 108 ((38 + b)).toNat) / 10)) 111 4 (I 108 ((44 + b)).toNat)) 111 5 (I 108 ((50 + b)).toNat)) 107 12 0) 107 13 0) (Q := am_up (am_up (am_up (am_up (am_up (am_up (am_up (am_up I 111 0 m) 111 1 (I 108 ((26 + m)).toNat)) 111 2 b) 111 3 ((I 108 ((38 + b)).toNat) / 10)) 111 4 (I 108 ((44 + b)).toNat)) 111 5 (I 108 ((50 + b)).toNat)) 107 12 0) 107 13 0) (n := (sp_many (I 108)).toNat) (k := 0) (f := sp_fa (I 108) m b) (r := I 112) (stp := sp_stp (I 108)) rfl en (by have := sp_wfS_n hok; omega) (show -1 ≤ I 108 24 ∧ I 108 24 ≤ 4 from o24) (fun h => by have h : I 108 24 = -1 := h; unfold sp_many; rw [if_pos h]; rfl) hwf (by omega) (show (178 + (140 * (I 108 24))) = (178 + (140 * (I 108 24))) + ((0 : Nat) : Int) by omega) rfl ef efr rfl rfl rfl)).imp ?_
    rintro r ⟨Q', rfl, e1, e2⟩
    obtain ⟨j1, j2⟩ := sp_lkg_j (f := sp_fa (I 108) m b) (r := I 112) (r' := fun _ => 0) hwf _ (Nat.le_refl _)
    exact ⟨_, am_r_wp tL (am_k_wp (tK_tL) (am_k_up rfl (am_k_up rfl (am_k_up rfl (am_k_up rfl (am_k_up rfl (am_k_up rfl (am_k_up rfl (am_k_up rfl (am_k_id)))))))))), e1.trans j1, e2.trans j2⟩
  · show am_E _ _ _ 98 [(0, .inr (.inr (.inl (some 107)))), (1, .inl m), (2, .inl b)] [] (am_mm D (am_up (am_up (am_up (am_up (am_up (am_up (am_up (am_up I 111 0 m) 111 1 (I 108 ((26 + m)).toNat)) 111 2 b) 111 3 ((I 108 ((38 + b)).toNat) / 10)) 111 4 (I 108 ((44 + b)).toNat)) 111 5 (I 108 ((50 + b)).toNat)) 107 12 0) 107 13 0) J ρ) _
    refine am_e_ss 16 (q := (143, [(6, .inl (178 + (140 * (I 108 24)))), (5, .inl 0), (4, .inl (178 + (140 * (I 108 24)))), (3, .inl 0), (0, .inr (.inr (.inl (some 107)))), (1, .inl m), (2, .inl b)], [], (am_mm D (am_up (am_up (am_up (am_up (am_up (am_up (am_up (am_up I 111 0 m) 111 1 (I 108 ((26 + m)).toNat)) 111 2 b) 111 3 ((I 108 ((38 + b)).toNat) / 10)) 111 4 (I 108 ((44 + b)).toNat)) 111 5 (I 108 ((50 + b)).toNat)) 107 12 0) 107 13 0) J ρ))) rfl ?_
    have en : 0 = ((sp_many (I 108)).toNat : Int) := by
      have := sp_wfS_n hok
      unfold sp_many at *
      split at * <;> omega
    have ef : ∀ j, j < 6 → (am_up (am_up (am_up (am_up (am_up (am_up (am_up (am_up I 111 0 m) 111 1 (I 108 ((26 + m)).toNat)) 111 2 b) 111 3 ((I 108 ((38 + b)).toNat) / 10)) 111 4 (I 108 ((44 + b)).toNat)) 111 5 (I 108 ((50 + b)).toNat)) 107 12 0) 107 13 0) 111 j = sp_fa (I 108) m b j := by
      intro j hj
      have : j = 0 ∨ j = 1 ∨ j = 2 ∨ j = 3 ∨ j = 4 ∨ j = 5 := by omega
      rcases this with rfl | rfl | rfl | rfl | rfl | rfl <;> rfl
    have efr : ∀ j, j < 6 → -2147483648 ≤ sp_fa (I 108) m b j ∧ sp_fa (I 108) m b j < 2147483648 := by
      intro j hj
      unfold sp_fa
      (repeat' split) <;> omega
    refine am_e_wp tK am_k_id ?_
    refine (am_less (lv := [(6, .inl ((178 + (140 * (I 108 24))))), (5, .inl 0), (4, .inl ((178 + (140 * (I 108 24))))), (3, .inl 0), (0, .inr (.inr (.inl (some 107))))]) rfl (List.forall_mem_cons.mpr ⟨rfl, List.forall_mem_cons.mpr ⟨rfl, List.forall_mem_cons.mpr ⟨rfl, List.forall_mem_cons.mpr ⟨rfl, List.forall_mem_cons.mpr ⟨rfl, List.forall_mem_nil _⟩⟩⟩⟩⟩) (r_looks_l d (I := am_up (am_up (am_up (am_up (am_up (am_up (am_up (am_up I 111 0 m) 111 1 (I 108 ((26 + m)).toNat)) 111 2 b) 111 3 ((I 108 ((38 + b)).toNat) / 10)) 111 4 (I 108 ((44 + b)).toNat)) 111 5 (I 108 ((50 + b)).toNat)) 107 12 0) 107 13 0) (Q := am_up (am_up (am_up (am_up (am_up (am_up (am_up (am_up I 111 0 m) 111 1 (I 108 ((26 + m)).toNat)) 111 2 b) 111 3 ((I 108 ((38 + b)).toNat) / 10)) 111 4 (I 108 ((44 + b)).toNat)) 111 5 (I 108 ((50 + b)).toNat)) 107 12 0) 107 13 0) (n := (sp_many (I 108)).toNat) (k := 0) (f := sp_fa (I 108) m b) (r := I 112) (stp := sp_stp (I 108)) rfl en (by have := sp_wfS_n hok; omega) (show -1 ≤ I 108 24 ∧ I 108 24 ≤ 4 from o24) (fun h => by have h : I 108 24 = -1 := h; unfold sp_many; rw [if_pos h]; rfl) hwf (by omega) (show (178 + (140 * (I 108 24))) = (178 + (140 * (I 108 24))) + ((0 : Nat) : Int) by omega) rfl ef efr rfl rfl rfl)).imp ?_
    rintro r ⟨Q', rfl, e1, e2⟩
    obtain ⟨j1, j2⟩ := sp_lkg_j (f := sp_fa (I 108) m b) (r := I 112) (r' := fun _ => 0) hwf _ (Nat.le_refl _)
    exact ⟨_, am_r_wp tL (am_k_wp (tK_tL) (am_k_up rfl (am_k_up rfl (am_k_up rfl (am_k_up rfl (am_k_up rfl (am_k_up rfl (am_k_up rfl (am_k_up rfl (am_k_id)))))))))), e1.trans j1, e2.trans j2⟩
theorem r_likeOf {X : Nat × (Nat → Int)} {D : List (Nat × Nat)} {I J : Nat → Nat → Int} {ρ : Nat → Nat → Option Nat} (d : Nat) {B m b : Int} (hm : 0 ≤ m ∧ m < 6) (hb : 0 ≤ b ∧ b < 6) (hok : r_ok (I 108) B) (hwf : sp_wfS (I 108)) : am_E X (d + 1) 159 0 [(0, .inr (.inr (.inl (some 107)))), (1, .inl m), (2, .inl b)] [] (am_mm D I J ρ) (fun r => ∃ Q, r = (some (.inl (sp_like (I 108) m b)), am_mm D (am_wp tL I Q) J ρ) ∧ Q 107 13 = sp_rd' (I 108) m b) := by
  have hok2 := hok
  obtain ⟨o0, oG, oH, oD, o19, o20, o21, o22, o23, o24, oK, oV, oP, oM, oS, oY, oHd, oT, oC, oN⟩ := hok
  have oK_m := oK m.toNat (by omega)
  rw [show 26 + m.toNat = (26 + m).toNat by omega] at oK_m
  have oV_m := oV m.toNat (by omega)
  rw [show 32 + m.toNat = (32 + m).toNat by omega] at oV_m
  have oP_b := oP b.toNat (by omega)
  rw [show 38 + b.toNat = (38 + b).toNat by omega] at oP_b
  have oM_b := oM b.toNat (by omega)
  rw [show 44 + b.toNat = (44 + b).toNat by omega] at oM_b
  have oS_b := oS b.toNat (by omega)
  rw [show 50 + b.toNat = (50 + b).toNat by omega] at oS_b
  have oY_b := oY b.toNat (by omega)
  rw [show 56 + b.toNat = (56 + b).toNat by omega] at oY_b
  have hok := hok2
  have bb := sp_lk_b hok hwf m b
  refine am_e_ss 3 (q := (3, [(0, .inr (.inr (.inl (some 107)))), (1, .inl m), (2, .inl b)], [.inl b, .inl m, .inr (.inr (.inl (some 107)))], (am_mm D I J ρ))) rfl ?_
  refine am_e_virtual (Q := fun r => ∃ Q1, r = (none, (am_mm D (am_wp tL I Q1) J ρ)) ∧ Q1 107 12 = sp_lk (I 108) m b ∧ Q1 107 13 = sp_rd' (I 108) m b) rfl rfl (Nat.le_of_ble_eq_true rfl) rfl rfl (Nat.le_of_ble_eq_true rfl) (Nat.le_of_ble_eq_true rfl) (r_looks _ (B := B) ⟨by omega, by omega⟩ ⟨by omega, by omega⟩ hok hwf) ?_
  rintro r ⟨Q1, rfl, ⟨e12Q1, e13Q1⟩⟩
  show am_E _ _ _ 6 [(0, .inr (.inr (.inl (some 107)))), (1, .inl m), (2, .inl b)] [] (am_mm D (am_wp tL I Q1) J ρ) _
  refine am_e_ss 5 (q := (14, [(0, .inr (.inr (.inl (some 107)))), (1, .inl m), (2, .inl b)], [.inl (26 + m), .inr (.inr (.inl (some 108)))], (am_mm D (am_wp tL I Q1) J ρ))) rfl ?_
  refine am_e_iaload (m := 878) rfl rfl (by omega) (by omega) (by omega) ?_
  show am_E _ _ _ 15 [(0, .inr (.inr (.inl (some 107)))), (1, .inl m), (2, .inl b)] [.inl ((I 108 ((26 + m)).toNat))] (am_mm D (am_wp tL I Q1) J ρ) _
  refine am_e_ss 9 (q := (29, [(4, .inl (50 + (Q1 107 12))), (3, .inl ((I 108 ((26 + m)).toNat))), (0, .inr (.inr (.inl (some 107)))), (1, .inl m), (2, .inl b)], [.inl 2, .inl ((I 108 ((26 + m)).toNat)), .inl (50 + (Q1 107 12))], (am_mm D (am_wp tL I Q1) J ρ))) rfl ?_
  refine am_e_icmp2 rfl ⟨by omega, by omega⟩ ⟨by omega, by omega⟩ (fun (h1 : (I 108 ((26 + m)).toNat) = 2) => ?_) (fun (h1 : ¬ ((I 108 ((26 + m)).toNat) = 2)) => ?_)
  · show am_E _ _ _ 37 [(4, .inl (50 + (Q1 107 12))), (3, .inl ((I 108 ((26 + m)).toNat))), (0, .inr (.inr (.inl (some 107)))), (1, .inl m), (2, .inl b)] [.inl (50 + (Q1 107 12))] (am_mm D (am_wp tL I Q1) J ρ) _
    refine am_e_ss 5 (q := (45, [(4, .inl (50 + (Q1 107 12))), (3, .inl ((I 108 ((26 + m)).toNat))), (0, .inr (.inr (.inl (some 107)))), (1, .inl m), (2, .inl b)], [.inl (56 + b), .inr (.inr (.inl (some 108))), .inl (50 + (Q1 107 12))], (am_mm D (am_wp tL I Q1) J ρ))) rfl ?_
    refine am_e_iaload (m := 878) rfl rfl (by omega) (by omega) (by omega) ?_
    show am_E _ _ _ 46 [(4, .inl (50 + (Q1 107 12))), (3, .inl ((I 108 ((26 + m)).toNat))), (0, .inr (.inr (.inl (some 107)))), (1, .inl m), (2, .inl b)] [.inl ((I 108 ((56 + b)).toNat)), .inl (50 + (Q1 107 12))] (am_mm D (am_wp tL I Q1) J ρ) _
    refine am_e_ss 1 (q := (47, [(4, .inl (50 + (Q1 107 12))), (3, .inl ((I 108 ((26 + m)).toNat))), (0, .inr (.inr (.inl (some 107)))), (1, .inl m), (2, .inl b)], [.inl m, .inl ((I 108 ((56 + b)).toNat)), .inl (50 + (Q1 107 12))], (am_mm D (am_wp tL I Q1) J ρ))) rfl ?_
    refine am_e_icmp2 rfl ⟨by omega, by omega⟩ ⟨by omega, by omega⟩ (fun (h2 : ¬ (I 108 ((56 + b)).toNat) = m) => ?_) (fun (h2 : ¬ (¬ (I 108 ((56 + b)).toNat) = m)) => ?_)
    · show am_E _ _ _ 64 [(4, .inl (50 + (Q1 107 12))), (3, .inl ((I 108 ((26 + m)).toNat))), (0, .inr (.inr (.inl (some 107)))), (1, .inl m), (2, .inl b)] [.inl (50 + (Q1 107 12))] (am_mm D (am_wp tL I Q1) J ρ) _
      refine am_e_ss 6 (q := (72, [(4, .inl ((50 + (Q1 107 12)) + 0)), (3, .inl ((I 108 ((26 + m)).toNat))), (0, .inr (.inr (.inl (some 107)))), (1, .inl m), (2, .inl b)], [.inl 3, .inl ((I 108 ((26 + m)).toNat)), .inl ((50 + (Q1 107 12)) + 0)], (am_mm D (am_wp tL I Q1) J ρ))) rfl ?_
      refine am_e_icmp2 rfl ⟨by omega, by omega⟩ ⟨by omega, by omega⟩ (fun (h3 : (I 108 ((26 + m)).toNat) = 3) => ?_) (fun (h3 : ¬ ((I 108 ((26 + m)).toNat) = 3)) => ?_)
      · show am_E _ _ _ 81 [(4, .inl ((50 + (Q1 107 12)) + 0)), (3, .inl ((I 108 ((26 + m)).toNat))), (0, .inr (.inr (.inl (some 107)))), (1, .inl m), (2, .inl b)] [.inl ((50 + (Q1 107 12)) + 0)] (am_mm D (am_wp tL I Q1) J ρ) _
        refine am_e_ss 5 (q := (89, [(4, .inl ((50 + (Q1 107 12)) + 0)), (3, .inl ((I 108 ((26 + m)).toNat))), (0, .inr (.inr (.inl (some 107)))), (1, .inl m), (2, .inl b)], [.inl (38 + b), .inr (.inr (.inl (some 108))), .inl ((50 + (Q1 107 12)) + 0)], (am_mm D (am_wp tL I Q1) J ρ))) rfl ?_
        refine am_e_iaload (m := 878) rfl rfl (by omega) (by omega) (by omega) ?_
        show am_E _ _ _ 90 [(4, .inl ((50 + (Q1 107 12)) + 0)), (3, .inl ((I 108 ((26 + m)).toNat))), (0, .inr (.inr (.inl (some 107)))), (1, .inl m), (2, .inl b)] [.inl ((I 108 ((38 + b)).toNat)), .inl ((50 + (Q1 107 12)) + 0)] (am_mm D (am_wp tL I Q1) J ρ) _
        refine am_e_ss 1 (q := (91, [(4, .inl ((50 + (Q1 107 12)) + 0)), (3, .inl ((I 108 ((26 + m)).toNat))), (0, .inr (.inr (.inl (some 107)))), (1, .inl m), (2, .inl b)], [.inl 2, .inl ((I 108 ((38 + b)).toNat)), .inl ((50 + (Q1 107 12)) + 0)], (am_mm D (am_wp tL I Q1) J ρ))) rfl ?_
        refine am_e_idivp rfl ⟨by omega, by omega⟩ ⟨by omega, by omega⟩ ?_
        show am_E _ _ _ 92 [(4, .inl ((50 + (Q1 107 12)) + 0)), (3, .inl ((I 108 ((26 + m)).toNat))), (0, .inr (.inr (.inl (some 107)))), (1, .inl m), (2, .inl b)] [.inl (((I 108 ((38 + b)).toNat) / 2)), .inl ((50 + (Q1 107 12)) + 0)] (am_mm D (am_wp tL I Q1) J ρ) _
        refine am_e_ss 2 (q := (97, [(4, .inl ((50 + (Q1 107 12)) + 0)), (3, .inl ((I 108 ((26 + m)).toNat))), (0, .inr (.inr (.inl (some 107)))), (1, .inl m), (2, .inl b)], [.inl (((50 + (Q1 107 12)) + 0) - ((I 108 ((38 + b)).toNat) / 2))], (am_mm D (am_wp tL I Q1) J ρ))) rfl ?_
        refine am_e_ireturn rfl rfl ?_
        refine ⟨_, ?_, e13Q1⟩
        show ((_, _) : am_R) = (_, _)
        rw [show (((50 + (Q1 107 12)) + 0) - ((I 108 ((38 + b)).toNat) / 2)) = sp_like (I 108) m b by (rw [e12Q1]; unfold sp_like; split <;> split <;> first | omega | (exfalso; omega))]
      · show am_E _ _ _ 75 [(4, .inl ((50 + (Q1 107 12)) + 0)), (3, .inl ((I 108 ((26 + m)).toNat))), (0, .inr (.inr (.inl (some 107)))), (1, .inl m), (2, .inl b)] [.inl ((50 + (Q1 107 12)) + 0)] (am_mm D (am_wp tL I Q1) J ρ) _
        refine am_e_ss 2 (q := (78, [(4, .inl ((50 + (Q1 107 12)) + 0)), (3, .inl ((I 108 ((26 + m)).toNat))), (0, .inr (.inr (.inl (some 107)))), (1, .inl m), (2, .inl b)], [.inl 6, .inl ((I 108 ((26 + m)).toNat)), .inl ((50 + (Q1 107 12)) + 0)], (am_mm D (am_wp tL I Q1) J ρ))) rfl ?_
        refine am_e_icmp2 rfl ⟨by omega, by omega⟩ ⟨by omega, by omega⟩ (fun (h4 : ¬ (I 108 ((26 + m)).toNat) = 6) => ?_) (fun (h4 : ¬ (¬ (I 108 ((26 + m)).toNat) = 6)) => ?_)
        · show am_E _ _ _ 95 [(4, .inl ((50 + (Q1 107 12)) + 0)), (3, .inl ((I 108 ((26 + m)).toNat))), (0, .inr (.inr (.inl (some 107)))), (1, .inl m), (2, .inl b)] [.inl ((50 + (Q1 107 12)) + 0)] (am_mm D (am_wp tL I Q1) J ρ) _
          refine am_e_ss 2 (q := (97, [(4, .inl ((50 + (Q1 107 12)) + 0)), (3, .inl ((I 108 ((26 + m)).toNat))), (0, .inr (.inr (.inl (some 107)))), (1, .inl m), (2, .inl b)], [.inl (((50 + (Q1 107 12)) + 0) - 0)], (am_mm D (am_wp tL I Q1) J ρ))) rfl ?_
          refine am_e_ireturn rfl rfl ?_
          refine ⟨_, ?_, e13Q1⟩
          show ((_, _) : am_R) = (_, _)
          rw [show (((50 + (Q1 107 12)) + 0) - 0) = sp_like (I 108) m b by (rw [e12Q1]; unfold sp_like; split <;> split <;> first | omega | (exfalso; omega))]
        · show am_E _ _ _ 81 [(4, .inl ((50 + (Q1 107 12)) + 0)), (3, .inl ((I 108 ((26 + m)).toNat))), (0, .inr (.inr (.inl (some 107)))), (1, .inl m), (2, .inl b)] [.inl ((50 + (Q1 107 12)) + 0)] (am_mm D (am_wp tL I Q1) J ρ) _
          refine am_e_ss 5 (q := (89, [(4, .inl ((50 + (Q1 107 12)) + 0)), (3, .inl ((I 108 ((26 + m)).toNat))), (0, .inr (.inr (.inl (some 107)))), (1, .inl m), (2, .inl b)], [.inl (38 + b), .inr (.inr (.inl (some 108))), .inl ((50 + (Q1 107 12)) + 0)], (am_mm D (am_wp tL I Q1) J ρ))) rfl ?_
          refine am_e_iaload (m := 878) rfl rfl (by omega) (by omega) (by omega) ?_
          show am_E _ _ _ 90 [(4, .inl ((50 + (Q1 107 12)) + 0)), (3, .inl ((I 108 ((26 + m)).toNat))), (0, .inr (.inr (.inl (some 107)))), (1, .inl m), (2, .inl b)] [.inl ((I 108 ((38 + b)).toNat)), .inl ((50 + (Q1 107 12)) + 0)] (am_mm D (am_wp tL I Q1) J ρ) _
          refine am_e_ss 1 (q := (91, [(4, .inl ((50 + (Q1 107 12)) + 0)), (3, .inl ((I 108 ((26 + m)).toNat))), (0, .inr (.inr (.inl (some 107)))), (1, .inl m), (2, .inl b)], [.inl 2, .inl ((I 108 ((38 + b)).toNat)), .inl ((50 + (Q1 107 12)) + 0)], (am_mm D (am_wp tL I Q1) J ρ))) rfl ?_
          refine am_e_idivp rfl ⟨by omega, by omega⟩ ⟨by omega, by omega⟩ ?_
          show am_E _ _ _ 92 [(4, .inl ((50 + (Q1 107 12)) + 0)), (3, .inl ((I 108 ((26 + m)).toNat))), (0, .inr (.inr (.inl (some 107)))), (1, .inl m), (2, .inl b)] [.inl (((I 108 ((38 + b)).toNat) / 2)), .inl ((50 + (Q1 107 12)) + 0)] (am_mm D (am_wp tL I Q1) J ρ) _
          refine am_e_ss 2 (q := (97, [(4, .inl ((50 + (Q1 107 12)) + 0)), (3, .inl ((I 108 ((26 + m)).toNat))), (0, .inr (.inr (.inl (some 107)))), (1, .inl m), (2, .inl b)], [.inl (((50 + (Q1 107 12)) + 0) - ((I 108 ((38 + b)).toNat) / 2))], (am_mm D (am_wp tL I Q1) J ρ))) rfl ?_
          refine am_e_ireturn rfl rfl ?_
          refine ⟨_, ?_, e13Q1⟩
          show ((_, _) : am_R) = (_, _)
          rw [show (((50 + (Q1 107 12)) + 0) - ((I 108 ((38 + b)).toNat) / 2)) = sp_like (I 108) m b by (rw [e12Q1]; unfold sp_like; split <;> split <;> first | omega | (exfalso; omega))]
    · show am_E _ _ _ 50 [(4, .inl (50 + (Q1 107 12))), (3, .inl ((I 108 ((26 + m)).toNat))), (0, .inr (.inr (.inl (some 107)))), (1, .inl m), (2, .inl b)] [.inl (50 + (Q1 107 12))] (am_mm D (am_wp tL I Q1) J ρ) _
      refine am_e_ss 6 (q := (59, [(4, .inl (50 + (Q1 107 12))), (3, .inl ((I 108 ((26 + m)).toNat))), (0, .inr (.inr (.inl (some 107)))), (1, .inl m), (2, .inl b)], [.inl (32 + m), .inr (.inr (.inl (some 108))), .inl 5, .inl (50 + (Q1 107 12))], (am_mm D (am_wp tL I Q1) J ρ))) rfl ?_
      refine am_e_iaload (m := 878) rfl rfl (by omega) (by omega) (by omega) ?_
      show am_E _ _ _ 60 [(4, .inl (50 + (Q1 107 12))), (3, .inl ((I 108 ((26 + m)).toNat))), (0, .inr (.inr (.inl (some 107)))), (1, .inl m), (2, .inl b)] [.inl ((I 108 ((32 + m)).toNat)), .inl 5, .inl (50 + (Q1 107 12))] (am_mm D (am_wp tL I Q1) J ρ) _
      refine am_e_ss 7 (q := (72, [(4, .inl ((50 + (Q1 107 12)) + (5 * (I 108 ((32 + m)).toNat)))), (3, .inl ((I 108 ((26 + m)).toNat))), (0, .inr (.inr (.inl (some 107)))), (1, .inl m), (2, .inl b)], [.inl 3, .inl ((I 108 ((26 + m)).toNat)), .inl ((50 + (Q1 107 12)) + (5 * (I 108 ((32 + m)).toNat)))], (am_mm D (am_wp tL I Q1) J ρ))) rfl ?_
      refine am_e_icmp2 rfl ⟨by omega, by omega⟩ ⟨by omega, by omega⟩ (fun (h5 : (I 108 ((26 + m)).toNat) = 3) => ?_) (fun (h5 : ¬ ((I 108 ((26 + m)).toNat) = 3)) => ?_)
      · show am_E _ _ _ 81 [(4, .inl ((50 + (Q1 107 12)) + (5 * (I 108 ((32 + m)).toNat)))), (3, .inl ((I 108 ((26 + m)).toNat))), (0, .inr (.inr (.inl (some 107)))), (1, .inl m), (2, .inl b)] [.inl ((50 + (Q1 107 12)) + (5 * (I 108 ((32 + m)).toNat)))] (am_mm D (am_wp tL I Q1) J ρ) _
        refine am_e_ss 5 (q := (89, [(4, .inl ((50 + (Q1 107 12)) + (5 * (I 108 ((32 + m)).toNat)))), (3, .inl ((I 108 ((26 + m)).toNat))), (0, .inr (.inr (.inl (some 107)))), (1, .inl m), (2, .inl b)], [.inl (38 + b), .inr (.inr (.inl (some 108))), .inl ((50 + (Q1 107 12)) + (5 * (I 108 ((32 + m)).toNat)))], (am_mm D (am_wp tL I Q1) J ρ))) rfl ?_
        refine am_e_iaload (m := 878) rfl rfl (by omega) (by omega) (by omega) ?_
        show am_E _ _ _ 90 [(4, .inl ((50 + (Q1 107 12)) + (5 * (I 108 ((32 + m)).toNat)))), (3, .inl ((I 108 ((26 + m)).toNat))), (0, .inr (.inr (.inl (some 107)))), (1, .inl m), (2, .inl b)] [.inl ((I 108 ((38 + b)).toNat)), .inl ((50 + (Q1 107 12)) + (5 * (I 108 ((32 + m)).toNat)))] (am_mm D (am_wp tL I Q1) J ρ) _
        refine am_e_ss 1 (q := (91, [(4, .inl ((50 + (Q1 107 12)) + (5 * (I 108 ((32 + m)).toNat)))), (3, .inl ((I 108 ((26 + m)).toNat))), (0, .inr (.inr (.inl (some 107)))), (1, .inl m), (2, .inl b)], [.inl 2, .inl ((I 108 ((38 + b)).toNat)), .inl ((50 + (Q1 107 12)) + (5 * (I 108 ((32 + m)).toNat)))], (am_mm D (am_wp tL I Q1) J ρ))) rfl ?_
        refine am_e_idivp rfl ⟨by omega, by omega⟩ ⟨by omega, by omega⟩ ?_
        show am_E _ _ _ 92 [(4, .inl ((50 + (Q1 107 12)) + (5 * (I 108 ((32 + m)).toNat)))), (3, .inl ((I 108 ((26 + m)).toNat))), (0, .inr (.inr (.inl (some 107)))), (1, .inl m), (2, .inl b)] [.inl (((I 108 ((38 + b)).toNat) / 2)), .inl ((50 + (Q1 107 12)) + (5 * (I 108 ((32 + m)).toNat)))] (am_mm D (am_wp tL I Q1) J ρ) _
        refine am_e_ss 2 (q := (97, [(4, .inl ((50 + (Q1 107 12)) + (5 * (I 108 ((32 + m)).toNat)))), (3, .inl ((I 108 ((26 + m)).toNat))), (0, .inr (.inr (.inl (some 107)))), (1, .inl m), (2, .inl b)], [.inl (((50 + (Q1 107 12)) + (5 * (I 108 ((32 + m)).toNat))) - ((I 108 ((38 + b)).toNat) / 2))], (am_mm D (am_wp tL I Q1) J ρ))) rfl ?_
        refine am_e_ireturn rfl rfl ?_
        refine ⟨_, ?_, e13Q1⟩
        show ((_, _) : am_R) = (_, _)
        rw [show (((50 + (Q1 107 12)) + (5 * (I 108 ((32 + m)).toNat))) - ((I 108 ((38 + b)).toNat) / 2)) = sp_like (I 108) m b by (rw [e12Q1]; unfold sp_like; split <;> split <;> first | omega | (exfalso; omega))]
      · show am_E _ _ _ 75 [(4, .inl ((50 + (Q1 107 12)) + (5 * (I 108 ((32 + m)).toNat)))), (3, .inl ((I 108 ((26 + m)).toNat))), (0, .inr (.inr (.inl (some 107)))), (1, .inl m), (2, .inl b)] [.inl ((50 + (Q1 107 12)) + (5 * (I 108 ((32 + m)).toNat)))] (am_mm D (am_wp tL I Q1) J ρ) _
        refine am_e_ss 2 (q := (78, [(4, .inl ((50 + (Q1 107 12)) + (5 * (I 108 ((32 + m)).toNat)))), (3, .inl ((I 108 ((26 + m)).toNat))), (0, .inr (.inr (.inl (some 107)))), (1, .inl m), (2, .inl b)], [.inl 6, .inl ((I 108 ((26 + m)).toNat)), .inl ((50 + (Q1 107 12)) + (5 * (I 108 ((32 + m)).toNat)))], (am_mm D (am_wp tL I Q1) J ρ))) rfl ?_
        refine am_e_icmp2 rfl ⟨by omega, by omega⟩ ⟨by omega, by omega⟩ (fun (h6 : ¬ (I 108 ((26 + m)).toNat) = 6) => ?_) (fun (h6 : ¬ (¬ (I 108 ((26 + m)).toNat) = 6)) => ?_)
        · show am_E _ _ _ 95 [(4, .inl ((50 + (Q1 107 12)) + (5 * (I 108 ((32 + m)).toNat)))), (3, .inl ((I 108 ((26 + m)).toNat))), (0, .inr (.inr (.inl (some 107)))), (1, .inl m), (2, .inl b)] [.inl ((50 + (Q1 107 12)) + (5 * (I 108 ((32 + m)).toNat)))] (am_mm D (am_wp tL I Q1) J ρ) _
          refine am_e_ss 2 (q := (97, [(4, .inl ((50 + (Q1 107 12)) + (5 * (I 108 ((32 + m)).toNat)))), (3, .inl ((I 108 ((26 + m)).toNat))), (0, .inr (.inr (.inl (some 107)))), (1, .inl m), (2, .inl b)], [.inl (((50 + (Q1 107 12)) + (5 * (I 108 ((32 + m)).toNat))) - 0)], (am_mm D (am_wp tL I Q1) J ρ))) rfl ?_
          refine am_e_ireturn rfl rfl ?_
          refine ⟨_, ?_, e13Q1⟩
          show ((_, _) : am_R) = (_, _)
          rw [show (((50 + (Q1 107 12)) + (5 * (I 108 ((32 + m)).toNat))) - 0) = sp_like (I 108) m b by (rw [e12Q1]; unfold sp_like; split <;> split <;> first | omega | (exfalso; omega))]
        · show am_E _ _ _ 81 [(4, .inl ((50 + (Q1 107 12)) + (5 * (I 108 ((32 + m)).toNat)))), (3, .inl ((I 108 ((26 + m)).toNat))), (0, .inr (.inr (.inl (some 107)))), (1, .inl m), (2, .inl b)] [.inl ((50 + (Q1 107 12)) + (5 * (I 108 ((32 + m)).toNat)))] (am_mm D (am_wp tL I Q1) J ρ) _
          refine am_e_ss 5 (q := (89, [(4, .inl ((50 + (Q1 107 12)) + (5 * (I 108 ((32 + m)).toNat)))), (3, .inl ((I 108 ((26 + m)).toNat))), (0, .inr (.inr (.inl (some 107)))), (1, .inl m), (2, .inl b)], [.inl (38 + b), .inr (.inr (.inl (some 108))), .inl ((50 + (Q1 107 12)) + (5 * (I 108 ((32 + m)).toNat)))], (am_mm D (am_wp tL I Q1) J ρ))) rfl ?_
          refine am_e_iaload (m := 878) rfl rfl (by omega) (by omega) (by omega) ?_
          show am_E _ _ _ 90 [(4, .inl ((50 + (Q1 107 12)) + (5 * (I 108 ((32 + m)).toNat)))), (3, .inl ((I 108 ((26 + m)).toNat))), (0, .inr (.inr (.inl (some 107)))), (1, .inl m), (2, .inl b)] [.inl ((I 108 ((38 + b)).toNat)), .inl ((50 + (Q1 107 12)) + (5 * (I 108 ((32 + m)).toNat)))] (am_mm D (am_wp tL I Q1) J ρ) _
          refine am_e_ss 1 (q := (91, [(4, .inl ((50 + (Q1 107 12)) + (5 * (I 108 ((32 + m)).toNat)))), (3, .inl ((I 108 ((26 + m)).toNat))), (0, .inr (.inr (.inl (some 107)))), (1, .inl m), (2, .inl b)], [.inl 2, .inl ((I 108 ((38 + b)).toNat)), .inl ((50 + (Q1 107 12)) + (5 * (I 108 ((32 + m)).toNat)))], (am_mm D (am_wp tL I Q1) J ρ))) rfl ?_
          refine am_e_idivp rfl ⟨by omega, by omega⟩ ⟨by omega, by omega⟩ ?_
          show am_E _ _ _ 92 [(4, .inl ((50 + (Q1 107 12)) + (5 * (I 108 ((32 + m)).toNat)))), (3, .inl ((I 108 ((26 + m)).toNat))), (0, .inr (.inr (.inl (some 107)))), (1, .inl m), (2, .inl b)] [.inl (((I 108 ((38 + b)).toNat) / 2)), .inl ((50 + (Q1 107 12)) + (5 * (I 108 ((32 + m)).toNat)))] (am_mm D (am_wp tL I Q1) J ρ) _
          refine am_e_ss 2 (q := (97, [(4, .inl ((50 + (Q1 107 12)) + (5 * (I 108 ((32 + m)).toNat)))), (3, .inl ((I 108 ((26 + m)).toNat))), (0, .inr (.inr (.inl (some 107)))), (1, .inl m), (2, .inl b)], [.inl (((50 + (Q1 107 12)) + (5 * (I 108 ((32 + m)).toNat))) - ((I 108 ((38 + b)).toNat) / 2))], (am_mm D (am_wp tL I Q1) J ρ))) rfl ?_
          refine am_e_ireturn rfl rfl ?_
          refine ⟨_, ?_, e13Q1⟩
          show ((_, _) : am_R) = (_, _)
          rw [show (((50 + (Q1 107 12)) + (5 * (I 108 ((32 + m)).toNat))) - ((I 108 ((38 + b)).toNat) / 2)) = sp_like (I 108) m b by (rw [e12Q1]; unfold sp_like; split <;> split <;> first | omega | (exfalso; omega))]
  · show am_E _ _ _ 32 [(4, .inl (50 + (Q1 107 12))), (3, .inl ((I 108 ((26 + m)).toNat))), (0, .inr (.inr (.inl (some 107)))), (1, .inl m), (2, .inl b)] [.inl (50 + (Q1 107 12))] (am_mm D (am_wp tL I Q1) J ρ) _
    refine am_e_ss 2 (q := (34, [(4, .inl (50 + (Q1 107 12))), (3, .inl ((I 108 ((26 + m)).toNat))), (0, .inr (.inr (.inl (some 107)))), (1, .inl m), (2, .inl b)], [.inl 5, .inl ((I 108 ((26 + m)).toNat)), .inl (50 + (Q1 107 12))], (am_mm D (am_wp tL I Q1) J ρ))) rfl ?_
    refine am_e_icmp2 rfl ⟨by omega, by omega⟩ ⟨by omega, by omega⟩ (fun (h7 : ¬ (I 108 ((26 + m)).toNat) = 5) => ?_) (fun (h7 : ¬ (¬ (I 108 ((26 + m)).toNat) = 5)) => ?_)
    · show am_E _ _ _ 64 [(4, .inl (50 + (Q1 107 12))), (3, .inl ((I 108 ((26 + m)).toNat))), (0, .inr (.inr (.inl (some 107)))), (1, .inl m), (2, .inl b)] [.inl (50 + (Q1 107 12))] (am_mm D (am_wp tL I Q1) J ρ) _
      refine am_e_ss 6 (q := (72, [(4, .inl ((50 + (Q1 107 12)) + 0)), (3, .inl ((I 108 ((26 + m)).toNat))), (0, .inr (.inr (.inl (some 107)))), (1, .inl m), (2, .inl b)], [.inl 3, .inl ((I 108 ((26 + m)).toNat)), .inl ((50 + (Q1 107 12)) + 0)], (am_mm D (am_wp tL I Q1) J ρ))) rfl ?_
      refine am_e_icmp2 rfl ⟨by omega, by omega⟩ ⟨by omega, by omega⟩ (fun (h8 : (I 108 ((26 + m)).toNat) = 3) => ?_) (fun (h8 : ¬ ((I 108 ((26 + m)).toNat) = 3)) => ?_)
      · show am_E _ _ _ 81 [(4, .inl ((50 + (Q1 107 12)) + 0)), (3, .inl ((I 108 ((26 + m)).toNat))), (0, .inr (.inr (.inl (some 107)))), (1, .inl m), (2, .inl b)] [.inl ((50 + (Q1 107 12)) + 0)] (am_mm D (am_wp tL I Q1) J ρ) _
        refine am_e_ss 5 (q := (89, [(4, .inl ((50 + (Q1 107 12)) + 0)), (3, .inl ((I 108 ((26 + m)).toNat))), (0, .inr (.inr (.inl (some 107)))), (1, .inl m), (2, .inl b)], [.inl (38 + b), .inr (.inr (.inl (some 108))), .inl ((50 + (Q1 107 12)) + 0)], (am_mm D (am_wp tL I Q1) J ρ))) rfl ?_
        refine am_e_iaload (m := 878) rfl rfl (by omega) (by omega) (by omega) ?_
        show am_E _ _ _ 90 [(4, .inl ((50 + (Q1 107 12)) + 0)), (3, .inl ((I 108 ((26 + m)).toNat))), (0, .inr (.inr (.inl (some 107)))), (1, .inl m), (2, .inl b)] [.inl ((I 108 ((38 + b)).toNat)), .inl ((50 + (Q1 107 12)) + 0)] (am_mm D (am_wp tL I Q1) J ρ) _
        refine am_e_ss 1 (q := (91, [(4, .inl ((50 + (Q1 107 12)) + 0)), (3, .inl ((I 108 ((26 + m)).toNat))), (0, .inr (.inr (.inl (some 107)))), (1, .inl m), (2, .inl b)], [.inl 2, .inl ((I 108 ((38 + b)).toNat)), .inl ((50 + (Q1 107 12)) + 0)], (am_mm D (am_wp tL I Q1) J ρ))) rfl ?_
        refine am_e_idivp rfl ⟨by omega, by omega⟩ ⟨by omega, by omega⟩ ?_
        show am_E _ _ _ 92 [(4, .inl ((50 + (Q1 107 12)) + 0)), (3, .inl ((I 108 ((26 + m)).toNat))), (0, .inr (.inr (.inl (some 107)))), (1, .inl m), (2, .inl b)] [.inl (((I 108 ((38 + b)).toNat) / 2)), .inl ((50 + (Q1 107 12)) + 0)] (am_mm D (am_wp tL I Q1) J ρ) _
        refine am_e_ss 2 (q := (97, [(4, .inl ((50 + (Q1 107 12)) + 0)), (3, .inl ((I 108 ((26 + m)).toNat))), (0, .inr (.inr (.inl (some 107)))), (1, .inl m), (2, .inl b)], [.inl (((50 + (Q1 107 12)) + 0) - ((I 108 ((38 + b)).toNat) / 2))], (am_mm D (am_wp tL I Q1) J ρ))) rfl ?_
        refine am_e_ireturn rfl rfl ?_
        refine ⟨_, ?_, e13Q1⟩
        show ((_, _) : am_R) = (_, _)
        rw [show (((50 + (Q1 107 12)) + 0) - ((I 108 ((38 + b)).toNat) / 2)) = sp_like (I 108) m b by (rw [e12Q1]; unfold sp_like; split <;> split <;> first | omega | (exfalso; omega))]
      · show am_E _ _ _ 75 [(4, .inl ((50 + (Q1 107 12)) + 0)), (3, .inl ((I 108 ((26 + m)).toNat))), (0, .inr (.inr (.inl (some 107)))), (1, .inl m), (2, .inl b)] [.inl ((50 + (Q1 107 12)) + 0)] (am_mm D (am_wp tL I Q1) J ρ) _
        refine am_e_ss 2 (q := (78, [(4, .inl ((50 + (Q1 107 12)) + 0)), (3, .inl ((I 108 ((26 + m)).toNat))), (0, .inr (.inr (.inl (some 107)))), (1, .inl m), (2, .inl b)], [.inl 6, .inl ((I 108 ((26 + m)).toNat)), .inl ((50 + (Q1 107 12)) + 0)], (am_mm D (am_wp tL I Q1) J ρ))) rfl ?_
        refine am_e_icmp2 rfl ⟨by omega, by omega⟩ ⟨by omega, by omega⟩ (fun (h9 : ¬ (I 108 ((26 + m)).toNat) = 6) => ?_) (fun (h9 : ¬ (¬ (I 108 ((26 + m)).toNat) = 6)) => ?_)
        · show am_E _ _ _ 95 [(4, .inl ((50 + (Q1 107 12)) + 0)), (3, .inl ((I 108 ((26 + m)).toNat))), (0, .inr (.inr (.inl (some 107)))), (1, .inl m), (2, .inl b)] [.inl ((50 + (Q1 107 12)) + 0)] (am_mm D (am_wp tL I Q1) J ρ) _
          refine am_e_ss 2 (q := (97, [(4, .inl ((50 + (Q1 107 12)) + 0)), (3, .inl ((I 108 ((26 + m)).toNat))), (0, .inr (.inr (.inl (some 107)))), (1, .inl m), (2, .inl b)], [.inl (((50 + (Q1 107 12)) + 0) - 0)], (am_mm D (am_wp tL I Q1) J ρ))) rfl ?_
          refine am_e_ireturn rfl rfl ?_
          refine ⟨_, ?_, e13Q1⟩
          show ((_, _) : am_R) = (_, _)
          rw [show (((50 + (Q1 107 12)) + 0) - 0) = sp_like (I 108) m b by (rw [e12Q1]; unfold sp_like; split <;> split <;> first | omega | (exfalso; omega))]
        · show am_E _ _ _ 81 [(4, .inl ((50 + (Q1 107 12)) + 0)), (3, .inl ((I 108 ((26 + m)).toNat))), (0, .inr (.inr (.inl (some 107)))), (1, .inl m), (2, .inl b)] [.inl ((50 + (Q1 107 12)) + 0)] (am_mm D (am_wp tL I Q1) J ρ) _
          refine am_e_ss 5 (q := (89, [(4, .inl ((50 + (Q1 107 12)) + 0)), (3, .inl ((I 108 ((26 + m)).toNat))), (0, .inr (.inr (.inl (some 107)))), (1, .inl m), (2, .inl b)], [.inl (38 + b), .inr (.inr (.inl (some 108))), .inl ((50 + (Q1 107 12)) + 0)], (am_mm D (am_wp tL I Q1) J ρ))) rfl ?_
          refine am_e_iaload (m := 878) rfl rfl (by omega) (by omega) (by omega) ?_
          show am_E _ _ _ 90 [(4, .inl ((50 + (Q1 107 12)) + 0)), (3, .inl ((I 108 ((26 + m)).toNat))), (0, .inr (.inr (.inl (some 107)))), (1, .inl m), (2, .inl b)] [.inl ((I 108 ((38 + b)).toNat)), .inl ((50 + (Q1 107 12)) + 0)] (am_mm D (am_wp tL I Q1) J ρ) _
          refine am_e_ss 1 (q := (91, [(4, .inl ((50 + (Q1 107 12)) + 0)), (3, .inl ((I 108 ((26 + m)).toNat))), (0, .inr (.inr (.inl (some 107)))), (1, .inl m), (2, .inl b)], [.inl 2, .inl ((I 108 ((38 + b)).toNat)), .inl ((50 + (Q1 107 12)) + 0)], (am_mm D (am_wp tL I Q1) J ρ))) rfl ?_
          refine am_e_idivp rfl ⟨by omega, by omega⟩ ⟨by omega, by omega⟩ ?_
          show am_E _ _ _ 92 [(4, .inl ((50 + (Q1 107 12)) + 0)), (3, .inl ((I 108 ((26 + m)).toNat))), (0, .inr (.inr (.inl (some 107)))), (1, .inl m), (2, .inl b)] [.inl (((I 108 ((38 + b)).toNat) / 2)), .inl ((50 + (Q1 107 12)) + 0)] (am_mm D (am_wp tL I Q1) J ρ) _
          refine am_e_ss 2 (q := (97, [(4, .inl ((50 + (Q1 107 12)) + 0)), (3, .inl ((I 108 ((26 + m)).toNat))), (0, .inr (.inr (.inl (some 107)))), (1, .inl m), (2, .inl b)], [.inl (((50 + (Q1 107 12)) + 0) - ((I 108 ((38 + b)).toNat) / 2))], (am_mm D (am_wp tL I Q1) J ρ))) rfl ?_
          refine am_e_ireturn rfl rfl ?_
          refine ⟨_, ?_, e13Q1⟩
          show ((_, _) : am_R) = (_, _)
          rw [show (((50 + (Q1 107 12)) + 0) - ((I 108 ((38 + b)).toNat) / 2)) = sp_like (I 108) m b by (rw [e12Q1]; unfold sp_like; split <;> split <;> first | omega | (exfalso; omega))]
    · show am_E _ _ _ 37 [(4, .inl (50 + (Q1 107 12))), (3, .inl ((I 108 ((26 + m)).toNat))), (0, .inr (.inr (.inl (some 107)))), (1, .inl m), (2, .inl b)] [.inl (50 + (Q1 107 12))] (am_mm D (am_wp tL I Q1) J ρ) _
      refine am_e_ss 5 (q := (45, [(4, .inl (50 + (Q1 107 12))), (3, .inl ((I 108 ((26 + m)).toNat))), (0, .inr (.inr (.inl (some 107)))), (1, .inl m), (2, .inl b)], [.inl (56 + b), .inr (.inr (.inl (some 108))), .inl (50 + (Q1 107 12))], (am_mm D (am_wp tL I Q1) J ρ))) rfl ?_
      refine am_e_iaload (m := 878) rfl rfl (by omega) (by omega) (by omega) ?_
      show am_E _ _ _ 46 [(4, .inl (50 + (Q1 107 12))), (3, .inl ((I 108 ((26 + m)).toNat))), (0, .inr (.inr (.inl (some 107)))), (1, .inl m), (2, .inl b)] [.inl ((I 108 ((56 + b)).toNat)), .inl (50 + (Q1 107 12))] (am_mm D (am_wp tL I Q1) J ρ) _
      refine am_e_ss 1 (q := (47, [(4, .inl (50 + (Q1 107 12))), (3, .inl ((I 108 ((26 + m)).toNat))), (0, .inr (.inr (.inl (some 107)))), (1, .inl m), (2, .inl b)], [.inl m, .inl ((I 108 ((56 + b)).toNat)), .inl (50 + (Q1 107 12))], (am_mm D (am_wp tL I Q1) J ρ))) rfl ?_
      refine am_e_icmp2 rfl ⟨by omega, by omega⟩ ⟨by omega, by omega⟩ (fun (h10 : ¬ (I 108 ((56 + b)).toNat) = m) => ?_) (fun (h10 : ¬ (¬ (I 108 ((56 + b)).toNat) = m)) => ?_)
      · show am_E _ _ _ 64 [(4, .inl (50 + (Q1 107 12))), (3, .inl ((I 108 ((26 + m)).toNat))), (0, .inr (.inr (.inl (some 107)))), (1, .inl m), (2, .inl b)] [.inl (50 + (Q1 107 12))] (am_mm D (am_wp tL I Q1) J ρ) _
        refine am_e_ss 6 (q := (72, [(4, .inl ((50 + (Q1 107 12)) + 0)), (3, .inl ((I 108 ((26 + m)).toNat))), (0, .inr (.inr (.inl (some 107)))), (1, .inl m), (2, .inl b)], [.inl 3, .inl ((I 108 ((26 + m)).toNat)), .inl ((50 + (Q1 107 12)) + 0)], (am_mm D (am_wp tL I Q1) J ρ))) rfl ?_
        refine am_e_icmp2 rfl ⟨by omega, by omega⟩ ⟨by omega, by omega⟩ (fun (h11 : (I 108 ((26 + m)).toNat) = 3) => ?_) (fun (h11 : ¬ ((I 108 ((26 + m)).toNat) = 3)) => ?_)
        · show am_E _ _ _ 81 [(4, .inl ((50 + (Q1 107 12)) + 0)), (3, .inl ((I 108 ((26 + m)).toNat))), (0, .inr (.inr (.inl (some 107)))), (1, .inl m), (2, .inl b)] [.inl ((50 + (Q1 107 12)) + 0)] (am_mm D (am_wp tL I Q1) J ρ) _
          refine am_e_ss 5 (q := (89, [(4, .inl ((50 + (Q1 107 12)) + 0)), (3, .inl ((I 108 ((26 + m)).toNat))), (0, .inr (.inr (.inl (some 107)))), (1, .inl m), (2, .inl b)], [.inl (38 + b), .inr (.inr (.inl (some 108))), .inl ((50 + (Q1 107 12)) + 0)], (am_mm D (am_wp tL I Q1) J ρ))) rfl ?_
          refine am_e_iaload (m := 878) rfl rfl (by omega) (by omega) (by omega) ?_
          show am_E _ _ _ 90 [(4, .inl ((50 + (Q1 107 12)) + 0)), (3, .inl ((I 108 ((26 + m)).toNat))), (0, .inr (.inr (.inl (some 107)))), (1, .inl m), (2, .inl b)] [.inl ((I 108 ((38 + b)).toNat)), .inl ((50 + (Q1 107 12)) + 0)] (am_mm D (am_wp tL I Q1) J ρ) _
          refine am_e_ss 1 (q := (91, [(4, .inl ((50 + (Q1 107 12)) + 0)), (3, .inl ((I 108 ((26 + m)).toNat))), (0, .inr (.inr (.inl (some 107)))), (1, .inl m), (2, .inl b)], [.inl 2, .inl ((I 108 ((38 + b)).toNat)), .inl ((50 + (Q1 107 12)) + 0)], (am_mm D (am_wp tL I Q1) J ρ))) rfl ?_
          refine am_e_idivp rfl ⟨by omega, by omega⟩ ⟨by omega, by omega⟩ ?_
          show am_E _ _ _ 92 [(4, .inl ((50 + (Q1 107 12)) + 0)), (3, .inl ((I 108 ((26 + m)).toNat))), (0, .inr (.inr (.inl (some 107)))), (1, .inl m), (2, .inl b)] [.inl (((I 108 ((38 + b)).toNat) / 2)), .inl ((50 + (Q1 107 12)) + 0)] (am_mm D (am_wp tL I Q1) J ρ) _
          refine am_e_ss 2 (q := (97, [(4, .inl ((50 + (Q1 107 12)) + 0)), (3, .inl ((I 108 ((26 + m)).toNat))), (0, .inr (.inr (.inl (some 107)))), (1, .inl m), (2, .inl b)], [.inl (((50 + (Q1 107 12)) + 0) - ((I 108 ((38 + b)).toNat) / 2))], (am_mm D (am_wp tL I Q1) J ρ))) rfl ?_
          refine am_e_ireturn rfl rfl ?_
          refine ⟨_, ?_, e13Q1⟩
          show ((_, _) : am_R) = (_, _)
          rw [show (((50 + (Q1 107 12)) + 0) - ((I 108 ((38 + b)).toNat) / 2)) = sp_like (I 108) m b by (rw [e12Q1]; unfold sp_like; split <;> split <;> first | omega | (exfalso; omega))]
        · show am_E _ _ _ 75 [(4, .inl ((50 + (Q1 107 12)) + 0)), (3, .inl ((I 108 ((26 + m)).toNat))), (0, .inr (.inr (.inl (some 107)))), (1, .inl m), (2, .inl b)] [.inl ((50 + (Q1 107 12)) + 0)] (am_mm D (am_wp tL I Q1) J ρ) _
          refine am_e_ss 2 (q := (78, [(4, .inl ((50 + (Q1 107 12)) + 0)), (3, .inl ((I 108 ((26 + m)).toNat))), (0, .inr (.inr (.inl (some 107)))), (1, .inl m), (2, .inl b)], [.inl 6, .inl ((I 108 ((26 + m)).toNat)), .inl ((50 + (Q1 107 12)) + 0)], (am_mm D (am_wp tL I Q1) J ρ))) rfl ?_
          refine am_e_icmp2 rfl ⟨by omega, by omega⟩ ⟨by omega, by omega⟩ (fun (h12 : ¬ (I 108 ((26 + m)).toNat) = 6) => ?_) (fun (h12 : ¬ (¬ (I 108 ((26 + m)).toNat) = 6)) => ?_)
          · show am_E _ _ _ 95 [(4, .inl ((50 + (Q1 107 12)) + 0)), (3, .inl ((I 108 ((26 + m)).toNat))), (0, .inr (.inr (.inl (some 107)))), (1, .inl m), (2, .inl b)] [.inl ((50 + (Q1 107 12)) + 0)] (am_mm D (am_wp tL I Q1) J ρ) _
            refine am_e_ss 2 (q := (97, [(4, .inl ((50 + (Q1 107 12)) + 0)), (3, .inl ((I 108 ((26 + m)).toNat))), (0, .inr (.inr (.inl (some 107)))), (1, .inl m), (2, .inl b)], [.inl (((50 + (Q1 107 12)) + 0) - 0)], (am_mm D (am_wp tL I Q1) J ρ))) rfl ?_
            refine am_e_ireturn rfl rfl ?_
            refine ⟨_, ?_, e13Q1⟩
            show ((_, _) : am_R) = (_, _)
            rw [show (((50 + (Q1 107 12)) + 0) - 0) = sp_like (I 108) m b by (rw [e12Q1]; unfold sp_like; split <;> split <;> first | omega | (exfalso; omega))]
          · show am_E _ _ _ 81 [(4, .inl ((50 + (Q1 107 12)) + 0)), (3, .inl ((I 108 ((26 + m)).toNat))), (0, .inr (.inr (.inl (some 107)))), (1, .inl m), (2, .inl b)] [.inl ((50 + (Q1 107 12)) + 0)] (am_mm D (am_wp tL I Q1) J ρ) _
            refine am_e_ss 5 (q := (89, [(4, .inl ((50 + (Q1 107 12)) + 0)), (3, .inl ((I 108 ((26 + m)).toNat))), (0, .inr (.inr (.inl (some 107)))), (1, .inl m), (2, .inl b)], [.inl (38 + b), .inr (.inr (.inl (some 108))), .inl ((50 + (Q1 107 12)) + 0)], (am_mm D (am_wp tL I Q1) J ρ))) rfl ?_
            refine am_e_iaload (m := 878) rfl rfl (by omega) (by omega) (by omega) ?_
            show am_E _ _ _ 90 [(4, .inl ((50 + (Q1 107 12)) + 0)), (3, .inl ((I 108 ((26 + m)).toNat))), (0, .inr (.inr (.inl (some 107)))), (1, .inl m), (2, .inl b)] [.inl ((I 108 ((38 + b)).toNat)), .inl ((50 + (Q1 107 12)) + 0)] (am_mm D (am_wp tL I Q1) J ρ) _
            refine am_e_ss 1 (q := (91, [(4, .inl ((50 + (Q1 107 12)) + 0)), (3, .inl ((I 108 ((26 + m)).toNat))), (0, .inr (.inr (.inl (some 107)))), (1, .inl m), (2, .inl b)], [.inl 2, .inl ((I 108 ((38 + b)).toNat)), .inl ((50 + (Q1 107 12)) + 0)], (am_mm D (am_wp tL I Q1) J ρ))) rfl ?_
            refine am_e_idivp rfl ⟨by omega, by omega⟩ ⟨by omega, by omega⟩ ?_
            show am_E _ _ _ 92 [(4, .inl ((50 + (Q1 107 12)) + 0)), (3, .inl ((I 108 ((26 + m)).toNat))), (0, .inr (.inr (.inl (some 107)))), (1, .inl m), (2, .inl b)] [.inl (((I 108 ((38 + b)).toNat) / 2)), .inl ((50 + (Q1 107 12)) + 0)] (am_mm D (am_wp tL I Q1) J ρ) _
            refine am_e_ss 2 (q := (97, [(4, .inl ((50 + (Q1 107 12)) + 0)), (3, .inl ((I 108 ((26 + m)).toNat))), (0, .inr (.inr (.inl (some 107)))), (1, .inl m), (2, .inl b)], [.inl (((50 + (Q1 107 12)) + 0) - ((I 108 ((38 + b)).toNat) / 2))], (am_mm D (am_wp tL I Q1) J ρ))) rfl ?_
            refine am_e_ireturn rfl rfl ?_
            refine ⟨_, ?_, e13Q1⟩
            show ((_, _) : am_R) = (_, _)
            rw [show (((50 + (Q1 107 12)) + 0) - ((I 108 ((38 + b)).toNat) / 2)) = sp_like (I 108) m b by (rw [e12Q1]; unfold sp_like; split <;> split <;> first | omega | (exfalso; omega))]
      · show am_E _ _ _ 50 [(4, .inl (50 + (Q1 107 12))), (3, .inl ((I 108 ((26 + m)).toNat))), (0, .inr (.inr (.inl (some 107)))), (1, .inl m), (2, .inl b)] [.inl (50 + (Q1 107 12))] (am_mm D (am_wp tL I Q1) J ρ) _
        refine am_e_ss 6 (q := (59, [(4, .inl (50 + (Q1 107 12))), (3, .inl ((I 108 ((26 + m)).toNat))), (0, .inr (.inr (.inl (some 107)))), (1, .inl m), (2, .inl b)], [.inl (32 + m), .inr (.inr (.inl (some 108))), .inl 5, .inl (50 + (Q1 107 12))], (am_mm D (am_wp tL I Q1) J ρ))) rfl ?_
        refine am_e_iaload (m := 878) rfl rfl (by omega) (by omega) (by omega) ?_
        show am_E _ _ _ 60 [(4, .inl (50 + (Q1 107 12))), (3, .inl ((I 108 ((26 + m)).toNat))), (0, .inr (.inr (.inl (some 107)))), (1, .inl m), (2, .inl b)] [.inl ((I 108 ((32 + m)).toNat)), .inl 5, .inl (50 + (Q1 107 12))] (am_mm D (am_wp tL I Q1) J ρ) _
        refine am_e_ss 7 (q := (72, [(4, .inl ((50 + (Q1 107 12)) + (5 * (I 108 ((32 + m)).toNat)))), (3, .inl ((I 108 ((26 + m)).toNat))), (0, .inr (.inr (.inl (some 107)))), (1, .inl m), (2, .inl b)], [.inl 3, .inl ((I 108 ((26 + m)).toNat)), .inl ((50 + (Q1 107 12)) + (5 * (I 108 ((32 + m)).toNat)))], (am_mm D (am_wp tL I Q1) J ρ))) rfl ?_
        refine am_e_icmp2 rfl ⟨by omega, by omega⟩ ⟨by omega, by omega⟩ (fun (h13 : (I 108 ((26 + m)).toNat) = 3) => ?_) (fun (h13 : ¬ ((I 108 ((26 + m)).toNat) = 3)) => ?_)
        · show am_E _ _ _ 81 [(4, .inl ((50 + (Q1 107 12)) + (5 * (I 108 ((32 + m)).toNat)))), (3, .inl ((I 108 ((26 + m)).toNat))), (0, .inr (.inr (.inl (some 107)))), (1, .inl m), (2, .inl b)] [.inl ((50 + (Q1 107 12)) + (5 * (I 108 ((32 + m)).toNat)))] (am_mm D (am_wp tL I Q1) J ρ) _
          refine am_e_ss 5 (q := (89, [(4, .inl ((50 + (Q1 107 12)) + (5 * (I 108 ((32 + m)).toNat)))), (3, .inl ((I 108 ((26 + m)).toNat))), (0, .inr (.inr (.inl (some 107)))), (1, .inl m), (2, .inl b)], [.inl (38 + b), .inr (.inr (.inl (some 108))), .inl ((50 + (Q1 107 12)) + (5 * (I 108 ((32 + m)).toNat)))], (am_mm D (am_wp tL I Q1) J ρ))) rfl ?_
          refine am_e_iaload (m := 878) rfl rfl (by omega) (by omega) (by omega) ?_
          show am_E _ _ _ 90 [(4, .inl ((50 + (Q1 107 12)) + (5 * (I 108 ((32 + m)).toNat)))), (3, .inl ((I 108 ((26 + m)).toNat))), (0, .inr (.inr (.inl (some 107)))), (1, .inl m), (2, .inl b)] [.inl ((I 108 ((38 + b)).toNat)), .inl ((50 + (Q1 107 12)) + (5 * (I 108 ((32 + m)).toNat)))] (am_mm D (am_wp tL I Q1) J ρ) _
          refine am_e_ss 1 (q := (91, [(4, .inl ((50 + (Q1 107 12)) + (5 * (I 108 ((32 + m)).toNat)))), (3, .inl ((I 108 ((26 + m)).toNat))), (0, .inr (.inr (.inl (some 107)))), (1, .inl m), (2, .inl b)], [.inl 2, .inl ((I 108 ((38 + b)).toNat)), .inl ((50 + (Q1 107 12)) + (5 * (I 108 ((32 + m)).toNat)))], (am_mm D (am_wp tL I Q1) J ρ))) rfl ?_
          refine am_e_idivp rfl ⟨by omega, by omega⟩ ⟨by omega, by omega⟩ ?_
          show am_E _ _ _ 92 [(4, .inl ((50 + (Q1 107 12)) + (5 * (I 108 ((32 + m)).toNat)))), (3, .inl ((I 108 ((26 + m)).toNat))), (0, .inr (.inr (.inl (some 107)))), (1, .inl m), (2, .inl b)] [.inl (((I 108 ((38 + b)).toNat) / 2)), .inl ((50 + (Q1 107 12)) + (5 * (I 108 ((32 + m)).toNat)))] (am_mm D (am_wp tL I Q1) J ρ) _
          refine am_e_ss 2 (q := (97, [(4, .inl ((50 + (Q1 107 12)) + (5 * (I 108 ((32 + m)).toNat)))), (3, .inl ((I 108 ((26 + m)).toNat))), (0, .inr (.inr (.inl (some 107)))), (1, .inl m), (2, .inl b)], [.inl (((50 + (Q1 107 12)) + (5 * (I 108 ((32 + m)).toNat))) - ((I 108 ((38 + b)).toNat) / 2))], (am_mm D (am_wp tL I Q1) J ρ))) rfl ?_
          refine am_e_ireturn rfl rfl ?_
          refine ⟨_, ?_, e13Q1⟩
          show ((_, _) : am_R) = (_, _)
          rw [show (((50 + (Q1 107 12)) + (5 * (I 108 ((32 + m)).toNat))) - ((I 108 ((38 + b)).toNat) / 2)) = sp_like (I 108) m b by (rw [e12Q1]; unfold sp_like; split <;> split <;> first | omega | (exfalso; omega))]
        · show am_E _ _ _ 75 [(4, .inl ((50 + (Q1 107 12)) + (5 * (I 108 ((32 + m)).toNat)))), (3, .inl ((I 108 ((26 + m)).toNat))), (0, .inr (.inr (.inl (some 107)))), (1, .inl m), (2, .inl b)] [.inl ((50 + (Q1 107 12)) + (5 * (I 108 ((32 + m)).toNat)))] (am_mm D (am_wp tL I Q1) J ρ) _
          refine am_e_ss 2 (q := (78, [(4, .inl ((50 + (Q1 107 12)) + (5 * (I 108 ((32 + m)).toNat)))), (3, .inl ((I 108 ((26 + m)).toNat))), (0, .inr (.inr (.inl (some 107)))), (1, .inl m), (2, .inl b)], [.inl 6, .inl ((I 108 ((26 + m)).toNat)), .inl ((50 + (Q1 107 12)) + (5 * (I 108 ((32 + m)).toNat)))], (am_mm D (am_wp tL I Q1) J ρ))) rfl ?_
          refine am_e_icmp2 rfl ⟨by omega, by omega⟩ ⟨by omega, by omega⟩ (fun (h14 : ¬ (I 108 ((26 + m)).toNat) = 6) => ?_) (fun (h14 : ¬ (¬ (I 108 ((26 + m)).toNat) = 6)) => ?_)
          · show am_E _ _ _ 95 [(4, .inl ((50 + (Q1 107 12)) + (5 * (I 108 ((32 + m)).toNat)))), (3, .inl ((I 108 ((26 + m)).toNat))), (0, .inr (.inr (.inl (some 107)))), (1, .inl m), (2, .inl b)] [.inl ((50 + (Q1 107 12)) + (5 * (I 108 ((32 + m)).toNat)))] (am_mm D (am_wp tL I Q1) J ρ) _
            refine am_e_ss 2 (q := (97, [(4, .inl ((50 + (Q1 107 12)) + (5 * (I 108 ((32 + m)).toNat)))), (3, .inl ((I 108 ((26 + m)).toNat))), (0, .inr (.inr (.inl (some 107)))), (1, .inl m), (2, .inl b)], [.inl (((50 + (Q1 107 12)) + (5 * (I 108 ((32 + m)).toNat))) - 0)], (am_mm D (am_wp tL I Q1) J ρ))) rfl ?_
            refine am_e_ireturn rfl rfl ?_
            refine ⟨_, ?_, e13Q1⟩
            show ((_, _) : am_R) = (_, _)
            rw [show (((50 + (Q1 107 12)) + (5 * (I 108 ((32 + m)).toNat))) - 0) = sp_like (I 108) m b by (rw [e12Q1]; unfold sp_like; split <;> split <;> first | omega | (exfalso; omega))]
          · show am_E _ _ _ 81 [(4, .inl ((50 + (Q1 107 12)) + (5 * (I 108 ((32 + m)).toNat)))), (3, .inl ((I 108 ((26 + m)).toNat))), (0, .inr (.inr (.inl (some 107)))), (1, .inl m), (2, .inl b)] [.inl ((50 + (Q1 107 12)) + (5 * (I 108 ((32 + m)).toNat)))] (am_mm D (am_wp tL I Q1) J ρ) _
            refine am_e_ss 5 (q := (89, [(4, .inl ((50 + (Q1 107 12)) + (5 * (I 108 ((32 + m)).toNat)))), (3, .inl ((I 108 ((26 + m)).toNat))), (0, .inr (.inr (.inl (some 107)))), (1, .inl m), (2, .inl b)], [.inl (38 + b), .inr (.inr (.inl (some 108))), .inl ((50 + (Q1 107 12)) + (5 * (I 108 ((32 + m)).toNat)))], (am_mm D (am_wp tL I Q1) J ρ))) rfl ?_
            refine am_e_iaload (m := 878) rfl rfl (by omega) (by omega) (by omega) ?_
            show am_E _ _ _ 90 [(4, .inl ((50 + (Q1 107 12)) + (5 * (I 108 ((32 + m)).toNat)))), (3, .inl ((I 108 ((26 + m)).toNat))), (0, .inr (.inr (.inl (some 107)))), (1, .inl m), (2, .inl b)] [.inl ((I 108 ((38 + b)).toNat)), .inl ((50 + (Q1 107 12)) + (5 * (I 108 ((32 + m)).toNat)))] (am_mm D (am_wp tL I Q1) J ρ) _
            refine am_e_ss 1 (q := (91, [(4, .inl ((50 + (Q1 107 12)) + (5 * (I 108 ((32 + m)).toNat)))), (3, .inl ((I 108 ((26 + m)).toNat))), (0, .inr (.inr (.inl (some 107)))), (1, .inl m), (2, .inl b)], [.inl 2, .inl ((I 108 ((38 + b)).toNat)), .inl ((50 + (Q1 107 12)) + (5 * (I 108 ((32 + m)).toNat)))], (am_mm D (am_wp tL I Q1) J ρ))) rfl ?_
            refine am_e_idivp rfl ⟨by omega, by omega⟩ ⟨by omega, by omega⟩ ?_
            show am_E _ _ _ 92 [(4, .inl ((50 + (Q1 107 12)) + (5 * (I 108 ((32 + m)).toNat)))), (3, .inl ((I 108 ((26 + m)).toNat))), (0, .inr (.inr (.inl (some 107)))), (1, .inl m), (2, .inl b)] [.inl (((I 108 ((38 + b)).toNat) / 2)), .inl ((50 + (Q1 107 12)) + (5 * (I 108 ((32 + m)).toNat)))] (am_mm D (am_wp tL I Q1) J ρ) _
            refine am_e_ss 2 (q := (97, [(4, .inl ((50 + (Q1 107 12)) + (5 * (I 108 ((32 + m)).toNat)))), (3, .inl ((I 108 ((26 + m)).toNat))), (0, .inr (.inr (.inl (some 107)))), (1, .inl m), (2, .inl b)], [.inl (((50 + (Q1 107 12)) + (5 * (I 108 ((32 + m)).toNat))) - ((I 108 ((38 + b)).toNat) / 2))], (am_mm D (am_wp tL I Q1) J ρ))) rfl ?_
            refine am_e_ireturn rfl rfl ?_
            refine ⟨_, ?_, e13Q1⟩
            show ((_, _) : am_R) = (_, _)
            rw [show (((50 + (Q1 107 12)) + (5 * (I 108 ((32 + m)).toNat))) - ((I 108 ((38 + b)).toNat) / 2)) = sp_like (I 108) m b by (rw [e12Q1]; unfold sp_like; split <;> split <;> first | omega | (exfalso; omega))]
def sp_likeM (S : Nat → Int) (m b : Int) : Int := if ¬ (0 ≤ m ∧ m ≤ S 19 - 1) then -10001 else if ¬ (0 ≤ b ∧ b ≤ S 20 - 1) then -10001 else sp_like S m b
theorem r_like {X : Nat × (Nat → Int)} {D : List (Nat × Nat)} {I J : Nat → Nat → Int} {ρ : Nat → Nat → Option Nat} (d : Nat) {B m b : Int} (hm : -2147483648 ≤ m ∧ m < 2147483648) (hb : -2147483648 ≤ b ∧ b < 2147483648) (hok : r_ok (I 108) B) (hwf : sp_wfS (I 108)) : am_E X (d + 2) 160 0 [(0, .inr (.inr (.inl (some 107)))), (1, .inl m), (2, .inl b)] [] (am_mm D I J ρ) (fun r => ∃ Q, r = (some (.inl (sp_likeM (I 108) m b)), am_mm D (am_wp tL I Q) J ρ)) := by
  have hok2 := hok
  obtain ⟨o0, oG, oH, oD, o19, o20, o21, o22, o23, o24, oK, oV, oP, oM, oS, oY, oHd, oT, oC, oN⟩ := hok
  have hok := hok2
  refine am_e_ss 2 (q := (2, [(0, .inr (.inr (.inl (some 107)))), (1, .inl m), (2, .inl b)], [.inl m, .inr (.inr (.inl (some 107)))], (am_mm D I J ρ))) rfl ?_
  refine am_e_virtual (Q := fun r => r = (some (.inl ((am_bi (0 ≤ m ∧ m ≤ ((I 108 19) - 1))))), (am_mm D I J ρ))) rfl rfl (Nat.le_of_ble_eq_true rfl) rfl rfl (Nat.le_of_ble_eq_true rfl) (Nat.le_of_ble_eq_true rfl) (r_isMember _ ⟨by omega, by omega⟩ (show 0 ≤ (I 108 19) ∧ (I 108 19) ≤ 6 by omega)) ?_
  rintro r rfl
  show am_E _ _ _ 5 [(0, .inr (.inr (.inl (some 107)))), (1, .inl m), (2, .inl b)] [.inl ((am_bi (0 ≤ m ∧ m ≤ ((I 108 19) - 1))))] (am_mm D I J ρ) _
  refine am_e_ifeq rfl (fun h1 => ?_) (fun h1 => ?_)
  · show am_E _ _ _ 25 [(0, .inr (.inr (.inl (some 107)))), (1, .inl m), (2, .inl b)] [] (am_mm D I J ρ) _
    refine am_e_ss 1 (q := (28, [(0, .inr (.inr (.inl (some 107)))), (1, .inl m), (2, .inl b)], [.inl (-10001)], (am_mm D I J ρ))) rfl ?_
    refine am_e_ireturn rfl rfl ?_
    refine ⟨I, ?_⟩
    show ((_, _) : am_R) = (_, _)
    rw [show (-10001) = sp_likeM (I 108) m b by (unfold sp_likeM; (repeat' split) <;> first | (exfalso; omega) | rfl)]
    exact am_r_wp tL am_k_id
  · show am_E _ _ _ 8 [(0, .inr (.inr (.inl (some 107)))), (1, .inl m), (2, .inl b)] [] (am_mm D I J ρ) _
    refine am_e_ss 2 (q := (10, [(0, .inr (.inr (.inl (some 107)))), (1, .inl m), (2, .inl b)], [.inl b, .inr (.inr (.inl (some 107)))], (am_mm D I J ρ))) rfl ?_
    refine am_e_virtual (Q := fun r => r = (some (.inl ((am_bi (0 ≤ b ∧ b ≤ ((I 108 20) - 1))))), (am_mm D I J ρ))) rfl rfl (Nat.le_of_ble_eq_true rfl) rfl rfl (Nat.le_of_ble_eq_true rfl) (Nat.le_of_ble_eq_true rfl) (r_isBook _ ⟨by omega, by omega⟩ (show 0 ≤ (I 108 20) ∧ (I 108 20) ≤ 6 by omega)) ?_
    rintro r rfl
    show am_E _ _ _ 13 [(0, .inr (.inr (.inl (some 107)))), (1, .inl m), (2, .inl b)] [.inl ((am_bi (0 ≤ b ∧ b ≤ ((I 108 20) - 1))))] (am_mm D I J ρ) _
    refine am_e_ifeq rfl (fun h2 => ?_) (fun h2 => ?_)
    · show am_E _ _ _ 25 [(0, .inr (.inr (.inl (some 107)))), (1, .inl m), (2, .inl b)] [] (am_mm D I J ρ) _
      refine am_e_ss 1 (q := (28, [(0, .inr (.inr (.inl (some 107)))), (1, .inl m), (2, .inl b)], [.inl (-10001)], (am_mm D I J ρ))) rfl ?_
      refine am_e_ireturn rfl rfl ?_
      refine ⟨I, ?_⟩
      show ((_, _) : am_R) = (_, _)
      rw [show (-10001) = sp_likeM (I 108) m b by (unfold sp_likeM; (repeat' split) <;> first | (exfalso; omega) | rfl)]
      exact am_r_wp tL am_k_id
    · show am_E _ _ _ 16 [(0, .inr (.inr (.inl (some 107)))), (1, .inl m), (2, .inl b)] [] (am_mm D I J ρ) _
      refine am_e_ss 3 (q := (19, [(0, .inr (.inr (.inl (some 107)))), (1, .inl m), (2, .inl b)], [.inl b, .inl m, .inr (.inr (.inl (some 107)))], (am_mm D I J ρ))) rfl ?_
      refine am_e_virtual (Q := fun r => ∃ Q2, r = (some (.inl ((sp_like (I 108) m b))), (am_mm D (am_wp tL I Q2) J ρ)) ∧ Q2 107 13 = sp_rd' (I 108) m b) rfl rfl (Nat.le_of_ble_eq_true rfl) rfl rfl (Nat.le_of_ble_eq_true rfl) (Nat.le_of_ble_eq_true rfl) (r_likeOf _ (B := B) ⟨by omega, by omega⟩ ⟨by omega, by omega⟩ hok hwf) ?_
      rintro r ⟨Q2, rfl, e13Q2⟩
      have lbQ2 := sp_like_b hok hwf (m := m) (b := b) ⟨by omega, by omega⟩ ⟨by omega, by omega⟩
      show am_E _ _ _ 22 [(0, .inr (.inr (.inl (some 107)))), (1, .inl m), (2, .inl b)] [.inl ((sp_like (I 108) m b))] (am_mm D (am_wp tL I Q2) J ρ) _
      refine am_e_ss 1 (q := (28, [(0, .inr (.inr (.inl (some 107)))), (1, .inl m), (2, .inl b)], [.inl ((sp_like (I 108) m b))], (am_mm D (am_wp tL I Q2) J ρ))) rfl ?_
      refine am_e_ireturn rfl rfl ?_
      refine ⟨Q2, ?_⟩
      show ((_, _) : am_R) = (_, _)
      rw [show (sp_like (I 108) m b) = sp_likeM (I 108) m b by (unfold sp_likeM; (repeat' split) <;> first | (exfalso; omega) | rfl)]
theorem r_isAwayNow {X : Nat × (Nat → Int)} {D : List (Nat × Nat)} {I J : Nat → Nat → Int} {ρ : Nat → Nat → Option Nat} (d : Nat) {B m : Int} (hm : 0 ≤ m ∧ m < 6) (hok : r_ok (I 108) B) : am_E X d 165 0 [(0, .inr (.inr (.inl (some 107)))), (1, .inl m)] [] (am_mm D I J ρ) (fun r => r = (some (.inl ((am_bi (I 108 (26 + m).toNat = 6 ∧ I 108 0 % (I 108 (32 + m).toNat + 2) = 0)))), (am_mm D I J ρ))) := by
  obtain ⟨o0, oG, oH, oD, o19, o20, o21, o22, o23, o24, oK, oV, oP, oM, oS, oY, oHd, oT, oC, oN⟩ := hok
  have oK_m := oK m.toNat (by omega)
  rw [show 26 + m.toNat = (26 + m).toNat by omega] at oK_m
  have oV_m := oV m.toNat (by omega)
  rw [show 32 + m.toNat = (32 + m).toNat by omega] at oV_m
  have em : 0 ≤ I 108 0 % (I 108 (32 + m).toNat + 2) ∧ I 108 0 % (I 108 (32 + m).toNat + 2) < 12 := ⟨Int.emod_nonneg _ (by omega), by have := Int.emod_lt_of_pos (I 108 0) (show 0 < I 108 (32 + m).toNat + 2 by omega); omega⟩
  refine am_e_ss 5 (q := (8, [(0, .inr (.inr (.inl (some 107)))), (1, .inl m)], [.inl (26 + m), .inr (.inr (.inl (some 108)))], (am_mm D I J ρ))) rfl ?_
  refine am_e_iaload (m := 878) rfl rfl (by omega) (by omega) (by omega) ?_
  show am_E _ _ _ 9 [(0, .inr (.inr (.inl (some 107)))), (1, .inl m)] [.inl ((I 108 ((26 + m)).toNat))] (am_mm D I J ρ) _
  refine am_e_ss 1 (q := (11, [(0, .inr (.inr (.inl (some 107)))), (1, .inl m)], [.inl 6, .inl ((I 108 ((26 + m)).toNat))], (am_mm D I J ρ))) rfl ?_
  refine am_e_icmp2 rfl ⟨by omega, by omega⟩ ⟨by omega, by omega⟩ (fun (h1 : ¬ (I 108 ((26 + m)).toNat) = 6) => ?_) (fun (h1 : ¬ (¬ (I 108 ((26 + m)).toNat) = 6)) => ?_)
  · show am_E _ _ _ 39 [(0, .inr (.inr (.inl (some 107)))), (1, .inl m)] [] (am_mm D I J ρ) _
    refine am_e_ss 1 (q := (40, [(0, .inr (.inr (.inl (some 107)))), (1, .inl m)], [.inl 0], (am_mm D I J ρ))) rfl ?_
    refine am_e_ireturn rfl rfl ?_
    rw [am_bi_f (by omega)]
  · show am_E _ _ _ 14 [(0, .inr (.inr (.inl (some 107)))), (1, .inl m)] [] (am_mm D I J ρ) _
    refine am_e_ss 9 (q := (28, [(0, .inr (.inr (.inl (some 107)))), (1, .inl m)], [.inl (32 + m), .inr (.inr (.inl (some 108))), .inl ((I 108 0))], (am_mm D I J ρ))) rfl ?_
    refine am_e_iaload (m := 878) rfl rfl (by omega) (by omega) (by omega) ?_
    show am_E _ _ _ 29 [(0, .inr (.inr (.inl (some 107)))), (1, .inl m)] [.inl ((I 108 ((32 + m)).toNat)), .inl ((I 108 0))] (am_mm D I J ρ) _
    refine am_e_ss 2 (q := (31, [(0, .inr (.inr (.inl (some 107)))), (1, .inl m)], [.inl ((I 108 ((32 + m)).toNat) + 2), .inl ((I 108 0))], (am_mm D I J ρ))) rfl ?_
    refine am_e_iremp rfl ⟨by omega, by omega⟩ ⟨by omega, by omega⟩ ?_
    show am_E _ _ _ 32 [(0, .inr (.inr (.inl (some 107)))), (1, .inl m)] [.inl (((I 108 0) % ((I 108 ((32 + m)).toNat) + 2)))] (am_mm D I J ρ) _
    refine am_e_if2 rfl ⟨by omega, by omega⟩ (fun (h2 : ¬ ((I 108 0) % ((I 108 ((32 + m)).toNat) + 2)) = 0) => ?_) (fun (h2 : ¬ (¬ ((I 108 0) % ((I 108 ((32 + m)).toNat) + 2)) = 0)) => ?_)
    · show am_E _ _ _ 39 [(0, .inr (.inr (.inl (some 107)))), (1, .inl m)] [] (am_mm D I J ρ) _
      refine am_e_ss 1 (q := (40, [(0, .inr (.inr (.inl (some 107)))), (1, .inl m)], [.inl 0], (am_mm D I J ρ))) rfl ?_
      refine am_e_ireturn rfl rfl ?_
      rw [am_bi_f (by omega)]
    · show am_E _ _ _ 35 [(0, .inr (.inr (.inl (some 107)))), (1, .inl m)] [] (am_mm D I J ρ) _
      refine am_e_ss 2 (q := (40, [(0, .inr (.inr (.inl (some 107)))), (1, .inl m)], [.inl 1], (am_mm D I J ρ))) rfl ?_
      refine am_e_ireturn rfl rfl ?_
      rw [am_bi_t (by omega)]
theorem r_readsOf {X : Nat × (Nat → Int)} {D : List (Nat × Nat)} {I J : Nat → Nat → Int} {ρ : Nat → Nat → Option Nat} (d : Nat) {B m b : Int} (hm : 0 ≤ m ∧ m < 6) (hb : 0 ≤ b ∧ b < 6) (hok : r_ok (I 108) B) (hwf : sp_wfS (I 108)) : am_E X (d + 2) 184 0 [(0, .inr (.inr (.inl (some 107)))), (1, .inl m), (2, .inl b)] [] (am_mm D I J ρ) (fun r => ∃ Q, r = (some (.inl (sp_odds (I 108) m b)), am_mm D (am_wp tL I Q) J ρ)) := by
  have hok2 := hok
  obtain ⟨o0, oG, oH, oD, o19, o20, o21, o22, o23, o24, oK, oV, oP, oM, oS, oY, oHd, oT, oC, oN⟩ := hok
  have oK_m := oK m.toNat (by omega)
  rw [show 26 + m.toNat = (26 + m).toNat by omega] at oK_m
  have oV_m := oV m.toNat (by omega)
  rw [show 32 + m.toNat = (32 + m).toNat by omega] at oV_m
  have oP_b := oP b.toNat (by omega)
  rw [show 38 + b.toNat = (38 + b).toNat by omega] at oP_b
  have oM_b := oM b.toNat (by omega)
  rw [show 44 + b.toNat = (44 + b).toNat by omega] at oM_b
  have oS_b := oS b.toNat (by omega)
  rw [show 50 + b.toNat = (50 + b).toNat by omega] at oS_b
  have oY_b := oY b.toNat (by omega)
  rw [show 56 + b.toNat = (56 + b).toNat by omega] at oY_b
  have hok := hok2
  refine am_e_ss 3 (q := (3, [(0, .inr (.inr (.inl (some 107)))), (1, .inl m), (2, .inl b)], [.inl b, .inl m, .inr (.inr (.inl (some 107)))], (am_mm D I J ρ))) rfl ?_
  refine am_e_virtual (Q := fun r => ∃ Q3, r = (some (.inl ((sp_like (I 108) m b))), (am_mm D (am_wp tL I Q3) J ρ)) ∧ Q3 107 13 = sp_rd' (I 108) m b) rfl rfl (Nat.le_of_ble_eq_true rfl) rfl rfl (Nat.le_of_ble_eq_true rfl) (Nat.le_of_ble_eq_true rfl) (r_likeOf _ (B := B) ⟨by omega, by omega⟩ ⟨by omega, by omega⟩ hok hwf) ?_
  rintro r ⟨Q3, rfl, e13Q3⟩
  have lbQ3 := sp_like_b hok hwf (m := m) (b := b) ⟨by omega, by omega⟩ ⟨by omega, by omega⟩
  show am_E _ _ _ 6 [(0, .inr (.inr (.inl (some 107)))), (1, .inl m), (2, .inl b)] [.inl ((sp_like (I 108) m b))] (am_mm D (am_wp tL I Q3) J ρ) _
  refine am_e_ss 4 (q := (11, [(3, .inl ((sp_like (I 108) m b))), (0, .inr (.inr (.inl (some 107)))), (1, .inl m), (2, .inl b)], [.inl 20, .inl ((sp_like (I 108) m b)), .inl 3], (am_mm D (am_wp tL I Q3) J ρ))) rfl ?_
  refine am_e_idivt rfl ⟨by omega, by omega⟩ ⟨by omega, by omega⟩ ?_
  show am_E _ _ _ 12 [(3, .inl ((sp_like (I 108) m b))), (0, .inr (.inr (.inl (some 107)))), (1, .inl m), (2, .inl b)] [.inl ((Int.tdiv (sp_like (I 108) m b) 20)), .inl 3] (am_mm D (am_wp tL I Q3) J ρ) _
  have tb := am_tdiv_b (y := 20) (by omega) lbQ3
  have rb := (sp_lk_b hok hwf m b).2
  have tc := am_tdiv_b (z := (3 + Int.tdiv (sp_like (I 108) m b) 20) + Q3 107 13) (y := 2) (c := 200000) (by omega) ⟨by omega, by omega⟩
  refine am_e_ss 10 (q := (28, [(4, .inl ((3 + (Int.tdiv (sp_like (I 108) m b) 20)) + (Q3 107 13))), (3, .inl ((sp_like (I 108) m b))), (0, .inr (.inr (.inl (some 107)))), (1, .inl m), (2, .inl b)], [.inl (26 + m), .inr (.inr (.inl (some 108)))], (am_mm D (am_wp tL I Q3) J ρ))) rfl ?_
  refine am_e_iaload (m := 878) rfl rfl (by omega) (by omega) (by omega) ?_
  show am_E _ _ _ 29 [(4, .inl ((3 + (Int.tdiv (sp_like (I 108) m b) 20)) + (Q3 107 13))), (3, .inl ((sp_like (I 108) m b))), (0, .inr (.inr (.inl (some 107)))), (1, .inl m), (2, .inl b)] [.inl ((I 108 ((26 + m)).toNat))] (am_mm D (am_wp tL I Q3) J ρ) _
  refine am_e_ss 1 (q := (31, [(4, .inl ((3 + (Int.tdiv (sp_like (I 108) m b) 20)) + (Q3 107 13))), (3, .inl ((sp_like (I 108) m b))), (0, .inr (.inr (.inl (some 107)))), (1, .inl m), (2, .inl b)], [.inl 6, .inl ((I 108 ((26 + m)).toNat))], (am_mm D (am_wp tL I Q3) J ρ))) rfl ?_
  refine am_e_icmp2 rfl ⟨by omega, by omega⟩ ⟨by omega, by omega⟩ (fun (h1 : ¬ (I 108 ((26 + m)).toNat) = 6) => ?_) (fun (h1 : ¬ (¬ (I 108 ((26 + m)).toNat) = 6)) => ?_)
  · show am_E _ _ _ 41 [(4, .inl ((3 + (Int.tdiv (sp_like (I 108) m b) 20)) + (Q3 107 13))), (3, .inl ((sp_like (I 108) m b))), (0, .inr (.inr (.inl (some 107)))), (1, .inl m), (2, .inl b)] [] (am_mm D (am_wp tL I Q3) J ρ) _
    refine am_e_ss 3 (q := (47, [(4, .inl ((3 + (Int.tdiv (sp_like (I 108) m b) 20)) + (Q3 107 13))), (3, .inl ((sp_like (I 108) m b))), (0, .inr (.inr (.inl (some 107)))), (1, .inl m), (2, .inl b)], [.inl ((3 + (Int.tdiv (sp_like (I 108) m b) 20)) + (Q3 107 13))], (am_mm D (am_wp tL I Q3) J ρ))) rfl ?_
    refine am_e_if2 rfl ⟨by omega, by omega⟩ (fun (h2 : 0 ≤ ((3 + (Int.tdiv (sp_like (I 108) m b) 20)) + (Q3 107 13))) => ?_) (fun (h2 : ¬ (0 ≤ ((3 + (Int.tdiv (sp_like (I 108) m b) 20)) + (Q3 107 13)))) => ?_)
    · show am_E _ _ _ 54 [(4, .inl ((3 + (Int.tdiv (sp_like (I 108) m b) 20)) + (Q3 107 13))), (3, .inl ((sp_like (I 108) m b))), (0, .inr (.inr (.inl (some 107)))), (1, .inl m), (2, .inl b)] [] (am_mm D (am_wp tL I Q3) J ρ) _
      refine am_e_ss 2 (q := (58, [(4, .inl ((3 + (Int.tdiv (sp_like (I 108) m b) 20)) + (Q3 107 13))), (3, .inl ((sp_like (I 108) m b))), (0, .inr (.inr (.inl (some 107)))), (1, .inl m), (2, .inl b)], [.inl 10, .inl ((3 + (Int.tdiv (sp_like (I 108) m b) 20)) + (Q3 107 13))], (am_mm D (am_wp tL I Q3) J ρ))) rfl ?_
      refine am_e_icmp2 rfl ⟨by omega, by omega⟩ ⟨by omega, by omega⟩ (fun (h3 : ((3 + (Int.tdiv (sp_like (I 108) m b) 20)) + (Q3 107 13)) ≤ 10) => ?_) (fun (h3 : ¬ (((3 + (Int.tdiv (sp_like (I 108) m b) 20)) + (Q3 107 13)) ≤ 10)) => ?_)
      · show am_E _ _ _ 66 [(4, .inl ((3 + (Int.tdiv (sp_like (I 108) m b) 20)) + (Q3 107 13))), (3, .inl ((sp_like (I 108) m b))), (0, .inr (.inr (.inl (some 107)))), (1, .inl m), (2, .inl b)] [] (am_mm D (am_wp tL I Q3) J ρ) _
        refine am_e_ss 7 (q := (78, [(4, .inl ((3 + (Int.tdiv (sp_like (I 108) m b) 20)) + (Q3 107 13))), (3, .inl ((sp_like (I 108) m b))), (0, .inr (.inr (.inl (some 107)))), (1, .inl m), (2, .inl b)], [.inl (56 + b), .inr (.inr (.inl (some 108)))], (am_mm D (am_wp tL I Q3) J ρ))) rfl ?_
        refine am_e_iaload (m := 878) rfl rfl (by omega) (by omega) (by omega) ?_
        show am_E _ _ _ 79 [(4, .inl ((3 + (Int.tdiv (sp_like (I 108) m b) 20)) + (Q3 107 13))), (3, .inl ((sp_like (I 108) m b))), (0, .inr (.inr (.inl (some 107)))), (1, .inl m), (2, .inl b)] [.inl ((I 108 ((56 + b)).toNat))] (am_mm D (am_wp tL I Q3) J ρ) _
        refine am_e_ss 1 (q := (80, [(4, .inl ((3 + (Int.tdiv (sp_like (I 108) m b) 20)) + (Q3 107 13))), (3, .inl ((sp_like (I 108) m b))), (0, .inr (.inr (.inl (some 107)))), (1, .inl m), (2, .inl b)], [.inl m, .inl ((I 108 ((56 + b)).toNat))], (am_mm D (am_wp tL I Q3) J ρ))) rfl ?_
        refine am_e_icmp2 rfl ⟨by omega, by omega⟩ ⟨by omega, by omega⟩ (fun (h4 : ¬ (I 108 ((56 + b)).toNat) = m) => ?_) (fun (h4 : ¬ (¬ (I 108 ((56 + b)).toNat) = m)) => ?_)
        · show am_E _ _ _ 88 [(4, .inl ((3 + (Int.tdiv (sp_like (I 108) m b) 20)) + (Q3 107 13))), (3, .inl ((sp_like (I 108) m b))), (0, .inr (.inr (.inl (some 107)))), (1, .inl m), (2, .inl b)] [] (am_mm D (am_wp tL I Q3) J ρ) _
          refine am_e_ss 1 (q := (90, [(4, .inl ((3 + (Int.tdiv (sp_like (I 108) m b) 20)) + (Q3 107 13))), (3, .inl ((sp_like (I 108) m b))), (0, .inr (.inr (.inl (some 107)))), (1, .inl m), (2, .inl b)], [.inl ((3 + (Int.tdiv (sp_like (I 108) m b) 20)) + (Q3 107 13))], (am_mm D (am_wp tL I Q3) J ρ))) rfl ?_
          refine am_e_ireturn rfl rfl ?_
          refine ⟨Q3, ?_⟩
          show ((_, _) : am_R) = (_, _)
          rw [show ((3 + (Int.tdiv (sp_like (I 108) m b) 20)) + (Q3 107 13)) = sp_odds (I 108) m b by (unfold sp_odds sp_odd2 sp_odd1; rw [← e13Q3]; (repeat' split) <;> first | (exfalso; omega) | rfl)]
        · show am_E _ _ _ 83 [(4, .inl ((3 + (Int.tdiv (sp_like (I 108) m b) 20)) + (Q3 107 13))), (3, .inl ((sp_like (I 108) m b))), (0, .inr (.inr (.inl (some 107)))), (1, .inl m), (2, .inl b)] [] (am_mm D (am_wp tL I Q3) J ρ) _
          refine am_e_ss 2 (q := (90, [(4, .inl ((3 + (Int.tdiv (sp_like (I 108) m b) 20)) + (Q3 107 13))), (3, .inl ((sp_like (I 108) m b))), (0, .inr (.inr (.inl (some 107)))), (1, .inl m), (2, .inl b)], [.inl 10], (am_mm D (am_wp tL I Q3) J ρ))) rfl ?_
          refine am_e_ireturn rfl rfl ?_
          refine ⟨Q3, ?_⟩
          show ((_, _) : am_R) = (_, _)
          rw [show 10 = sp_odds (I 108) m b by (unfold sp_odds sp_odd2 sp_odd1; rw [← e13Q3]; (repeat' split) <;> first | (exfalso; omega) | rfl)]
      · show am_E _ _ _ 61 [(4, .inl ((3 + (Int.tdiv (sp_like (I 108) m b) 20)) + (Q3 107 13))), (3, .inl ((sp_like (I 108) m b))), (0, .inr (.inr (.inl (some 107)))), (1, .inl m), (2, .inl b)] [] (am_mm D (am_wp tL I Q3) J ρ) _
        refine am_e_ss 8 (q := (78, [(4, .inl 10), (3, .inl ((sp_like (I 108) m b))), (0, .inr (.inr (.inl (some 107)))), (1, .inl m), (2, .inl b)], [.inl (56 + b), .inr (.inr (.inl (some 108)))], (am_mm D (am_wp tL I Q3) J ρ))) rfl ?_
        refine am_e_iaload (m := 878) rfl rfl (by omega) (by omega) (by omega) ?_
        show am_E _ _ _ 79 [(4, .inl 10), (3, .inl ((sp_like (I 108) m b))), (0, .inr (.inr (.inl (some 107)))), (1, .inl m), (2, .inl b)] [.inl ((I 108 ((56 + b)).toNat))] (am_mm D (am_wp tL I Q3) J ρ) _
        refine am_e_ss 1 (q := (80, [(4, .inl 10), (3, .inl ((sp_like (I 108) m b))), (0, .inr (.inr (.inl (some 107)))), (1, .inl m), (2, .inl b)], [.inl m, .inl ((I 108 ((56 + b)).toNat))], (am_mm D (am_wp tL I Q3) J ρ))) rfl ?_
        refine am_e_icmp2 rfl ⟨by omega, by omega⟩ ⟨by omega, by omega⟩ (fun (h5 : ¬ (I 108 ((56 + b)).toNat) = m) => ?_) (fun (h5 : ¬ (¬ (I 108 ((56 + b)).toNat) = m)) => ?_)
        · show am_E _ _ _ 88 [(4, .inl 10), (3, .inl ((sp_like (I 108) m b))), (0, .inr (.inr (.inl (some 107)))), (1, .inl m), (2, .inl b)] [] (am_mm D (am_wp tL I Q3) J ρ) _
          refine am_e_ss 1 (q := (90, [(4, .inl 10), (3, .inl ((sp_like (I 108) m b))), (0, .inr (.inr (.inl (some 107)))), (1, .inl m), (2, .inl b)], [.inl 10], (am_mm D (am_wp tL I Q3) J ρ))) rfl ?_
          refine am_e_ireturn rfl rfl ?_
          refine ⟨Q3, ?_⟩
          show ((_, _) : am_R) = (_, _)
          rw [show 10 = sp_odds (I 108) m b by (unfold sp_odds sp_odd2 sp_odd1; rw [← e13Q3]; (repeat' split) <;> first | (exfalso; omega) | rfl)]
        · show am_E _ _ _ 83 [(4, .inl 10), (3, .inl ((sp_like (I 108) m b))), (0, .inr (.inr (.inl (some 107)))), (1, .inl m), (2, .inl b)] [] (am_mm D (am_wp tL I Q3) J ρ) _
          refine am_e_ss 2 (q := (90, [(4, .inl 10), (3, .inl ((sp_like (I 108) m b))), (0, .inr (.inr (.inl (some 107)))), (1, .inl m), (2, .inl b)], [.inl 10], (am_mm D (am_wp tL I Q3) J ρ))) rfl ?_
          refine am_e_ireturn rfl rfl ?_
          refine ⟨Q3, ?_⟩
          show ((_, _) : am_R) = (_, _)
          rw [show 10 = sp_odds (I 108) m b by (unfold sp_odds sp_odd2 sp_odd1; rw [← e13Q3]; (repeat' split) <;> first | (exfalso; omega) | rfl)]
    · show am_E _ _ _ 50 [(4, .inl ((3 + (Int.tdiv (sp_like (I 108) m b) 20)) + (Q3 107 13))), (3, .inl ((sp_like (I 108) m b))), (0, .inr (.inr (.inl (some 107)))), (1, .inl m), (2, .inl b)] [] (am_mm D (am_wp tL I Q3) J ρ) _
      refine am_e_ss 8 (q := (78, [(4, .inl 0), (3, .inl ((sp_like (I 108) m b))), (0, .inr (.inr (.inl (some 107)))), (1, .inl m), (2, .inl b)], [.inl (56 + b), .inr (.inr (.inl (some 108)))], (am_mm D (am_wp tL I Q3) J ρ))) rfl ?_
      refine am_e_iaload (m := 878) rfl rfl (by omega) (by omega) (by omega) ?_
      show am_E _ _ _ 79 [(4, .inl 0), (3, .inl ((sp_like (I 108) m b))), (0, .inr (.inr (.inl (some 107)))), (1, .inl m), (2, .inl b)] [.inl ((I 108 ((56 + b)).toNat))] (am_mm D (am_wp tL I Q3) J ρ) _
      refine am_e_ss 1 (q := (80, [(4, .inl 0), (3, .inl ((sp_like (I 108) m b))), (0, .inr (.inr (.inl (some 107)))), (1, .inl m), (2, .inl b)], [.inl m, .inl ((I 108 ((56 + b)).toNat))], (am_mm D (am_wp tL I Q3) J ρ))) rfl ?_
      refine am_e_icmp2 rfl ⟨by omega, by omega⟩ ⟨by omega, by omega⟩ (fun (h6 : ¬ (I 108 ((56 + b)).toNat) = m) => ?_) (fun (h6 : ¬ (¬ (I 108 ((56 + b)).toNat) = m)) => ?_)
      · show am_E _ _ _ 88 [(4, .inl 0), (3, .inl ((sp_like (I 108) m b))), (0, .inr (.inr (.inl (some 107)))), (1, .inl m), (2, .inl b)] [] (am_mm D (am_wp tL I Q3) J ρ) _
        refine am_e_ss 1 (q := (90, [(4, .inl 0), (3, .inl ((sp_like (I 108) m b))), (0, .inr (.inr (.inl (some 107)))), (1, .inl m), (2, .inl b)], [.inl 0], (am_mm D (am_wp tL I Q3) J ρ))) rfl ?_
        refine am_e_ireturn rfl rfl ?_
        refine ⟨Q3, ?_⟩
        show ((_, _) : am_R) = (_, _)
        rw [show 0 = sp_odds (I 108) m b by (unfold sp_odds sp_odd2 sp_odd1; rw [← e13Q3]; (repeat' split) <;> first | (exfalso; omega) | rfl)]
      · show am_E _ _ _ 83 [(4, .inl 0), (3, .inl ((sp_like (I 108) m b))), (0, .inr (.inr (.inl (some 107)))), (1, .inl m), (2, .inl b)] [] (am_mm D (am_wp tL I Q3) J ρ) _
        refine am_e_ss 2 (q := (90, [(4, .inl 0), (3, .inl ((sp_like (I 108) m b))), (0, .inr (.inr (.inl (some 107)))), (1, .inl m), (2, .inl b)], [.inl 10], (am_mm D (am_wp tL I Q3) J ρ))) rfl ?_
        refine am_e_ireturn rfl rfl ?_
        refine ⟨Q3, ?_⟩
        show ((_, _) : am_R) = (_, _)
        rw [show 10 = sp_odds (I 108) m b by (unfold sp_odds sp_odd2 sp_odd1; rw [← e13Q3]; (repeat' split) <;> first | (exfalso; omega) | rfl)]
  · show am_E _ _ _ 34 [(4, .inl ((3 + (Int.tdiv (sp_like (I 108) m b) 20)) + (Q3 107 13))), (3, .inl ((sp_like (I 108) m b))), (0, .inr (.inr (.inl (some 107)))), (1, .inl m), (2, .inl b)] [] (am_mm D (am_wp tL I Q3) J ρ) _
    refine am_e_ss 2 (q := (37, [(4, .inl ((3 + (Int.tdiv (sp_like (I 108) m b) 20)) + (Q3 107 13))), (3, .inl ((sp_like (I 108) m b))), (0, .inr (.inr (.inl (some 107)))), (1, .inl m), (2, .inl b)], [.inl 2, .inl ((3 + (Int.tdiv (sp_like (I 108) m b) 20)) + (Q3 107 13))], (am_mm D (am_wp tL I Q3) J ρ))) rfl ?_
    refine am_e_idivt rfl ⟨by omega, by omega⟩ ⟨by omega, by omega⟩ ?_
    show am_E _ _ _ 38 [(4, .inl ((3 + (Int.tdiv (sp_like (I 108) m b) 20)) + (Q3 107 13))), (3, .inl ((sp_like (I 108) m b))), (0, .inr (.inr (.inl (some 107)))), (1, .inl m), (2, .inl b)] [.inl ((Int.tdiv ((3 + (Int.tdiv (sp_like (I 108) m b) 20)) + (Q3 107 13)) 2))] (am_mm D (am_wp tL I Q3) J ρ) _
    refine am_e_ss 3 (q := (47, [(4, .inl ((Int.tdiv ((3 + (Int.tdiv (sp_like (I 108) m b) 20)) + (Q3 107 13)) 2))), (3, .inl ((sp_like (I 108) m b))), (0, .inr (.inr (.inl (some 107)))), (1, .inl m), (2, .inl b)], [.inl ((Int.tdiv ((3 + (Int.tdiv (sp_like (I 108) m b) 20)) + (Q3 107 13)) 2))], (am_mm D (am_wp tL I Q3) J ρ))) rfl ?_
    refine am_e_if2 rfl ⟨by omega, by omega⟩ (fun (h7 : 0 ≤ (Int.tdiv ((3 + (Int.tdiv (sp_like (I 108) m b) 20)) + (Q3 107 13)) 2)) => ?_) (fun (h7 : ¬ (0 ≤ (Int.tdiv ((3 + (Int.tdiv (sp_like (I 108) m b) 20)) + (Q3 107 13)) 2))) => ?_)
    · show am_E _ _ _ 54 [(4, .inl ((Int.tdiv ((3 + (Int.tdiv (sp_like (I 108) m b) 20)) + (Q3 107 13)) 2))), (3, .inl ((sp_like (I 108) m b))), (0, .inr (.inr (.inl (some 107)))), (1, .inl m), (2, .inl b)] [] (am_mm D (am_wp tL I Q3) J ρ) _
      refine am_e_ss 2 (q := (58, [(4, .inl ((Int.tdiv ((3 + (Int.tdiv (sp_like (I 108) m b) 20)) + (Q3 107 13)) 2))), (3, .inl ((sp_like (I 108) m b))), (0, .inr (.inr (.inl (some 107)))), (1, .inl m), (2, .inl b)], [.inl 10, .inl ((Int.tdiv ((3 + (Int.tdiv (sp_like (I 108) m b) 20)) + (Q3 107 13)) 2))], (am_mm D (am_wp tL I Q3) J ρ))) rfl ?_
      refine am_e_icmp2 rfl ⟨by omega, by omega⟩ ⟨by omega, by omega⟩ (fun (h8 : (Int.tdiv ((3 + (Int.tdiv (sp_like (I 108) m b) 20)) + (Q3 107 13)) 2) ≤ 10) => ?_) (fun (h8 : ¬ ((Int.tdiv ((3 + (Int.tdiv (sp_like (I 108) m b) 20)) + (Q3 107 13)) 2) ≤ 10)) => ?_)
      · show am_E _ _ _ 66 [(4, .inl ((Int.tdiv ((3 + (Int.tdiv (sp_like (I 108) m b) 20)) + (Q3 107 13)) 2))), (3, .inl ((sp_like (I 108) m b))), (0, .inr (.inr (.inl (some 107)))), (1, .inl m), (2, .inl b)] [] (am_mm D (am_wp tL I Q3) J ρ) _
        refine am_e_ss 7 (q := (78, [(4, .inl ((Int.tdiv ((3 + (Int.tdiv (sp_like (I 108) m b) 20)) + (Q3 107 13)) 2))), (3, .inl ((sp_like (I 108) m b))), (0, .inr (.inr (.inl (some 107)))), (1, .inl m), (2, .inl b)], [.inl (56 + b), .inr (.inr (.inl (some 108)))], (am_mm D (am_wp tL I Q3) J ρ))) rfl ?_
        refine am_e_iaload (m := 878) rfl rfl (by omega) (by omega) (by omega) ?_
        show am_E _ _ _ 79 [(4, .inl ((Int.tdiv ((3 + (Int.tdiv (sp_like (I 108) m b) 20)) + (Q3 107 13)) 2))), (3, .inl ((sp_like (I 108) m b))), (0, .inr (.inr (.inl (some 107)))), (1, .inl m), (2, .inl b)] [.inl ((I 108 ((56 + b)).toNat))] (am_mm D (am_wp tL I Q3) J ρ) _
        refine am_e_ss 1 (q := (80, [(4, .inl ((Int.tdiv ((3 + (Int.tdiv (sp_like (I 108) m b) 20)) + (Q3 107 13)) 2))), (3, .inl ((sp_like (I 108) m b))), (0, .inr (.inr (.inl (some 107)))), (1, .inl m), (2, .inl b)], [.inl m, .inl ((I 108 ((56 + b)).toNat))], (am_mm D (am_wp tL I Q3) J ρ))) rfl ?_
        refine am_e_icmp2 rfl ⟨by omega, by omega⟩ ⟨by omega, by omega⟩ (fun (h9 : ¬ (I 108 ((56 + b)).toNat) = m) => ?_) (fun (h9 : ¬ (¬ (I 108 ((56 + b)).toNat) = m)) => ?_)
        · show am_E _ _ _ 88 [(4, .inl ((Int.tdiv ((3 + (Int.tdiv (sp_like (I 108) m b) 20)) + (Q3 107 13)) 2))), (3, .inl ((sp_like (I 108) m b))), (0, .inr (.inr (.inl (some 107)))), (1, .inl m), (2, .inl b)] [] (am_mm D (am_wp tL I Q3) J ρ) _
          refine am_e_ss 1 (q := (90, [(4, .inl ((Int.tdiv ((3 + (Int.tdiv (sp_like (I 108) m b) 20)) + (Q3 107 13)) 2))), (3, .inl ((sp_like (I 108) m b))), (0, .inr (.inr (.inl (some 107)))), (1, .inl m), (2, .inl b)], [.inl ((Int.tdiv ((3 + (Int.tdiv (sp_like (I 108) m b) 20)) + (Q3 107 13)) 2))], (am_mm D (am_wp tL I Q3) J ρ))) rfl ?_
          refine am_e_ireturn rfl rfl ?_
          refine ⟨Q3, ?_⟩
          show ((_, _) : am_R) = (_, _)
          rw [show (Int.tdiv ((3 + (Int.tdiv (sp_like (I 108) m b) 20)) + (Q3 107 13)) 2) = sp_odds (I 108) m b by (unfold sp_odds sp_odd2 sp_odd1; rw [← e13Q3]; (repeat' split) <;> first | (exfalso; omega) | rfl)]
        · show am_E _ _ _ 83 [(4, .inl ((Int.tdiv ((3 + (Int.tdiv (sp_like (I 108) m b) 20)) + (Q3 107 13)) 2))), (3, .inl ((sp_like (I 108) m b))), (0, .inr (.inr (.inl (some 107)))), (1, .inl m), (2, .inl b)] [] (am_mm D (am_wp tL I Q3) J ρ) _
          refine am_e_ss 2 (q := (90, [(4, .inl ((Int.tdiv ((3 + (Int.tdiv (sp_like (I 108) m b) 20)) + (Q3 107 13)) 2))), (3, .inl ((sp_like (I 108) m b))), (0, .inr (.inr (.inl (some 107)))), (1, .inl m), (2, .inl b)], [.inl 10], (am_mm D (am_wp tL I Q3) J ρ))) rfl ?_
          refine am_e_ireturn rfl rfl ?_
          refine ⟨Q3, ?_⟩
          show ((_, _) : am_R) = (_, _)
          rw [show 10 = sp_odds (I 108) m b by (unfold sp_odds sp_odd2 sp_odd1; rw [← e13Q3]; (repeat' split) <;> first | (exfalso; omega) | rfl)]
      · show am_E _ _ _ 61 [(4, .inl ((Int.tdiv ((3 + (Int.tdiv (sp_like (I 108) m b) 20)) + (Q3 107 13)) 2))), (3, .inl ((sp_like (I 108) m b))), (0, .inr (.inr (.inl (some 107)))), (1, .inl m), (2, .inl b)] [] (am_mm D (am_wp tL I Q3) J ρ) _
        refine am_e_ss 8 (q := (78, [(4, .inl 10), (3, .inl ((sp_like (I 108) m b))), (0, .inr (.inr (.inl (some 107)))), (1, .inl m), (2, .inl b)], [.inl (56 + b), .inr (.inr (.inl (some 108)))], (am_mm D (am_wp tL I Q3) J ρ))) rfl ?_
        refine am_e_iaload (m := 878) rfl rfl (by omega) (by omega) (by omega) ?_
        show am_E _ _ _ 79 [(4, .inl 10), (3, .inl ((sp_like (I 108) m b))), (0, .inr (.inr (.inl (some 107)))), (1, .inl m), (2, .inl b)] [.inl ((I 108 ((56 + b)).toNat))] (am_mm D (am_wp tL I Q3) J ρ) _
        refine am_e_ss 1 (q := (80, [(4, .inl 10), (3, .inl ((sp_like (I 108) m b))), (0, .inr (.inr (.inl (some 107)))), (1, .inl m), (2, .inl b)], [.inl m, .inl ((I 108 ((56 + b)).toNat))], (am_mm D (am_wp tL I Q3) J ρ))) rfl ?_
        refine am_e_icmp2 rfl ⟨by omega, by omega⟩ ⟨by omega, by omega⟩ (fun (h10 : ¬ (I 108 ((56 + b)).toNat) = m) => ?_) (fun (h10 : ¬ (¬ (I 108 ((56 + b)).toNat) = m)) => ?_)
        · show am_E _ _ _ 88 [(4, .inl 10), (3, .inl ((sp_like (I 108) m b))), (0, .inr (.inr (.inl (some 107)))), (1, .inl m), (2, .inl b)] [] (am_mm D (am_wp tL I Q3) J ρ) _
          refine am_e_ss 1 (q := (90, [(4, .inl 10), (3, .inl ((sp_like (I 108) m b))), (0, .inr (.inr (.inl (some 107)))), (1, .inl m), (2, .inl b)], [.inl 10], (am_mm D (am_wp tL I Q3) J ρ))) rfl ?_
          refine am_e_ireturn rfl rfl ?_
          refine ⟨Q3, ?_⟩
          show ((_, _) : am_R) = (_, _)
          rw [show 10 = sp_odds (I 108) m b by (unfold sp_odds sp_odd2 sp_odd1; rw [← e13Q3]; (repeat' split) <;> first | (exfalso; omega) | rfl)]
        · show am_E _ _ _ 83 [(4, .inl 10), (3, .inl ((sp_like (I 108) m b))), (0, .inr (.inr (.inl (some 107)))), (1, .inl m), (2, .inl b)] [] (am_mm D (am_wp tL I Q3) J ρ) _
          refine am_e_ss 2 (q := (90, [(4, .inl 10), (3, .inl ((sp_like (I 108) m b))), (0, .inr (.inr (.inl (some 107)))), (1, .inl m), (2, .inl b)], [.inl 10], (am_mm D (am_wp tL I Q3) J ρ))) rfl ?_
          refine am_e_ireturn rfl rfl ?_
          refine ⟨Q3, ?_⟩
          show ((_, _) : am_R) = (_, _)
          rw [show 10 = sp_odds (I 108) m b by (unfold sp_odds sp_odd2 sp_odd1; rw [← e13Q3]; (repeat' split) <;> first | (exfalso; omega) | rfl)]
    · show am_E _ _ _ 50 [(4, .inl ((Int.tdiv ((3 + (Int.tdiv (sp_like (I 108) m b) 20)) + (Q3 107 13)) 2))), (3, .inl ((sp_like (I 108) m b))), (0, .inr (.inr (.inl (some 107)))), (1, .inl m), (2, .inl b)] [] (am_mm D (am_wp tL I Q3) J ρ) _
      refine am_e_ss 8 (q := (78, [(4, .inl 0), (3, .inl ((sp_like (I 108) m b))), (0, .inr (.inr (.inl (some 107)))), (1, .inl m), (2, .inl b)], [.inl (56 + b), .inr (.inr (.inl (some 108)))], (am_mm D (am_wp tL I Q3) J ρ))) rfl ?_
      refine am_e_iaload (m := 878) rfl rfl (by omega) (by omega) (by omega) ?_
      show am_E _ _ _ 79 [(4, .inl 0), (3, .inl ((sp_like (I 108) m b))), (0, .inr (.inr (.inl (some 107)))), (1, .inl m), (2, .inl b)] [.inl ((I 108 ((56 + b)).toNat))] (am_mm D (am_wp tL I Q3) J ρ) _
      refine am_e_ss 1 (q := (80, [(4, .inl 0), (3, .inl ((sp_like (I 108) m b))), (0, .inr (.inr (.inl (some 107)))), (1, .inl m), (2, .inl b)], [.inl m, .inl ((I 108 ((56 + b)).toNat))], (am_mm D (am_wp tL I Q3) J ρ))) rfl ?_
      refine am_e_icmp2 rfl ⟨by omega, by omega⟩ ⟨by omega, by omega⟩ (fun (h11 : ¬ (I 108 ((56 + b)).toNat) = m) => ?_) (fun (h11 : ¬ (¬ (I 108 ((56 + b)).toNat) = m)) => ?_)
      · show am_E _ _ _ 88 [(4, .inl 0), (3, .inl ((sp_like (I 108) m b))), (0, .inr (.inr (.inl (some 107)))), (1, .inl m), (2, .inl b)] [] (am_mm D (am_wp tL I Q3) J ρ) _
        refine am_e_ss 1 (q := (90, [(4, .inl 0), (3, .inl ((sp_like (I 108) m b))), (0, .inr (.inr (.inl (some 107)))), (1, .inl m), (2, .inl b)], [.inl 0], (am_mm D (am_wp tL I Q3) J ρ))) rfl ?_
        refine am_e_ireturn rfl rfl ?_
        refine ⟨Q3, ?_⟩
        show ((_, _) : am_R) = (_, _)
        rw [show 0 = sp_odds (I 108) m b by (unfold sp_odds sp_odd2 sp_odd1; rw [← e13Q3]; (repeat' split) <;> first | (exfalso; omega) | rfl)]
      · show am_E _ _ _ 83 [(4, .inl 0), (3, .inl ((sp_like (I 108) m b))), (0, .inr (.inr (.inl (some 107)))), (1, .inl m), (2, .inl b)] [] (am_mm D (am_wp tL I Q3) J ρ) _
        refine am_e_ss 2 (q := (90, [(4, .inl 0), (3, .inl ((sp_like (I 108) m b))), (0, .inr (.inr (.inl (some 107)))), (1, .inl m), (2, .inl b)], [.inl 10], (am_mm D (am_wp tL I Q3) J ρ))) rfl ?_
        refine am_e_ireturn rfl rfl ?_
        refine ⟨Q3, ?_⟩
        show ((_, _) : am_R) = (_, _)
        rw [show 10 = sp_odds (I 108) m b by (unfold sp_odds sp_odd2 sp_odd1; rw [← e13Q3]; (repeat' split) <;> first | (exfalso; omega) | rfl)]
def sp_readsM (S : Nat → Int) (m b : Int) : Int := if ¬ (0 ≤ m ∧ m ≤ S 19 - 1) then -1 else if ¬ (0 ≤ b ∧ b ≤ S 20 - 1) then -1 else sp_odds S m b
theorem r_reads {X : Nat × (Nat → Int)} {D : List (Nat × Nat)} {I J : Nat → Nat → Int} {ρ : Nat → Nat → Option Nat} (d : Nat) {B m b : Int} (hm : -2147483648 ≤ m ∧ m < 2147483648) (hb : -2147483648 ≤ b ∧ b < 2147483648) (hok : r_ok (I 108) B) (hwf : sp_wfS (I 108)) : am_E X (d + 3) 185 0 [(0, .inr (.inr (.inl (some 107)))), (1, .inl m), (2, .inl b)] [] (am_mm D I J ρ) (fun r => ∃ Q, r = (some (.inl (sp_readsM (I 108) m b)), am_mm D (am_wp tL I Q) J ρ)) := by
  have hok2 := hok
  obtain ⟨o0, oG, oH, oD, o19, o20, o21, o22, o23, o24, oK, oV, oP, oM, oS, oY, oHd, oT, oC, oN⟩ := hok
  have hok := hok2
  refine am_e_ss 2 (q := (2, [(0, .inr (.inr (.inl (some 107)))), (1, .inl m), (2, .inl b)], [.inl m, .inr (.inr (.inl (some 107)))], (am_mm D I J ρ))) rfl ?_
  refine am_e_virtual (Q := fun r => r = (some (.inl ((am_bi (0 ≤ m ∧ m ≤ ((I 108 19) - 1))))), (am_mm D I J ρ))) rfl rfl (Nat.le_of_ble_eq_true rfl) rfl rfl (Nat.le_of_ble_eq_true rfl) (Nat.le_of_ble_eq_true rfl) (r_isMember _ ⟨by omega, by omega⟩ (show 0 ≤ (I 108 19) ∧ (I 108 19) ≤ 6 by omega)) ?_
  rintro r rfl
  show am_E _ _ _ 5 [(0, .inr (.inr (.inl (some 107)))), (1, .inl m), (2, .inl b)] [.inl ((am_bi (0 ≤ m ∧ m ≤ ((I 108 19) - 1))))] (am_mm D I J ρ) _
  refine am_e_ifeq rfl (fun h1 => ?_) (fun h1 => ?_)
  · show am_E _ _ _ 25 [(0, .inr (.inr (.inl (some 107)))), (1, .inl m), (2, .inl b)] [] (am_mm D I J ρ) _
    refine am_e_ss 1 (q := (26, [(0, .inr (.inr (.inl (some 107)))), (1, .inl m), (2, .inl b)], [.inl (-1)], (am_mm D I J ρ))) rfl ?_
    refine am_e_ireturn rfl rfl ?_
    refine ⟨I, ?_⟩
    show ((_, _) : am_R) = (_, _)
    rw [show (-1) = sp_readsM (I 108) m b by (unfold sp_readsM; (repeat' split) <;> first | (exfalso; omega) | rfl)]
    exact am_r_wp tL am_k_id
  · show am_E _ _ _ 8 [(0, .inr (.inr (.inl (some 107)))), (1, .inl m), (2, .inl b)] [] (am_mm D I J ρ) _
    refine am_e_ss 2 (q := (10, [(0, .inr (.inr (.inl (some 107)))), (1, .inl m), (2, .inl b)], [.inl b, .inr (.inr (.inl (some 107)))], (am_mm D I J ρ))) rfl ?_
    refine am_e_virtual (Q := fun r => r = (some (.inl ((am_bi (0 ≤ b ∧ b ≤ ((I 108 20) - 1))))), (am_mm D I J ρ))) rfl rfl (Nat.le_of_ble_eq_true rfl) rfl rfl (Nat.le_of_ble_eq_true rfl) (Nat.le_of_ble_eq_true rfl) (r_isBook _ ⟨by omega, by omega⟩ (show 0 ≤ (I 108 20) ∧ (I 108 20) ≤ 6 by omega)) ?_
    rintro r rfl
    show am_E _ _ _ 13 [(0, .inr (.inr (.inl (some 107)))), (1, .inl m), (2, .inl b)] [.inl ((am_bi (0 ≤ b ∧ b ≤ ((I 108 20) - 1))))] (am_mm D I J ρ) _
    refine am_e_ifeq rfl (fun h2 => ?_) (fun h2 => ?_)
    · show am_E _ _ _ 25 [(0, .inr (.inr (.inl (some 107)))), (1, .inl m), (2, .inl b)] [] (am_mm D I J ρ) _
      refine am_e_ss 1 (q := (26, [(0, .inr (.inr (.inl (some 107)))), (1, .inl m), (2, .inl b)], [.inl (-1)], (am_mm D I J ρ))) rfl ?_
      refine am_e_ireturn rfl rfl ?_
      refine ⟨I, ?_⟩
      show ((_, _) : am_R) = (_, _)
      rw [show (-1) = sp_readsM (I 108) m b by (unfold sp_readsM; (repeat' split) <;> first | (exfalso; omega) | rfl)]
      exact am_r_wp tL am_k_id
    · show am_E _ _ _ 16 [(0, .inr (.inr (.inl (some 107)))), (1, .inl m), (2, .inl b)] [] (am_mm D I J ρ) _
      refine am_e_ss 3 (q := (19, [(0, .inr (.inr (.inl (some 107)))), (1, .inl m), (2, .inl b)], [.inl b, .inl m, .inr (.inr (.inl (some 107)))], (am_mm D I J ρ))) rfl ?_
      refine am_e_virtual (Q := fun r => ∃ Q4, r = (some (.inl ((sp_odds (I 108) m b))), (am_mm D (am_wp tL I Q4) J ρ)) ∧ True) rfl rfl (Nat.le_of_ble_eq_true rfl) rfl rfl (Nat.le_of_ble_eq_true rfl) (Nat.le_of_ble_eq_true rfl) ((r_readsOf _ (B := B) ⟨by omega, by omega⟩ ⟨by omega, by omega⟩ hok hwf).imp (fun r h => by obtain ⟨Q, e⟩ := h; exact ⟨Q, e, True.intro⟩)) ?_
      rintro r ⟨Q4, rfl, -⟩
      have obQ4 := sp_odds_b (I 108) m b
      show am_E _ _ _ 22 [(0, .inr (.inr (.inl (some 107)))), (1, .inl m), (2, .inl b)] [.inl ((sp_odds (I 108) m b))] (am_mm D (am_wp tL I Q4) J ρ) _
      refine am_e_ss 1 (q := (26, [(0, .inr (.inr (.inl (some 107)))), (1, .inl m), (2, .inl b)], [.inl ((sp_odds (I 108) m b))], (am_mm D (am_wp tL I Q4) J ρ))) rfl ?_
      refine am_e_ireturn rfl rfl ?_
      refine ⟨Q4, ?_⟩
      show ((_, _) : am_R) = (_, _)
      rw [show (sp_odds (I 108) m b) = sp_readsM (I 108) m b by (unfold sp_readsM; (repeat' split) <;> first | (exfalso; omega) | rfl)]
def sp_cmi (S : Nat → Int) (m b : Int) : Int := if S (26 + m).toNat = 6 ∧ S 0 % (S (32 + m).toNat + 2) = 0 then 0 else if sp_odds S m b < sp_come S then 0 else 1
theorem r_doesCome {X : Nat × (Nat → Int)} {D : List (Nat × Nat)} {I J : Nat → Nat → Int} {ρ : Nat → Nat → Option Nat} (d : Nat) {B m b : Int} (hm : 0 ≤ m ∧ m < 6) (hb : 0 ≤ b ∧ b < 6) (hok : r_ok (I 108) B) (hwf : sp_wfS (I 108)) : am_E X (d + 3) 186 0 [(0, .inr (.inr (.inl (some 107)))), (1, .inl m), (2, .inl b)] [] (am_mm D I J ρ) (fun r => ∃ Q, r = (some (.inl (sp_cmi (I 108) m b)), am_mm D (am_wp tL I Q) J ρ)) := by
  have hok2 := hok
  obtain ⟨o0, oG, oH, oD, o19, o20, o21, o22, o23, o24, oK, oV, oP, oM, oS, oY, oHd, oT, oC, oN⟩ := hok
  have hok := hok2
  have cb := r_come_b hok
  refine am_e_ss 2 (q := (2, [(0, .inr (.inr (.inl (some 107)))), (1, .inl m), (2, .inl b)], [.inl m, .inr (.inr (.inl (some 107)))], (am_mm D I J ρ))) rfl ?_
  refine am_e_virtual (Q := fun r => r = (some (.inl ((am_bi ((I 108) (26 + m).toNat = 6 ∧ (I 108) 0 % ((I 108) (32 + m).toNat + 2) = 0)))), (am_mm D I J ρ))) rfl rfl (Nat.le_of_ble_eq_true rfl) rfl rfl (Nat.le_of_ble_eq_true rfl) (Nat.le_of_ble_eq_true rfl) (r_isAwayNow _ (B := B) ⟨by omega, by omega⟩ hok) ?_
  rintro r rfl
  show am_E _ _ _ 5 [(0, .inr (.inr (.inl (some 107)))), (1, .inl m), (2, .inl b)] [.inl ((am_bi ((I 108) (26 + m).toNat = 6 ∧ (I 108) 0 % ((I 108) (32 + m).toNat + 2) = 0)))] (am_mm D I J ρ) _
  refine am_e_ifne rfl (fun h1 => ?_) (fun h1 => ?_)
  · show am_E _ _ _ 25 [(0, .inr (.inr (.inl (some 107)))), (1, .inl m), (2, .inl b)] [] (am_mm D I J ρ) _
    refine am_e_ss 1 (q := (26, [(0, .inr (.inr (.inl (some 107)))), (1, .inl m), (2, .inl b)], [.inl 0], (am_mm D I J ρ))) rfl ?_
    refine am_e_ireturn rfl rfl ?_
    refine ⟨I, ?_⟩
    show ((_, _) : am_R) = (_, _)
    rw [show (0 : Int) = sp_cmi (I 108) m b by (unfold sp_cmi; (repeat' split) <;> first | (exfalso; omega) | rfl)]
    exact am_r_wp tL am_k_id
  · show am_E _ _ _ 8 [(0, .inr (.inr (.inl (some 107)))), (1, .inl m), (2, .inl b)] [] (am_mm D I J ρ) _
    refine am_e_ss 3 (q := (11, [(0, .inr (.inr (.inl (some 107)))), (1, .inl m), (2, .inl b)], [.inl b, .inl m, .inr (.inr (.inl (some 107)))], (am_mm D I J ρ))) rfl ?_
    refine am_e_virtual (Q := fun r => ∃ Q5, r = (some (.inl ((sp_odds (I 108) m b))), (am_mm D (am_wp tL I Q5) J ρ)) ∧ True) rfl rfl (Nat.le_of_ble_eq_true rfl) rfl rfl (Nat.le_of_ble_eq_true rfl) (Nat.le_of_ble_eq_true rfl) ((r_readsOf _ (B := B) ⟨by omega, by omega⟩ ⟨by omega, by omega⟩ hok hwf).imp (fun r h => by obtain ⟨Q, e⟩ := h; exact ⟨Q, e, True.intro⟩)) ?_
    rintro r ⟨Q5, rfl, -⟩
    have obQ5 := sp_odds_b (I 108) m b
    show am_E _ _ _ 14 [(0, .inr (.inr (.inl (some 107)))), (1, .inl m), (2, .inl b)] [.inl ((sp_odds (I 108) m b))] (am_mm D (am_wp tL I Q5) J ρ) _
    refine am_e_ss 1 (q := (15, [(0, .inr (.inr (.inl (some 107)))), (1, .inl m), (2, .inl b)], [.inr (.inr (.inl (some 107))), .inl ((sp_odds (I 108) m b))], (am_mm D (am_wp tL I Q5) J ρ))) rfl ?_
    refine am_e_virtual (Q := fun r => r = (some (.inl ((sp_come (I 108)))), (am_mm D (am_wp tL I Q5) J ρ))) rfl rfl (Nat.le_of_ble_eq_true rfl) rfl rfl (Nat.le_of_ble_eq_true rfl) (Nat.le_of_ble_eq_true rfl) (r_comeNow _ (B := B) hok) ?_
    rintro r rfl
    show am_E _ _ _ 18 [(0, .inr (.inr (.inl (some 107)))), (1, .inl m), (2, .inl b)] [.inl ((sp_come (I 108))), .inl ((sp_odds (I 108) m b))] (am_mm D (am_wp tL I Q5) J ρ) _
    refine am_e_icmp2 rfl ⟨by omega, by omega⟩ ⟨by omega, by omega⟩ (fun (h2 : (sp_odds (I 108) m b) < (sp_come (I 108))) => ?_) (fun (h2 : ¬ ((sp_odds (I 108) m b) < (sp_come (I 108)))) => ?_)
    · show am_E _ _ _ 25 [(0, .inr (.inr (.inl (some 107)))), (1, .inl m), (2, .inl b)] [] (am_mm D (am_wp tL I Q5) J ρ) _
      refine am_e_ss 1 (q := (26, [(0, .inr (.inr (.inl (some 107)))), (1, .inl m), (2, .inl b)], [.inl 0], (am_mm D (am_wp tL I Q5) J ρ))) rfl ?_
      refine am_e_ireturn rfl rfl ?_
      refine ⟨Q5, ?_⟩
      show ((_, _) : am_R) = (_, _)
      rw [show (0 : Int) = sp_cmi (I 108) m b by (unfold sp_cmi; (repeat' split) <;> first | (exfalso; omega) | rfl)]
    · show am_E _ _ _ 21 [(0, .inr (.inr (.inl (some 107)))), (1, .inl m), (2, .inl b)] [] (am_mm D (am_wp tL I Q5) J ρ) _
      refine am_e_ss 2 (q := (26, [(0, .inr (.inr (.inl (some 107)))), (1, .inl m), (2, .inl b)], [.inl 1], (am_mm D (am_wp tL I Q5) J ρ))) rfl ?_
      refine am_e_ireturn rfl rfl ?_
      refine ⟨Q5, ?_⟩
      show ((_, _) : am_R) = (_, _)
      rw [show (1 : Int) = sp_cmi (I 108) m b by (unfold sp_cmi; (repeat' split) <;> first | (exfalso; omega) | rfl)]
theorem sp_cmi_01 (S : Nat → Int) (m b : Int) : sp_cmi S m b = 0 ∨ sp_cmi S m b = 1 := by
  unfold sp_cmi
  (repeat' split) <;> simp
def sp_comesM (S : Nat → Int) (m b : Int) : Int := if ¬ (0 ≤ m ∧ m ≤ S 19 - 1) then -1 else if ¬ (0 ≤ b ∧ b ≤ S 20 - 1) then -1 else sp_cmi S m b
theorem r_comes {X : Nat × (Nat → Int)} {D : List (Nat × Nat)} {I J : Nat → Nat → Int} {ρ : Nat → Nat → Option Nat} (d : Nat) {B m b : Int} (hm : -2147483648 ≤ m ∧ m < 2147483648) (hb : -2147483648 ≤ b ∧ b < 2147483648) (hok : r_ok (I 108) B) (hwf : sp_wfS (I 108)) : am_E X (d + 4) 187 0 [(0, .inr (.inr (.inl (some 107)))), (1, .inl m), (2, .inl b)] [] (am_mm D I J ρ) (fun r => ∃ Q, r = (some (.inl (sp_comesM (I 108) m b)), am_mm D (am_wp tL I Q) J ρ)) := by
  have hok2 := hok
  obtain ⟨o0, oG, oH, oD, o19, o20, o21, o22, o23, o24, oK, oV, oP, oM, oS, oY, oHd, oT, oC, oN⟩ := hok
  have hok := hok2
  refine am_e_ss 2 (q := (2, [(0, .inr (.inr (.inl (some 107)))), (1, .inl m), (2, .inl b)], [.inl m, .inr (.inr (.inl (some 107)))], (am_mm D I J ρ))) rfl ?_
  refine am_e_virtual (Q := fun r => r = (some (.inl ((am_bi (0 ≤ m ∧ m ≤ ((I 108 19) - 1))))), (am_mm D I J ρ))) rfl rfl (Nat.le_of_ble_eq_true rfl) rfl rfl (Nat.le_of_ble_eq_true rfl) (Nat.le_of_ble_eq_true rfl) (r_isMember _ ⟨by omega, by omega⟩ (show 0 ≤ (I 108 19) ∧ (I 108 19) ≤ 6 by omega)) ?_
  rintro r rfl
  show am_E _ _ _ 5 [(0, .inr (.inr (.inl (some 107)))), (1, .inl m), (2, .inl b)] [.inl ((am_bi (0 ≤ m ∧ m ≤ ((I 108 19) - 1))))] (am_mm D I J ρ) _
  refine am_e_ifeq rfl (fun h1 => ?_) (fun h1 => ?_)
  · show am_E _ _ _ 16 [(0, .inr (.inr (.inl (some 107)))), (1, .inl m), (2, .inl b)] [] (am_mm D I J ρ) _
    refine am_e_ss 1 (q := (17, [(0, .inr (.inr (.inl (some 107)))), (1, .inl m), (2, .inl b)], [.inl (-1)], (am_mm D I J ρ))) rfl ?_
    refine am_e_ireturn rfl rfl ?_
    refine ⟨I, ?_⟩
    show ((_, _) : am_R) = (_, _)
    rw [show ((-1) : Int) = sp_comesM (I 108) m b by (unfold sp_comesM; (repeat' split) <;> first | (exfalso; omega) | omega)]
    exact am_r_wp tL am_k_id
  · show am_E _ _ _ 8 [(0, .inr (.inr (.inl (some 107)))), (1, .inl m), (2, .inl b)] [] (am_mm D I J ρ) _
    refine am_e_ss 2 (q := (10, [(0, .inr (.inr (.inl (some 107)))), (1, .inl m), (2, .inl b)], [.inl b, .inr (.inr (.inl (some 107)))], (am_mm D I J ρ))) rfl ?_
    refine am_e_virtual (Q := fun r => r = (some (.inl ((am_bi (0 ≤ b ∧ b ≤ ((I 108 20) - 1))))), (am_mm D I J ρ))) rfl rfl (Nat.le_of_ble_eq_true rfl) rfl rfl (Nat.le_of_ble_eq_true rfl) (Nat.le_of_ble_eq_true rfl) (r_isBook _ ⟨by omega, by omega⟩ (show 0 ≤ (I 108 20) ∧ (I 108 20) ≤ 6 by omega)) ?_
    rintro r rfl
    show am_E _ _ _ 13 [(0, .inr (.inr (.inl (some 107)))), (1, .inl m), (2, .inl b)] [.inl ((am_bi (0 ≤ b ∧ b ≤ ((I 108 20) - 1))))] (am_mm D I J ρ) _
    refine am_e_ifne rfl (fun h2 => ?_) (fun h2 => ?_)
    · show am_E _ _ _ 18 [(0, .inr (.inr (.inl (some 107)))), (1, .inl m), (2, .inl b)] [] (am_mm D I J ρ) _
      refine am_e_ss 3 (q := (21, [(0, .inr (.inr (.inl (some 107)))), (1, .inl m), (2, .inl b)], [.inl b, .inl m, .inr (.inr (.inl (some 107)))], (am_mm D I J ρ))) rfl ?_
      refine am_e_virtual (Q := fun r => ∃ Q6, r = (some (.inl ((sp_cmi (I 108) m b))), (am_mm D (am_wp tL I Q6) J ρ)) ∧ True) rfl rfl (Nat.le_of_ble_eq_true rfl) rfl rfl (Nat.le_of_ble_eq_true rfl) (Nat.le_of_ble_eq_true rfl) ((r_doesCome _ (B := B) ⟨by omega, by omega⟩ ⟨by omega, by omega⟩ hok hwf).imp (fun r h => by obtain ⟨Q, e⟩ := h; exact ⟨Q, e, True.intro⟩)) ?_
      rintro r ⟨Q6, rfl, -⟩
      have cbQ6 := sp_cmi_01 (I 108) m b
      show am_E _ _ _ 24 [(0, .inr (.inr (.inl (some 107)))), (1, .inl m), (2, .inl b)] [.inl ((sp_cmi (I 108) m b))] (am_mm D (am_wp tL I Q6) J ρ) _
      refine am_e_if2 rfl ⟨by omega, by omega⟩ (fun (h3 : (sp_cmi (I 108) m b) = 0) => ?_) (fun (h3 : ¬ ((sp_cmi (I 108) m b) = 0)) => ?_)
      · show am_E _ _ _ 31 [(0, .inr (.inr (.inl (some 107)))), (1, .inl m), (2, .inl b)] [] (am_mm D (am_wp tL I Q6) J ρ) _
        refine am_e_ss 1 (q := (32, [(0, .inr (.inr (.inl (some 107)))), (1, .inl m), (2, .inl b)], [.inl 0], (am_mm D (am_wp tL I Q6) J ρ))) rfl ?_
        refine am_e_ireturn rfl rfl ?_
        refine ⟨Q6, ?_⟩
        show ((_, _) : am_R) = (_, _)
        rw [show (0 : Int) = sp_comesM (I 108) m b by (unfold sp_comesM; (repeat' split) <;> first | (exfalso; omega) | omega)]
      · show am_E _ _ _ 27 [(0, .inr (.inr (.inl (some 107)))), (1, .inl m), (2, .inl b)] [] (am_mm D (am_wp tL I Q6) J ρ) _
        refine am_e_ss 2 (q := (32, [(0, .inr (.inr (.inl (some 107)))), (1, .inl m), (2, .inl b)], [.inl 1], (am_mm D (am_wp tL I Q6) J ρ))) rfl ?_
        refine am_e_ireturn rfl rfl ?_
        refine ⟨Q6, ?_⟩
        show ((_, _) : am_R) = (_, _)
        rw [show (1 : Int) = sp_comesM (I 108) m b by (unfold sp_comesM; (repeat' split) <;> first | (exfalso; omega) | omega)]
    · show am_E _ _ _ 16 [(0, .inr (.inr (.inl (some 107)))), (1, .inl m), (2, .inl b)] [] (am_mm D I J ρ) _
      refine am_e_ss 1 (q := (17, [(0, .inr (.inr (.inl (some 107)))), (1, .inl m), (2, .inl b)], [.inl (-1)], (am_mm D I J ρ))) rfl ?_
      refine am_e_ireturn rfl rfl ?_
      refine ⟨I, ?_⟩
      show ((_, _) : am_R) = (_, _)
      rw [show ((-1) : Int) = sp_comesM (I 108) m b by (unfold sp_comesM; (repeat' split) <;> first | (exfalso; omega) | omega)]
      exact am_r_wp tL am_k_id
