/-! THE REFERENCE: F, T and E of a text -/
theorem pt_ns_lt {h : Nat → Int} {z p : Nat} {L : List Int} (hz : ∀ i, z ≤ i → h i = -1) (hl : L.length ≤ p) : ∀ L', (pt_ns h p L).2 = some L' → L'.length < (pt_ns h p L).1 := by
  intro L' e
  unfold pt_ns at e ⊢
  rcases hN : pt_num h p with ⟨q, _ | v⟩
  · rw [hN] at e; cases e
  · rw [hN] at e
    obtain ⟨a1, a2, a3⟩ := pt_num_ok hz hN
    cases e
    show L.length < q
    omega
theorem pt_pre_lt {F : Nat → pt_R} {z p : Nat} {m : Int} {L : List Int} (hF : pt_ok z m F) (hl : L.length < p) : ∀ L', (pt_pre L (F p)).2 = some L' → L'.length < (pt_pre L (F p)).1 := by
  intro L' e
  rcases hN : F p with ⟨q, _ | L2⟩
  · rw [hN] at e; cases e
  · rw [hN] at e
    obtain ⟨a1, a2, a3, a4⟩ := hF _ _ _ hN
    cases e
    show (L ++ L2).length < q
    rw [List.length_append]; omega
theorem pt_lp_pre {h : Nat → Int} {F : Nat → pt_R} {s j : Int} {A : List Int} : ∀ {n p : Nat} {L : List Int}, pt_lp h F s j n p (A ++ L) = pt_pre A (pt_lp h F s j n p L) := by
  intro n
  induction n with
  | zero => intro p L; rfl
  | succ n ih =>
    intro p L
    unfold pt_lp
    split
    · rfl
    · rcases F (p + 1) with ⟨q, _ | L2⟩
      · rfl
      · show pt_lp h F s j n q (A ++ L ++ L2 ++ [j]) = pt_pre A (pt_lp h F s j n q (L ++ L2 ++ [j]))
        rw [← ih, ← List.append_assoc, ← List.append_assoc]
/-- a reader of F from a place on, with n frames at least -/
def r_FC (X : Nat × (Nat → Int)) (D : List (Nat × Nat)) (J : Nat → Nat → Int) (ρ : Nat → Nat → Option Nat) (hs : Nat → Int) (z a : Nat) (w e : Int) (n mid : Nat) (F : Nat → pt_R) : Prop := ∀ d I0 I R, n ≤ d → r_cs I0 I hs z a w e R → am_E X d mid 0 [(0, .inr (.inr (.inl (some 107))))] [] (am_mm D I J ρ) (fun r => ∃ K, r = (none, am_mm D K J ρ) ∧ r_cs I0 K hs z a w e (pt_bd R (fun p L => pt_pre L (F p))))
theorem r_factorW {X : Nat × (Nat → Int)} {D : List (Nat × Nat)} {I J : Nat → Nat → Int} {ρ : Nat → Nat → Option Nat} (d : Nat) (h8 : I 107 8 = 1) : am_E X d 141 0 [(0, .inr (.inr (.inl (some 107))))] [] (am_mm D I J ρ) (fun r => r = (none, (am_mm D I J ρ))) := by
  refine am_e_ss 2 (q := (4, [(0, .inr (.inr (.inl (some 107))))], [.inl ((I 107 8))], (am_mm D I J ρ))) rfl ?_
  refine am_e_if2 rfl ⟨by omega, by omega⟩ (fun (hw1 : (I 107 8) = 0) => ?_) (fun (hw1 : ¬ ((I 107 8) = 0)) => ?_)
  · show am_E _ _ _ 8 [(0, .inr (.inr (.inl (some 107))))] [] (am_mm D I J ρ) _
    exfalso
    omega
  · show am_E _ _ _ 7 [(0, .inr (.inr (.inl (some 107))))] [] (am_mm D I J ρ) _
    refine am_e_return rfl rfl ?_
    rfl
theorem r_every_lW {X : Nat × (Nat → Int)} {D : List (Nat × Nat)} {I J : Nat → Nat → Int} {ρ : Nat → Nat → Option Nat} (d : Nat) (h8 : I 107 8 = 1) : am_E X d 142 4 [(0, .inr (.inr (.inl (some 107))))] [] (am_mm D I J ρ) (fun r => r = (none, (am_mm D I J ρ))) := by
  refine am_e_ss 2 (q := (8, [(0, .inr (.inr (.inl (some 107))))], [.inl ((I 107 8))], (am_mm D I J ρ))) rfl ?_
  refine am_e_if2 rfl ⟨by omega, by omega⟩ (fun (hw1 : ¬ (I 107 8) = 0) => ?_) (fun (hw1 : ¬ (¬ (I 107 8) = 0)) => ?_)
  · show am_E _ _ _ 43 [(0, .inr (.inr (.inl (some 107))))] [] (am_mm D I J ρ) _
    refine am_e_return rfl rfl ?_
    rfl
  · show am_E _ _ _ 11 [(0, .inr (.inr (.inl (some 107))))] [] (am_mm D I J ρ) _
    exfalso
    omega
theorem r_everyW {X : Nat × (Nat → Int)} {D : List (Nat × Nat)} {I J : Nat → Nat → Int} {ρ : Nat → Nat → Option Nat} (d : Nat) (h8 : I 107 8 = 1) : am_E X (d + 1) 142 0 [(0, .inr (.inr (.inl (some 107))))] [] (am_mm D I J ρ) (fun r => r = (none, (am_mm D I J ρ))) := by
  refine am_e_ss 1 (q := (1, [(0, .inr (.inr (.inl (some 107))))], [.inr (.inr (.inl (some 107)))], (am_mm D I J ρ))) rfl ?_
  refine am_e_virtual (Q := fun r => r = (none, (am_mm D I J ρ))) rfl rfl (Nat.le_of_ble_eq_true rfl) rfl rfl (Nat.le_of_ble_eq_true rfl) (Nat.le_of_ble_eq_true rfl) (r_factorW _ (show I 107 8 = 1 from h8)) ?_
  rintro r rfl
  show am_E _ _ _ 4 [(0, .inr (.inr (.inl (some 107))))] [] (am_mm D I J ρ) _
  refine am_e_ss 2 (q := (8, [(0, .inr (.inr (.inl (some 107))))], [.inl ((I 107 8))], (am_mm D I J ρ))) rfl ?_
  refine am_e_if2 rfl ⟨by omega, by omega⟩ (fun (hw1 : ¬ (I 107 8) = 0) => ?_) (fun (hw1 : ¬ (¬ (I 107 8) = 0)) => ?_)
  · show am_E _ _ _ 43 [(0, .inr (.inr (.inl (some 107))))] [] (am_mm D I J ρ) _
    refine am_e_return rfl rfl ?_
    rfl
  · show am_E _ _ _ 11 [(0, .inr (.inr (.inl (some 107))))] [] (am_mm D I J ρ) _
    exfalso
    omega
theorem r_some_lW {X : Nat × (Nat → Int)} {D : List (Nat × Nat)} {I J : Nat → Nat → Int} {ρ : Nat → Nat → Option Nat} (d : Nat) (h8 : I 107 8 = 1) : am_E X d 143 4 [(0, .inr (.inr (.inl (some 107))))] [] (am_mm D I J ρ) (fun r => r = (none, (am_mm D I J ρ))) := by
  refine am_e_ss 2 (q := (8, [(0, .inr (.inr (.inl (some 107))))], [.inl ((I 107 8))], (am_mm D I J ρ))) rfl ?_
  refine am_e_if2 rfl ⟨by omega, by omega⟩ (fun (hw1 : ¬ (I 107 8) = 0) => ?_) (fun (hw1 : ¬ (¬ (I 107 8) = 0)) => ?_)
  · show am_E _ _ _ 43 [(0, .inr (.inr (.inl (some 107))))] [] (am_mm D I J ρ) _
    refine am_e_return rfl rfl ?_
    rfl
  · show am_E _ _ _ 11 [(0, .inr (.inr (.inl (some 107))))] [] (am_mm D I J ρ) _
    exfalso
    omega
theorem r_someW {X : Nat × (Nat → Int)} {D : List (Nat × Nat)} {I J : Nat → Nat → Int} {ρ : Nat → Nat → Option Nat} (d : Nat) (h8 : I 107 8 = 1) : am_E X (d + 2) 143 0 [(0, .inr (.inr (.inl (some 107))))] [] (am_mm D I J ρ) (fun r => r = (none, (am_mm D I J ρ))) := by
  refine am_e_ss 1 (q := (1, [(0, .inr (.inr (.inl (some 107))))], [.inr (.inr (.inl (some 107)))], (am_mm D I J ρ))) rfl ?_
  refine am_e_virtual (Q := fun r => r = (none, (am_mm D I J ρ))) rfl rfl (Nat.le_of_ble_eq_true rfl) rfl rfl (Nat.le_of_ble_eq_true rfl) (Nat.le_of_ble_eq_true rfl) (r_everyW _ (show I 107 8 = 1 from h8)) ?_
  rintro r rfl
  show am_E _ _ _ 4 [(0, .inr (.inr (.inl (some 107))))] [] (am_mm D I J ρ) _
  refine am_e_ss 2 (q := (8, [(0, .inr (.inr (.inl (some 107))))], [.inl ((I 107 8))], (am_mm D I J ρ))) rfl ?_
  refine am_e_if2 rfl ⟨by omega, by omega⟩ (fun (hw1 : ¬ (I 107 8) = 0) => ?_) (fun (hw1 : ¬ (¬ (I 107 8) = 0)) => ?_)
  · show am_E _ _ _ 43 [(0, .inr (.inr (.inl (some 107))))] [] (am_mm D I J ρ) _
    refine am_e_return rfl rfl ?_
    rfl
  · show am_E _ _ _ 11 [(0, .inr (.inr (.inl (some 107))))] [] (am_mm D I J ρ) _
    exfalso
    omega
theorem r_every_l {X : Nat × (Nat → Int)} {D : List (Nat × Nat)} {I J : Nat → Nat → Int} {ρ : Nat → Nat → Option Nat} (d : Nat) {I0 : Nat → Nat → Int} {hs : Nat → Int} {z a : Nat} {w e m : Int} {F : Nat → pt_R} {n : Nat} {p k : Nat} {L : List Int} (hF : r_FC X D J ρ hs z a w e k 141 F) (hok : pt_ok z m F) (hcs : r_cs I0 I hs z a w e (p, some L)) (hd : k ≤ d) (hn : z - p < n) : am_E X (d + 1) 142 4 [(0, .inr (.inr (.inl (some 107))))] [] (am_mm D I J ρ) (fun r => ∃ K, r = (none, am_mm D K J ρ) ∧ r_cs I0 K hs z a w e ((pt_lp hs F 38 (-2) n p L))) := by
  have h8 : I 107 8 = 0 := hcs.2.2.2.2.2.1
  have t6 : I 107 6 = (p : Int) := hcs.2.1.1
  have tb := hcs.2.1.2.2.2.2.2.2
  have tbp := tb p
  have tz := hcs.2.1.2.2.1
  have tpz : p ≤ z := hcs.2.1.2.2.2.1
  have ed : I 107 9 = e := hcs.2.2.2.2.1
  have hll : L.length ≤ p := hcs.2.2.2.2.2.2.2
  refine am_e_ss 2 (q := (8, [(0, .inr (.inr (.inl (some 107))))], [.inl ((I 107 8))], (am_mm D I J ρ))) rfl ?_
  refine am_e_if2 rfl ⟨by omega, by omega⟩ (fun (hw1 : ¬ (I 107 8) = 0) => ?_) (fun (hw1 : ¬ (¬ (I 107 8) = 0)) => ?_)
  · show am_E _ _ _ 43 [(0, .inr (.inr (.inl (some 107))))] [] (am_mm D I J ρ) _
    refine am_e_return rfl rfl ?_
    exfalso
    omega
  · show am_E _ _ _ 11 [(0, .inr (.inr (.inl (some 107))))] [] (am_mm D I J ρ) _
    refine am_e_ss 1 (q := (12, [(0, .inr (.inr (.inl (some 107))))], [.inr (.inr (.inl (some 107)))], (am_mm D I J ρ))) rfl ?_
    refine am_e_virtual (Q := fun r => r = (some (.inl ((hs p))), (am_mm D I J ρ))) rfl rfl (Nat.le_of_ble_eq_true rfl) rfl rfl (Nat.le_of_ble_eq_true rfl) (Nat.le_of_ble_eq_true rfl) (r_hereC _ hcs) ?_
    rintro r rfl
    show am_E _ _ _ 15 [(0, .inr (.inr (.inl (some 107))))] [.inl ((hs p))] (am_mm D I J ρ) _
    refine am_e_ss 1 (q := (17, [(0, .inr (.inr (.inl (some 107))))], [.inl 38, .inl ((hs p))], (am_mm D I J ρ))) rfl ?_
    refine am_e_icmp2 rfl ⟨by omega, by omega⟩ ⟨by omega, by omega⟩ (fun (hw2 : ¬ (hs p) = 38) => ?_) (fun (hw2 : ¬ (¬ (hs p) = 38)) => ?_)
    · show am_E _ _ _ 43 [(0, .inr (.inr (.inl (some 107))))] [] (am_mm D I J ρ) _
      refine am_e_return rfl rfl ?_
      obtain ⟨n2, rfl⟩ : ∃ n2, n = n2 + 1 := ⟨n - 1, by omega⟩
      rw [show pt_lp hs F 38 (-2) (n2 + 1) p L = (p, some L) from if_pos (by omega)]
      exact ⟨_, rfl, hcs⟩
    · show am_E _ _ _ 20 [(0, .inr (.inr (.inl (some 107))))] [] (am_mm D I J ρ) _
      refine am_e_ss 6 (q := (30, [(0, .inr (.inr (.inl (some 107))))], [], (am_mm D (am_up I 107 6 ((I 107 6) + 1)) J ρ))) rfl ?_
      have u31 : I 107 6 = ((p : Nat) : Int) := hcs.2.1.1
      rw [u31]
      have g31 := r_cs_6 hcs (r_cs_lt hcs (show 0 ≤ hs (p) by omega))
      have gb31 := tb (p + 1)
      generalize am_up I 107 6 (((p : Nat) : Int) + 1) = K31 at g31 ⊢
      have k831 : K31 107 8 = 0 := g31.2.2.2.2.2.1
      show am_E _ _ _ 30 [(0, .inr (.inr (.inl (some 107))))] [] (am_mm D K31 J ρ) _
      refine am_e_ss 1 (q := (31, [(0, .inr (.inr (.inl (some 107))))], [.inr (.inr (.inl (some 107)))], (am_mm D K31 J ρ))) rfl ?_
      refine am_e_virtual (Q := fun r => ∃ K32, r = (none, (am_mm D K32 J ρ)) ∧ r_cs I0 K32 hs z a w e ((pt_bd ((p + 1, some L)) (fun p L => pt_pre L (F p))))) rfl rfl (Nat.le_of_ble_eq_true rfl) rfl rfl (Nat.le_of_ble_eq_true rfl) (Nat.le_of_ble_eq_true rfl) (hF _ _ _ ((p + 1, some L)) (by omega) g31) ?_
      rintro r ⟨K32, rfl, g32⟩
      show am_E _ _ _ 34 [(0, .inr (.inr (.inl (some 107))))] [] (am_mm D K32 J ρ) _
      refine am_e_ss 2 (q := (37, [(0, .inr (.inr (.inl (some 107))))], [.inl (-2), .inr (.inr (.inl (some 107)))], (am_mm D K32 J ρ))) rfl ?_
      refine am_e_virtual (Q := fun r => ∃ K33, r = (none, (am_mm D K33 J ρ)) ∧ r_cs I0 K33 hs z a w e ((pt_bd ((pt_bd ((p + 1, some L)) (fun p L => pt_pre L (F p)))) (fun p9 L9 => (p9, some (L9 ++ [(-2)])))))) rfl rfl (Nat.le_of_ble_eq_true rfl) rfl rfl (Nat.le_of_ble_eq_true rfl) (Nat.le_of_ble_eq_true rfl) (r_emitsC _ g32 (s := (-2)) (pt_pre_lt hok (by omega))) ?_
      rintro r ⟨K33, rfl, g33⟩
      show am_E _ _ _ 40 [(0, .inr (.inr (.inl (some 107))))] [] (am_mm D K33 J ρ) _
      refine am_e_ss 1 (q := (4, [(0, .inr (.inr (.inl (some 107))))], [], (am_mm D K33 J ρ))) rfl ?_
      obtain ⟨n2, hn2⟩ : ∃ n2, n = n2 + 1 := ⟨n - 1, by omega⟩
      have el : pt_lp hs F 38 (-2) n p L = (match F (p + 1) with
        | (q, none) => (q, none)
        | (q, some L2) => pt_lp hs F 38 (-2) n2 q (L ++ L2 ++ [-2])) := by
        rw [hn2]; exact if_neg (by omega)
      rw [el]
      have g0 : r_cs I0 K33 hs z a w e ((pt_bd (pt_pre L (F (p + 1))) (fun p L => (p, some (L ++ [-2]))))) := g33
      rcases hF1 : F (p + 1) with ⟨q, _ | L2⟩
      · rw [hF1] at g0
        exact (am_less (lv := [(0, .inr (.inr (.inl (some 107))))]) rfl (List.forall_mem_cons.mpr ⟨rfl, List.forall_mem_nil _⟩) (r_every_lW _ g0.2.2.2.2.2.1)).imp (fun r h => ⟨_, h, g0⟩)
      · rw [hF1] at g0
        have hq := hok _ _ _ hF1
        exact am_less (lv := [(0, .inr (.inr (.inl (some 107))))]) rfl (List.forall_mem_cons.mpr ⟨rfl, List.forall_mem_nil _⟩) (r_every_l d hF hok g0 (n := n2) hd (by omega))
termination_by n
decreasing_by all_goals omega
theorem r_every {X : Nat × (Nat → Int)} {D : List (Nat × Nat)} {J : Nat → Nat → Int} {ρ : Nat → Nat → Option Nat} {hs : Nat → Int} {z a : Nat} {w e m : Int} {F : Nat → pt_R} {k : Nat} (hF : r_FC X D J ρ hs z a w e k 141 F) (hok : pt_ok z m F) : r_FC X D J ρ hs z a w e (k + 1) 142 (pt_jn hs F 38 (-2)) := by
  intro d0 I0 I R hd0 hcs
  obtain ⟨d, rfl⟩ : ∃ d, d0 = d + 1 := ⟨d0 - 1, by omega⟩
  refine am_e_ss 1 (q := (1, [(0, .inr (.inr (.inl (some 107))))], [.inr (.inr (.inl (some 107)))], (am_mm D I J ρ))) rfl ?_
  refine am_e_virtual (Q := fun r => ∃ K34, r = (none, (am_mm D K34 J ρ)) ∧ r_cs I0 K34 hs z a w e ((pt_bd R (fun p L => pt_pre L (F p))))) rfl rfl (Nat.le_of_ble_eq_true rfl) rfl rfl (Nat.le_of_ble_eq_true rfl) (Nat.le_of_ble_eq_true rfl) (hF _ _ _ R (by omega) hcs) ?_
  rintro r ⟨K34, rfl, g34⟩
  show am_E _ _ _ 4 [(0, .inr (.inr (.inl (some 107))))] [] (am_mm D K34 J ρ) _
  obtain ⟨p, _ | L⟩ := R
  · exact (am_less (lv := [(0, .inr (.inr (.inl (some 107))))]) rfl (List.forall_mem_cons.mpr ⟨rfl, List.forall_mem_nil _⟩) (r_every_lW _ g34.2.2.2.2.2.1)).imp (fun r h => ⟨_, h, g34⟩)
  · have g0 : r_cs I0 K34 hs z a w e ((pt_pre L (F p))) := g34
    show am_E _ _ _ _ _ _ _ (fun r => ∃ K, r = (none, am_mm D K J ρ) ∧ r_cs I0 K hs z a w e ((pt_pre L (pt_jn hs F 38 (-2) p))))
    unfold pt_jn
    rcases hF1 : F p with ⟨q, _ | L2⟩
    · rw [hF1] at g0
      exact (am_less (lv := [(0, .inr (.inr (.inl (some 107))))]) rfl (List.forall_mem_cons.mpr ⟨rfl, List.forall_mem_nil _⟩) (r_every_lW _ g0.2.2.2.2.2.1)).imp (fun r h => ⟨_, h, g0⟩)
    · rw [hF1] at g0
      have hq := hok _ _ _ hF1
      have tz := g0.2.1.2.2.1
      have ee := r_every_l d hF hok (show r_cs I0 K34 hs z a w e ((q, some (L ++ L2))) from g0) (n := 101) (by omega) (by omega)
      rw [pt_lp_pre] at ee
      exact am_less (lv := [(0, .inr (.inr (.inl (some 107))))]) rfl (List.forall_mem_cons.mpr ⟨rfl, List.forall_mem_nil _⟩) ee
theorem r_some_l {X : Nat × (Nat → Int)} {D : List (Nat × Nat)} {I J : Nat → Nat → Int} {ρ : Nat → Nat → Option Nat} (d : Nat) {I0 : Nat → Nat → Int} {hs : Nat → Int} {z a : Nat} {w e m : Int} {F : Nat → pt_R} {n : Nat} {p k : Nat} {L : List Int} (hF : r_FC X D J ρ hs z a w e k 142 F) (hok : pt_ok z m F) (hcs : r_cs I0 I hs z a w e (p, some L)) (hd : k ≤ d) (hn : z - p < n) : am_E X (d + 1) 143 4 [(0, .inr (.inr (.inl (some 107))))] [] (am_mm D I J ρ) (fun r => ∃ K, r = (none, am_mm D K J ρ) ∧ r_cs I0 K hs z a w e ((pt_lp hs F 124 (-3) n p L))) := by
  have h8 : I 107 8 = 0 := hcs.2.2.2.2.2.1
  have t6 : I 107 6 = (p : Int) := hcs.2.1.1
  have tb := hcs.2.1.2.2.2.2.2.2
  have tbp := tb p
  have tz := hcs.2.1.2.2.1
  have tpz : p ≤ z := hcs.2.1.2.2.2.1
  have ed : I 107 9 = e := hcs.2.2.2.2.1
  have hll : L.length ≤ p := hcs.2.2.2.2.2.2.2
  refine am_e_ss 2 (q := (8, [(0, .inr (.inr (.inl (some 107))))], [.inl ((I 107 8))], (am_mm D I J ρ))) rfl ?_
  refine am_e_if2 rfl ⟨by omega, by omega⟩ (fun (hw1 : ¬ (I 107 8) = 0) => ?_) (fun (hw1 : ¬ (¬ (I 107 8) = 0)) => ?_)
  · show am_E _ _ _ 43 [(0, .inr (.inr (.inl (some 107))))] [] (am_mm D I J ρ) _
    refine am_e_return rfl rfl ?_
    exfalso
    omega
  · show am_E _ _ _ 11 [(0, .inr (.inr (.inl (some 107))))] [] (am_mm D I J ρ) _
    refine am_e_ss 1 (q := (12, [(0, .inr (.inr (.inl (some 107))))], [.inr (.inr (.inl (some 107)))], (am_mm D I J ρ))) rfl ?_
    refine am_e_virtual (Q := fun r => r = (some (.inl ((hs p))), (am_mm D I J ρ))) rfl rfl (Nat.le_of_ble_eq_true rfl) rfl rfl (Nat.le_of_ble_eq_true rfl) (Nat.le_of_ble_eq_true rfl) (r_hereC _ hcs) ?_
    rintro r rfl
    show am_E _ _ _ 15 [(0, .inr (.inr (.inl (some 107))))] [.inl ((hs p))] (am_mm D I J ρ) _
    refine am_e_ss 1 (q := (17, [(0, .inr (.inr (.inl (some 107))))], [.inl 124, .inl ((hs p))], (am_mm D I J ρ))) rfl ?_
    refine am_e_icmp2 rfl ⟨by omega, by omega⟩ ⟨by omega, by omega⟩ (fun (hw2 : ¬ (hs p) = 124) => ?_) (fun (hw2 : ¬ (¬ (hs p) = 124)) => ?_)
    · show am_E _ _ _ 43 [(0, .inr (.inr (.inl (some 107))))] [] (am_mm D I J ρ) _
      refine am_e_return rfl rfl ?_
      obtain ⟨n2, rfl⟩ : ∃ n2, n = n2 + 1 := ⟨n - 1, by omega⟩
      rw [show pt_lp hs F 124 (-3) (n2 + 1) p L = (p, some L) from if_pos (by omega)]
      exact ⟨_, rfl, hcs⟩
    · show am_E _ _ _ 20 [(0, .inr (.inr (.inl (some 107))))] [] (am_mm D I J ρ) _
      refine am_e_ss 6 (q := (30, [(0, .inr (.inr (.inl (some 107))))], [], (am_mm D (am_up I 107 6 ((I 107 6) + 1)) J ρ))) rfl ?_
      have u35 : I 107 6 = ((p : Nat) : Int) := hcs.2.1.1
      rw [u35]
      have g35 := r_cs_6 hcs (r_cs_lt hcs (show 0 ≤ hs (p) by omega))
      have gb35 := tb (p + 1)
      generalize am_up I 107 6 (((p : Nat) : Int) + 1) = K35 at g35 ⊢
      have k835 : K35 107 8 = 0 := g35.2.2.2.2.2.1
      show am_E _ _ _ 30 [(0, .inr (.inr (.inl (some 107))))] [] (am_mm D K35 J ρ) _
      refine am_e_ss 1 (q := (31, [(0, .inr (.inr (.inl (some 107))))], [.inr (.inr (.inl (some 107)))], (am_mm D K35 J ρ))) rfl ?_
      refine am_e_virtual (Q := fun r => ∃ K36, r = (none, (am_mm D K36 J ρ)) ∧ r_cs I0 K36 hs z a w e ((pt_bd ((p + 1, some L)) (fun p L => pt_pre L (F p))))) rfl rfl (Nat.le_of_ble_eq_true rfl) rfl rfl (Nat.le_of_ble_eq_true rfl) (Nat.le_of_ble_eq_true rfl) (hF _ _ _ ((p + 1, some L)) (by omega) g35) ?_
      rintro r ⟨K36, rfl, g36⟩
      show am_E _ _ _ 34 [(0, .inr (.inr (.inl (some 107))))] [] (am_mm D K36 J ρ) _
      refine am_e_ss 2 (q := (37, [(0, .inr (.inr (.inl (some 107))))], [.inl (-3), .inr (.inr (.inl (some 107)))], (am_mm D K36 J ρ))) rfl ?_
      refine am_e_virtual (Q := fun r => ∃ K37, r = (none, (am_mm D K37 J ρ)) ∧ r_cs I0 K37 hs z a w e ((pt_bd ((pt_bd ((p + 1, some L)) (fun p L => pt_pre L (F p)))) (fun p9 L9 => (p9, some (L9 ++ [(-3)])))))) rfl rfl (Nat.le_of_ble_eq_true rfl) rfl rfl (Nat.le_of_ble_eq_true rfl) (Nat.le_of_ble_eq_true rfl) (r_emitsC _ g36 (s := (-3)) (pt_pre_lt hok (by omega))) ?_
      rintro r ⟨K37, rfl, g37⟩
      show am_E _ _ _ 40 [(0, .inr (.inr (.inl (some 107))))] [] (am_mm D K37 J ρ) _
      refine am_e_ss 1 (q := (4, [(0, .inr (.inr (.inl (some 107))))], [], (am_mm D K37 J ρ))) rfl ?_
      obtain ⟨n2, hn2⟩ : ∃ n2, n = n2 + 1 := ⟨n - 1, by omega⟩
      have el : pt_lp hs F 124 (-3) n p L = (match F (p + 1) with
        | (q, none) => (q, none)
        | (q, some L2) => pt_lp hs F 124 (-3) n2 q (L ++ L2 ++ [-3])) := by
        rw [hn2]; exact if_neg (by omega)
      rw [el]
      have g0 : r_cs I0 K37 hs z a w e ((pt_bd (pt_pre L (F (p + 1))) (fun p L => (p, some (L ++ [-3]))))) := g37
      rcases hF1 : F (p + 1) with ⟨q, _ | L2⟩
      · rw [hF1] at g0
        exact (am_less (lv := [(0, .inr (.inr (.inl (some 107))))]) rfl (List.forall_mem_cons.mpr ⟨rfl, List.forall_mem_nil _⟩) (r_some_lW _ g0.2.2.2.2.2.1)).imp (fun r h => ⟨_, h, g0⟩)
      · rw [hF1] at g0
        have hq := hok _ _ _ hF1
        exact am_less (lv := [(0, .inr (.inr (.inl (some 107))))]) rfl (List.forall_mem_cons.mpr ⟨rfl, List.forall_mem_nil _⟩) (r_some_l d hF hok g0 (n := n2) hd (by omega))
termination_by n
decreasing_by all_goals omega
theorem r_some {X : Nat × (Nat → Int)} {D : List (Nat × Nat)} {J : Nat → Nat → Int} {ρ : Nat → Nat → Option Nat} {hs : Nat → Int} {z a : Nat} {w e m : Int} {F : Nat → pt_R} {k : Nat} (hF : r_FC X D J ρ hs z a w e k 142 F) (hok : pt_ok z m F) : r_FC X D J ρ hs z a w e (k + 1) 143 (pt_jn hs F 124 (-3)) := by
  intro d0 I0 I R hd0 hcs
  obtain ⟨d, rfl⟩ : ∃ d, d0 = d + 1 := ⟨d0 - 1, by omega⟩
  refine am_e_ss 1 (q := (1, [(0, .inr (.inr (.inl (some 107))))], [.inr (.inr (.inl (some 107)))], (am_mm D I J ρ))) rfl ?_
  refine am_e_virtual (Q := fun r => ∃ K38, r = (none, (am_mm D K38 J ρ)) ∧ r_cs I0 K38 hs z a w e ((pt_bd R (fun p L => pt_pre L (F p))))) rfl rfl (Nat.le_of_ble_eq_true rfl) rfl rfl (Nat.le_of_ble_eq_true rfl) (Nat.le_of_ble_eq_true rfl) (hF _ _ _ R (by omega) hcs) ?_
  rintro r ⟨K38, rfl, g38⟩
  show am_E _ _ _ 4 [(0, .inr (.inr (.inl (some 107))))] [] (am_mm D K38 J ρ) _
  obtain ⟨p, _ | L⟩ := R
  · exact (am_less (lv := [(0, .inr (.inr (.inl (some 107))))]) rfl (List.forall_mem_cons.mpr ⟨rfl, List.forall_mem_nil _⟩) (r_some_lW _ g38.2.2.2.2.2.1)).imp (fun r h => ⟨_, h, g38⟩)
  · have g0 : r_cs I0 K38 hs z a w e ((pt_pre L (F p))) := g38
    show am_E _ _ _ _ _ _ _ (fun r => ∃ K, r = (none, am_mm D K J ρ) ∧ r_cs I0 K hs z a w e ((pt_pre L (pt_jn hs F 124 (-3) p))))
    unfold pt_jn
    rcases hF1 : F p with ⟨q, _ | L2⟩
    · rw [hF1] at g0
      exact (am_less (lv := [(0, .inr (.inr (.inl (some 107))))]) rfl (List.forall_mem_cons.mpr ⟨rfl, List.forall_mem_nil _⟩) (r_some_lW _ g0.2.2.2.2.2.1)).imp (fun r h => ⟨_, h, g0⟩)
    · rw [hF1] at g0
      have hq := hok _ _ _ hF1
      have tz := g0.2.1.2.2.1
      have ee := r_some_l d hF hok (show r_cs I0 K38 hs z a w e ((q, some (L ++ L2))) from g0) (n := 101) (by omega) (by omega)
      rw [pt_lp_pre] at ee
      exact am_less (lv := [(0, .inr (.inr (.inl (some 107))))]) rfl (List.forall_mem_cons.mpr ⟨rfl, List.forall_mem_nil _⟩) ee
