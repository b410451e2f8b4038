/-! THE CLASS: a clause -/
theorem pt_word_b {h : Nat → Int} (p : Nat) : -1 ≤ (pt_word h p).2.getD (-1) ∧ (pt_word h p).2.getD (-1) ≤ 3 ∧ (0 ≤ (pt_word h p).2.getD (-1) → ∃ q v, pt_word h p = (q, some v) ∧ (pt_word h p).2.getD (-1) = v) ∧ ((pt_word h p).2.getD (-1) < 0 → ∃ q, pt_word h p = (q, none)) := by
  rcases hN : pt_word h p with ⟨q, _ | v⟩
  · show -1 ≤ (-1 : Int) ∧ (-1 : Int) ≤ 3 ∧ (0 ≤ (-1 : Int) → _) ∧ ((-1 : Int) < 0 → _)
    exact ⟨by omega, by omega, fun e => by omega, fun _ => ⟨q, rfl⟩⟩
  · have hv := (pt_word_ok hN).2
    show -1 ≤ v ∧ v ≤ 3 ∧ (0 ≤ v → _) ∧ (v < 0 → _)
    exact ⟨by omega, by omega, fun _ => ⟨q, v, rfl, rfl⟩, fun e => by omega⟩
theorem k_word {X : Nat × (Nat → Int)} {D : List (Nat × Nat)} {I J : Nat → Nat → Int} {ρ : Nat → Nat → Option Nat} (d : Nat) {I0 : Nat → Nat → Int} {hs : Nat → Int} {z c p : Nat} {L : List Int} (hsh : k_sh D ρ c) (hcs : k_cs I0 I hs z c (p, some L))  : am_E X (d + 5) 11 0 [(0, .inr (.inr (.inl (some c))))] [] (am_mm D I J ρ) (fun r => ∃ K, r = (some (.inl ((pt_word hs p).2.getD (-1))), am_mm D K J ρ) ∧ k_cs I0 K hs z c (((pt_word hs p).1, some L))) := by
  have hclk0 := hsh.1
  have hr8 := hsh.2
  have hclk := hclk0
  obtain ⟨⟨hsc, hs1, hs2, hs3, hs4⟩, hr1, hr2, hr3, hr4⟩ := hclk
  have p1 : I c 1 = (p : Int) := hcs.2.1.1
  have s9 : I c 9 = (z : Int) := hcs.2.1.2.1
  have tz := hcs.2.1.2.2.1
  have tpz : p ≤ z := hcs.2.1.2.2.2.1
  have th := hcs.2.1.2.2.2.2.1
  have te := hcs.2.1.2.2.2.2.2.1
  have tb := hcs.2.1.2.2.2.2.2.2
  have tbp := tb p
  have hc18 := hcs.2.2.1
  have n3 : I c 3 = (L.length : Int) := hcs.2.2.2.1
  have hll : L.length ≤ p := hcs.2.2.2.2.2
  refine am_e_ss 1 (q := (1, [(0, .inr (.inr (.inl (some c))))], [.inr (.inr (.inl (some c)))], (am_mm D I J ρ))) rfl ?_
  refine am_e_virtual (Q := fun r => r = (some (.inl ((hs p))), (am_mm D I J ρ))) rfl rfl (Nat.le_of_ble_eq_true rfl) (am_kd_of hsc (by decide)) rfl (Nat.le_of_ble_eq_true rfl) (Nat.le_of_ble_eq_true rfl) (k_peek _ hsh hcs) ?_
  rintro r rfl
  show am_E _ _ _ 4 [(0, .inr (.inr (.inl (some c))))] [.inl ((hs p))] (am_mm D I J ρ) _
  rcases (show ((hs p) = 99) ∨ ((hs p) = 108) ∨ ((hs p) = 114) ∨ (¬ (hs p) = 99 ∧ ¬ (hs p) = 108 ∧ ¬ (hs p) = 114) by omega) with hw1 | hw1 | hw1 | hw1
  · refine am_e_look (t := 55) (off := 51) rfl ⟨by omega, by omega⟩ (by rw [hw1]; rfl) rfl ?_
    refine am_e_ss 2 (q := (58, [(0, .inr (.inr (.inl (some c))))], [.inr (.inr (.inr 3)), .inr (.inr (.inl (some c)))], (am_mm D I J ρ))) rfl ?_
    refine am_e_virtual (Q := fun r => ∃ K139, r = (some (.inl ((am_bi ((pt_w hs [99, 111, 109, 101] p).2 = true)))), (am_mm D K139 J ρ)) ∧ k_cs I0 K139 hs z c (((pt_w hs [99, 111, 109, 101] p).1, some L))) rfl rfl (Nat.le_of_ble_eq_true rfl) (am_kd_of hsc (by decide)) rfl (Nat.le_of_ble_eq_true rfl) (Nat.le_of_ble_eq_true rfl) (k_all1 _ hsh hcs) ?_
    rintro r ⟨K139, rfl, g139⟩
    show am_E _ _ _ 61 [(0, .inr (.inr (.inl (some c))))] [.inl ((am_bi ((pt_w hs [99, 111, 109, 101] p).2 = true)))] (am_mm D K139 J ρ) _
    refine am_e_ifeq rfl (fun hw2 => ?_) (fun hw2 => ?_)
    · show am_E _ _ _ 68 [(0, .inr (.inr (.inl (some c))))] [] (am_mm D K139 J ρ) _
      refine am_e_ss 1 (q := (69, [(0, .inr (.inr (.inl (some c))))], [.inl (-1)], (am_mm D K139 J ρ))) rfl ?_
      refine am_e_ireturn rfl rfl ?_
      have ew : pt_word hs p = pt_wv 3 (pt_w hs [99, 111, 109, 101] p) := by
        unfold pt_word
        rw [if_neg (by omega), if_pos (by omega)]
      rw [ew]
      unfold pt_wv
      rw [if_neg hw2]
      exact ⟨_, rfl, g139⟩
    · show am_E _ _ _ 64 [(0, .inr (.inr (.inl (some c))))] [] (am_mm D K139 J ρ) _
      refine am_e_ss 2 (q := (69, [(0, .inr (.inr (.inl (some c))))], [.inl 3], (am_mm D K139 J ρ))) rfl ?_
      refine am_e_ireturn rfl rfl ?_
      have ew : pt_word hs p = pt_wv 3 (pt_w hs [99, 111, 109, 101] p) := by
        unfold pt_word
        rw [if_neg (by omega), if_pos (by omega)]
      rw [ew]
      unfold pt_wv
      rw [if_pos hw2]
      exact ⟨_, rfl, g139⟩
  · refine am_e_look (t := 70) (off := 66) rfl ⟨by omega, by omega⟩ (by rw [hw1]; rfl) rfl ?_
    refine am_e_ss 2 (q := (72, [(0, .inr (.inr (.inl (some c))))], [.inr (.inr (.inl (some c))), .inr (.inr (.inl (some c)))], (am_mm D I J ρ))) rfl ?_
    refine am_e_getfield (c := 1) (m := 10) (f := 1) rfl hsc rfl (by decide) (by decide) ?_
    show am_E _ _ _ 75 [(0, .inr (.inr (.inl (some c))))] [.inl ((I c 1)), .inr (.inr (.inl (some c)))] (am_mm D I J ρ) _
    refine am_e_ss 2 (q := (77, [(0, .inr (.inr (.inl (some c))))], [.inl ((I c 1) + 1), .inr (.inr (.inl (some c)))], (am_mm D I J ρ))) rfl ?_
    refine am_e_putfield (c := 1) (m := 10) (f := 1) (M' := (am_mm D (am_up I c 1 ((I c 1) + 1)) J ρ)) rfl hsc rfl (by decide) (by decide) rfl ?_
    show am_E _ _ _ 80 [(0, .inr (.inr (.inl (some c))))] [] (am_mm D (am_up I c 1 ((I c 1) + 1)) J ρ) _
    have u140 : I c 1 = ((p : Nat) : Int) := hcs.2.1.1
    rw [u140]
    have g140 := k_cs_1 hcs (k_cs_lt hcs (show 0 ≤ hs (p) by omega))
    have gb140 := tb (p + 1)
    generalize am_up I c 1 (((p : Nat) : Int) + 1) = K140 at g140 ⊢
    show am_E _ _ _ 80 [(0, .inr (.inr (.inl (some c))))] [] (am_mm D K140 J ρ) _
    refine am_e_ss 1 (q := (81, [(0, .inr (.inr (.inl (some c))))], [.inr (.inr (.inl (some c)))], (am_mm D K140 J ρ))) rfl ?_
    refine am_e_virtual (Q := fun r => r = (some (.inl ((hs (p + 1)))), (am_mm D K140 J ρ))) rfl rfl (Nat.le_of_ble_eq_true rfl) (am_kd_of hsc (by decide)) rfl (Nat.le_of_ble_eq_true rfl) (Nat.le_of_ble_eq_true rfl) (k_peek _ hsh g140) ?_
    rintro r rfl
    show am_E _ _ _ 84 [(0, .inr (.inr (.inl (some c))))] [.inl ((hs (p + 1)))] (am_mm D K140 J ρ) _
    refine am_e_ss 1 (q := (86, [(0, .inr (.inr (.inl (some c))))], [.inl 105, .inl ((hs (p + 1)))], (am_mm D K140 J ρ))) rfl ?_
    refine am_e_icmp2 rfl ⟨by omega, by omega⟩ ⟨by omega, by omega⟩ (fun (hw3 : ¬ (hs (p + 1)) = 105) => ?_) (fun (hw3 : ¬ (¬ (hs (p + 1)) = 105)) => ?_)
    · show am_E _ _ _ 104 [(0, .inr (.inr (.inl (some c))))] [] (am_mm D K140 J ρ) _
      refine am_e_ss 2 (q := (107, [(0, .inr (.inr (.inl (some c))))], [.inr (.inr (.inr 7)), .inr (.inr (.inl (some c)))], (am_mm D K140 J ρ))) rfl ?_
      refine am_e_virtual (Q := fun r => ∃ K141, r = (some (.inl ((am_bi ((pt_w hs [111, 97, 116, 104] (p + 1)).2 = true)))), (am_mm D K141 J ρ)) ∧ k_cs I0 K141 hs z c (((pt_w hs [111, 97, 116, 104] (p + 1)).1, some L))) rfl rfl (Nat.le_of_ble_eq_true rfl) (am_kd_of hsc (by decide)) rfl (Nat.le_of_ble_eq_true rfl) (Nat.le_of_ble_eq_true rfl) (k_all3 _ hsh g140) ?_
      rintro r ⟨K141, rfl, g141⟩
      show am_E _ _ _ 110 [(0, .inr (.inr (.inl (some c))))] [.inl ((am_bi ((pt_w hs [111, 97, 116, 104] (p + 1)).2 = true)))] (am_mm D K141 J ρ) _
      refine am_e_ifeq rfl (fun hw4 => ?_) (fun hw4 => ?_)
      · show am_E _ _ _ 117 [(0, .inr (.inr (.inl (some c))))] [] (am_mm D K141 J ρ) _
        refine am_e_ss 1 (q := (118, [(0, .inr (.inr (.inl (some c))))], [.inl (-1)], (am_mm D K141 J ρ))) rfl ?_
        refine am_e_ireturn rfl rfl ?_
        have ew : pt_word hs p = pt_wv 1 (pt_w hs [111, 97, 116, 104] (p + 1)) := by
          unfold pt_word
          rw [if_neg (by omega), if_neg (by omega), if_pos (by omega), if_neg (by omega)]
        rw [ew]
        unfold pt_wv
        rw [if_neg hw4]
        exact ⟨_, rfl, g141⟩
      · show am_E _ _ _ 113 [(0, .inr (.inr (.inl (some c))))] [] (am_mm D K141 J ρ) _
        refine am_e_ss 2 (q := (118, [(0, .inr (.inr (.inl (some c))))], [.inl 1], (am_mm D K141 J ρ))) rfl ?_
        refine am_e_ireturn rfl rfl ?_
        have ew : pt_word hs p = pt_wv 1 (pt_w hs [111, 97, 116, 104] (p + 1)) := by
          unfold pt_word
          rw [if_neg (by omega), if_neg (by omega), if_pos (by omega), if_neg (by omega)]
        rw [ew]
        unfold pt_wv
        rw [if_pos hw4]
        exact ⟨_, rfl, g141⟩
    · show am_E _ _ _ 89 [(0, .inr (.inr (.inl (some c))))] [] (am_mm D K140 J ρ) _
      refine am_e_ss 2 (q := (92, [(0, .inr (.inr (.inl (some c))))], [.inr (.inr (.inr 5)), .inr (.inr (.inl (some c)))], (am_mm D K140 J ρ))) rfl ?_
      refine am_e_virtual (Q := fun r => ∃ K142, r = (some (.inl ((am_bi ((pt_w hs [105, 107, 101] (p + 1)).2 = true)))), (am_mm D K142 J ρ)) ∧ k_cs I0 K142 hs z c (((pt_w hs [105, 107, 101] (p + 1)).1, some L))) rfl rfl (Nat.le_of_ble_eq_true rfl) (am_kd_of hsc (by decide)) rfl (Nat.le_of_ble_eq_true rfl) (Nat.le_of_ble_eq_true rfl) (k_all2 _ hsh g140) ?_
      rintro r ⟨K142, rfl, g142⟩
      show am_E _ _ _ 95 [(0, .inr (.inr (.inl (some c))))] [.inl ((am_bi ((pt_w hs [105, 107, 101] (p + 1)).2 = true)))] (am_mm D K142 J ρ) _
      refine am_e_ifeq rfl (fun hw5 => ?_) (fun hw5 => ?_)
      · show am_E _ _ _ 102 [(0, .inr (.inr (.inl (some c))))] [] (am_mm D K142 J ρ) _
        refine am_e_ss 1 (q := (103, [(0, .inr (.inr (.inl (some c))))], [.inl (-1)], (am_mm D K142 J ρ))) rfl ?_
        refine am_e_ireturn rfl rfl ?_
        have ew : pt_word hs p = pt_wv 0 (pt_w hs [105, 107, 101] (p + 1)) := by
          unfold pt_word
          rw [if_neg (by omega), if_neg (by omega), if_pos (by omega), if_pos (by omega)]
        rw [ew]
        unfold pt_wv
        rw [if_neg hw5]
        exact ⟨_, rfl, g142⟩
      · show am_E _ _ _ 98 [(0, .inr (.inr (.inl (some c))))] [] (am_mm D K142 J ρ) _
        refine am_e_ss 2 (q := (103, [(0, .inr (.inr (.inl (some c))))], [.inl 0], (am_mm D K142 J ρ))) rfl ?_
        refine am_e_ireturn rfl rfl ?_
        have ew : pt_word hs p = pt_wv 0 (pt_w hs [105, 107, 101] (p + 1)) := by
          unfold pt_word
          rw [if_neg (by omega), if_neg (by omega), if_pos (by omega), if_pos (by omega)]
        rw [ew]
        unfold pt_wv
        rw [if_pos hw5]
        exact ⟨_, rfl, g142⟩
  · refine am_e_look (t := 40) (off := 36) rfl ⟨by omega, by omega⟩ (by rw [hw1]; rfl) rfl ?_
    refine am_e_ss 2 (q := (43, [(0, .inr (.inr (.inl (some c))))], [.inr (.inr (.inr 1)), .inr (.inr (.inl (some c)))], (am_mm D I J ρ))) rfl ?_
    refine am_e_virtual (Q := fun r => ∃ K143, r = (some (.inl ((am_bi ((pt_w hs [114, 101, 97, 100] p).2 = true)))), (am_mm D K143 J ρ)) ∧ k_cs I0 K143 hs z c (((pt_w hs [114, 101, 97, 100] p).1, some L))) rfl rfl (Nat.le_of_ble_eq_true rfl) (am_kd_of hsc (by decide)) rfl (Nat.le_of_ble_eq_true rfl) (Nat.le_of_ble_eq_true rfl) (k_all0 _ hsh hcs) ?_
    rintro r ⟨K143, rfl, g143⟩
    show am_E _ _ _ 46 [(0, .inr (.inr (.inl (some c))))] [.inl ((am_bi ((pt_w hs [114, 101, 97, 100] p).2 = true)))] (am_mm D K143 J ρ) _
    refine am_e_ifeq rfl (fun hw6 => ?_) (fun hw6 => ?_)
    · show am_E _ _ _ 53 [(0, .inr (.inr (.inl (some c))))] [] (am_mm D K143 J ρ) _
      refine am_e_ss 1 (q := (54, [(0, .inr (.inr (.inl (some c))))], [.inl (-1)], (am_mm D K143 J ρ))) rfl ?_
      refine am_e_ireturn rfl rfl ?_
      have ew : pt_word hs p = pt_wv 2 (pt_w hs [114, 101, 97, 100] p) := by
        unfold pt_word
        rw [if_pos (by omega)]
      rw [ew]
      unfold pt_wv
      rw [if_neg hw6]
      exact ⟨_, rfl, g143⟩
    · show am_E _ _ _ 49 [(0, .inr (.inr (.inl (some c))))] [] (am_mm D K143 J ρ) _
      refine am_e_ss 2 (q := (54, [(0, .inr (.inr (.inl (some c))))], [.inl 2], (am_mm D K143 J ρ))) rfl ?_
      refine am_e_ireturn rfl rfl ?_
      have ew : pt_word hs p = pt_wv 2 (pt_w hs [114, 101, 97, 100] p) := by
        unfold pt_word
        rw [if_pos (by omega)]
      rw [ew]
      unfold pt_wv
      rw [if_pos hw6]
      exact ⟨_, rfl, g143⟩
  · refine am_e_look (t := 119) (off := 115) rfl ⟨by omega, by omega⟩ (by simp only [Op.lookupswitch.offset]; first | (simp; omega) | ((repeat' split) <;> omega)) rfl ?_
    refine am_e_ss 1 (q := (120, [(0, .inr (.inr (.inl (some c))))], [.inl (-1)], (am_mm D I J ρ))) rfl ?_
    refine am_e_ireturn rfl rfl ?_
    have ew : pt_word hs p = (p, none) := by
      unfold pt_word
      rw [if_neg (by omega), if_neg (by omega), if_neg (by omega)]
    rw [ew]
    exact ⟨_, rfl, hcs⟩
def k_p2 (c k : Nat) : Prop := k < c ∨ c + 5 ≤ k
def k_row (I : Nat → Nat → Int) (c : Nat) (cs : List ps_C) : Prop := ∀ i, i < cs.length → I (c + 1) i = (cs.getD i (0, 0, [])).1 ∧ I (c + 2) i = (cs.getD i (0, 0, [])).2.1 ∧ I (c + 3) i = ((ps_codes (cs.take (i + 1))).length : Int)
/-- the clauses cs are read, up to p -/
def k_ct (I0 I : Nat → Nat → Int) (hs : Nat → Int) (z c : Nat) (cs : List ps_C) (p : Nat) : Prop := (∀ k j, k_p2 c k → I k j = I0 k j) ∧ k_tx I hs z c p ∧ 18 ≤ c ∧ I c 0 = pt_cm cs ∧ k_row I c cs ∧ k_cs2 I c p (some (ps_codes cs))
def k_cR (I0 K : Nat → Nat → Int) (hs : Nat → Int) (z c : Nat) (cs : List ps_C) : Nat × Option ps_C → Prop
  | (q, none) => (∀ k j, k_p2 c k → K k j = I0 k j) ∧ K c 1 = (q : Int)
  | (q, some x) => k_ct I0 K hs z c (cs ++ [x]) q
section
variable {I0 I K M : Nat → Nat → Int} {hs : Nat → Int} {z c p q : Nat} {cs : List ps_C} {L : List Int} {R : pt_R}
theorem k_ct_cs (h : k_ct I0 I hs z c cs p) : k_cs I I hs z c (p, some (ps_codes cs)) := ⟨fun _ _ _ => rfl, h.2.1, h.2.2.1, h.2.2.2.2.2⟩
theorem k_ct_no (h : k_ct I0 I hs z c cs p) (g : k_cs I K hs z c (q, R.2)) : k_cR I0 K hs z c cs (q, none) := by
  refine ⟨fun k j hk => ?_, g.2.1.1⟩
  have h0 := h.1 k j hk
  unfold k_p2 at hk
  exact (g.1 k j ⟨by omega, by omega⟩).trans h0
theorem k_ct_go (h : k_ct I0 I hs z c cs p) (g : k_cs I K hs z c (q, some (ps_codes cs))) : k_ct I0 K hs z c cs q := by
  obtain ⟨h1, h2, h3, h4, h5, h6⟩ := h
  have gc : ∀ k j, k ≠ c → k ≠ c + 4 → K k j = I k j := fun k j a b => g.1 k j ⟨b, fun e => absurd e a⟩
  refine ⟨fun k j hk => ?_, g.2.1, h3, (g.1 c 0 ⟨by omega, fun _ => by omega⟩).trans h4, fun i hi => ?_, g.2.2.2⟩
  · have h0 := h1 k j hk
    unfold k_p2 at hk
    exact (gc k j (by omega) (by omega)).trans h0
  · have := h5 i hi
    exact ⟨(gc _ _ (by omega) (by omega)).trans this.1, (gc _ _ (by omega) (by omega)).trans this.2.1, (gc _ _ (by omega) (by omega)).trans this.2.2⟩
theorem k_ct_2 {v : Int} (h : k_ct I0 I hs z c cs p) : k_ct I0 (am_up I c 2 v) hs z c cs p := by
  obtain ⟨h1, ⟨t6, t7, tz, tp, th, te, tb⟩, h3, h4, h5, h6, h7, h8⟩ := h
  refine ⟨fun k j hk => ?_, ⟨(am_up_ne2 (Or.inr (by decide))).trans t6, (am_up_ne2 (Or.inr (by decide))).trans t7, tz, tp, fun i hi => (am_up_ne2 (by omega)).trans (th i hi), te, tb⟩, h3, (am_up_ne2 (Or.inr (by decide))).trans h4, fun i hi => ?_, (am_up_ne2 (Or.inr (by decide))).trans h6, fun i hi => (am_up_ne2 (by omega)).trans (h7 i hi), h8⟩
  · have h0 := h1 k j hk
    unfold k_p2 at hk
    rw [am_up_ne2 (by omega)]; exact h0
  · have := h5 i hi
    rw [am_up_ne2 (by omega), am_up_ne2 (by omega), am_up_ne2 (by omega)]
    exact this
theorem ps_codes_snoc {x : ps_C} : ps_codes (cs ++ [x]) = ps_codes cs ++ x.2.2 := by
  unfold ps_codes
  rw [List.flatMap_append, List.flatMap_cons, List.flatMap_nil, List.append_nil]
theorem k_ct_fin {x : ps_C} {i : Nat} (h : k_ct I0 I hs z c cs p) (g : k_cs I K hs z c (q, some (ps_codes cs ++ x.2.2))) (hi : i = cs.length) (hM : ∀ k j, (k = c → j ≠ 0) → M k j = K k j) (h0 : M c 0 = pt_cm (cs ++ [x])) : k_ct I0 (am_up (am_up (am_up M (c + 1) i x.1) (c + 2) i x.2.1) (c + 3) i ((ps_codes cs ++ x.2.2).length : Int)) hs z c (cs ++ [x]) q := by
  obtain ⟨h1, h2, h3, h4, h5, h6⟩ := h
  obtain ⟨g1, ⟨t6, t7, tz, tp, th, te, tb⟩, g3, g4, g5, g6⟩ := g
  have gc : ∀ k j, k ≠ c → k ≠ c + 4 → K k j = I k j := fun k j a b => g1 k j ⟨b, fun e => absurd e a⟩
  have e : ∀ k j, k ≠ c + 1 → k ≠ c + 2 → k ≠ c + 3 → (k = c → j ≠ 0) → am_up (am_up (am_up M (c + 1) i x.1) (c + 2) i x.2.1) (c + 3) i ((ps_codes cs ++ x.2.2).length : Int) k j = K k j := by
    intro k j a1 a2 a3 a4
    rw [am_up_ne2 (Or.inl a3), am_up_ne2 (Or.inl a2), am_up_ne2 (Or.inl a1)]
    exact hM k j a4
  have ej : ∀ k j, (k = c + 1 ∨ k = c + 2 ∨ k = c + 3) → j ≠ i → am_up (am_up (am_up M (c + 1) i x.1) (c + 2) i x.2.1) (c + 3) i ((ps_codes cs ++ x.2.2).length : Int) k j = I k j := by
    intro k j a1 a2
    rw [am_up_ne2 (Or.inr a2), am_up_ne2 (Or.inr a2), am_up_ne2 (Or.inr a2)]
    exact (hM k j (by omega)).trans (gc k j (by omega) (by omega))
  refine ⟨fun k j hk => ?_, ⟨(e c 1 (by omega) (by omega) (by omega) (by omega)).trans t6, (e c 9 (by omega) (by omega) (by omega) (by omega)).trans t7, tz, tp, fun i hi => (e 17 i (by omega) (by omega) (by omega) (by omega)).trans (th i hi), te, tb⟩, h3, ?_, fun j hj => ?_, ?_⟩
  · have h0 := h1 k j hk
    unfold k_p2 at hk
    exact (e k j (by omega) (by omega) (by omega) (by omega)).trans ((gc k j (by omega) (by omega)).trans h0)
  · rw [am_up_ne2 (by omega), am_up_ne2 (by omega), am_up_ne2 (by omega)]; exact h0
  · rw [List.length_append, List.length_singleton] at hj
    by_cases ei : j = i
    · subst ei
      have ex : (cs ++ [x]).getD j (0, 0, []) = x := by
        rw [List.getD_eq_getElem?_getD, List.getElem?_append_right (by omega), show j - cs.length = 0 by omega]; rfl
      rw [ex, List.take_of_length_le (by rw [List.length_append, List.length_singleton]; omega), ps_codes_snoc]
      refine ⟨?_, ?_, am_up_at2⟩
      · rw [am_up_ne2 (by omega), am_up_ne2 (by omega), am_up_at2]
      · rw [am_up_ne2 (by omega), am_up_at2]
    · have hjl : j < cs.length := by omega
      have ex : (cs ++ [x]).getD j (0, 0, []) = cs.getD j (0, 0, []) := by
        rw [List.getD_eq_getElem?_getD, List.getD_eq_getElem?_getD, List.getElem?_append_left hjl]
      have et : (cs ++ [x]).take (j + 1) = cs.take (j + 1) := List.take_append_of_le_length (by omega)
      rw [ex, et]
      have := h5 j hjl
      exact ⟨(ej _ j (by omega) ei).trans this.1, (ej _ j (by omega) ei).trans this.2.1, (ej _ j (by omega) ei).trans this.2.2⟩
  · rw [ps_codes_snoc]
    exact ⟨(e c 3 (by omega) (by omega) (by omega) (by omega)).trans g4, fun j hj => (e (c + 4) j (by omega) (by omega) (by omega) (by omega)).trans (g5 j hj), g6⟩
end
theorem k_clause {X : Nat × (Nat → Int)} {D : List (Nat × Nat)} {I J : Nat → Nat → Int} {ρ : Nat → Nat → Option Nat} (d : Nat) {I0 : Nat → Nat → Int} {hs : Nat → Int} {z c p i : Nat} {cs : List ps_C} (hsh : k_sh D ρ c) (hct : k_ct I0 I hs z c cs p) (hil : i = cs.length) (hi10 : i < 10)  : am_E X (d + 18) 10 0 [(0, .inr (.inr (.inl (some c)))), (1, .inl (i : Int))] [] (am_mm D I J ρ) (fun r => ∃ K, r = (some (.inl (am_bi ((pt_cl hs p).2.isSome = true))), am_mm D K J ρ) ∧ k_cR I0 K hs z c cs (pt_cl hs p)) := by
  have hcs := k_ct_cs hct
  have hclk0 := hsh.1
  have hr8 := hsh.2
  have hclk := hclk0
  obtain ⟨⟨hsc, hs1, hs2, hs3, hs4⟩, hr1, hr2, hr3, hr4⟩ := hclk
  have p1 : I c 1 = (p : Int) := hcs.2.1.1
  have s9 : I c 9 = (z : Int) := hcs.2.1.2.1
  have tz := hcs.2.1.2.2.1
  have tpz : p ≤ z := hcs.2.1.2.2.2.1
  have th := hcs.2.1.2.2.2.2.1
  have te := hcs.2.1.2.2.2.2.2.1
  have tb := hcs.2.1.2.2.2.2.2.2
  have tbp := tb p
  have hc18 := hcs.2.2.1
  have n3 : I c 3 = ((ps_codes cs).length : Int) := hcs.2.2.2.1
  have hll : (ps_codes cs).length ≤ p := hcs.2.2.2.2.2
  refine am_e_ss 1 (q := (1, [(0, .inr (.inr (.inl (some c)))), (1, .inl (i : Int))], [.inr (.inr (.inl (some c)))], (am_mm D I J ρ))) rfl ?_
  refine am_e_virtual (Q := fun r => ∃ K144, r = (some (.inl (((pt_word hs p).2.getD (-1)))), (am_mm D K144 J ρ)) ∧ k_cs I K144 hs z c (((pt_word hs p).1, some (ps_codes cs)))) rfl rfl (Nat.le_of_ble_eq_true rfl) (am_kd_of hsc (by decide)) rfl (Nat.le_of_ble_eq_true rfl) (Nat.le_of_ble_eq_true rfl) (k_word _ hsh hcs) ?_
  rintro r ⟨K144, rfl, g144⟩
  have gb144 := pt_word_b (h := hs) p
  show am_E _ _ _ 4 [(0, .inr (.inr (.inl (some c)))), (1, .inl (i : Int))] [.inl (((pt_word hs p).2.getD (-1)))] (am_mm D K144 J ρ) _
  refine am_e_ss 2 (q := (6, [(2, .inl (((pt_word hs p).2.getD (-1)))), (0, .inr (.inr (.inl (some c)))), (1, .inl (i : Int))], [.inl (((pt_word hs p).2.getD (-1)))], (am_mm D K144 J ρ))) rfl ?_
  refine am_e_if2 rfl ⟨by omega, by omega⟩ (fun (hw1 : ((pt_word hs p).2.getD (-1)) < 0) => ?_) (fun (hw1 : ¬ (((pt_word hs p).2.getD (-1)) < 0)) => ?_)
  · show am_E _ _ _ 18 [(2, .inl (((pt_word hs p).2.getD (-1)))), (0, .inr (.inr (.inl (some c)))), (1, .inl (i : Int))] [] (am_mm D K144 J ρ) _
    refine am_e_ss 1 (q := (19, [(2, .inl (((pt_word hs p).2.getD (-1)))), (0, .inr (.inr (.inl (some c)))), (1, .inl (i : Int))], [.inl 0], (am_mm D K144 J ρ))) rfl ?_
    refine am_e_ireturn rfl rfl ?_
    obtain ⟨q, hW⟩ := gb144.2.2.2 (by omega)
    rw [hW] at g144
    have ec : pt_cl hs p = (q, none) := by unfold pt_cl; rw [hW]
    rw [ec]
    exact ⟨_, by rw [am_bi_no rfl], k_ct_no (R := (0, some (ps_codes cs))) hct g144⟩
  · show am_E _ _ _ 9 [(2, .inl (((pt_word hs p).2.getD (-1)))), (0, .inr (.inr (.inl (some c)))), (1, .inl (i : Int))] [] (am_mm D K144 J ρ) _
    obtain ⟨q, wd, hW, hew⟩ := gb144.2.2.1 (by omega)
    rw [hW] at g144
    have g144 : k_cs I K144 hs z c ((q, some (ps_codes cs))) := g144
    have tq := tb q
    have hwd := (pt_word_ok hW).2
    show am_E _ _ _ 9 [(2, .inl (((pt_word hs p).2.getD (-1)))), (0, .inr (.inr (.inl (some c)))), (1, .inl (i : Int))] [] (am_mm D K144 J ρ) _
    refine am_e_ss 2 (q := (12, [(2, .inl (((pt_word hs p).2.getD (-1)))), (0, .inr (.inr (.inl (some c)))), (1, .inl (i : Int))], [.inl 32, .inr (.inr (.inl (some c)))], (am_mm D K144 J ρ))) rfl ?_
    refine am_e_virtual (Q := fun r => ∃ K145, r = (some (.inl ((am_bi (hs q = 32)))), (am_mm D K145 J ρ)) ∧ k_cs I K145 hs z c (((if hs q = 32 then q + 1 else q), some (ps_codes cs)))) rfl rfl (Nat.le_of_ble_eq_true rfl) (am_kd_of hsc (by decide)) rfl (Nat.le_of_ble_eq_true rfl) (Nat.le_of_ble_eq_true rfl) (k_take _ hsh g144 (s := 32) (by decide)) ?_
    rintro r ⟨K145, rfl, g145⟩
    show am_E _ _ _ 15 [(2, .inl (((pt_word hs p).2.getD (-1)))), (0, .inr (.inr (.inl (some c)))), (1, .inl (i : Int))] [.inl ((am_bi (hs q = 32)))] (am_mm D K145 J ρ) _
    refine am_e_ifne rfl (fun hw2 => ?_) (fun hw2 => ?_)
    · show am_E _ _ _ 20 [(2, .inl (((pt_word hs p).2.getD (-1)))), (0, .inr (.inr (.inl (some c)))), (1, .inl (i : Int))] [] (am_mm D K145 J ρ) _
      rw [if_pos hw2] at g145
      have tb2 := tb (q + 1)
      show am_E _ _ _ 20 [(2, .inl (((pt_word hs p).2.getD (-1)))), (0, .inr (.inr (.inl (some c)))), (1, .inl (i : Int))] [] (am_mm D K145 J ρ) _
      refine am_e_ss 1 (q := (21, [(2, .inl (((pt_word hs p).2.getD (-1)))), (0, .inr (.inr (.inl (some c)))), (1, .inl (i : Int))], [.inr (.inr (.inl (some c)))], (am_mm D K145 J ρ))) rfl ?_
      refine am_e_virtual (Q := fun r => ∃ K146, r = (some (.inl (((pt_num hs (q + 1)).2.getD (-1)))), (am_mm D K146 J ρ)) ∧ k_cs I K146 hs z c (((pt_num hs (q + 1)).1, some (ps_codes cs)))) rfl rfl (Nat.le_of_ble_eq_true rfl) (am_kd_of hsc (by decide)) rfl (Nat.le_of_ble_eq_true rfl) (Nat.le_of_ble_eq_true rfl) (k_num _ hsh g145) ?_
      rintro r ⟨K146, rfl, g146⟩
      have gb146 := pt_num_b te (q + 1)
      show am_E _ _ _ 24 [(2, .inl (((pt_word hs p).2.getD (-1)))), (0, .inr (.inr (.inl (some c)))), (1, .inl (i : Int))] [.inl (((pt_num hs (q + 1)).2.getD (-1)))] (am_mm D K146 J ρ) _
      refine am_e_ss 2 (q := (26, [(3, .inl (((pt_num hs (q + 1)).2.getD (-1)))), (2, .inl (((pt_word hs p).2.getD (-1)))), (0, .inr (.inr (.inl (some c)))), (1, .inl (i : Int))], [.inl (((pt_num hs (q + 1)).2.getD (-1)))], (am_mm D K146 J ρ))) rfl ?_
      refine am_e_if2 rfl ⟨by omega, by omega⟩ (fun (hw3 : 0 ≤ ((pt_num hs (q + 1)).2.getD (-1))) => ?_) (fun (hw3 : ¬ (0 ≤ ((pt_num hs (q + 1)).2.getD (-1)))) => ?_)
      · show am_E _ _ _ 31 [(3, .inl (((pt_num hs (q + 1)).2.getD (-1)))), (2, .inl (((pt_word hs p).2.getD (-1)))), (0, .inr (.inr (.inl (some c)))), (1, .inl (i : Int))] [] (am_mm D K146 J ρ) _
        obtain ⟨r3, nn, hN, hen⟩ := gb146.2.2.1 (by omega)
        rw [hN] at g146
        have g146 : k_cs I K146 hs z c ((r3, some (ps_codes cs))) := g146
        have tr := tb r3
        have hnn := pt_num_ok te hN
        have e32 : hs q = 32 := by assumption
        show am_E _ _ _ 31 [(3, .inl (((pt_num hs (q + 1)).2.getD (-1)))), (2, .inl (((pt_word hs p).2.getD (-1)))), (0, .inr (.inr (.inl (some c)))), (1, .inl (i : Int))] [] (am_mm D K146 J ρ) _
        refine am_e_ss 2 (q := (33, [(3, .inl (((pt_num hs (q + 1)).2.getD (-1)))), (2, .inl (((pt_word hs p).2.getD (-1)))), (0, .inr (.inr (.inl (some c)))), (1, .inl (i : Int))], [.inl 3, .inl (((pt_word hs p).2.getD (-1)))], (am_mm D K146 J ρ))) rfl ?_
        refine am_e_icmp2 rfl ⟨by omega, by omega⟩ ⟨by omega, by omega⟩ (fun (hw4 : ¬ ((pt_word hs p).2.getD (-1)) = 3) => ?_) (fun (hw4 : ¬ (¬ ((pt_word hs p).2.getD (-1)) = 3)) => ?_)
        · show am_E _ _ _ 44 [(3, .inl (((pt_num hs (q + 1)).2.getD (-1)))), (2, .inl (((pt_word hs p).2.getD (-1)))), (0, .inr (.inr (.inl (some c)))), (1, .inl (i : Int))] [] (am_mm D K146 J ρ) _
          refine am_e_ss 2 (q := (47, [(3, .inl (((pt_num hs (q + 1)).2.getD (-1)))), (2, .inl (((pt_word hs p).2.getD (-1)))), (0, .inr (.inr (.inl (some c)))), (1, .inl (i : Int))], [.inl 32, .inr (.inr (.inl (some c)))], (am_mm D K146 J ρ))) rfl ?_
          refine am_e_virtual (Q := fun r => ∃ K147, r = (some (.inl ((am_bi (hs r3 = 32)))), (am_mm D K147 J ρ)) ∧ k_cs I K147 hs z c (((if hs r3 = 32 then r3 + 1 else r3), some (ps_codes cs)))) rfl rfl (Nat.le_of_ble_eq_true rfl) (am_kd_of hsc (by decide)) rfl (Nat.le_of_ble_eq_true rfl) (Nat.le_of_ble_eq_true rfl) (k_take _ hsh g146 (s := 32) (by decide)) ?_
          rintro r ⟨K147, rfl, g147⟩
          show am_E _ _ _ 50 [(3, .inl (((pt_num hs (q + 1)).2.getD (-1)))), (2, .inl (((pt_word hs p).2.getD (-1)))), (0, .inr (.inr (.inl (some c)))), (1, .inl (i : Int))] [.inl ((am_bi (hs r3 = 32)))] (am_mm D K147 J ρ) _
          refine am_e_ifeq rfl (fun hw5 => ?_) (fun hw5 => ?_)
          · show am_E _ _ _ 61 [(3, .inl (((pt_num hs (q + 1)).2.getD (-1)))), (2, .inl (((pt_word hs p).2.getD (-1)))), (0, .inr (.inr (.inl (some c)))), (1, .inl (i : Int))] [] (am_mm D K147 J ρ) _
            refine am_e_ss 1 (q := (62, [(3, .inl (((pt_num hs (q + 1)).2.getD (-1)))), (2, .inl (((pt_word hs p).2.getD (-1)))), (0, .inr (.inr (.inl (some c)))), (1, .inl (i : Int))], [.inl 0], (am_mm D K147 J ρ))) rfl ?_
            refine am_e_ireturn rfl rfl ?_
            rw [if_neg hw5] at g147
            have ec : pt_cl hs p = (r3, none) := by
              unfold pt_cl
              rw [hW]
              show (if ¬ hs q = 32 then _ else _) = _
              rw [if_neg (fun f => f e32), hN]
              show (if wd = 3 then _ else if ¬ hs r3 = 32 then _ else _) = _
              rw [if_neg (by omega), if_pos hw5]
            rw [ec]
            exact ⟨_, by rw [am_bi_no rfl], k_ct_no (R := (0, some (ps_codes cs))) hct g147⟩
          · show am_E _ _ _ 53 [(3, .inl (((pt_num hs (q + 1)).2.getD (-1)))), (2, .inl (((pt_word hs p).2.getD (-1)))), (0, .inr (.inr (.inl (some c)))), (1, .inl (i : Int))] [] (am_mm D K147 J ρ) _
            rw [if_pos hw5] at g147
            have e33 : hs r3 = 32 := by assumption
            show am_E _ _ _ 53 [(3, .inl (((pt_num hs (q + 1)).2.getD (-1)))), (2, .inl (((pt_word hs p).2.getD (-1)))), (0, .inr (.inr (.inl (some c)))), (1, .inl (i : Int))] [] (am_mm D K147 J ρ) _
            refine am_e_ss 2 (q := (55, [(3, .inl (((pt_num hs (q + 1)).2.getD (-1)))), (2, .inl (((pt_word hs p).2.getD (-1)))), (0, .inr (.inr (.inl (some c)))), (1, .inl (i : Int))], [.inl 0, .inr (.inr (.inl (some c)))], (am_mm D K147 J ρ))) rfl ?_
            refine am_e_virtual (Q := fun r => ∃ K148, r = (some (.inl ((am_bi ((pt_E hs (pt_F hs 5) (r3 + 1)).2.isSome = true)))), (am_mm D K148 J ρ)) ∧ k_cs I K148 hs z c ((pt_pre (ps_codes cs) (pt_E hs (pt_F hs 5) (r3 + 1))))) rfl rfl (Nat.le_of_ble_eq_true rfl) (am_kd_of hsc (by decide)) rfl (Nat.le_of_ble_eq_true rfl) (Nat.le_of_ble_eq_true rfl) (k_any5 te hsh _ _ _ (r3 + 1) (ps_codes cs) (by omega) g147) ?_
            rintro r ⟨K148, rfl, g148⟩
            show am_E _ _ _ 58 [(3, .inl (((pt_num hs (q + 1)).2.getD (-1)))), (2, .inl (((pt_word hs p).2.getD (-1)))), (0, .inr (.inr (.inl (some c)))), (1, .inl (i : Int))] [.inl ((am_bi ((pt_E hs (pt_F hs 5) (r3 + 1)).2.isSome = true)))] (am_mm D K148 J ρ) _
            refine am_e_ifne rfl (fun hw6 => ?_) (fun hw6 => ?_)
            · show am_E _ _ _ 63 [(3, .inl (((pt_num hs (q + 1)).2.getD (-1)))), (2, .inl (((pt_word hs p).2.getD (-1)))), (0, .inr (.inr (.inl (some c)))), (1, .inl (i : Int))] [] (am_mm D K148 J ρ) _
              obtain ⟨t, L2, hE2⟩ : ∃ t L2, pt_E hs (pt_F hs 5) (r3 + 1) = (t, some L2) := by
                rcases hE2 : pt_E hs (pt_F hs 5) (r3 + 1) with ⟨t, _ | L2⟩
                · exfalso; rw [hE2] at hw6; exact absurd hw6 (show ¬ (false = true) by decide)
                · exact ⟨t, L2, rfl⟩
              rw [hE2] at g148
              have g148 : k_cs I K148 hs z c ((t, some ((ps_codes cs) ++ L2))) := g148
              show am_E _ _ _ 63 [(3, .inl (((pt_num hs (q + 1)).2.getD (-1)))), (2, .inl (((pt_word hs p).2.getD (-1)))), (0, .inr (.inr (.inl (some c)))), (1, .inl (i : Int))] [] (am_mm D K148 J ρ) _
              refine am_e_ss 1 (q := (64, [(3, .inl (((pt_num hs (q + 1)).2.getD (-1)))), (2, .inl (((pt_word hs p).2.getD (-1)))), (0, .inr (.inr (.inl (some c)))), (1, .inl (i : Int))], [.inr (.inr (.inl (some c)))], (am_mm D K148 J ρ))) rfl ?_
              refine am_e_getfield (c := 1) (m := 10) (f := 4) rfl hsc rfl (by decide) (by decide) ?_
              rw [show am_gf (am_mm D K148 J ρ) 1 c 4 = .inr (.inr (.inl (some (c + 1)))) from (congrArg (fun x => (.inr (.inr (.inl x)) : am_V)) hr1)]
              show am_E _ _ _ 67 [(3, .inl (((pt_num hs (q + 1)).2.getD (-1)))), (2, .inl (((pt_word hs p).2.getD (-1)))), (0, .inr (.inr (.inl (some c)))), (1, .inl (i : Int))] [.inr (.inr (.inl (some (c + 1))))] (am_mm D K148 J ρ) _
              refine am_e_ss 2 (q := (69, [(3, .inl (((pt_num hs (q + 1)).2.getD (-1)))), (2, .inl (((pt_word hs p).2.getD (-1)))), (0, .inr (.inr (.inl (some c)))), (1, .inl (i : Int))], [.inl (((pt_word hs p).2.getD (-1))), .inl (i : Int), .inr (.inr (.inl (some (c + 1))))], (am_mm D K148 J ρ))) rfl ?_
              refine am_e_iastore (m := 10) rfl hs1 (by omega) (by omega) (by omega) ?_
              show am_E _ _ _ 70 [(3, .inl (((pt_num hs (q + 1)).2.getD (-1)))), (2, .inl (((pt_word hs p).2.getD (-1)))), (0, .inr (.inr (.inl (some c)))), (1, .inl (i : Int))] [] (am_mm D (am_up K148 (c + 1) i ((pt_word hs p).2.getD (-1))) J ρ) _
              refine am_e_ss 1 (q := (71, [(3, .inl (((pt_num hs (q + 1)).2.getD (-1)))), (2, .inl (((pt_word hs p).2.getD (-1)))), (0, .inr (.inr (.inl (some c)))), (1, .inl (i : Int))], [.inr (.inr (.inl (some c)))], (am_mm D (am_up K148 (c + 1) i ((pt_word hs p).2.getD (-1))) J ρ))) rfl ?_
              refine am_e_getfield (c := 1) (m := 10) (f := 5) rfl hsc rfl (by decide) (by decide) ?_
              rw [show am_gf (am_mm D (am_up K148 (c + 1) i ((pt_word hs p).2.getD (-1))) J ρ) 1 c 5 = .inr (.inr (.inl (some (c + 2)))) from (congrArg (fun x => (.inr (.inr (.inl x)) : am_V)) hr2)]
              show am_E _ _ _ 74 [(3, .inl (((pt_num hs (q + 1)).2.getD (-1)))), (2, .inl (((pt_word hs p).2.getD (-1)))), (0, .inr (.inr (.inl (some c)))), (1, .inl (i : Int))] [.inr (.inr (.inl (some (c + 2))))] (am_mm D (am_up K148 (c + 1) i ((pt_word hs p).2.getD (-1))) J ρ) _
              refine am_e_ss 2 (q := (76, [(3, .inl (((pt_num hs (q + 1)).2.getD (-1)))), (2, .inl (((pt_word hs p).2.getD (-1)))), (0, .inr (.inr (.inl (some c)))), (1, .inl (i : Int))], [.inl (((pt_num hs (q + 1)).2.getD (-1))), .inl (i : Int), .inr (.inr (.inl (some (c + 2))))], (am_mm D (am_up K148 (c + 1) i ((pt_word hs p).2.getD (-1))) J ρ))) rfl ?_
              refine am_e_iastore (m := 10) rfl hs2 (by omega) (by omega) (by omega) ?_
              show am_E _ _ _ 77 [(3, .inl (((pt_num hs (q + 1)).2.getD (-1)))), (2, .inl (((pt_word hs p).2.getD (-1)))), (0, .inr (.inr (.inl (some c)))), (1, .inl (i : Int))] [] (am_mm D (am_up (am_up K148 (c + 1) i ((pt_word hs p).2.getD (-1))) (c + 2) i ((pt_num hs (q + 1)).2.getD (-1))) J ρ) _
              refine am_e_ss 1 (q := (78, [(3, .inl (((pt_num hs (q + 1)).2.getD (-1)))), (2, .inl (((pt_word hs p).2.getD (-1)))), (0, .inr (.inr (.inl (some c)))), (1, .inl (i : Int))], [.inr (.inr (.inl (some c)))], (am_mm D (am_up (am_up K148 (c + 1) i ((pt_word hs p).2.getD (-1))) (c + 2) i ((pt_num hs (q + 1)).2.getD (-1))) J ρ))) rfl ?_
              refine am_e_getfield (c := 1) (m := 10) (f := 6) rfl hsc rfl (by decide) (by decide) ?_
              rw [show am_gf (am_mm D (am_up (am_up K148 (c + 1) i ((pt_word hs p).2.getD (-1))) (c + 2) i ((pt_num hs (q + 1)).2.getD (-1))) J ρ) 1 c 6 = .inr (.inr (.inl (some (c + 3)))) from (congrArg (fun x => (.inr (.inr (.inl x)) : am_V)) hr3)]
              show am_E _ _ _ 81 [(3, .inl (((pt_num hs (q + 1)).2.getD (-1)))), (2, .inl (((pt_word hs p).2.getD (-1)))), (0, .inr (.inr (.inl (some c)))), (1, .inl (i : Int))] [.inr (.inr (.inl (some (c + 3))))] (am_mm D (am_up (am_up K148 (c + 1) i ((pt_word hs p).2.getD (-1))) (c + 2) i ((pt_num hs (q + 1)).2.getD (-1))) J ρ) _
              refine am_e_ss 2 (q := (83, [(3, .inl (((pt_num hs (q + 1)).2.getD (-1)))), (2, .inl (((pt_word hs p).2.getD (-1)))), (0, .inr (.inr (.inl (some c)))), (1, .inl (i : Int))], [.inr (.inr (.inl (some c))), .inl (i : Int), .inr (.inr (.inl (some (c + 3))))], (am_mm D (am_up (am_up K148 (c + 1) i ((pt_word hs p).2.getD (-1))) (c + 2) i ((pt_num hs (q + 1)).2.getD (-1))) J ρ))) rfl ?_
              refine am_e_getfield (c := 1) (m := 10) (f := 3) rfl hsc rfl (by decide) (by decide) ?_
              show am_E _ _ _ 86 [(3, .inl (((pt_num hs (q + 1)).2.getD (-1)))), (2, .inl (((pt_word hs p).2.getD (-1)))), (0, .inr (.inr (.inl (some c)))), (1, .inl (i : Int))] [.inl (((am_up (am_up K148 (c + 1) i ((pt_word hs p).2.getD (-1))) (c + 2) i ((pt_num hs (q + 1)).2.getD (-1))) c 3)), .inl (i : Int), .inr (.inr (.inl (some (c + 3))))] (am_mm D (am_up (am_up K148 (c + 1) i ((pt_word hs p).2.getD (-1))) (c + 2) i ((pt_num hs (q + 1)).2.getD (-1))) J ρ) _
              refine am_e_iastore (m := 10) rfl hs3 (by omega) (by omega) (by omega) ?_
              show am_E _ _ _ 87 [(3, .inl (((pt_num hs (q + 1)).2.getD (-1)))), (2, .inl (((pt_word hs p).2.getD (-1)))), (0, .inr (.inr (.inl (some c)))), (1, .inl (i : Int))] [] (am_mm D (am_up (am_up (am_up K148 (c + 1) i ((pt_word hs p).2.getD (-1))) (c + 2) i ((pt_num hs (q + 1)).2.getD (-1))) (c + 3) i ((am_up (am_up K148 (c + 1) i ((pt_word hs p).2.getD (-1))) (c + 2) i ((pt_num hs (q + 1)).2.getD (-1))) c 3)) J ρ) _
              refine am_e_ss 1 (q := (88, [(3, .inl (((pt_num hs (q + 1)).2.getD (-1)))), (2, .inl (((pt_word hs p).2.getD (-1)))), (0, .inr (.inr (.inl (some c)))), (1, .inl (i : Int))], [.inl 1], (am_mm D (am_up (am_up (am_up K148 (c + 1) i ((pt_word hs p).2.getD (-1))) (c + 2) i ((pt_num hs (q + 1)).2.getD (-1))) (c + 3) i ((am_up (am_up K148 (c + 1) i ((pt_word hs p).2.getD (-1))) (c + 2) i ((pt_num hs (q + 1)).2.getD (-1))) c 3)) J ρ))) rfl ?_
              refine am_e_ireturn rfl rfl ?_
              have ec : pt_cl hs p = (t, some (wd, nn, L2)) := by
                unfold pt_cl
                rw [hW]
                show (if ¬ hs q = 32 then _ else _) = _
                rw [if_neg (fun f => f e32), hN]
                show (if wd = 3 then _ else if ¬ hs r3 = 32 then _ else _) = _
                rw [if_neg (by omega), if_neg (fun f => f e33), hE2]
              have n9 : (am_up (am_up K148 (c + 1) i ((pt_word hs p).2.getD (-1))) (c + 2) i ((pt_num hs (q + 1)).2.getD (-1))) c 3 = (((ps_codes cs) ++ (wd, nn, L2).2.2).length : Int) := by
                rw [am_up_ne2 (by omega), am_up_ne2 (by omega)]; exact g148.2.2.2.1
              rw [ec, n9, hew, hen]
              have hg : k_cs I K148 hs z c ((t, some ((ps_codes cs) ++ (wd, nn, L2).2.2))) := g148
              exact ⟨_, by rw [am_bi_so rfl], k_ct_fin (x := (wd, nn, L2)) hct hg hil (fun _ _ _ => rfl) (by rw [pt_cm_snoc, if_neg (show ¬ wd = 3 by omega)]; exact (g148.1 c 0 ⟨by omega, fun _ => by omega⟩).trans hct.2.2.2.1)⟩
            · show am_E _ _ _ 61 [(3, .inl (((pt_num hs (q + 1)).2.getD (-1)))), (2, .inl (((pt_word hs p).2.getD (-1)))), (0, .inr (.inr (.inl (some c)))), (1, .inl (i : Int))] [] (am_mm D K148 J ρ) _
              refine am_e_ss 1 (q := (62, [(3, .inl (((pt_num hs (q + 1)).2.getD (-1)))), (2, .inl (((pt_word hs p).2.getD (-1)))), (0, .inr (.inr (.inl (some c)))), (1, .inl (i : Int))], [.inl 0], (am_mm D K148 J ρ))) rfl ?_
              refine am_e_ireturn rfl rfl ?_
              rcases hE2 : pt_E hs (pt_F hs 5) (r3 + 1) with ⟨t, _ | L2⟩
              · rw [hE2] at g148
                have ec : pt_cl hs p = (t, none) := by
                  unfold pt_cl
                  rw [hW]
                  show (if ¬ hs q = 32 then _ else _) = _
                  rw [if_neg (fun f => f e32), hN]
                  show (if wd = 3 then _ else if ¬ hs r3 = 32 then _ else _) = _
                  rw [if_neg (by omega), if_neg (fun f => f e33), hE2]
                rw [ec]
                exact ⟨_, by rw [am_bi_no rfl], k_ct_no (R := (0, none)) hct g148⟩
              · exfalso; rw [hE2] at hw6; exact hw6 rfl
        · show am_E _ _ _ 36 [(3, .inl (((pt_num hs (q + 1)).2.getD (-1)))), (2, .inl (((pt_word hs p).2.getD (-1)))), (0, .inr (.inr (.inl (some c)))), (1, .inl (i : Int))] [] (am_mm D K146 J ρ) _
          refine am_e_ss 2 (q := (38, [(3, .inl (((pt_num hs (q + 1)).2.getD (-1)))), (2, .inl (((pt_word hs p).2.getD (-1)))), (0, .inr (.inr (.inl (some c)))), (1, .inl (i : Int))], [.inl (((pt_num hs (q + 1)).2.getD (-1))), .inr (.inr (.inl (some c)))], (am_mm D K146 J ρ))) rfl ?_
          refine am_e_putfield (c := 1) (m := 10) (f := 0) (M' := (am_mm D (am_up K146 c 0 ((pt_num hs (q + 1)).2.getD (-1))) J ρ)) rfl hsc rfl (by decide) (by decide) rfl ?_
          show am_E _ _ _ 41 [(3, .inl (((pt_num hs (q + 1)).2.getD (-1)))), (2, .inl (((pt_word hs p).2.getD (-1)))), (0, .inr (.inr (.inl (some c)))), (1, .inl (i : Int))] [] (am_mm D (am_up K146 c 0 ((pt_num hs (q + 1)).2.getD (-1))) J ρ) _
          refine am_e_ss 1 (q := (63, [(3, .inl (((pt_num hs (q + 1)).2.getD (-1)))), (2, .inl (((pt_word hs p).2.getD (-1)))), (0, .inr (.inr (.inl (some c)))), (1, .inl (i : Int))], [], (am_mm D (am_up K146 c 0 ((pt_num hs (q + 1)).2.getD (-1))) J ρ))) rfl ?_
          refine am_e_ss 1 (q := (64, [(3, .inl (((pt_num hs (q + 1)).2.getD (-1)))), (2, .inl (((pt_word hs p).2.getD (-1)))), (0, .inr (.inr (.inl (some c)))), (1, .inl (i : Int))], [.inr (.inr (.inl (some c)))], (am_mm D (am_up K146 c 0 ((pt_num hs (q + 1)).2.getD (-1))) J ρ))) rfl ?_
          refine am_e_getfield (c := 1) (m := 10) (f := 4) rfl hsc rfl (by decide) (by decide) ?_
          rw [show am_gf (am_mm D (am_up K146 c 0 ((pt_num hs (q + 1)).2.getD (-1))) J ρ) 1 c 4 = .inr (.inr (.inl (some (c + 1)))) from (congrArg (fun x => (.inr (.inr (.inl x)) : am_V)) hr1)]
          show am_E _ _ _ 67 [(3, .inl (((pt_num hs (q + 1)).2.getD (-1)))), (2, .inl (((pt_word hs p).2.getD (-1)))), (0, .inr (.inr (.inl (some c)))), (1, .inl (i : Int))] [.inr (.inr (.inl (some (c + 1))))] (am_mm D (am_up K146 c 0 ((pt_num hs (q + 1)).2.getD (-1))) J ρ) _
          refine am_e_ss 2 (q := (69, [(3, .inl (((pt_num hs (q + 1)).2.getD (-1)))), (2, .inl (((pt_word hs p).2.getD (-1)))), (0, .inr (.inr (.inl (some c)))), (1, .inl (i : Int))], [.inl (((pt_word hs p).2.getD (-1))), .inl (i : Int), .inr (.inr (.inl (some (c + 1))))], (am_mm D (am_up K146 c 0 ((pt_num hs (q + 1)).2.getD (-1))) J ρ))) rfl ?_
          refine am_e_iastore (m := 10) rfl hs1 (by omega) (by omega) (by omega) ?_
          show am_E _ _ _ 70 [(3, .inl (((pt_num hs (q + 1)).2.getD (-1)))), (2, .inl (((pt_word hs p).2.getD (-1)))), (0, .inr (.inr (.inl (some c)))), (1, .inl (i : Int))] [] (am_mm D (am_up (am_up K146 c 0 ((pt_num hs (q + 1)).2.getD (-1))) (c + 1) i ((pt_word hs p).2.getD (-1))) J ρ) _
          refine am_e_ss 1 (q := (71, [(3, .inl (((pt_num hs (q + 1)).2.getD (-1)))), (2, .inl (((pt_word hs p).2.getD (-1)))), (0, .inr (.inr (.inl (some c)))), (1, .inl (i : Int))], [.inr (.inr (.inl (some c)))], (am_mm D (am_up (am_up K146 c 0 ((pt_num hs (q + 1)).2.getD (-1))) (c + 1) i ((pt_word hs p).2.getD (-1))) J ρ))) rfl ?_
          refine am_e_getfield (c := 1) (m := 10) (f := 5) rfl hsc rfl (by decide) (by decide) ?_
          rw [show am_gf (am_mm D (am_up (am_up K146 c 0 ((pt_num hs (q + 1)).2.getD (-1))) (c + 1) i ((pt_word hs p).2.getD (-1))) J ρ) 1 c 5 = .inr (.inr (.inl (some (c + 2)))) from (congrArg (fun x => (.inr (.inr (.inl x)) : am_V)) hr2)]
          show am_E _ _ _ 74 [(3, .inl (((pt_num hs (q + 1)).2.getD (-1)))), (2, .inl (((pt_word hs p).2.getD (-1)))), (0, .inr (.inr (.inl (some c)))), (1, .inl (i : Int))] [.inr (.inr (.inl (some (c + 2))))] (am_mm D (am_up (am_up K146 c 0 ((pt_num hs (q + 1)).2.getD (-1))) (c + 1) i ((pt_word hs p).2.getD (-1))) J ρ) _
          refine am_e_ss 2 (q := (76, [(3, .inl (((pt_num hs (q + 1)).2.getD (-1)))), (2, .inl (((pt_word hs p).2.getD (-1)))), (0, .inr (.inr (.inl (some c)))), (1, .inl (i : Int))], [.inl (((pt_num hs (q + 1)).2.getD (-1))), .inl (i : Int), .inr (.inr (.inl (some (c + 2))))], (am_mm D (am_up (am_up K146 c 0 ((pt_num hs (q + 1)).2.getD (-1))) (c + 1) i ((pt_word hs p).2.getD (-1))) J ρ))) rfl ?_
          refine am_e_iastore (m := 10) rfl hs2 (by omega) (by omega) (by omega) ?_
          show am_E _ _ _ 77 [(3, .inl (((pt_num hs (q + 1)).2.getD (-1)))), (2, .inl (((pt_word hs p).2.getD (-1)))), (0, .inr (.inr (.inl (some c)))), (1, .inl (i : Int))] [] (am_mm D (am_up (am_up (am_up K146 c 0 ((pt_num hs (q + 1)).2.getD (-1))) (c + 1) i ((pt_word hs p).2.getD (-1))) (c + 2) i ((pt_num hs (q + 1)).2.getD (-1))) J ρ) _
          refine am_e_ss 1 (q := (78, [(3, .inl (((pt_num hs (q + 1)).2.getD (-1)))), (2, .inl (((pt_word hs p).2.getD (-1)))), (0, .inr (.inr (.inl (some c)))), (1, .inl (i : Int))], [.inr (.inr (.inl (some c)))], (am_mm D (am_up (am_up (am_up K146 c 0 ((pt_num hs (q + 1)).2.getD (-1))) (c + 1) i ((pt_word hs p).2.getD (-1))) (c + 2) i ((pt_num hs (q + 1)).2.getD (-1))) J ρ))) rfl ?_
          refine am_e_getfield (c := 1) (m := 10) (f := 6) rfl hsc rfl (by decide) (by decide) ?_
          rw [show am_gf (am_mm D (am_up (am_up (am_up K146 c 0 ((pt_num hs (q + 1)).2.getD (-1))) (c + 1) i ((pt_word hs p).2.getD (-1))) (c + 2) i ((pt_num hs (q + 1)).2.getD (-1))) J ρ) 1 c 6 = .inr (.inr (.inl (some (c + 3)))) from (congrArg (fun x => (.inr (.inr (.inl x)) : am_V)) hr3)]
          show am_E _ _ _ 81 [(3, .inl (((pt_num hs (q + 1)).2.getD (-1)))), (2, .inl (((pt_word hs p).2.getD (-1)))), (0, .inr (.inr (.inl (some c)))), (1, .inl (i : Int))] [.inr (.inr (.inl (some (c + 3))))] (am_mm D (am_up (am_up (am_up K146 c 0 ((pt_num hs (q + 1)).2.getD (-1))) (c + 1) i ((pt_word hs p).2.getD (-1))) (c + 2) i ((pt_num hs (q + 1)).2.getD (-1))) J ρ) _
          refine am_e_ss 2 (q := (83, [(3, .inl (((pt_num hs (q + 1)).2.getD (-1)))), (2, .inl (((pt_word hs p).2.getD (-1)))), (0, .inr (.inr (.inl (some c)))), (1, .inl (i : Int))], [.inr (.inr (.inl (some c))), .inl (i : Int), .inr (.inr (.inl (some (c + 3))))], (am_mm D (am_up (am_up (am_up K146 c 0 ((pt_num hs (q + 1)).2.getD (-1))) (c + 1) i ((pt_word hs p).2.getD (-1))) (c + 2) i ((pt_num hs (q + 1)).2.getD (-1))) J ρ))) rfl ?_
          refine am_e_getfield (c := 1) (m := 10) (f := 3) rfl hsc rfl (by decide) (by decide) ?_
          show am_E _ _ _ 86 [(3, .inl (((pt_num hs (q + 1)).2.getD (-1)))), (2, .inl (((pt_word hs p).2.getD (-1)))), (0, .inr (.inr (.inl (some c)))), (1, .inl (i : Int))] [.inl (((am_up (am_up (am_up K146 c 0 ((pt_num hs (q + 1)).2.getD (-1))) (c + 1) i ((pt_word hs p).2.getD (-1))) (c + 2) i ((pt_num hs (q + 1)).2.getD (-1))) c 3)), .inl (i : Int), .inr (.inr (.inl (some (c + 3))))] (am_mm D (am_up (am_up (am_up K146 c 0 ((pt_num hs (q + 1)).2.getD (-1))) (c + 1) i ((pt_word hs p).2.getD (-1))) (c + 2) i ((pt_num hs (q + 1)).2.getD (-1))) J ρ) _
          refine am_e_iastore (m := 10) rfl hs3 (by omega) (by omega) (by omega) ?_
          show am_E _ _ _ 87 [(3, .inl (((pt_num hs (q + 1)).2.getD (-1)))), (2, .inl (((pt_word hs p).2.getD (-1)))), (0, .inr (.inr (.inl (some c)))), (1, .inl (i : Int))] [] (am_mm D (am_up (am_up (am_up (am_up K146 c 0 ((pt_num hs (q + 1)).2.getD (-1))) (c + 1) i ((pt_word hs p).2.getD (-1))) (c + 2) i ((pt_num hs (q + 1)).2.getD (-1))) (c + 3) i ((am_up (am_up (am_up K146 c 0 ((pt_num hs (q + 1)).2.getD (-1))) (c + 1) i ((pt_word hs p).2.getD (-1))) (c + 2) i ((pt_num hs (q + 1)).2.getD (-1))) c 3)) J ρ) _
          refine am_e_ss 1 (q := (88, [(3, .inl (((pt_num hs (q + 1)).2.getD (-1)))), (2, .inl (((pt_word hs p).2.getD (-1)))), (0, .inr (.inr (.inl (some c)))), (1, .inl (i : Int))], [.inl 1], (am_mm D (am_up (am_up (am_up (am_up K146 c 0 ((pt_num hs (q + 1)).2.getD (-1))) (c + 1) i ((pt_word hs p).2.getD (-1))) (c + 2) i ((pt_num hs (q + 1)).2.getD (-1))) (c + 3) i ((am_up (am_up (am_up K146 c 0 ((pt_num hs (q + 1)).2.getD (-1))) (c + 1) i ((pt_word hs p).2.getD (-1))) (c + 2) i ((pt_num hs (q + 1)).2.getD (-1))) c 3)) J ρ))) rfl ?_
          refine am_e_ireturn rfl rfl ?_
          have ec : pt_cl hs p = (r3, some (3, nn, [])) := by
            unfold pt_cl
            rw [hW]
            show (if ¬ hs q = 32 then _ else _) = _
            rw [if_neg (fun f => f e32), hN]
            show (if wd = 3 then _ else _) = _
            rw [if_pos (by omega)]
          have n9 : (am_up (am_up (am_up K146 c 0 ((pt_num hs (q + 1)).2.getD (-1))) (c + 1) i ((pt_word hs p).2.getD (-1))) (c + 2) i ((pt_num hs (q + 1)).2.getD (-1))) c 3 = (((ps_codes cs) ++ (3, nn, []).2.2).length : Int) := by
            rw [am_up_ne2 (by omega), am_up_ne2 (by omega), am_up_ne2 (by omega), List.append_nil]; exact g146.2.2.2.1
          rw [ec, n9, hew, hen]
          have hg : k_cs I K146 hs z c ((r3, some ((ps_codes cs) ++ (3, nn, []).2.2))) := by rw [List.append_nil]; exact g146
          refine ⟨_, by rw [am_bi_so rfl], ?_⟩
          rw [show wd = 3 by omega]
          exact k_ct_fin (x := (3, nn, [])) hct hg hil (fun k j a => am_up_ne2 (by omega)) (by rw [am_up_at2, pt_cm_snoc, if_pos rfl])
      · show am_E _ _ _ 29 [(3, .inl (((pt_num hs (q + 1)).2.getD (-1)))), (2, .inl (((pt_word hs p).2.getD (-1)))), (0, .inr (.inr (.inl (some c)))), (1, .inl (i : Int))] [] (am_mm D K146 J ρ) _
        refine am_e_ss 1 (q := (30, [(3, .inl (((pt_num hs (q + 1)).2.getD (-1)))), (2, .inl (((pt_word hs p).2.getD (-1)))), (0, .inr (.inr (.inl (some c)))), (1, .inl (i : Int))], [.inl 0], (am_mm D K146 J ρ))) rfl ?_
        refine am_e_ireturn rfl rfl ?_
        have e32 : hs q = 32 := by assumption
        obtain ⟨r3, hN⟩ := gb146.2.2.2 (by omega)
        rw [hN] at g146
        have ec : pt_cl hs p = (r3, none) := by
          unfold pt_cl
          rw [hW]
          show (if ¬ hs q = 32 then _ else _) = _
          rw [if_neg (fun f => f e32), hN]
        rw [ec]
        exact ⟨_, by rw [am_bi_no rfl], k_ct_no (R := (0, some (ps_codes cs))) hct g146⟩
    · show am_E _ _ _ 18 [(2, .inl (((pt_word hs p).2.getD (-1)))), (0, .inr (.inr (.inl (some c)))), (1, .inl (i : Int))] [] (am_mm D K145 J ρ) _
      refine am_e_ss 1 (q := (19, [(2, .inl (((pt_word hs p).2.getD (-1)))), (0, .inr (.inr (.inl (some c)))), (1, .inl (i : Int))], [.inl 0], (am_mm D K145 J ρ))) rfl ?_
      refine am_e_ireturn rfl rfl ?_
      rw [if_neg hw2] at g145
      have ec : pt_cl hs p = (q, none) := by
        unfold pt_cl
        rw [hW]
        show (if ¬ hs q = 32 then _ else _) = _
        rw [if_pos hw2]
      rw [ec]
      exact ⟨_, by rw [am_bi_no rfl], k_ct_no (R := (0, some (ps_codes cs))) hct g145⟩
