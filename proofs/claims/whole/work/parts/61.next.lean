/-! THE CLASS: rows of books, one after another -/
def nx_left (q : List Nat) : Nat → Option Nat
  | 0 => none
  | k + 1 => if q.getD (k + 1) 0 < q.getD k 0 then nx_left q k else some k
def nx_right (q : List Nat) (l : Nat) : Nat → Nat
  | 0 => 0
  | r + 1 => if l < r + 1 ∧ q.getD (r + 1) 0 < q.getD l 0 then nx_right q l r else r + 1
def nx_sw (q : List Nat) (i j : Nat) : List Nat := (q.set i (q.getD j 0)).set j (q.getD i 0)
def nx_rev : Nat → List Nat → Nat → Nat → List Nat
  | 0, q, _, _ => q
  | f + 1, q, i, j => if i < j then nx_rev f (nx_sw q i j) (i + 1) (j - 1) else q
def nx (q : List Nat) : Option (List Nat) := match nx_left q (q.length - 1) with
  | none => none
  | some l => some (nx_rev 6 (nx_sw q l (nx_right q l (q.length - 1))) (l + 1) (q.length - 1))
theorem nx_sw_len {q : List Nat} {i j : Nat} : (nx_sw q i j).length = q.length := by
  unfold nx_sw
  rw [List.length_set, List.length_set]
theorem am_rowl_sw {R : Nat → Int} {q : List Nat} {i j : Nat} (h : am_rowl R 0 q) (hi : i < q.length) (hj : j < q.length) : am_rowl (am_u1 (am_u1 R i (R j)) j (R i)) 0 (nx_sw q i j) := by
  intro k b hk
  unfold nx_sw at hk
  rw [List.getElem?_set] at hk
  rw [Nat.zero_add]
  unfold am_u1
  by_cases e : j = k
  · rw [if_pos e, List.length_set, if_pos hj] at hk
    injection hk with hk
    rw [if_pos e.symm, am_rowl_d h hi, hk]
  · rw [if_neg e, List.getElem?_set] at hk
    rw [if_neg (fun h => e h.symm)]
    by_cases e2 : i = k
    · rw [if_pos e2, if_pos hi] at hk
      injection hk with hk
      rw [if_pos e2.symm, am_rowl_d h hj, hk]
    · rw [if_neg e2] at hk
      rw [if_neg (fun h => e2 h.symm)]
      have := h k b hk
      rw [Nat.zero_add] at this
      exact this
theorem nx_sw_mem {q : List Nat} {i j x : Nat} (hi : i < q.length) (hj : j < q.length) (h : x ∈ nx_sw q i j) : x ∈ q := by
  unfold nx_sw at h
  rcases List.mem_or_eq_of_mem_set h with h | h
  · rcases List.mem_or_eq_of_mem_set h with h | h
    · exact h
    · rw [h, am_getD hj]; exact List.getElem_mem hj
  · rw [h, am_getD hi]; exact List.getElem_mem hi
theorem nx_left_lt {q : List Nat} : ∀ k l, nx_left q k = some l → l < k := by
  intro k
  induction k with
  | zero => intro l h; unfold nx_left at h; cases h
  | succ k ih =>
    intro l h
    unfold nx_left at h
    split at h
    · have := ih l h; omega
    · injection h with h; omega
theorem nx_right_le {q : List Nat} {l : Nat} : ∀ r, nx_right q l r ≤ r := by
  intro r
  induction r with
  | zero => exact Nat.le_refl _
  | succ r ih => unfold nx_right; split <;> omega
def uN : Nat → Nat → Bool := fun c i => Nat.beq c 97
theorem c_swap {X : Nat × (Nat → Int)} {D : List (Nat × Nat)} {I J : Nat → Nat → Int} {ρ : Nat → Nat → Option Nat} (d : Nat) {z y : Int} (hz : 0 ≤ z ∧ z < 6) (hy : 0 ≤ y ∧ y < 6) : am_E X d 86 0 [(0, .inr (.inr (.inl (some 71)))), (1, .inl z), (2, .inl y)] [] (am_mm D I J ρ) (fun r => r = (none, (am_mm D (am_up (am_up I 97 (z).toNat (I 97 (y).toNat)) 97 (y).toNat (I 97 (z).toNat)) J ρ))) := by
  refine am_e_ss 3 (q := (5, [(0, .inr (.inr (.inl (some 71)))), (1, .inl z), (2, .inl y)], [.inl z, .inr (.inr (.inl (some 97)))], (am_mm D I J ρ))) rfl ?_
  refine am_e_iaload (m := 6) rfl rfl (by omega) (by omega) (by omega) ?_
  show am_E _ _ _ 6 [(0, .inr (.inr (.inl (some 71)))), (1, .inl z), (2, .inl y)] [.inl ((I 97 (z).toNat))] (am_mm D I J ρ) _
  refine am_e_ss 7 (q := (17, [(3, .inl ((I 97 (z).toNat))), (0, .inr (.inr (.inl (some 71)))), (1, .inl z), (2, .inl y)], [.inl y, .inr (.inr (.inl (some 97))), .inl z, .inr (.inr (.inl (some 97)))], (am_mm D I J ρ))) rfl ?_
  refine am_e_iaload (m := 6) rfl rfl (by omega) (by omega) (by omega) ?_
  show am_E _ _ _ 18 [(3, .inl ((I 97 (z).toNat))), (0, .inr (.inr (.inl (some 71)))), (1, .inl z), (2, .inl y)] [.inl ((I 97 (y).toNat)), .inl z, .inr (.inr (.inl (some 97)))] (am_mm D I J ρ) _
  refine am_e_iastore (m := 6) rfl rfl (by omega) (by omega) (by omega) ?_
  show am_E _ _ _ 19 [(3, .inl ((I 97 (z).toNat))), (0, .inr (.inr (.inl (some 71)))), (1, .inl z), (2, .inl y)] [] (am_mm D (am_up I 97 (z).toNat (I 97 (y).toNat)) J ρ) _
  refine am_e_ss 4 (q := (25, [(3, .inl ((I 97 (z).toNat))), (0, .inr (.inr (.inl (some 71)))), (1, .inl z), (2, .inl y)], [.inl ((I 97 (z).toNat)), .inl y, .inr (.inr (.inl (some 97)))], (am_mm D (am_up I 97 (z).toNat (I 97 (y).toNat)) J ρ))) rfl ?_
  refine am_e_iastore (m := 6) rfl rfl (by omega) (by omega) (by omega) ?_
  show am_E _ _ _ 26 [(3, .inl ((I 97 (z).toNat))), (0, .inr (.inr (.inl (some 71)))), (1, .inl z), (2, .inl y)] [] (am_mm D (am_up (am_up I 97 (z).toNat (I 97 (y).toNat)) 97 (y).toNat (I 97 (z).toNat)) J ρ) _
  refine am_e_return rfl rfl ?_
  rfl
theorem c_next_9 {X : Nat × (Nat → Int)} {D : List (Nat × Nat)} {I J : Nat → Nat → Int} {ρ : Nat → Nat → Option Nat} (d : Nat) {q0 q : List Nat} {z y : Int} {f i j : Nat} (h3 : I 71 3 = (q.length : Int)) (h6 : q.length ≤ 6) (hx6 : ∀ x ∈ q, x < 6) (hrow : am_rowl (I 97) 0 q) (hzi : z = (i : Int) ∧ i ≤ q.length) (hyj : y = (j : Int) ∧ j < q.length) (hf : j < i + 2 * f) (hq : nx q0 = some (nx_rev f q i j))  : am_E X (d + 1) 85 91 [(4, .inl y), (3, .inl z), (0, .inr (.inr (.inl (some 71))))] [] (am_mm D I J ρ) (fun r => ∃ Q, r = (some (.inl (if nx q0 = none then 0 else 1)), am_mm D (am_wp uN I Q) J ρ) ∧ ∀ q2, nx q0 = some q2 → am_rowl (Q 97) 0 q2) := by
  refine am_e_ss 2 (q := (94, [(4, .inl y), (3, .inl z), (0, .inr (.inr (.inl (some 71))))], [.inl y, .inl z], (am_mm D I J ρ))) rfl ?_
  refine am_e_icmp2 rfl ⟨by omega, by omega⟩ ⟨by omega, by omega⟩ (fun (hw1 : y ≤ z) => ?_) (fun (hw1 : ¬ (y ≤ z)) => ?_)
  · show am_E _ _ _ 113 [(4, .inl y), (3, .inl z), (0, .inr (.inr (.inl (some 71))))] [] (am_mm D I J ρ) _
    refine am_e_ss 1 (q := (114, [(4, .inl y), (3, .inl z), (0, .inr (.inr (.inl (some 71))))], [.inl 1], (am_mm D I J ρ))) rfl ?_
    refine am_e_ireturn rfl rfl ?_
    have hrv : nx_rev f q i j = q := by
      cases f with
      | zero => rfl
      | succ f => exact if_neg (by omega)
    rw [hrv] at hq
    rw [hq, if_neg (by simp)]
    refine ⟨I, am_r_wp uN am_k_id, ?_⟩
    intro q2 h2
    injection h2 with h2
    rw [← h2]
    exact hrow
  · show am_E _ _ _ 97 [(4, .inl y), (3, .inl z), (0, .inr (.inr (.inl (some 71))))] [] (am_mm D I J ρ) _
    refine am_e_ss 3 (q := (101, [(4, .inl y), (3, .inl z), (0, .inr (.inr (.inl (some 71))))], [.inl y, .inl z, .inr (.inr (.inl (some 71)))], (am_mm D I J ρ))) rfl ?_
    refine am_e_virtual (Q := fun r => r = (none, (am_mm D (am_up (am_up I 97 (z).toNat (I 97 (y).toNat)) 97 (y).toNat (I 97 (z).toNat)) J ρ))) rfl rfl (Nat.le_of_ble_eq_true rfl) rfl rfl (Nat.le_of_ble_eq_true rfl) (Nat.le_of_ble_eq_true rfl) (c_swap _ (z := z) (y := y) ⟨by omega, by omega⟩ ⟨by omega, by omega⟩) ?_
    rintro r rfl
    show am_E _ _ _ 104 [(4, .inl y), (3, .inl z), (0, .inr (.inr (.inl (some 71))))] [] (am_mm D (am_up (am_up I 97 (z).toNat (I 97 (y).toNat)) 97 (y).toNat (I 97 (z).toNat)) J ρ) _
    refine am_e_ss 3 (q := (91, [(4, .inl (y + (-1))), (3, .inl (z + 1)), (0, .inr (.inr (.inl (some 71))))], [], (am_mm D (am_up (am_up I 97 (z).toNat (I 97 (y).toNat)) 97 (y).toNat (I 97 (z).toNat)) J ρ))) rfl ?_
    obtain ⟨f', rfl⟩ : ∃ f', f = f' + 1 := ⟨f - 1, by omega⟩
    have hij : i < j := by omega
    rw [show nx_rev (f' + 1) q i j = nx_rev f' (nx_sw q i j) (i + 1) (j - 1) from if_pos hij] at hq
    have hil : i < q.length := by omega
    have ezi : (z).toNat = i := by omega
    have eyj : (y).toNat = j := by omega
    have er : am_rowl ((am_up (am_up I 97 (z).toNat (I 97 (y).toNat)) 97 (y).toNat (I 97 (z).toNat)) 97) 0 (nx_sw q i j) := by
      rw [am_up_ro, am_up_ro, ezi, eyj]
      exact am_rowl_sw hrow hil hyj.2
    refine (am_less (lv := [(4, .inl ((y + (-1)))), (3, .inl ((z + 1))), (0, .inr (.inr (.inl (some 71))))]) rfl (List.forall_mem_cons.mpr ⟨rfl, List.forall_mem_cons.mpr ⟨rfl, List.forall_mem_cons.mpr ⟨rfl, List.forall_mem_nil _⟩⟩⟩) (c_next_9 (I := am_up (am_up I 97 (z).toNat (I 97 (y).toNat)) 97 (y).toNat (I 97 (z).toNat)) d (q0 := q0) (q := nx_sw q i j) (f := f') (i := i + 1) (j := j - 1) (by rw [nx_sw_len]; exact h3) (by rw [nx_sw_len]; exact h6) (fun x hx => hx6 x (nx_sw_mem hil hyj.2 hx)) er (by rw [nx_sw_len]; omega) (by rw [nx_sw_len]; omega) (by omega) hq)).imp ?_
    rintro r ⟨Q9, rfl, h9⟩
    exact ⟨Q9, am_r_wk uN (am_k_up rfl (am_k_up rfl (am_k_id))), h9⟩
termination_by f
decreasing_by all_goals omega
theorem c_next_4 {X : Nat × (Nat → Int)} {D : List (Nat × Nat)} {I J : Nat → Nat → Int} {ρ : Nat → Nat → Option Nat} (d : Nat) {q : List Nat} (h3 : I 71 3 = (q.length : Int)) (h6 : q.length ≤ 6) (hx6 : ∀ x ∈ q, x < 6) {z y : Int} {l r : Nat} (hrow : am_rowl (I 97) 0 q) (hzl : z = (l : Int) ∧ l < q.length) (hyr : y = (r : Int) ∧ l ≤ r ∧ r < q.length) (hl : nx_left q (q.length - 1) = some l) (hr : nx_right q l (q.length - 1) = nx_right q l r)  : am_E X (d + 1) 85 47 [(2, .inl y), (1, .inl z), (0, .inr (.inr (.inl (some 71))))] [] (am_mm D I J ρ) (fun r => ∃ Q, r = (some (.inl (if nx q = none then 0 else 1)), am_mm D (am_wp uN I Q) J ρ) ∧ ∀ q2, nx q = some q2 → am_rowl (Q 97) 0 q2) := by
  refine am_e_ss 2 (q := (49, [(2, .inl y), (1, .inl z), (0, .inr (.inr (.inl (some 71))))], [.inl z, .inl y], (am_mm D I J ρ))) rfl ?_
  refine am_e_icmp2 rfl ⟨by omega, by omega⟩ ⟨by omega, by omega⟩ (fun (hw1 : y ≤ z) => ?_) (fun (hw1 : ¬ (y ≤ z)) => ?_)
  · show am_E _ _ _ 73 [(2, .inl y), (1, .inl z), (0, .inr (.inr (.inl (some 71))))] [] (am_mm D I J ρ) _
    refine am_e_ss 3 (q := (76, [(2, .inl y), (1, .inl z), (0, .inr (.inr (.inl (some 71))))], [.inl y, .inl z, .inr (.inr (.inl (some 71)))], (am_mm D I J ρ))) rfl ?_
    refine am_e_virtual (Q := fun r => r = (none, (am_mm D (am_up (am_up I 97 (z).toNat (I 97 (y).toNat)) 97 (y).toNat (I 97 (z).toNat)) J ρ))) rfl rfl (Nat.le_of_ble_eq_true rfl) rfl rfl (Nat.le_of_ble_eq_true rfl) (Nat.le_of_ble_eq_true rfl) (c_swap _ (z := z) (y := y) ⟨by omega, by omega⟩ ⟨by omega, by omega⟩) ?_
    rintro r rfl
    show am_E _ _ _ 79 [(2, .inl y), (1, .inl z), (0, .inr (.inr (.inl (some 71))))] [] (am_mm D (am_up (am_up I 97 (z).toNat (I 97 (y).toNat)) 97 (y).toNat (I 97 (z).toNat)) J ρ) _
    refine am_e_ss 9 (q := (91, [(4, .inl ((I 71 3) - 1)), (3, .inl (z + 1)), (2, .inl y), (1, .inl z), (0, .inr (.inr (.inl (some 71))))], [], (am_mm D (am_up (am_up I 97 (z).toNat (I 97 (y).toNat)) 97 (y).toNat (I 97 (z).toNat)) J ρ))) rfl ?_
    have er : nx_right q l r = r := by
      cases r with
      | zero => rfl
      | succ r => exact if_neg (by omega)
    rw [er] at hr
    have ezi : (z).toNat = l := by omega
    have eyj : (y).toNat = r := by omega
    have hnx : nx q = some (nx_rev 6 (nx_sw q l r) (l + 1) (q.length - 1)) := by
      unfold nx
      rw [hl]
      dsimp only
      rw [hr]
    have er2 : am_rowl ((am_up (am_up I 97 (z).toNat (I 97 (y).toNat)) 97 (y).toNat (I 97 (z).toNat)) 97) 0 (nx_sw q l r) := by
      rw [am_up_ro, am_up_ro, ezi, eyj]
      exact am_rowl_sw hrow hzl.2 hyr.2.2
    refine (am_less (lv := [(4, .inl (((I 71 3) - 1))), (3, .inl ((z + 1))), (0, .inr (.inr (.inl (some 71))))]) rfl (List.forall_mem_cons.mpr ⟨rfl, List.forall_mem_cons.mpr ⟨rfl, List.forall_mem_cons.mpr ⟨rfl, List.forall_mem_nil _⟩⟩⟩) (c_next_9 (I := am_up (am_up I 97 (z).toNat (I 97 (y).toNat)) 97 (y).toNat (I 97 (z).toNat)) d (q0 := q) (q := nx_sw q l r) (f := 6) (i := l + 1) (j := q.length - 1) (by rw [nx_sw_len]; exact h3) (by rw [nx_sw_len]; exact h6) (fun x hx => hx6 x (nx_sw_mem hzl.2 hyr.2.2 hx)) er2 (by rw [nx_sw_len]; omega) (by rw [nx_sw_len]; omega) (by omega) hnx)).imp ?_
    rintro r ⟨Q9, rfl, h9⟩
    exact ⟨Q9, am_r_wk uN (am_k_up rfl (am_k_up rfl (am_k_id))), h9⟩
  · show am_E _ _ _ 52 [(2, .inl y), (1, .inl z), (0, .inr (.inr (.inl (some 71))))] [] (am_mm D I J ρ) _
    have hrr := am_rowl_d hrow (show r < q.length by omega)
    have hrl := am_rowl_d hrow hzl.2
    have hrr2 : I 97 (y).toNat = ((q.getD r 0 : Nat) : Int) := by rw [show (y).toNat = r by omega]; exact hrr
    have hrl2 : I 97 (z).toNat = ((q.getD l 0 : Nat) : Int) := by rw [show (z).toNat = l by omega]; exact hrl
    have hb1 := hx6 (q.getD r 0) (by rw [am_getD (show r < q.length by omega)]; exact List.getElem_mem _)
    have hb2 := hx6 (q.getD l 0) (by rw [am_getD hzl.2]; exact List.getElem_mem _)
    refine am_e_ss 3 (q := (57, [(2, .inl y), (1, .inl z), (0, .inr (.inr (.inl (some 71))))], [.inl y, .inr (.inr (.inl (some 97)))], (am_mm D I J ρ))) rfl ?_
    refine am_e_iaload (m := 6) rfl rfl (by omega) (by omega) (by omega) ?_
    show am_E _ _ _ 58 [(2, .inl y), (1, .inl z), (0, .inr (.inr (.inl (some 71))))] [.inl ((I 97 (y).toNat))] (am_mm D I J ρ) _
    refine am_e_ss 3 (q := (63, [(2, .inl y), (1, .inl z), (0, .inr (.inr (.inl (some 71))))], [.inl z, .inr (.inr (.inl (some 97))), .inl ((I 97 (y).toNat))], (am_mm D I J ρ))) rfl ?_
    refine am_e_iaload (m := 6) rfl rfl (by omega) (by omega) (by omega) ?_
    show am_E _ _ _ 64 [(2, .inl y), (1, .inl z), (0, .inr (.inr (.inl (some 71))))] [.inl ((I 97 (z).toNat)), .inl ((I 97 (y).toNat))] (am_mm D I J ρ) _
    refine am_e_icmp2 rfl ⟨by omega, by omega⟩ ⟨by omega, by omega⟩ (fun (hw2 : (I 97 (z).toNat) ≤ (I 97 (y).toNat)) => ?_) (fun (hw2 : ¬ ((I 97 (z).toNat) ≤ (I 97 (y).toNat))) => ?_)
    · show am_E _ _ _ 73 [(2, .inl y), (1, .inl z), (0, .inr (.inr (.inl (some 71))))] [] (am_mm D I J ρ) _
      refine am_e_ss 3 (q := (76, [(2, .inl y), (1, .inl z), (0, .inr (.inr (.inl (some 71))))], [.inl y, .inl z, .inr (.inr (.inl (some 71)))], (am_mm D I J ρ))) rfl ?_
      refine am_e_virtual (Q := fun r => r = (none, (am_mm D (am_up (am_up I 97 (z).toNat (I 97 (y).toNat)) 97 (y).toNat (I 97 (z).toNat)) J ρ))) rfl rfl (Nat.le_of_ble_eq_true rfl) rfl rfl (Nat.le_of_ble_eq_true rfl) (Nat.le_of_ble_eq_true rfl) (c_swap _ (z := z) (y := y) ⟨by omega, by omega⟩ ⟨by omega, by omega⟩) ?_
      rintro r rfl
      show am_E _ _ _ 79 [(2, .inl y), (1, .inl z), (0, .inr (.inr (.inl (some 71))))] [] (am_mm D (am_up (am_up I 97 (z).toNat (I 97 (y).toNat)) 97 (y).toNat (I 97 (z).toNat)) J ρ) _
      refine am_e_ss 9 (q := (91, [(4, .inl ((I 71 3) - 1)), (3, .inl (z + 1)), (2, .inl y), (1, .inl z), (0, .inr (.inr (.inl (some 71))))], [], (am_mm D (am_up (am_up I 97 (z).toNat (I 97 (y).toNat)) 97 (y).toNat (I 97 (z).toNat)) J ρ))) rfl ?_
      have er : nx_right q l r = r := by
        cases r with
        | zero => rfl
        | succ r => exact if_neg (by omega)
      rw [er] at hr
      have ezi : (z).toNat = l := by omega
      have eyj : (y).toNat = r := by omega
      have hnx : nx q = some (nx_rev 6 (nx_sw q l r) (l + 1) (q.length - 1)) := by
        unfold nx
        rw [hl]
        dsimp only
        rw [hr]
      have er2 : am_rowl ((am_up (am_up I 97 (z).toNat (I 97 (y).toNat)) 97 (y).toNat (I 97 (z).toNat)) 97) 0 (nx_sw q l r) := by
        rw [am_up_ro, am_up_ro, ezi, eyj]
        exact am_rowl_sw hrow hzl.2 hyr.2.2
      refine (am_less (lv := [(4, .inl (((I 71 3) - 1))), (3, .inl ((z + 1))), (0, .inr (.inr (.inl (some 71))))]) rfl (List.forall_mem_cons.mpr ⟨rfl, List.forall_mem_cons.mpr ⟨rfl, List.forall_mem_cons.mpr ⟨rfl, List.forall_mem_nil _⟩⟩⟩) (c_next_9 (I := am_up (am_up I 97 (z).toNat (I 97 (y).toNat)) 97 (y).toNat (I 97 (z).toNat)) d (q0 := q) (q := nx_sw q l r) (f := 6) (i := l + 1) (j := q.length - 1) (by rw [nx_sw_len]; exact h3) (by rw [nx_sw_len]; exact h6) (fun x hx => hx6 x (nx_sw_mem hzl.2 hyr.2.2 hx)) er2 (by rw [nx_sw_len]; omega) (by rw [nx_sw_len]; omega) (by omega) hnx)).imp ?_
      rintro r ⟨Q9, rfl, h9⟩
      exact ⟨Q9, am_r_wk uN (am_k_up rfl (am_k_up rfl (am_k_id))), h9⟩
    · show am_E _ _ _ 67 [(2, .inl y), (1, .inl z), (0, .inr (.inr (.inl (some 71))))] [] (am_mm D I J ρ) _
      refine am_e_ss 2 (q := (47, [(2, .inl (y + (-1))), (1, .inl z), (0, .inr (.inr (.inl (some 71))))], [], (am_mm D I J ρ))) rfl ?_
      obtain ⟨r', rfl⟩ : ∃ r', r = r' + 1 := ⟨r - 1, by omega⟩
      have er : nx_right q l (r' + 1) = nx_right q l r' := if_pos ⟨by omega, by omega⟩
      refine (am_less (lv := [(2, .inl ((y + (-1)))), (1, .inl z), (0, .inr (.inr (.inl (some 71))))]) rfl (List.forall_mem_cons.mpr ⟨rfl, List.forall_mem_cons.mpr ⟨rfl, List.forall_mem_cons.mpr ⟨rfl, List.forall_mem_nil _⟩⟩⟩) (c_next_4 (I := I) d (q := q) (l := l) (r := r') h3 h6 hx6 hrow hzl (by omega) hl (hr.trans er))).imp ?_
      rintro r ⟨Q9, rfl, h9⟩
      exact ⟨Q9, am_r_wk uN (am_k_id), h9⟩
termination_by r
decreasing_by all_goals omega
theorem c_next_7 {X : Nat × (Nat → Int)} {D : List (Nat × Nat)} {I J : Nat → Nat → Int} {ρ : Nat → Nat → Option Nat} (d : Nat) {q : List Nat} (h3 : I 71 3 = (q.length : Int)) (h6 : q.length ≤ 6) (hx6 : ∀ x ∈ q, x < 6) {z : Int} {k : Nat} (hrow : am_rowl (I 97) 0 q) (hzk : z = (k : Int) - 1 ∧ k ≤ q.length - 1) (hl : nx_left q (q.length - 1) = nx_left q k)  : am_E X (d + 1) 85 7 [(1, .inl z), (0, .inr (.inr (.inl (some 71))))] [] (am_mm D I J ρ) (fun r => ∃ Q, r = (some (.inl (if nx q = none then 0 else 1)), am_mm D (am_wp uN I Q) J ρ) ∧ ∀ q2, nx q = some q2 → am_rowl (Q 97) 0 q2) := by
  refine am_e_ss 1 (q := (8, [(1, .inl z), (0, .inr (.inr (.inl (some 71))))], [.inl z], (am_mm D I J ρ))) rfl ?_
  refine am_e_if2 rfl ⟨by omega, by omega⟩ (fun (hw1 : z < 0) => ?_) (fun (hw1 : ¬ (z < 0)) => ?_)
  · show am_E _ _ _ 34 [(1, .inl z), (0, .inr (.inr (.inl (some 71))))] [] (am_mm D I J ρ) _
    refine am_e_ss 1 (q := (35, [(1, .inl z), (0, .inr (.inr (.inl (some 71))))], [.inl z], (am_mm D I J ρ))) rfl ?_
    refine am_e_if2 rfl ⟨by omega, by omega⟩ (fun (hw2 : 0 ≤ z) => ?_) (fun (hw2 : ¬ (0 ≤ z)) => ?_)
    · show am_E _ _ _ 40 [(1, .inl z), (0, .inr (.inr (.inl (some 71))))] [] (am_mm D I J ρ) _
      refine am_e_ss 5 (q := (47, [(2, .inl ((I 71 3) - 1)), (1, .inl z), (0, .inr (.inr (.inl (some 71))))], [], (am_mm D I J ρ))) rfl ?_
      exfalso; omega
    · show am_E _ _ _ 38 [(1, .inl z), (0, .inr (.inr (.inl (some 71))))] [] (am_mm D I J ρ) _
      refine am_e_ss 1 (q := (39, [(1, .inl z), (0, .inr (.inr (.inl (some 71))))], [.inl 0], (am_mm D I J ρ))) rfl ?_
      refine am_e_ireturn rfl rfl ?_
      have ek : k = 0 := by omega
      subst ek
      have hn : nx q = none := by
        unfold nx
        rw [hl]
        rfl
      rw [hn, if_pos rfl]
      exact ⟨I, am_r_wp uN am_k_id, fun q2 h2 => by cases h2⟩
  · show am_E _ _ _ 11 [(1, .inl z), (0, .inr (.inr (.inl (some 71))))] [] (am_mm D I J ρ) _
    obtain ⟨k1, hk1⟩ : ∃ k1, k = k1 + 1 := ⟨k - 1, by omega⟩
    have hra := am_rowl_d hrow (show k1 < q.length by omega)
    have hrb := am_rowl_d hrow (show k1 + 1 < q.length by omega)
    have hra2 : I 97 (z).toNat = ((q.getD k1 0 : Nat) : Int) := by rw [show (z).toNat = k1 by omega]; exact hra
    have hrb2 : I 97 (z + 1).toNat = ((q.getD (k1 + 1) 0 : Nat) : Int) := by rw [show (z + 1).toNat = k1 + 1 by omega]; exact hrb
    have hb1 := hx6 (q.getD k1 0) (by rw [am_getD (show k1 < q.length by omega)]; exact List.getElem_mem _)
    have hb2 := hx6 (q.getD (k1 + 1) 0) (by rw [am_getD (show k1 + 1 < q.length by omega)]; exact List.getElem_mem _)
    refine am_e_ss 3 (q := (16, [(1, .inl z), (0, .inr (.inr (.inl (some 71))))], [.inl z, .inr (.inr (.inl (some 97)))], (am_mm D I J ρ))) rfl ?_
    refine am_e_iaload (m := 6) rfl rfl (by omega) (by omega) (by omega) ?_
    show am_E _ _ _ 17 [(1, .inl z), (0, .inr (.inr (.inl (some 71))))] [.inl ((I 97 (z).toNat))] (am_mm D I J ρ) _
    refine am_e_ss 5 (q := (24, [(1, .inl z), (0, .inr (.inr (.inl (some 71))))], [.inl (z + 1), .inr (.inr (.inl (some 97))), .inl ((I 97 (z).toNat))], (am_mm D I J ρ))) rfl ?_
    refine am_e_iaload (m := 6) rfl rfl (by omega) (by omega) (by omega) ?_
    show am_E _ _ _ 25 [(1, .inl z), (0, .inr (.inr (.inl (some 71))))] [.inl ((I 97 ((z + 1)).toNat)), .inl ((I 97 (z).toNat))] (am_mm D I J ρ) _
    refine am_e_icmp2 rfl ⟨by omega, by omega⟩ ⟨by omega, by omega⟩ (fun (hw3 : (I 97 (z).toNat) ≤ (I 97 ((z + 1)).toNat)) => ?_) (fun (hw3 : ¬ ((I 97 (z).toNat) ≤ (I 97 ((z + 1)).toNat))) => ?_)
    · show am_E _ _ _ 34 [(1, .inl z), (0, .inr (.inr (.inl (some 71))))] [] (am_mm D I J ρ) _
      refine am_e_ss 1 (q := (35, [(1, .inl z), (0, .inr (.inr (.inl (some 71))))], [.inl z], (am_mm D I J ρ))) rfl ?_
      refine am_e_if2 rfl ⟨by omega, by omega⟩ (fun (hw4 : 0 ≤ z) => ?_) (fun (hw4 : ¬ (0 ≤ z)) => ?_)
      · show am_E _ _ _ 40 [(1, .inl z), (0, .inr (.inr (.inl (some 71))))] [] (am_mm D I J ρ) _
        refine am_e_ss 5 (q := (47, [(2, .inl ((I 71 3) - 1)), (1, .inl z), (0, .inr (.inr (.inl (some 71))))], [], (am_mm D I J ρ))) rfl ?_
        subst hk1
        have el : nx_left q (k1 + 1) = some k1 := if_neg (by omega)
        refine (am_less (lv := [(2, .inl (((I 71 3) - 1))), (1, .inl z), (0, .inr (.inr (.inl (some 71))))]) rfl (List.forall_mem_cons.mpr ⟨rfl, List.forall_mem_cons.mpr ⟨rfl, List.forall_mem_cons.mpr ⟨rfl, List.forall_mem_nil _⟩⟩⟩) (c_next_4 (I := I) d (q := q) (l := k1) (r := q.length - 1) h3 h6 hx6 hrow (by omega) (by omega) (hl.trans el) rfl)).imp ?_
        rintro r ⟨Q9, rfl, h9⟩
        exact ⟨Q9, am_r_wk uN (am_k_id), h9⟩
      · show am_E _ _ _ 38 [(1, .inl z), (0, .inr (.inr (.inl (some 71))))] [] (am_mm D I J ρ) _
        refine am_e_ss 1 (q := (39, [(1, .inl z), (0, .inr (.inr (.inl (some 71))))], [.inl 0], (am_mm D I J ρ))) rfl ?_
        refine am_e_ireturn rfl rfl ?_
        have ek : k = 0 := by omega
        subst ek
        have hn : nx q = none := by
          unfold nx
          rw [hl]
          rfl
        rw [hn, if_pos rfl]
        exact ⟨I, am_r_wp uN am_k_id, fun q2 h2 => by cases h2⟩
    · show am_E _ _ _ 28 [(1, .inl z), (0, .inr (.inr (.inl (some 71))))] [] (am_mm D I J ρ) _
      refine am_e_ss 2 (q := (7, [(1, .inl (z + (-1))), (0, .inr (.inr (.inl (some 71))))], [], (am_mm D I J ρ))) rfl ?_
      subst hk1
      have el : nx_left q (k1 + 1) = nx_left q k1 := if_pos (by omega)
      refine (am_less (lv := [(1, .inl ((z + (-1)))), (0, .inr (.inr (.inl (some 71))))]) rfl (List.forall_mem_cons.mpr ⟨rfl, List.forall_mem_cons.mpr ⟨rfl, List.forall_mem_nil _⟩⟩) (c_next_7 (I := I) d (q := q) (k := k1) h3 h6 hx6 hrow (by omega) (hl.trans el))).imp ?_
      rintro r ⟨Q9, rfl, h9⟩
      exact ⟨Q9, am_r_wk uN (am_k_id), h9⟩
termination_by k
decreasing_by all_goals omega
theorem c_next {X : Nat × (Nat → Int)} {D : List (Nat × Nat)} {I J : Nat → Nat → Int} {ρ : Nat → Nat → Option Nat} (d : Nat) {q : List Nat} (h3 : I 71 3 = (q.length : Int)) (h6 : q.length ≤ 6) (hx6 : ∀ x ∈ q, x < 6) (hrow : am_rowl (I 97) 0 q) (hne : ¬ q = []) : am_E X (d + 1) 85 0 [(0, .inr (.inr (.inl (some 71))))] [] (am_mm D I J ρ) (fun r => ∃ Q, r = (some (.inl (if nx q = none then 0 else 1)), am_mm D (am_wp uN I Q) J ρ) ∧ ∀ q2, nx q = some q2 → am_rowl (Q 97) 0 q2) := by
  refine am_e_ss 5 (q := (7, [(1, .inl ((I 71 3) - 2)), (0, .inr (.inr (.inl (some 71))))], [], (am_mm D I J ρ))) rfl ?_
  refine (am_less (lv := [(1, .inl (((I 71 3) - 2))), (0, .inr (.inr (.inl (some 71))))]) rfl (List.forall_mem_cons.mpr ⟨rfl, List.forall_mem_cons.mpr ⟨rfl, List.forall_mem_nil _⟩⟩) (c_next_7 (I := I) d (q := q) (k := q.length - 1) h3 h6 hx6 hrow (by have := List.length_pos_iff.mpr hne; omega) rfl)).imp ?_
  rintro r ⟨Q9, rfl, h9⟩
  exact ⟨Q9, am_r_wk uN (am_k_id), h9⟩
theorem c_start {X : Nat × (Nat → Int)} {D : List (Nat × Nat)} {I J : Nat → Nat → Int} {ρ : Nat → Nat → Option Nat} (d : Nat)  : am_E X (d + 1) 84 0 [(0, .inr (.inr (.inl (some 71))))] [] (am_mm D I J ρ) (fun r => r = (none, (am_mm D (am_cpg I 97 0 72 0 6) J ρ))) := by
  refine am_e_ss 7 (q := (12, [(0, .inr (.inr (.inl (some 71))))], [.inl 6, .inl 0, .inr (.inr (.inl (some 97))), .inl 0, .inr (.inr (.inl (some 72)))], (am_mm D I J ρ))) rfl ?_
  refine am_e_cp (k := 97) (q := 72) (a := 6) (b := 6) (dp := 0) (sp := 0) (n' := 6) rfl rfl rfl rfl rfl (by decide) (by decide) (by decide) (Nat.le_of_ble_eq_true rfl) ?_
  show am_E _ _ _ 15 [(0, .inr (.inr (.inl (some 71))))] [] (am_mm D (am_cpg I 97 0 72 0 6) J ρ) _
  refine am_e_return rfl rfl ?_
  rfl
/-! all rows, one after another -/
def nx_pl (o : List Nat) : Nat → List Nat → List (List Nat)
  | 0, p => [p]
  | n + 1, p => (o.filter (fun x => !(p.contains x))).flatMap (fun b => nx_pl o n (p ++ [b]))
def nx_ch : List (List Nat) → Bool
  | [] => true
  | [q] => (nx q).isNone
  | q :: q' :: r => (nx q == some q') && nx_ch (q' :: r)
def nx_hd (o : List Nat) : List (List Nat) → Bool
  | [] => false
  | q :: r => (q == o) && (decide (r.length < 120) && nx_ch (q :: r))
def nx_o (b0 b1 b2 b3 b4 b5 : Bool) : List Nat := (if b0 then [0] else []) ++ ((if b1 then [1] else []) ++ ((if b2 then [2] else []) ++ ((if b3 then [3] else []) ++ ((if b4 then [4] else []) ++ (if b5 then [5] else [])))))
theorem nx_ok : ∀ b0 b1 b2 b3 b4 b5 : Bool, (b0 && b1 && b2 && b3 && b4 && b5) = true ∨ nx_hd (nx_o b0 b1 b2 b3 b4 b5) (nx_pl (nx_o b0 b1 b2 b3 b4 b5) (nx_o b0 b1 b2 b3 b4 b5).length []) = true := by decide +kernel
theorem nx_o_6 : ∀ b0 b1 b2 b3 b4 b5 : Bool, (b0 && b1 && b2 && b3 && b4 && b5) = true → (nx_o b0 b1 b2 b3 b4 b5).length = 6 := by decide
theorem nx_ob {S : Nat → Int} {B : Int} (hok : r_ok S B) : sp_ob S = nx_o (decide (0 < (S 20).toNat) && decide (S 13 = 0)) (decide (1 < (S 20).toNat) && decide (S 14 = 0)) (decide (2 < (S 20).toNat) && decide (S 15 = 0)) (decide (3 < (S 20).toNat) && decide (S 16 = 0)) (decide (4 < (S 20).toNat) && decide (S 17 = 0)) (decide (5 < (S 20).toNat) && decide (S 18 = 0)) := by
  have h20 := (r_ok_19 hok).2
  unfold sp_ob nx_o
  have h : (S 20).toNat = 0 ∨ (S 20).toNat = 1 ∨ (S 20).toNat = 2 ∨ (S 20).toNat = 3 ∨ (S 20).toNat = 4 ∨ (S 20).toNat = 5 ∨ (S 20).toNat = 6 := by omega
  rcases h with h | h | h | h | h | h | h <;> rw [h] <;> simp only [sp_obk] <;> (try by_cases e0 : S 13 = 0) <;> (try by_cases e1 : S 14 = 0) <;> (try by_cases e2 : S 15 = 0) <;> (try by_cases e3 : S 16 = 0) <;> (try by_cases e4 : S 17 = 0) <;> (try by_cases e5 : S 18 = 0) <;> simp [*]
theorem nx_pl2 {S : Nat → Int} : ∀ n p, sp_pl2 S n p = nx_pl (sp_ob S) n p := by
  intro n
  induction n with
  | zero => intro p; rfl
  | succ n ih =>
    intro p
    unfold sp_pl2 nx_pl sp_lft sp_lfk
    rw [show (fun b => sp_pl2 S n (p ++ [b])) = fun b => nx_pl (sp_ob S) n (p ++ [b]) from funext (fun b => ih _)]
    rfl
/-- the rows of all open books, as the class goes through them -/
theorem nx_rows {S : Nat → Int} {B : Int} (hok : r_ok S B) (h5 : sp_ops S ≤ 5) : ∃ r, sp_pl2 S (sp_ops S).toNat [] = sp_ob S :: r ∧ r.length < 120 ∧ nx_ch (sp_ob S :: r) = true := by
  have hl := sp_ob_len (S := S)
  have ho := nx_ob hok
  have hk := nx_ok (decide (0 < (S 20).toNat) && decide (S 13 = 0)) (decide (1 < (S 20).toNat) && decide (S 14 = 0)) (decide (2 < (S 20).toNat) && decide (S 15 = 0)) (decide (3 < (S 20).toNat) && decide (S 16 = 0)) (decide (4 < (S 20).toNat) && decide (S 17 = 0)) (decide (5 < (S 20).toNat) && decide (S 18 = 0))
  rcases hk with hk | hk
  · exfalso
    have h6 := nx_o_6 _ _ _ _ _ _ hk
    rw [← ho] at h6
    omega
  · rw [← ho] at hk
    rw [nx_pl2, show (sp_ops S).toNat = (sp_ob S).length by omega]
    cases hP : nx_pl (sp_ob S) (sp_ob S).length [] with
    | nil => rw [hP] at hk; exact absurd (show false = true from hk) (by decide)
    | cons q r =>
      rw [hP] at hk
      unfold nx_hd at hk
      rw [Bool.and_eq_true, Bool.and_eq_true, beq_iff_eq, decide_eq_true_eq] at hk
      obtain ⟨h1, h2, h3⟩ := hk
      subst h1
      exact ⟨r, rfl, h2, h3⟩
