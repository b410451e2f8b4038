theorem c_sort_0_l {X : Nat × (Nat → Int)} {D : List (Nat × Nat)} {I J : Nat → Nat → Int} {ρ : Nat → Nat → Option Nat} (d : Nat) {l : Nat → Int} {L : List Nat} (hL : am_rowl (I 72) 0 L) (hc : I 71 3 = (L.length : Int)) (h6 : L.length ≤ 6) (hx6 : ∀ x ∈ L, x < 6) (hl : ∀ x ∈ L, I 20 x = l x ∧ (-2147483648 ≤ l x ∧ l x < 2147483648)) {kk y : Int} {i k x : Nat} (hil : i < L.length) (hx : x = L[i]) (hyx : y = (x : Int)) (hkk : kk = (k : Int)) (hk : k ≤ i) (f1 : ∀ j, j < k → I 74 j = ((sp_isrt l (L.take i)).getD j 0 : Int)) (f2 : ∀ j, k ≤ j → j < i → I 74 (j + 1) = ((sp_isrt l (L.take i)).getD j 0 : Int)) (f3 : ∀ j, k ≤ j → j < i → l ((sp_isrt l (L.take i)).getD j 0) < l x) : am_E X d 68 21 [(5, .inl kk), (4, .inl y), (3, .inl (i : Int)), (2, .inr (.inr (.inl (some 74)))), (1, .inr (.inr (.inl (some 20)))), (0, .inr (.inr (.inl (some 71))))] [] (am_mm D I J ρ) (fun q => ∃ Q, q = (none, am_mm D (am_wp (fun c _ => Nat.beq c 74) I Q) J ρ) ∧ am_rowl (Q 74) 0 (sp_isrt l L)) := by
  have hlen : (sp_isrt l (L.take i)).length = i := by rw [sp_isrt_len, List.length_take]; omega
  have hxm : x ∈ L := by rw [hx]; exact List.getElem_mem _
  have hx61 := hx6 x hxm
  have hl2 := hl x hxm
  have hl4 : I 20 (y).toNat = l x := by rw [hyx]; exact hl2.1
  have f3' : ∀ j, k ≤ j → j < (sp_isrt l (L.take i)).length → l ((sp_isrt l (L.take i)).getD j 0) < l x := fun j h1 h2 => f3 j h1 (by omega)
  refine am_e_ss 1 (q := (23, [(5, .inl kk), (4, .inl y), (3, .inl (i : Int)), (2, .inr (.inr (.inl (some 74)))), (1, .inr (.inr (.inl (some 20)))), (0, .inr (.inr (.inl (some 71))))], [.inl kk], (am_mm D I J ρ))) rfl ?_
  refine am_e_if2 rfl ⟨by omega, by omega⟩ (fun (h1 : kk ≤ 0) => ?_) (fun (h1 : ¬ (kk ≤ 0)) => ?_)
  · show am_E _ _ _ 57 [(5, .inl kk), (4, .inl y), (3, .inl (i : Int)), (2, .inr (.inr (.inl (some 74)))), (1, .inr (.inr (.inl (some 20)))), (0, .inr (.inr (.inl (some 71))))] [] (am_mm D I J ρ) _
    have hk1 : k = 0 ∨ l x ≤ l ((sp_isrt l (L.take i)).getD (k - 1) 0) := by left; omega
    refine am_e_ss 3 (q := (62, [(5, .inl kk), (4, .inl y), (3, .inl (i : Int)), (2, .inr (.inr (.inl (some 74)))), (1, .inr (.inr (.inl (some 20)))), (0, .inr (.inr (.inl (some 71))))], [.inl y, .inl kk, .inr (.inr (.inl (some 74)))], (am_mm D I J ρ))) rfl ?_
    refine am_e_iastore (m := 6) rfl rfl (by omega) (by omega) (by omega) ?_
    show am_E _ _ _ 63 [(5, .inl kk), (4, .inl y), (3, .inl (i : Int)), (2, .inr (.inr (.inl (some 74)))), (1, .inr (.inr (.inl (some 20)))), (0, .inr (.inr (.inl (some 71))))] [] (am_mm D (am_up I 74 (kk).toNat y) J ρ) _
    refine am_e_ss 5 (q := (7, [(3, .inl ((i : Int) + 1)), (5, .inl kk), (4, .inl y), (2, .inr (.inr (.inl (some 74)))), (1, .inr (.inr (.inl (some 20)))), (0, .inr (.inr (.inl (some 71))))], [.inl ((I 71 3)), .inl ((i : Int) + 1)], (am_mm D (am_up I 74 (kk).toNat y) J ρ))) rfl ?_
    refine am_e_icmp2 rfl ⟨by omega, by omega⟩ ⟨by omega, by omega⟩ (fun (h2 : (I 71 3) ≤ ((i : Int) + 1)) => ?_) (fun (h2 : ¬ ((I 71 3) ≤ ((i : Int) + 1))) => ?_)
    · show am_E _ _ _ 69 [(3, .inl ((i : Int) + 1)), (5, .inl kk), (4, .inl y), (2, .inr (.inr (.inl (some 74)))), (1, .inr (.inr (.inl (some 20)))), (0, .inr (.inr (.inl (some 71))))] [] (am_mm D (am_up I 74 (kk).toNat y) J ρ) _
      refine am_e_return rfl rfl ?_
      have hins : sp_isrt l (L.take (i + 1)) = (sp_isrt l (L.take i)).take k ++ x :: (sp_isrt l (L.take i)).drop k := by
        rw [List.take_succ, List.getElem?_eq_getElem hil, Option.toList_some, sp_isrt_s, ← hx]
        exact sp_ins_k (sp_isrt_pw _) (by omega) hk1 f3'
      have hrw : am_rowl ((am_up I 74 (kk).toNat y) 74) 0 (sp_isrt l (L.take (i + 1))) := by
        rw [hins]
        exact am_rowl_ins (by omega) (fun j hj => (am_up_ne2 (by omega)).trans (f1 j hj)) (fun j h1 h2 => (am_up_ne2 (by omega)).trans (f2 j h1 (by omega))) (by rw [show k = (kk).toNat by omega]; exact am_up_at2.trans hyx)
      rw [List.take_of_length_le (by omega)] at hrw
      exact ⟨_, am_r_wp (fun c _ => Nat.beq c 74) (am_k_up rfl (am_k_id)), hrw⟩
    · show am_E _ _ _ 10 [(3, .inl ((i : Int) + 1)), (5, .inl kk), (4, .inl y), (2, .inr (.inr (.inl (some 74)))), (1, .inr (.inr (.inl (some 20)))), (0, .inr (.inr (.inl (some 71))))] [] (am_mm D (am_up I 74 (kk).toNat y) J ρ) _
      refine am_e_ss 3 (q := (15, [(3, .inl ((i : Int) + 1)), (5, .inl kk), (4, .inl y), (2, .inr (.inr (.inl (some 74)))), (1, .inr (.inr (.inl (some 20)))), (0, .inr (.inr (.inl (some 71))))], [.inl ((i : Int) + 1), .inr (.inr (.inl (some 72)))], (am_mm D (am_up I 74 (kk).toNat y) J ρ))) rfl ?_
      refine am_e_iaload (m := 6) rfl rfl (by omega) (by omega) (by omega) ?_
      show am_E _ _ _ 16 [(3, .inl ((i : Int) + 1)), (5, .inl kk), (4, .inl y), (2, .inr (.inr (.inl (some 74)))), (1, .inr (.inr (.inl (some 20)))), (0, .inr (.inr (.inl (some 71))))] [.inl ((I 72 (i + 1)))] (am_mm D (am_up I 74 (kk).toNat y) J ρ) _
      refine am_e_ss 3 (q := (21, [(5, .inl ((i : Int) + 1)), (4, .inl ((I 72 (i + 1)))), (3, .inl ((i : Int) + 1)), (2, .inr (.inr (.inl (some 74)))), (1, .inr (.inr (.inl (some 20)))), (0, .inr (.inr (.inl (some 71))))], [], (am_mm D (am_up I 74 (kk).toNat y) J ρ))) rfl ?_
      have hins : sp_isrt l (L.take (i + 1)) = (sp_isrt l (L.take i)).take k ++ x :: (sp_isrt l (L.take i)).drop k := by
        rw [List.take_succ, List.getElem?_eq_getElem hil, Option.toList_some, sp_isrt_s, ← hx]
        exact sp_ins_k (sp_isrt_pw _) (by omega) hk1 f3'
      have hrw : am_rowl ((am_up I 74 (kk).toNat y) 74) 0 (sp_isrt l (L.take (i + 1))) := by
        rw [hins]
        exact am_rowl_ins (by omega) (fun j hj => (am_up_ne2 (by omega)).trans (f1 j hj)) (fun j h1 h2 => (am_up_ne2 (by omega)).trans (f2 j h1 (by omega))) (by rw [show k = (kk).toNat by omega]; exact am_up_at2.trans hyx)
      have hil2 : i + 1 < L.length := by omega
      have hx2 := hL (i + 1) _ (List.getElem?_eq_getElem hil2)
      rw [Nat.zero_add] at hx2
      have hlen2 : (sp_isrt l (L.take (i + 1))).length = i + 1 := by rw [sp_isrt_len, List.length_take]; omega
      refine (am_less (lv := [(5, .inl (((i : Int) + 1))), (4, .inl ((I 72 (i + 1)))), (3, .inl ((i + 1) : Int)), (2, .inr (.inr (.inl (some 74)))), (1, .inr (.inr (.inl (some 20)))), (0, .inr (.inr (.inl (some 71))))]) rfl (List.forall_mem_cons.mpr ⟨rfl, List.forall_mem_cons.mpr ⟨rfl, List.forall_mem_cons.mpr ⟨rfl, List.forall_mem_cons.mpr ⟨rfl, List.forall_mem_cons.mpr ⟨rfl, List.forall_mem_cons.mpr ⟨rfl, List.forall_mem_nil _⟩⟩⟩⟩⟩⟩) (c_sort_0_l (I := am_up I 74 (kk).toNat y) d (i := i + 1) (k := i + 1) (x := L[i + 1]) hL hc h6 hx6 hl hil2 rfl hx2 (by omega) (by omega) (fun j hj => am_rowl_d hrw (by omega)) (fun j h1 h2 => by omega) (fun j h1 h2 => by omega))).imp ?_
      rintro q ⟨Q9, rfl, h9⟩
      exact ⟨_, am_r_wp (fun c _ => Nat.beq c 74) (am_k_wp am_k_sub (am_k_up rfl (am_k_id))), h9⟩
  · show am_E _ _ _ 26 [(5, .inl kk), (4, .inl y), (3, .inl (i : Int)), (2, .inr (.inr (.inl (some 74)))), (1, .inr (.inr (.inl (some 20)))), (0, .inr (.inr (.inl (some 71))))] [] (am_mm D I J ρ) _
    have hr1 : I 74 (kk - 1).toNat = (((sp_isrt l (L.take i)).getD (k - 1) 0 : Nat) : Int) := by rw [show (kk - 1).toNat = k - 1 by omega]; exact f1 (k - 1) (by omega)
    have hmm : (sp_isrt l (L.take i)).getD (k - 1) 0 ∈ L := by
      rw [am_getD (by omega)]
      exact List.mem_of_mem_take ((sp_isrt_mem _).mp (List.getElem_mem _))
    have hl1 := hl _ hmm
    have hx62 := hx6 _ hmm
    have hl3 : I 20 (I 74 (kk - 1).toNat).toNat = l ((sp_isrt l (L.take i)).getD (k - 1) 0) := by rw [hr1]; exact hl1.1
    refine am_e_ss 5 (q := (32, [(5, .inl kk), (4, .inl y), (3, .inl (i : Int)), (2, .inr (.inr (.inl (some 74)))), (1, .inr (.inr (.inl (some 20)))), (0, .inr (.inr (.inl (some 71))))], [.inl (kk - 1), .inr (.inr (.inl (some 74))), .inr (.inr (.inl (some 20)))], (am_mm D I J ρ))) rfl ?_
    refine am_e_iaload (m := 6) rfl rfl (by omega) (by omega) (by omega) ?_
    show am_E _ _ _ 33 [(5, .inl kk), (4, .inl y), (3, .inl (i : Int)), (2, .inr (.inr (.inl (some 74)))), (1, .inr (.inr (.inl (some 20)))), (0, .inr (.inr (.inl (some 71))))] [.inl ((I 74 ((kk - 1)).toNat)), .inr (.inr (.inl (some 20)))] (am_mm D I J ρ) _
    refine am_e_iaload (m := 6) rfl rfl (by omega) (by omega) (by omega) ?_
    show am_E _ _ _ 34 [(5, .inl kk), (4, .inl y), (3, .inl (i : Int)), (2, .inr (.inr (.inl (some 74)))), (1, .inr (.inr (.inl (some 20)))), (0, .inr (.inr (.inl (some 71))))] [.inl ((I 20 ((I 74 ((kk - 1)).toNat)).toNat))] (am_mm D I J ρ) _
    refine am_e_ss 2 (q := (37, [(5, .inl kk), (4, .inl y), (3, .inl (i : Int)), (2, .inr (.inr (.inl (some 74)))), (1, .inr (.inr (.inl (some 20)))), (0, .inr (.inr (.inl (some 71))))], [.inl y, .inr (.inr (.inl (some 20))), .inl ((I 20 ((I 74 ((kk - 1)).toNat)).toNat))], (am_mm D I J ρ))) rfl ?_
    refine am_e_iaload (m := 6) rfl rfl (by omega) (by omega) (by omega) ?_
    show am_E _ _ _ 38 [(5, .inl kk), (4, .inl y), (3, .inl (i : Int)), (2, .inr (.inr (.inl (some 74)))), (1, .inr (.inr (.inl (some 20)))), (0, .inr (.inr (.inl (some 71))))] [.inl ((I 20 (y).toNat)), .inl ((I 20 ((I 74 ((kk - 1)).toNat)).toNat))] (am_mm D I J ρ) _
    refine am_e_icmp2 rfl ⟨by omega, by omega⟩ ⟨by omega, by omega⟩ (fun (h3 : (I 20 (y).toNat) ≤ (I 20 ((I 74 ((kk - 1)).toNat)).toNat)) => ?_) (fun (h3 : ¬ ((I 20 (y).toNat) ≤ (I 20 ((I 74 ((kk - 1)).toNat)).toNat))) => ?_)
    · show am_E _ _ _ 57 [(5, .inl kk), (4, .inl y), (3, .inl (i : Int)), (2, .inr (.inr (.inl (some 74)))), (1, .inr (.inr (.inl (some 20)))), (0, .inr (.inr (.inl (some 71))))] [] (am_mm D I J ρ) _
      have hk1 : k = 0 ∨ l x ≤ l ((sp_isrt l (L.take i)).getD (k - 1) 0) := by right; omega
      refine am_e_ss 3 (q := (62, [(5, .inl kk), (4, .inl y), (3, .inl (i : Int)), (2, .inr (.inr (.inl (some 74)))), (1, .inr (.inr (.inl (some 20)))), (0, .inr (.inr (.inl (some 71))))], [.inl y, .inl kk, .inr (.inr (.inl (some 74)))], (am_mm D I J ρ))) rfl ?_
      refine am_e_iastore (m := 6) rfl rfl (by omega) (by omega) (by omega) ?_
      show am_E _ _ _ 63 [(5, .inl kk), (4, .inl y), (3, .inl (i : Int)), (2, .inr (.inr (.inl (some 74)))), (1, .inr (.inr (.inl (some 20)))), (0, .inr (.inr (.inl (some 71))))] [] (am_mm D (am_up I 74 (kk).toNat y) J ρ) _
      refine am_e_ss 5 (q := (7, [(3, .inl ((i : Int) + 1)), (5, .inl kk), (4, .inl y), (2, .inr (.inr (.inl (some 74)))), (1, .inr (.inr (.inl (some 20)))), (0, .inr (.inr (.inl (some 71))))], [.inl ((I 71 3)), .inl ((i : Int) + 1)], (am_mm D (am_up I 74 (kk).toNat y) J ρ))) rfl ?_
      refine am_e_icmp2 rfl ⟨by omega, by omega⟩ ⟨by omega, by omega⟩ (fun (h4 : (I 71 3) ≤ ((i : Int) + 1)) => ?_) (fun (h4 : ¬ ((I 71 3) ≤ ((i : Int) + 1))) => ?_)
      · show am_E _ _ _ 69 [(3, .inl ((i : Int) + 1)), (5, .inl kk), (4, .inl y), (2, .inr (.inr (.inl (some 74)))), (1, .inr (.inr (.inl (some 20)))), (0, .inr (.inr (.inl (some 71))))] [] (am_mm D (am_up I 74 (kk).toNat y) J ρ) _
        refine am_e_return rfl rfl ?_
        have hins : sp_isrt l (L.take (i + 1)) = (sp_isrt l (L.take i)).take k ++ x :: (sp_isrt l (L.take i)).drop k := by
          rw [List.take_succ, List.getElem?_eq_getElem hil, Option.toList_some, sp_isrt_s, ← hx]
          exact sp_ins_k (sp_isrt_pw _) (by omega) hk1 f3'
        have hrw : am_rowl ((am_up I 74 (kk).toNat y) 74) 0 (sp_isrt l (L.take (i + 1))) := by
          rw [hins]
          exact am_rowl_ins (by omega) (fun j hj => (am_up_ne2 (by omega)).trans (f1 j hj)) (fun j h1 h2 => (am_up_ne2 (by omega)).trans (f2 j h1 (by omega))) (by rw [show k = (kk).toNat by omega]; exact am_up_at2.trans hyx)
        rw [List.take_of_length_le (by omega)] at hrw
        exact ⟨_, am_r_wp (fun c _ => Nat.beq c 74) (am_k_up rfl (am_k_id)), hrw⟩
      · show am_E _ _ _ 10 [(3, .inl ((i : Int) + 1)), (5, .inl kk), (4, .inl y), (2, .inr (.inr (.inl (some 74)))), (1, .inr (.inr (.inl (some 20)))), (0, .inr (.inr (.inl (some 71))))] [] (am_mm D (am_up I 74 (kk).toNat y) J ρ) _
        refine am_e_ss 3 (q := (15, [(3, .inl ((i : Int) + 1)), (5, .inl kk), (4, .inl y), (2, .inr (.inr (.inl (some 74)))), (1, .inr (.inr (.inl (some 20)))), (0, .inr (.inr (.inl (some 71))))], [.inl ((i : Int) + 1), .inr (.inr (.inl (some 72)))], (am_mm D (am_up I 74 (kk).toNat y) J ρ))) rfl ?_
        refine am_e_iaload (m := 6) rfl rfl (by omega) (by omega) (by omega) ?_
        show am_E _ _ _ 16 [(3, .inl ((i : Int) + 1)), (5, .inl kk), (4, .inl y), (2, .inr (.inr (.inl (some 74)))), (1, .inr (.inr (.inl (some 20)))), (0, .inr (.inr (.inl (some 71))))] [.inl ((I 72 (i + 1)))] (am_mm D (am_up I 74 (kk).toNat y) J ρ) _
        refine am_e_ss 3 (q := (21, [(5, .inl ((i : Int) + 1)), (4, .inl ((I 72 (i + 1)))), (3, .inl ((i : Int) + 1)), (2, .inr (.inr (.inl (some 74)))), (1, .inr (.inr (.inl (some 20)))), (0, .inr (.inr (.inl (some 71))))], [], (am_mm D (am_up I 74 (kk).toNat y) J ρ))) rfl ?_
        have hins : sp_isrt l (L.take (i + 1)) = (sp_isrt l (L.take i)).take k ++ x :: (sp_isrt l (L.take i)).drop k := by
          rw [List.take_succ, List.getElem?_eq_getElem hil, Option.toList_some, sp_isrt_s, ← hx]
          exact sp_ins_k (sp_isrt_pw _) (by omega) hk1 f3'
        have hrw : am_rowl ((am_up I 74 (kk).toNat y) 74) 0 (sp_isrt l (L.take (i + 1))) := by
          rw [hins]
          exact am_rowl_ins (by omega) (fun j hj => (am_up_ne2 (by omega)).trans (f1 j hj)) (fun j h1 h2 => (am_up_ne2 (by omega)).trans (f2 j h1 (by omega))) (by rw [show k = (kk).toNat by omega]; exact am_up_at2.trans hyx)
        have hil2 : i + 1 < L.length := by omega
        have hx2 := hL (i + 1) _ (List.getElem?_eq_getElem hil2)
        rw [Nat.zero_add] at hx2
        have hlen2 : (sp_isrt l (L.take (i + 1))).length = i + 1 := by rw [sp_isrt_len, List.length_take]; omega
        refine (am_less (lv := [(5, .inl (((i : Int) + 1))), (4, .inl ((I 72 (i + 1)))), (3, .inl ((i + 1) : Int)), (2, .inr (.inr (.inl (some 74)))), (1, .inr (.inr (.inl (some 20)))), (0, .inr (.inr (.inl (some 71))))]) rfl (List.forall_mem_cons.mpr ⟨rfl, List.forall_mem_cons.mpr ⟨rfl, List.forall_mem_cons.mpr ⟨rfl, List.forall_mem_cons.mpr ⟨rfl, List.forall_mem_cons.mpr ⟨rfl, List.forall_mem_cons.mpr ⟨rfl, List.forall_mem_nil _⟩⟩⟩⟩⟩⟩) (c_sort_0_l (I := am_up I 74 (kk).toNat y) d (i := i + 1) (k := i + 1) (x := L[i + 1]) hL hc h6 hx6 hl hil2 rfl hx2 (by omega) (by omega) (fun j hj => am_rowl_d hrw (by omega)) (fun j h1 h2 => by omega) (fun j h1 h2 => by omega))).imp ?_
        rintro q ⟨Q9, rfl, h9⟩
        exact ⟨_, am_r_wp (fun c _ => Nat.beq c 74) (am_k_wp am_k_sub (am_k_up rfl (am_k_id))), h9⟩
    · show am_E _ _ _ 41 [(5, .inl kk), (4, .inl y), (3, .inl (i : Int)), (2, .inr (.inr (.inl (some 74)))), (1, .inr (.inr (.inl (some 20)))), (0, .inr (.inr (.inl (some 71))))] [] (am_mm D I J ρ) _
      have hlt : l ((sp_isrt l (L.take i)).getD (k - 1) 0) < l x := by omega
      refine am_e_ss 6 (q := (49, [(5, .inl kk), (4, .inl y), (3, .inl (i : Int)), (2, .inr (.inr (.inl (some 74)))), (1, .inr (.inr (.inl (some 20)))), (0, .inr (.inr (.inl (some 71))))], [.inl (kk - 1), .inr (.inr (.inl (some 74))), .inl kk, .inr (.inr (.inl (some 74)))], (am_mm D I J ρ))) rfl ?_
      refine am_e_iaload (m := 6) rfl rfl (by omega) (by omega) (by omega) ?_
      show am_E _ _ _ 50 [(5, .inl kk), (4, .inl y), (3, .inl (i : Int)), (2, .inr (.inr (.inl (some 74)))), (1, .inr (.inr (.inl (some 20)))), (0, .inr (.inr (.inl (some 71))))] [.inl ((I 74 ((kk - 1)).toNat)), .inl kk, .inr (.inr (.inl (some 74)))] (am_mm D I J ρ) _
      refine am_e_iastore (m := 6) rfl rfl (by omega) (by omega) (by omega) ?_
      show am_E _ _ _ 51 [(5, .inl kk), (4, .inl y), (3, .inl (i : Int)), (2, .inr (.inr (.inl (some 74)))), (1, .inr (.inr (.inl (some 20)))), (0, .inr (.inr (.inl (some 71))))] [] (am_mm D (am_up I 74 (kk).toNat (I 74 ((kk - 1)).toNat)) J ρ) _
      refine am_e_ss 2 (q := (21, [(5, .inl (kk + (-1))), (4, .inl y), (3, .inl (i : Int)), (2, .inr (.inr (.inl (some 74)))), (1, .inr (.inr (.inl (some 20)))), (0, .inr (.inr (.inl (some 71))))], [], (am_mm D (am_up I 74 (kk).toNat (I 74 ((kk - 1)).toNat)) J ρ))) rfl ?_
      obtain ⟨k', rfl⟩ : ∃ k', k = k' + 1 := ⟨k - 1, by omega⟩
      have ek : (kk).toNat = k' + 1 := by omega
      have g1 : ∀ j, j < k' → (am_up I 74 (kk).toNat (I 74 ((kk - 1)).toNat)) 74 j = ((sp_isrt l (L.take i)).getD j 0 : Int) := fun j hj => (am_up_ne2 (by omega)).trans (f1 j (by omega))
      have g2 : ∀ j, k' ≤ j → j < i → (am_up I 74 (kk).toNat (I 74 ((kk - 1)).toNat)) 74 (j + 1) = ((sp_isrt l (L.take i)).getD j 0 : Int) := by
        intro j h1 h2
        by_cases e : j = k'
        · subst e; rw [← ek]; refine am_up_at2.trans ?_; rw [show (kk - 1).toNat = j by omega]; exact f1 j (by omega)
        · exact (am_up_ne2 (by omega)).trans (f2 j (by omega) h2)
      have g3 : ∀ j, k' ≤ j → j < i → l ((sp_isrt l (L.take i)).getD j 0) < l x := by
        intro j h1 h2
        by_cases e : j = k'
        · subst e; exact hlt
        · exact f3 j (by omega) h2
      refine (am_less (lv := [(5, .inl ((kk + (-1)))), (4, .inl y), (3, .inl (i : Int)), (2, .inr (.inr (.inl (some 74)))), (1, .inr (.inr (.inl (some 20)))), (0, .inr (.inr (.inl (some 71))))]) rfl (List.forall_mem_cons.mpr ⟨rfl, List.forall_mem_cons.mpr ⟨rfl, List.forall_mem_cons.mpr ⟨rfl, List.forall_mem_cons.mpr ⟨rfl, List.forall_mem_cons.mpr ⟨rfl, List.forall_mem_cons.mpr ⟨rfl, List.forall_mem_nil _⟩⟩⟩⟩⟩⟩) (c_sort_0_l (I := am_up I 74 (kk).toNat (I 74 ((kk - 1)).toNat)) d (i := i) (k := k') (x := x) hL hc h6 hx6 hl hil hx hyx (by omega) (by omega) g1 g2 g3)).imp ?_
      rintro q ⟨Q9, rfl, h9⟩
      exact ⟨_, am_r_wp (fun c _ => Nat.beq c 74) (am_k_wp am_k_sub (am_k_up rfl (am_k_id))), h9⟩
termination_by (8 * (7 - i) + k)
decreasing_by all_goals omega
theorem c_sort_0 {X : Nat × (Nat → Int)} {D : List (Nat × Nat)} {I J : Nat → Nat → Int} {ρ : Nat → Nat → Option Nat} (d : Nat) {l : Nat → Int} {L : List Nat} (hL : am_rowl (I 72) 0 L) (hc : I 71 3 = (L.length : Int)) (h6 : L.length ≤ 6) (hx6 : ∀ x ∈ L, x < 6) (hl : ∀ x ∈ L, I 20 x = l x ∧ (-2147483648 ≤ l x ∧ l x < 2147483648))  : am_E X d 68 0 [(0, .inr (.inr (.inl (some 71)))), (1, .inr (.inr (.inl (some 20)))), (2, .inr (.inr (.inl (some 74))))] [] (am_mm D I J ρ) (fun q => ∃ Q, q = (none, am_mm D (am_wp (fun c _ => Nat.beq c 74) I Q) J ρ) ∧ am_rowl (Q 74) 0 (sp_isrt l L)) := by
  refine am_e_ss 5 (q := (7, [(3, .inl 0), (0, .inr (.inr (.inl (some 71)))), (1, .inr (.inr (.inl (some 20)))), (2, .inr (.inr (.inl (some 74))))], [.inl ((I 71 3)), .inl 0], (am_mm D I J ρ))) rfl ?_
  refine am_e_icmp2 rfl ⟨by omega, by omega⟩ ⟨by omega, by omega⟩ (fun (h1 : (I 71 3) ≤ 0) => ?_) (fun (h1 : ¬ ((I 71 3) ≤ 0)) => ?_)
  · show am_E _ _ _ 69 [(3, .inl 0), (0, .inr (.inr (.inl (some 71)))), (1, .inr (.inr (.inl (some 20)))), (2, .inr (.inr (.inl (some 74))))] [] (am_mm D I J ρ) _
    refine am_e_return rfl rfl ?_
    have e0 : L = [] := List.eq_nil_of_length_eq_zero (by omega)
    subst e0
    exact ⟨I, am_r_wp (fun c _ => Nat.beq c 74) am_k_id, am_rowl_nil⟩
  · show am_E _ _ _ 10 [(3, .inl 0), (0, .inr (.inr (.inl (some 71)))), (1, .inr (.inr (.inl (some 20)))), (2, .inr (.inr (.inl (some 74))))] [] (am_mm D I J ρ) _
    refine am_e_ss 7 (q := (21, [(5, .inl 0), (4, .inl ((I 72 0))), (3, .inl 0), (0, .inr (.inr (.inl (some 71)))), (1, .inr (.inr (.inl (some 20)))), (2, .inr (.inr (.inl (some 74))))], [], (am_mm D I J ρ))) rfl ?_
    have hil : 0 < L.length := by omega
    have hx2 := hL 0 _ (List.getElem?_eq_getElem hil)
    refine (am_less (lv := [(5, .inl 0), (4, .inl ((I 72 0))), (3, .inl (0 : Int)), (2, .inr (.inr (.inl (some 74)))), (1, .inr (.inr (.inl (some 20)))), (0, .inr (.inr (.inl (some 71))))]) rfl (List.forall_mem_cons.mpr ⟨rfl, List.forall_mem_cons.mpr ⟨rfl, List.forall_mem_cons.mpr ⟨rfl, List.forall_mem_cons.mpr ⟨rfl, List.forall_mem_cons.mpr ⟨rfl, List.forall_mem_cons.mpr ⟨rfl, List.forall_mem_nil _⟩⟩⟩⟩⟩⟩) (c_sort_0_l (I := I) d (i := 0) (k := 0) (x := L[0]) hL hc h6 hx6 hl hil rfl hx2 (by omega) (by omega) (fun j hj => by omega) (fun j h1 h2 => by omega) (fun j h1 h2 => by omega))).imp ?_
    rintro q ⟨Q9, rfl, h9⟩
    exact ⟨_, am_r_wp (fun c _ => Nat.beq c 74) (am_k_wp am_k_sub (am_k_id)), h9⟩
theorem c_sort_1_l {X : Nat × (Nat → Int)} {D : List (Nat × Nat)} {I J : Nat → Nat → Int} {ρ : Nat → Nat → Option Nat} (d : Nat) {l : Nat → Int} {L : List Nat} (hL : am_rowl (I 72) 0 L) (hc : I 71 3 = (L.length : Int)) (h6 : L.length ≤ 6) (hx6 : ∀ x ∈ L, x < 6) (hl : ∀ x ∈ L, I 21 x = l x ∧ (-2147483648 ≤ l x ∧ l x < 2147483648)) {kk y : Int} {i k x : Nat} (hil : i < L.length) (hx : x = L[i]) (hyx : y = (x : Int)) (hkk : kk = (k : Int)) (hk : k ≤ i) (f1 : ∀ j, j < k → I 75 j = ((sp_isrt l (L.take i)).getD j 0 : Int)) (f2 : ∀ j, k ≤ j → j < i → I 75 (j + 1) = ((sp_isrt l (L.take i)).getD j 0 : Int)) (f3 : ∀ j, k ≤ j → j < i → l ((sp_isrt l (L.take i)).getD j 0) < l x) : am_E X d 68 21 [(5, .inl kk), (4, .inl y), (3, .inl (i : Int)), (2, .inr (.inr (.inl (some 75)))), (1, .inr (.inr (.inl (some 21)))), (0, .inr (.inr (.inl (some 71))))] [] (am_mm D I J ρ) (fun q => ∃ Q, q = (none, am_mm D (am_wp (fun c _ => Nat.beq c 75) I Q) J ρ) ∧ am_rowl (Q 75) 0 (sp_isrt l L)) := by
  have hlen : (sp_isrt l (L.take i)).length = i := by rw [sp_isrt_len, List.length_take]; omega
  have hxm : x ∈ L := by rw [hx]; exact List.getElem_mem _
  have hx61 := hx6 x hxm
  have hl2 := hl x hxm
  have hl4 : I 21 (y).toNat = l x := by rw [hyx]; exact hl2.1
  have f3' : ∀ j, k ≤ j → j < (sp_isrt l (L.take i)).length → l ((sp_isrt l (L.take i)).getD j 0) < l x := fun j h1 h2 => f3 j h1 (by omega)
  refine am_e_ss 1 (q := (23, [(5, .inl kk), (4, .inl y), (3, .inl (i : Int)), (2, .inr (.inr (.inl (some 75)))), (1, .inr (.inr (.inl (some 21)))), (0, .inr (.inr (.inl (some 71))))], [.inl kk], (am_mm D I J ρ))) rfl ?_
  refine am_e_if2 rfl ⟨by omega, by omega⟩ (fun (h1 : kk ≤ 0) => ?_) (fun (h1 : ¬ (kk ≤ 0)) => ?_)
  · show am_E _ _ _ 57 [(5, .inl kk), (4, .inl y), (3, .inl (i : Int)), (2, .inr (.inr (.inl (some 75)))), (1, .inr (.inr (.inl (some 21)))), (0, .inr (.inr (.inl (some 71))))] [] (am_mm D I J ρ) _
    have hk1 : k = 0 ∨ l x ≤ l ((sp_isrt l (L.take i)).getD (k - 1) 0) := by left; omega
    refine am_e_ss 3 (q := (62, [(5, .inl kk), (4, .inl y), (3, .inl (i : Int)), (2, .inr (.inr (.inl (some 75)))), (1, .inr (.inr (.inl (some 21)))), (0, .inr (.inr (.inl (some 71))))], [.inl y, .inl kk, .inr (.inr (.inl (some 75)))], (am_mm D I J ρ))) rfl ?_
    refine am_e_iastore (m := 6) rfl rfl (by omega) (by omega) (by omega) ?_
    show am_E _ _ _ 63 [(5, .inl kk), (4, .inl y), (3, .inl (i : Int)), (2, .inr (.inr (.inl (some 75)))), (1, .inr (.inr (.inl (some 21)))), (0, .inr (.inr (.inl (some 71))))] [] (am_mm D (am_up I 75 (kk).toNat y) J ρ) _
    refine am_e_ss 5 (q := (7, [(3, .inl ((i : Int) + 1)), (5, .inl kk), (4, .inl y), (2, .inr (.inr (.inl (some 75)))), (1, .inr (.inr (.inl (some 21)))), (0, .inr (.inr (.inl (some 71))))], [.inl ((I 71 3)), .inl ((i : Int) + 1)], (am_mm D (am_up I 75 (kk).toNat y) J ρ))) rfl ?_
    refine am_e_icmp2 rfl ⟨by omega, by omega⟩ ⟨by omega, by omega⟩ (fun (h2 : (I 71 3) ≤ ((i : Int) + 1)) => ?_) (fun (h2 : ¬ ((I 71 3) ≤ ((i : Int) + 1))) => ?_)
    · show am_E _ _ _ 69 [(3, .inl ((i : Int) + 1)), (5, .inl kk), (4, .inl y), (2, .inr (.inr (.inl (some 75)))), (1, .inr (.inr (.inl (some 21)))), (0, .inr (.inr (.inl (some 71))))] [] (am_mm D (am_up I 75 (kk).toNat y) J ρ) _
      refine am_e_return rfl rfl ?_
      have hins : sp_isrt l (L.take (i + 1)) = (sp_isrt l (L.take i)).take k ++ x :: (sp_isrt l (L.take i)).drop k := by
        rw [List.take_succ, List.getElem?_eq_getElem hil, Option.toList_some, sp_isrt_s, ← hx]
        exact sp_ins_k (sp_isrt_pw _) (by omega) hk1 f3'
      have hrw : am_rowl ((am_up I 75 (kk).toNat y) 75) 0 (sp_isrt l (L.take (i + 1))) := by
        rw [hins]
        exact am_rowl_ins (by omega) (fun j hj => (am_up_ne2 (by omega)).trans (f1 j hj)) (fun j h1 h2 => (am_up_ne2 (by omega)).trans (f2 j h1 (by omega))) (by rw [show k = (kk).toNat by omega]; exact am_up_at2.trans hyx)
      rw [List.take_of_length_le (by omega)] at hrw
      exact ⟨_, am_r_wp (fun c _ => Nat.beq c 75) (am_k_up rfl (am_k_id)), hrw⟩
    · show am_E _ _ _ 10 [(3, .inl ((i : Int) + 1)), (5, .inl kk), (4, .inl y), (2, .inr (.inr (.inl (some 75)))), (1, .inr (.inr (.inl (some 21)))), (0, .inr (.inr (.inl (some 71))))] [] (am_mm D (am_up I 75 (kk).toNat y) J ρ) _
      refine am_e_ss 3 (q := (15, [(3, .inl ((i : Int) + 1)), (5, .inl kk), (4, .inl y), (2, .inr (.inr (.inl (some 75)))), (1, .inr (.inr (.inl (some 21)))), (0, .inr (.inr (.inl (some 71))))], [.inl ((i : Int) + 1), .inr (.inr (.inl (some 72)))], (am_mm D (am_up I 75 (kk).toNat y) J ρ))) rfl ?_
      refine am_e_iaload (m := 6) rfl rfl (by omega) (by omega) (by omega) ?_
      show am_E _ _ _ 16 [(3, .inl ((i : Int) + 1)), (5, .inl kk), (4, .inl y), (2, .inr (.inr (.inl (some 75)))), (1, .inr (.inr (.inl (some 21)))), (0, .inr (.inr (.inl (some 71))))] [.inl ((I 72 (i + 1)))] (am_mm D (am_up I 75 (kk).toNat y) J ρ) _
      refine am_e_ss 3 (q := (21, [(5, .inl ((i : Int) + 1)), (4, .inl ((I 72 (i + 1)))), (3, .inl ((i : Int) + 1)), (2, .inr (.inr (.inl (some 75)))), (1, .inr (.inr (.inl (some 21)))), (0, .inr (.inr (.inl (some 71))))], [], (am_mm D (am_up I 75 (kk).toNat y) J ρ))) rfl ?_
      have hins : sp_isrt l (L.take (i + 1)) = (sp_isrt l (L.take i)).take k ++ x :: (sp_isrt l (L.take i)).drop k := by
        rw [List.take_succ, List.getElem?_eq_getElem hil, Option.toList_some, sp_isrt_s, ← hx]
        exact sp_ins_k (sp_isrt_pw _) (by omega) hk1 f3'
      have hrw : am_rowl ((am_up I 75 (kk).toNat y) 75) 0 (sp_isrt l (L.take (i + 1))) := by
        rw [hins]
        exact am_rowl_ins (by omega) (fun j hj => (am_up_ne2 (by omega)).trans (f1 j hj)) (fun j h1 h2 => (am_up_ne2 (by omega)).trans (f2 j h1 (by omega))) (by rw [show k = (kk).toNat by omega]; exact am_up_at2.trans hyx)
      have hil2 : i + 1 < L.length := by omega
      have hx2 := hL (i + 1) _ (List.getElem?_eq_getElem hil2)
      rw [Nat.zero_add] at hx2
      have hlen2 : (sp_isrt l (L.take (i + 1))).length = i + 1 := by rw [sp_isrt_len, List.length_take]; omega
      refine (am_less (lv := [(5, .inl (((i : Int) + 1))), (4, .inl ((I 72 (i + 1)))), (3, .inl ((i + 1) : Int)), (2, .inr (.inr (.inl (some 75)))), (1, .inr (.inr (.inl (some 21)))), (0, .inr (.inr (.inl (some 71))))]) rfl (List.forall_mem_cons.mpr ⟨rfl, List.forall_mem_cons.mpr ⟨rfl, List.forall_mem_cons.mpr ⟨rfl, List.forall_mem_cons.mpr ⟨rfl, List.forall_mem_cons.mpr ⟨rfl, List.forall_mem_cons.mpr ⟨rfl, List.forall_mem_nil _⟩⟩⟩⟩⟩⟩) (c_sort_1_l (I := am_up I 75 (kk).toNat y) d (i := i + 1) (k := i + 1) (x := L[i + 1]) hL hc h6 hx6 hl hil2 rfl hx2 (by omega) (by omega) (fun j hj => am_rowl_d hrw (by omega)) (fun j h1 h2 => by omega) (fun j h1 h2 => by omega))).imp ?_
      rintro q ⟨Q9, rfl, h9⟩
      exact ⟨_, am_r_wp (fun c _ => Nat.beq c 75) (am_k_wp am_k_sub (am_k_up rfl (am_k_id))), h9⟩
  · show am_E _ _ _ 26 [(5, .inl kk), (4, .inl y), (3, .inl (i : Int)), (2, .inr (.inr (.inl (some 75)))), (1, .inr (.inr (.inl (some 21)))), (0, .inr (.inr (.inl (some 71))))] [] (am_mm D I J ρ) _
    have hr1 : I 75 (kk - 1).toNat = (((sp_isrt l (L.take i)).getD (k - 1) 0 : Nat) : Int) := by rw [show (kk - 1).toNat = k - 1 by omega]; exact f1 (k - 1) (by omega)
    have hmm : (sp_isrt l (L.take i)).getD (k - 1) 0 ∈ L := by
      rw [am_getD (by omega)]
      exact List.mem_of_mem_take ((sp_isrt_mem _).mp (List.getElem_mem _))
    have hl1 := hl _ hmm
    have hx62 := hx6 _ hmm
    have hl3 : I 21 (I 75 (kk - 1).toNat).toNat = l ((sp_isrt l (L.take i)).getD (k - 1) 0) := by rw [hr1]; exact hl1.1
    refine am_e_ss 5 (q := (32, [(5, .inl kk), (4, .inl y), (3, .inl (i : Int)), (2, .inr (.inr (.inl (some 75)))), (1, .inr (.inr (.inl (some 21)))), (0, .inr (.inr (.inl (some 71))))], [.inl (kk - 1), .inr (.inr (.inl (some 75))), .inr (.inr (.inl (some 21)))], (am_mm D I J ρ))) rfl ?_
    refine am_e_iaload (m := 6) rfl rfl (by omega) (by omega) (by omega) ?_
    show am_E _ _ _ 33 [(5, .inl kk), (4, .inl y), (3, .inl (i : Int)), (2, .inr (.inr (.inl (some 75)))), (1, .inr (.inr (.inl (some 21)))), (0, .inr (.inr (.inl (some 71))))] [.inl ((I 75 ((kk - 1)).toNat)), .inr (.inr (.inl (some 21)))] (am_mm D I J ρ) _
    refine am_e_iaload (m := 6) rfl rfl (by omega) (by omega) (by omega) ?_
    show am_E _ _ _ 34 [(5, .inl kk), (4, .inl y), (3, .inl (i : Int)), (2, .inr (.inr (.inl (some 75)))), (1, .inr (.inr (.inl (some 21)))), (0, .inr (.inr (.inl (some 71))))] [.inl ((I 21 ((I 75 ((kk - 1)).toNat)).toNat))] (am_mm D I J ρ) _
    refine am_e_ss 2 (q := (37, [(5, .inl kk), (4, .inl y), (3, .inl (i : Int)), (2, .inr (.inr (.inl (some 75)))), (1, .inr (.inr (.inl (some 21)))), (0, .inr (.inr (.inl (some 71))))], [.inl y, .inr (.inr (.inl (some 21))), .inl ((I 21 ((I 75 ((kk - 1)).toNat)).toNat))], (am_mm D I J ρ))) rfl ?_
    refine am_e_iaload (m := 6) rfl rfl (by omega) (by omega) (by omega) ?_
    show am_E _ _ _ 38 [(5, .inl kk), (4, .inl y), (3, .inl (i : Int)), (2, .inr (.inr (.inl (some 75)))), (1, .inr (.inr (.inl (some 21)))), (0, .inr (.inr (.inl (some 71))))] [.inl ((I 21 (y).toNat)), .inl ((I 21 ((I 75 ((kk - 1)).toNat)).toNat))] (am_mm D I J ρ) _
    refine am_e_icmp2 rfl ⟨by omega, by omega⟩ ⟨by omega, by omega⟩ (fun (h3 : (I 21 (y).toNat) ≤ (I 21 ((I 75 ((kk - 1)).toNat)).toNat)) => ?_) (fun (h3 : ¬ ((I 21 (y).toNat) ≤ (I 21 ((I 75 ((kk - 1)).toNat)).toNat))) => ?_)
    · show am_E _ _ _ 57 [(5, .inl kk), (4, .inl y), (3, .inl (i : Int)), (2, .inr (.inr (.inl (some 75)))), (1, .inr (.inr (.inl (some 21)))), (0, .inr (.inr (.inl (some 71))))] [] (am_mm D I J ρ) _
      have hk1 : k = 0 ∨ l x ≤ l ((sp_isrt l (L.take i)).getD (k - 1) 0) := by right; omega
      refine am_e_ss 3 (q := (62, [(5, .inl kk), (4, .inl y), (3, .inl (i : Int)), (2, .inr (.inr (.inl (some 75)))), (1, .inr (.inr (.inl (some 21)))), (0, .inr (.inr (.inl (some 71))))], [.inl y, .inl kk, .inr (.inr (.inl (some 75)))], (am_mm D I J ρ))) rfl ?_
      refine am_e_iastore (m := 6) rfl rfl (by omega) (by omega) (by omega) ?_
      show am_E _ _ _ 63 [(5, .inl kk), (4, .inl y), (3, .inl (i : Int)), (2, .inr (.inr (.inl (some 75)))), (1, .inr (.inr (.inl (some 21)))), (0, .inr (.inr (.inl (some 71))))] [] (am_mm D (am_up I 75 (kk).toNat y) J ρ) _
      refine am_e_ss 5 (q := (7, [(3, .inl ((i : Int) + 1)), (5, .inl kk), (4, .inl y), (2, .inr (.inr (.inl (some 75)))), (1, .inr (.inr (.inl (some 21)))), (0, .inr (.inr (.inl (some 71))))], [.inl ((I 71 3)), .inl ((i : Int) + 1)], (am_mm D (am_up I 75 (kk).toNat y) J ρ))) rfl ?_
      refine am_e_icmp2 rfl ⟨by omega, by omega⟩ ⟨by omega, by omega⟩ (fun (h4 : (I 71 3) ≤ ((i : Int) + 1)) => ?_) (fun (h4 : ¬ ((I 71 3) ≤ ((i : Int) + 1))) => ?_)
      · show am_E _ _ _ 69 [(3, .inl ((i : Int) + 1)), (5, .inl kk), (4, .inl y), (2, .inr (.inr (.inl (some 75)))), (1, .inr (.inr (.inl (some 21)))), (0, .inr (.inr (.inl (some 71))))] [] (am_mm D (am_up I 75 (kk).toNat y) J ρ) _
        refine am_e_return rfl rfl ?_
        have hins : sp_isrt l (L.take (i + 1)) = (sp_isrt l (L.take i)).take k ++ x :: (sp_isrt l (L.take i)).drop k := by
          rw [List.take_succ, List.getElem?_eq_getElem hil, Option.toList_some, sp_isrt_s, ← hx]
          exact sp_ins_k (sp_isrt_pw _) (by omega) hk1 f3'
        have hrw : am_rowl ((am_up I 75 (kk).toNat y) 75) 0 (sp_isrt l (L.take (i + 1))) := by
          rw [hins]
          exact am_rowl_ins (by omega) (fun j hj => (am_up_ne2 (by omega)).trans (f1 j hj)) (fun j h1 h2 => (am_up_ne2 (by omega)).trans (f2 j h1 (by omega))) (by rw [show k = (kk).toNat by omega]; exact am_up_at2.trans hyx)
        rw [List.take_of_length_le (by omega)] at hrw
        exact ⟨_, am_r_wp (fun c _ => Nat.beq c 75) (am_k_up rfl (am_k_id)), hrw⟩
      · show am_E _ _ _ 10 [(3, .inl ((i : Int) + 1)), (5, .inl kk), (4, .inl y), (2, .inr (.inr (.inl (some 75)))), (1, .inr (.inr (.inl (some 21)))), (0, .inr (.inr (.inl (some 71))))] [] (am_mm D (am_up I 75 (kk).toNat y) J ρ) _
        refine am_e_ss 3 (q := (15, [(3, .inl ((i : Int) + 1)), (5, .inl kk), (4, .inl y), (2, .inr (.inr (.inl (some 75)))), (1, .inr (.inr (.inl (some 21)))), (0, .inr (.inr (.inl (some 71))))], [.inl ((i : Int) + 1), .inr (.inr (.inl (some 72)))], (am_mm D (am_up I 75 (kk).toNat y) J ρ))) rfl ?_
        refine am_e_iaload (m := 6) rfl rfl (by omega) (by omega) (by omega) ?_
        show am_E _ _ _ 16 [(3, .inl ((i : Int) + 1)), (5, .inl kk), (4, .inl y), (2, .inr (.inr (.inl (some 75)))), (1, .inr (.inr (.inl (some 21)))), (0, .inr (.inr (.inl (some 71))))] [.inl ((I 72 (i + 1)))] (am_mm D (am_up I 75 (kk).toNat y) J ρ) _
        refine am_e_ss 3 (q := (21, [(5, .inl ((i : Int) + 1)), (4, .inl ((I 72 (i + 1)))), (3, .inl ((i : Int) + 1)), (2, .inr (.inr (.inl (some 75)))), (1, .inr (.inr (.inl (some 21)))), (0, .inr (.inr (.inl (some 71))))], [], (am_mm D (am_up I 75 (kk).toNat y) J ρ))) rfl ?_
        have hins : sp_isrt l (L.take (i + 1)) = (sp_isrt l (L.take i)).take k ++ x :: (sp_isrt l (L.take i)).drop k := by
          rw [List.take_succ, List.getElem?_eq_getElem hil, Option.toList_some, sp_isrt_s, ← hx]
          exact sp_ins_k (sp_isrt_pw _) (by omega) hk1 f3'
        have hrw : am_rowl ((am_up I 75 (kk).toNat y) 75) 0 (sp_isrt l (L.take (i + 1))) := by
          rw [hins]
          exact am_rowl_ins (by omega) (fun j hj => (am_up_ne2 (by omega)).trans (f1 j hj)) (fun j h1 h2 => (am_up_ne2 (by omega)).trans (f2 j h1 (by omega))) (by rw [show k = (kk).toNat by omega]; exact am_up_at2.trans hyx)
        have hil2 : i + 1 < L.length := by omega
        have hx2 := hL (i + 1) _ (List.getElem?_eq_getElem hil2)
        rw [Nat.zero_add] at hx2
        have hlen2 : (sp_isrt l (L.take (i + 1))).length = i + 1 := by rw [sp_isrt_len, List.length_take]; omega
        refine (am_less (lv := [(5, .inl (((i : Int) + 1))), (4, .inl ((I 72 (i + 1)))), (3, .inl ((i + 1) : Int)), (2, .inr (.inr (.inl (some 75)))), (1, .inr (.inr (.inl (some 21)))), (0, .inr (.inr (.inl (some 71))))]) rfl (List.forall_mem_cons.mpr ⟨rfl, List.forall_mem_cons.mpr ⟨rfl, List.forall_mem_cons.mpr ⟨rfl, List.forall_mem_cons.mpr ⟨rfl, List.forall_mem_cons.mpr ⟨rfl, List.forall_mem_cons.mpr ⟨rfl, List.forall_mem_nil _⟩⟩⟩⟩⟩⟩) (c_sort_1_l (I := am_up I 75 (kk).toNat y) d (i := i + 1) (k := i + 1) (x := L[i + 1]) hL hc h6 hx6 hl hil2 rfl hx2 (by omega) (by omega) (fun j hj => am_rowl_d hrw (by omega)) (fun j h1 h2 => by omega) (fun j h1 h2 => by omega))).imp ?_
        rintro q ⟨Q9, rfl, h9⟩
        exact ⟨_, am_r_wp (fun c _ => Nat.beq c 75) (am_k_wp am_k_sub (am_k_up rfl (am_k_id))), h9⟩
    · show am_E _ _ _ 41 [(5, .inl kk), (4, .inl y), (3, .inl (i : Int)), (2, .inr (.inr (.inl (some 75)))), (1, .inr (.inr (.inl (some 21)))), (0, .inr (.inr (.inl (some 71))))] [] (am_mm D I J ρ) _
      have hlt : l ((sp_isrt l (L.take i)).getD (k - 1) 0) < l x := by omega
      refine am_e_ss 6 (q := (49, [(5, .inl kk), (4, .inl y), (3, .inl (i : Int)), (2, .inr (.inr (.inl (some 75)))), (1, .inr (.inr (.inl (some 21)))), (0, .inr (.inr (.inl (some 71))))], [.inl (kk - 1), .inr (.inr (.inl (some 75))), .inl kk, .inr (.inr (.inl (some 75)))], (am_mm D I J ρ))) rfl ?_
      refine am_e_iaload (m := 6) rfl rfl (by omega) (by omega) (by omega) ?_
      show am_E _ _ _ 50 [(5, .inl kk), (4, .inl y), (3, .inl (i : Int)), (2, .inr (.inr (.inl (some 75)))), (1, .inr (.inr (.inl (some 21)))), (0, .inr (.inr (.inl (some 71))))] [.inl ((I 75 ((kk - 1)).toNat)), .inl kk, .inr (.inr (.inl (some 75)))] (am_mm D I J ρ) _
      refine am_e_iastore (m := 6) rfl rfl (by omega) (by omega) (by omega) ?_
      show am_E _ _ _ 51 [(5, .inl kk), (4, .inl y), (3, .inl (i : Int)), (2, .inr (.inr (.inl (some 75)))), (1, .inr (.inr (.inl (some 21)))), (0, .inr (.inr (.inl (some 71))))] [] (am_mm D (am_up I 75 (kk).toNat (I 75 ((kk - 1)).toNat)) J ρ) _
      refine am_e_ss 2 (q := (21, [(5, .inl (kk + (-1))), (4, .inl y), (3, .inl (i : Int)), (2, .inr (.inr (.inl (some 75)))), (1, .inr (.inr (.inl (some 21)))), (0, .inr (.inr (.inl (some 71))))], [], (am_mm D (am_up I 75 (kk).toNat (I 75 ((kk - 1)).toNat)) J ρ))) rfl ?_
      obtain ⟨k', rfl⟩ : ∃ k', k = k' + 1 := ⟨k - 1, by omega⟩
      have ek : (kk).toNat = k' + 1 := by omega
      have g1 : ∀ j, j < k' → (am_up I 75 (kk).toNat (I 75 ((kk - 1)).toNat)) 75 j = ((sp_isrt l (L.take i)).getD j 0 : Int) := fun j hj => (am_up_ne2 (by omega)).trans (f1 j (by omega))
      have g2 : ∀ j, k' ≤ j → j < i → (am_up I 75 (kk).toNat (I 75 ((kk - 1)).toNat)) 75 (j + 1) = ((sp_isrt l (L.take i)).getD j 0 : Int) := by
        intro j h1 h2
        by_cases e : j = k'
        · subst e; rw [← ek]; refine am_up_at2.trans ?_; rw [show (kk - 1).toNat = j by omega]; exact f1 j (by omega)
        · exact (am_up_ne2 (by omega)).trans (f2 j (by omega) h2)
      have g3 : ∀ j, k' ≤ j → j < i → l ((sp_isrt l (L.take i)).getD j 0) < l x := by
        intro j h1 h2
        by_cases e : j = k'
        · subst e; exact hlt
        · exact f3 j (by omega) h2
      refine (am_less (lv := [(5, .inl ((kk + (-1)))), (4, .inl y), (3, .inl (i : Int)), (2, .inr (.inr (.inl (some 75)))), (1, .inr (.inr (.inl (some 21)))), (0, .inr (.inr (.inl (some 71))))]) rfl (List.forall_mem_cons.mpr ⟨rfl, List.forall_mem_cons.mpr ⟨rfl, List.forall_mem_cons.mpr ⟨rfl, List.forall_mem_cons.mpr ⟨rfl, List.forall_mem_cons.mpr ⟨rfl, List.forall_mem_cons.mpr ⟨rfl, List.forall_mem_nil _⟩⟩⟩⟩⟩⟩) (c_sort_1_l (I := am_up I 75 (kk).toNat (I 75 ((kk - 1)).toNat)) d (i := i) (k := k') (x := x) hL hc h6 hx6 hl hil hx hyx (by omega) (by omega) g1 g2 g3)).imp ?_
      rintro q ⟨Q9, rfl, h9⟩
      exact ⟨_, am_r_wp (fun c _ => Nat.beq c 75) (am_k_wp am_k_sub (am_k_up rfl (am_k_id))), h9⟩
termination_by (8 * (7 - i) + k)
decreasing_by all_goals omega
theorem c_sort_1 {X : Nat × (Nat → Int)} {D : List (Nat × Nat)} {I J : Nat → Nat → Int} {ρ : Nat → Nat → Option Nat} (d : Nat) {l : Nat → Int} {L : List Nat} (hL : am_rowl (I 72) 0 L) (hc : I 71 3 = (L.length : Int)) (h6 : L.length ≤ 6) (hx6 : ∀ x ∈ L, x < 6) (hl : ∀ x ∈ L, I 21 x = l x ∧ (-2147483648 ≤ l x ∧ l x < 2147483648))  : am_E X d 68 0 [(0, .inr (.inr (.inl (some 71)))), (1, .inr (.inr (.inl (some 21)))), (2, .inr (.inr (.inl (some 75))))] [] (am_mm D I J ρ) (fun q => ∃ Q, q = (none, am_mm D (am_wp (fun c _ => Nat.beq c 75) I Q) J ρ) ∧ am_rowl (Q 75) 0 (sp_isrt l L)) := by
  refine am_e_ss 5 (q := (7, [(3, .inl 0), (0, .inr (.inr (.inl (some 71)))), (1, .inr (.inr (.inl (some 21)))), (2, .inr (.inr (.inl (some 75))))], [.inl ((I 71 3)), .inl 0], (am_mm D I J ρ))) rfl ?_
  refine am_e_icmp2 rfl ⟨by omega, by omega⟩ ⟨by omega, by omega⟩ (fun (h1 : (I 71 3) ≤ 0) => ?_) (fun (h1 : ¬ ((I 71 3) ≤ 0)) => ?_)
  · show am_E _ _ _ 69 [(3, .inl 0), (0, .inr (.inr (.inl (some 71)))), (1, .inr (.inr (.inl (some 21)))), (2, .inr (.inr (.inl (some 75))))] [] (am_mm D I J ρ) _
    refine am_e_return rfl rfl ?_
    have e0 : L = [] := List.eq_nil_of_length_eq_zero (by omega)
    subst e0
    exact ⟨I, am_r_wp (fun c _ => Nat.beq c 75) am_k_id, am_rowl_nil⟩
  · show am_E _ _ _ 10 [(3, .inl 0), (0, .inr (.inr (.inl (some 71)))), (1, .inr (.inr (.inl (some 21)))), (2, .inr (.inr (.inl (some 75))))] [] (am_mm D I J ρ) _
    refine am_e_ss 7 (q := (21, [(5, .inl 0), (4, .inl ((I 72 0))), (3, .inl 0), (0, .inr (.inr (.inl (some 71)))), (1, .inr (.inr (.inl (some 21)))), (2, .inr (.inr (.inl (some 75))))], [], (am_mm D I J ρ))) rfl ?_
    have hil : 0 < L.length := by omega
    have hx2 := hL 0 _ (List.getElem?_eq_getElem hil)
    refine (am_less (lv := [(5, .inl 0), (4, .inl ((I 72 0))), (3, .inl (0 : Int)), (2, .inr (.inr (.inl (some 75)))), (1, .inr (.inr (.inl (some 21)))), (0, .inr (.inr (.inl (some 71))))]) rfl (List.forall_mem_cons.mpr ⟨rfl, List.forall_mem_cons.mpr ⟨rfl, List.forall_mem_cons.mpr ⟨rfl, List.forall_mem_cons.mpr ⟨rfl, List.forall_mem_cons.mpr ⟨rfl, List.forall_mem_cons.mpr ⟨rfl, List.forall_mem_nil _⟩⟩⟩⟩⟩⟩) (c_sort_1_l (I := I) d (i := 0) (k := 0) (x := L[0]) hL hc h6 hx6 hl hil rfl hx2 (by omega) (by omega) (fun j hj => by omega) (fun j h1 h2 => by omega) (fun j h1 h2 => by omega))).imp ?_
    rintro q ⟨Q9, rfl, h9⟩
    exact ⟨_, am_r_wp (fun c _ => Nat.beq c 75) (am_k_wp am_k_sub (am_k_id)), h9⟩
theorem c_sort_2_l {X : Nat × (Nat → Int)} {D : List (Nat × Nat)} {I J : Nat → Nat → Int} {ρ : Nat → Nat → Option Nat} (d : Nat) {l : Nat → Int} {L : List Nat} (hL : am_rowl (I 72) 0 L) (hc : I 71 3 = (L.length : Int)) (h6 : L.length ≤ 6) (hx6 : ∀ x ∈ L, x < 6) (hl : ∀ x ∈ L, I 22 x = l x ∧ (-2147483648 ≤ l x ∧ l x < 2147483648)) {kk y : Int} {i k x : Nat} (hil : i < L.length) (hx : x = L[i]) (hyx : y = (x : Int)) (hkk : kk = (k : Int)) (hk : k ≤ i) (f1 : ∀ j, j < k → I 76 j = ((sp_isrt l (L.take i)).getD j 0 : Int)) (f2 : ∀ j, k ≤ j → j < i → I 76 (j + 1) = ((sp_isrt l (L.take i)).getD j 0 : Int)) (f3 : ∀ j, k ≤ j → j < i → l ((sp_isrt l (L.take i)).getD j 0) < l x) : am_E X d 68 21 [(5, .inl kk), (4, .inl y), (3, .inl (i : Int)), (2, .inr (.inr (.inl (some 76)))), (1, .inr (.inr (.inl (some 22)))), (0, .inr (.inr (.inl (some 71))))] [] (am_mm D I J ρ) (fun q => ∃ Q, q = (none, am_mm D (am_wp (fun c _ => Nat.beq c 76) I Q) J ρ) ∧ am_rowl (Q 76) 0 (sp_isrt l L)) := by
  have hlen : (sp_isrt l (L.take i)).length = i := by rw [sp_isrt_len, List.length_take]; omega
  have hxm : x ∈ L := by rw [hx]; exact List.getElem_mem _
  have hx61 := hx6 x hxm
  have hl2 := hl x hxm
  have hl4 : I 22 (y).toNat = l x := by rw [hyx]; exact hl2.1
  have f3' : ∀ j, k ≤ j → j < (sp_isrt l (L.take i)).length → l ((sp_isrt l (L.take i)).getD j 0) < l x := fun j h1 h2 => f3 j h1 (by omega)
  refine am_e_ss 1 (q := (23, [(5, .inl kk), (4, .inl y), (3, .inl (i : Int)), (2, .inr (.inr (.inl (some 76)))), (1, .inr (.inr (.inl (some 22)))), (0, .inr (.inr (.inl (some 71))))], [.inl kk], (am_mm D I J ρ))) rfl ?_
  refine am_e_if2 rfl ⟨by omega, by omega⟩ (fun (h1 : kk ≤ 0) => ?_) (fun (h1 : ¬ (kk ≤ 0)) => ?_)
  · show am_E _ _ _ 57 [(5, .inl kk), (4, .inl y), (3, .inl (i : Int)), (2, .inr (.inr (.inl (some 76)))), (1, .inr (.inr (.inl (some 22)))), (0, .inr (.inr (.inl (some 71))))] [] (am_mm D I J ρ) _
    have hk1 : k = 0 ∨ l x ≤ l ((sp_isrt l (L.take i)).getD (k - 1) 0) := by left; omega
    refine am_e_ss 3 (q := (62, [(5, .inl kk), (4, .inl y), (3, .inl (i : Int)), (2, .inr (.inr (.inl (some 76)))), (1, .inr (.inr (.inl (some 22)))), (0, .inr (.inr (.inl (some 71))))], [.inl y, .inl kk, .inr (.inr (.inl (some 76)))], (am_mm D I J ρ))) rfl ?_
    refine am_e_iastore (m := 6) rfl rfl (by omega) (by omega) (by omega) ?_
    show am_E _ _ _ 63 [(5, .inl kk), (4, .inl y), (3, .inl (i : Int)), (2, .inr (.inr (.inl (some 76)))), (1, .inr (.inr (.inl (some 22)))), (0, .inr (.inr (.inl (some 71))))] [] (am_mm D (am_up I 76 (kk).toNat y) J ρ) _
    refine am_e_ss 5 (q := (7, [(3, .inl ((i : Int) + 1)), (5, .inl kk), (4, .inl y), (2, .inr (.inr (.inl (some 76)))), (1, .inr (.inr (.inl (some 22)))), (0, .inr (.inr (.inl (some 71))))], [.inl ((I 71 3)), .inl ((i : Int) + 1)], (am_mm D (am_up I 76 (kk).toNat y) J ρ))) rfl ?_
    refine am_e_icmp2 rfl ⟨by omega, by omega⟩ ⟨by omega, by omega⟩ (fun (h2 : (I 71 3) ≤ ((i : Int) + 1)) => ?_) (fun (h2 : ¬ ((I 71 3) ≤ ((i : Int) + 1))) => ?_)
    · show am_E _ _ _ 69 [(3, .inl ((i : Int) + 1)), (5, .inl kk), (4, .inl y), (2, .inr (.inr (.inl (some 76)))), (1, .inr (.inr (.inl (some 22)))), (0, .inr (.inr (.inl (some 71))))] [] (am_mm D (am_up I 76 (kk).toNat y) J ρ) _
      refine am_e_return rfl rfl ?_
      have hins : sp_isrt l (L.take (i + 1)) = (sp_isrt l (L.take i)).take k ++ x :: (sp_isrt l (L.take i)).drop k := by
        rw [List.take_succ, List.getElem?_eq_getElem hil, Option.toList_some, sp_isrt_s, ← hx]
        exact sp_ins_k (sp_isrt_pw _) (by omega) hk1 f3'
      have hrw : am_rowl ((am_up I 76 (kk).toNat y) 76) 0 (sp_isrt l (L.take (i + 1))) := by
        rw [hins]
        exact am_rowl_ins (by omega) (fun j hj => (am_up_ne2 (by omega)).trans (f1 j hj)) (fun j h1 h2 => (am_up_ne2 (by omega)).trans (f2 j h1 (by omega))) (by rw [show k = (kk).toNat by omega]; exact am_up_at2.trans hyx)
      rw [List.take_of_length_le (by omega)] at hrw
      exact ⟨_, am_r_wp (fun c _ => Nat.beq c 76) (am_k_up rfl (am_k_id)), hrw⟩
    · show am_E _ _ _ 10 [(3, .inl ((i : Int) + 1)), (5, .inl kk), (4, .inl y), (2, .inr (.inr (.inl (some 76)))), (1, .inr (.inr (.inl (some 22)))), (0, .inr (.inr (.inl (some 71))))] [] (am_mm D (am_up I 76 (kk).toNat y) J ρ) _
      refine am_e_ss 3 (q := (15, [(3, .inl ((i : Int) + 1)), (5, .inl kk), (4, .inl y), (2, .inr (.inr (.inl (some 76)))), (1, .inr (.inr (.inl (some 22)))), (0, .inr (.inr (.inl (some 71))))], [.inl ((i : Int) + 1), .inr (.inr (.inl (some 72)))], (am_mm D (am_up I 76 (kk).toNat y) J ρ))) rfl ?_
      refine am_e_iaload (m := 6) rfl rfl (by omega) (by omega) (by omega) ?_
      show am_E _ _ _ 16 [(3, .inl ((i : Int) + 1)), (5, .inl kk), (4, .inl y), (2, .inr (.inr (.inl (some 76)))), (1, .inr (.inr (.inl (some 22)))), (0, .inr (.inr (.inl (some 71))))] [.inl ((I 72 (i + 1)))] (am_mm D (am_up I 76 (kk).toNat y) J ρ) _
      refine am_e_ss 3 (q := (21, [(5, .inl ((i : Int) + 1)), (4, .inl ((I 72 (i + 1)))), (3, .inl ((i : Int) + 1)), (2, .inr (.inr (.inl (some 76)))), (1, .inr (.inr (.inl (some 22)))), (0, .inr (.inr (.inl (some 71))))], [], (am_mm D (am_up I 76 (kk).toNat y) J ρ))) rfl ?_
      have hins : sp_isrt l (L.take (i + 1)) = (sp_isrt l (L.take i)).take k ++ x :: (sp_isrt l (L.take i)).drop k := by
        rw [List.take_succ, List.getElem?_eq_getElem hil, Option.toList_some, sp_isrt_s, ← hx]
        exact sp_ins_k (sp_isrt_pw _) (by omega) hk1 f3'
      have hrw : am_rowl ((am_up I 76 (kk).toNat y) 76) 0 (sp_isrt l (L.take (i + 1))) := by
        rw [hins]
        exact am_rowl_ins (by omega) (fun j hj => (am_up_ne2 (by omega)).trans (f1 j hj)) (fun j h1 h2 => (am_up_ne2 (by omega)).trans (f2 j h1 (by omega))) (by rw [show k = (kk).toNat by omega]; exact am_up_at2.trans hyx)
      have hil2 : i + 1 < L.length := by omega
      have hx2 := hL (i + 1) _ (List.getElem?_eq_getElem hil2)
      rw [Nat.zero_add] at hx2
      have hlen2 : (sp_isrt l (L.take (i + 1))).length = i + 1 := by rw [sp_isrt_len, List.length_take]; omega
      refine (am_less (lv := [(5, .inl (((i : Int) + 1))), (4, .inl ((I 72 (i + 1)))), (3, .inl ((i + 1) : Int)), (2, .inr (.inr (.inl (some 76)))), (1, .inr (.inr (.inl (some 22)))), (0, .inr (.inr (.inl (some 71))))]) rfl (List.forall_mem_cons.mpr ⟨rfl, List.forall_mem_cons.mpr ⟨rfl, List.forall_mem_cons.mpr ⟨rfl, List.forall_mem_cons.mpr ⟨rfl, List.forall_mem_cons.mpr ⟨rfl, List.forall_mem_cons.mpr ⟨rfl, List.forall_mem_nil _⟩⟩⟩⟩⟩⟩) (c_sort_2_l (I := am_up I 76 (kk).toNat y) d (i := i + 1) (k := i + 1) (x := L[i + 1]) hL hc h6 hx6 hl hil2 rfl hx2 (by omega) (by omega) (fun j hj => am_rowl_d hrw (by omega)) (fun j h1 h2 => by omega) (fun j h1 h2 => by omega))).imp ?_
      rintro q ⟨Q9, rfl, h9⟩
      exact ⟨_, am_r_wp (fun c _ => Nat.beq c 76) (am_k_wp am_k_sub (am_k_up rfl (am_k_id))), h9⟩
  · show am_E _ _ _ 26 [(5, .inl kk), (4, .inl y), (3, .inl (i : Int)), (2, .inr (.inr (.inl (some 76)))), (1, .inr (.inr (.inl (some 22)))), (0, .inr (.inr (.inl (some 71))))] [] (am_mm D I J ρ) _
    have hr1 : I 76 (kk - 1).toNat = (((sp_isrt l (L.take i)).getD (k - 1) 0 : Nat) : Int) := by rw [show (kk - 1).toNat = k - 1 by omega]; exact f1 (k - 1) (by omega)
    have hmm : (sp_isrt l (L.take i)).getD (k - 1) 0 ∈ L := by
      rw [am_getD (by omega)]
      exact List.mem_of_mem_take ((sp_isrt_mem _).mp (List.getElem_mem _))
    have hl1 := hl _ hmm
    have hx62 := hx6 _ hmm
    have hl3 : I 22 (I 76 (kk - 1).toNat).toNat = l ((sp_isrt l (L.take i)).getD (k - 1) 0) := by rw [hr1]; exact hl1.1
    refine am_e_ss 5 (q := (32, [(5, .inl kk), (4, .inl y), (3, .inl (i : Int)), (2, .inr (.inr (.inl (some 76)))), (1, .inr (.inr (.inl (some 22)))), (0, .inr (.inr (.inl (some 71))))], [.inl (kk - 1), .inr (.inr (.inl (some 76))), .inr (.inr (.inl (some 22)))], (am_mm D I J ρ))) rfl ?_
    refine am_e_iaload (m := 6) rfl rfl (by omega) (by omega) (by omega) ?_
    show am_E _ _ _ 33 [(5, .inl kk), (4, .inl y), (3, .inl (i : Int)), (2, .inr (.inr (.inl (some 76)))), (1, .inr (.inr (.inl (some 22)))), (0, .inr (.inr (.inl (some 71))))] [.inl ((I 76 ((kk - 1)).toNat)), .inr (.inr (.inl (some 22)))] (am_mm D I J ρ) _
    refine am_e_iaload (m := 6) rfl rfl (by omega) (by omega) (by omega) ?_
    show am_E _ _ _ 34 [(5, .inl kk), (4, .inl y), (3, .inl (i : Int)), (2, .inr (.inr (.inl (some 76)))), (1, .inr (.inr (.inl (some 22)))), (0, .inr (.inr (.inl (some 71))))] [.inl ((I 22 ((I 76 ((kk - 1)).toNat)).toNat))] (am_mm D I J ρ) _
    refine am_e_ss 2 (q := (37, [(5, .inl kk), (4, .inl y), (3, .inl (i : Int)), (2, .inr (.inr (.inl (some 76)))), (1, .inr (.inr (.inl (some 22)))), (0, .inr (.inr (.inl (some 71))))], [.inl y, .inr (.inr (.inl (some 22))), .inl ((I 22 ((I 76 ((kk - 1)).toNat)).toNat))], (am_mm D I J ρ))) rfl ?_
    refine am_e_iaload (m := 6) rfl rfl (by omega) (by omega) (by omega) ?_
    show am_E _ _ _ 38 [(5, .inl kk), (4, .inl y), (3, .inl (i : Int)), (2, .inr (.inr (.inl (some 76)))), (1, .inr (.inr (.inl (some 22)))), (0, .inr (.inr (.inl (some 71))))] [.inl ((I 22 (y).toNat)), .inl ((I 22 ((I 76 ((kk - 1)).toNat)).toNat))] (am_mm D I J ρ) _
    refine am_e_icmp2 rfl ⟨by omega, by omega⟩ ⟨by omega, by omega⟩ (fun (h3 : (I 22 (y).toNat) ≤ (I 22 ((I 76 ((kk - 1)).toNat)).toNat)) => ?_) (fun (h3 : ¬ ((I 22 (y).toNat) ≤ (I 22 ((I 76 ((kk - 1)).toNat)).toNat))) => ?_)
    · show am_E _ _ _ 57 [(5, .inl kk), (4, .inl y), (3, .inl (i : Int)), (2, .inr (.inr (.inl (some 76)))), (1, .inr (.inr (.inl (some 22)))), (0, .inr (.inr (.inl (some 71))))] [] (am_mm D I J ρ) _
      have hk1 : k = 0 ∨ l x ≤ l ((sp_isrt l (L.take i)).getD (k - 1) 0) := by right; omega
      refine am_e_ss 3 (q := (62, [(5, .inl kk), (4, .inl y), (3, .inl (i : Int)), (2, .inr (.inr (.inl (some 76)))), (1, .inr (.inr (.inl (some 22)))), (0, .inr (.inr (.inl (some 71))))], [.inl y, .inl kk, .inr (.inr (.inl (some 76)))], (am_mm D I J ρ))) rfl ?_
      refine am_e_iastore (m := 6) rfl rfl (by omega) (by omega) (by omega) ?_
      show am_E _ _ _ 63 [(5, .inl kk), (4, .inl y), (3, .inl (i : Int)), (2, .inr (.inr (.inl (some 76)))), (1, .inr (.inr (.inl (some 22)))), (0, .inr (.inr (.inl (some 71))))] [] (am_mm D (am_up I 76 (kk).toNat y) J ρ) _
      refine am_e_ss 5 (q := (7, [(3, .inl ((i : Int) + 1)), (5, .inl kk), (4, .inl y), (2, .inr (.inr (.inl (some 76)))), (1, .inr (.inr (.inl (some 22)))), (0, .inr (.inr (.inl (some 71))))], [.inl ((I 71 3)), .inl ((i : Int) + 1)], (am_mm D (am_up I 76 (kk).toNat y) J ρ))) rfl ?_
      refine am_e_icmp2 rfl ⟨by omega, by omega⟩ ⟨by omega, by omega⟩ (fun (h4 : (I 71 3) ≤ ((i : Int) + 1)) => ?_) (fun (h4 : ¬ ((I 71 3) ≤ ((i : Int) + 1))) => ?_)
      · show am_E _ _ _ 69 [(3, .inl ((i : Int) + 1)), (5, .inl kk), (4, .inl y), (2, .inr (.inr (.inl (some 76)))), (1, .inr (.inr (.inl (some 22)))), (0, .inr (.inr (.inl (some 71))))] [] (am_mm D (am_up I 76 (kk).toNat y) J ρ) _
        refine am_e_return rfl rfl ?_
        have hins : sp_isrt l (L.take (i + 1)) = (sp_isrt l (L.take i)).take k ++ x :: (sp_isrt l (L.take i)).drop k := by
          rw [List.take_succ, List.getElem?_eq_getElem hil, Option.toList_some, sp_isrt_s, ← hx]
          exact sp_ins_k (sp_isrt_pw _) (by omega) hk1 f3'
        have hrw : am_rowl ((am_up I 76 (kk).toNat y) 76) 0 (sp_isrt l (L.take (i + 1))) := by
          rw [hins]
          exact am_rowl_ins (by omega) (fun j hj => (am_up_ne2 (by omega)).trans (f1 j hj)) (fun j h1 h2 => (am_up_ne2 (by omega)).trans (f2 j h1 (by omega))) (by rw [show k = (kk).toNat by omega]; exact am_up_at2.trans hyx)
        rw [List.take_of_length_le (by omega)] at hrw
        exact ⟨_, am_r_wp (fun c _ => Nat.beq c 76) (am_k_up rfl (am_k_id)), hrw⟩
      · show am_E _ _ _ 10 [(3, .inl ((i : Int) + 1)), (5, .inl kk), (4, .inl y), (2, .inr (.inr (.inl (some 76)))), (1, .inr (.inr (.inl (some 22)))), (0, .inr (.inr (.inl (some 71))))] [] (am_mm D (am_up I 76 (kk).toNat y) J ρ) _
        refine am_e_ss 3 (q := (15, [(3, .inl ((i : Int) + 1)), (5, .inl kk), (4, .inl y), (2, .inr (.inr (.inl (some 76)))), (1, .inr (.inr (.inl (some 22)))), (0, .inr (.inr (.inl (some 71))))], [.inl ((i : Int) + 1), .inr (.inr (.inl (some 72)))], (am_mm D (am_up I 76 (kk).toNat y) J ρ))) rfl ?_
        refine am_e_iaload (m := 6) rfl rfl (by omega) (by omega) (by omega) ?_
        show am_E _ _ _ 16 [(3, .inl ((i : Int) + 1)), (5, .inl kk), (4, .inl y), (2, .inr (.inr (.inl (some 76)))), (1, .inr (.inr (.inl (some 22)))), (0, .inr (.inr (.inl (some 71))))] [.inl ((I 72 (i + 1)))] (am_mm D (am_up I 76 (kk).toNat y) J ρ) _
        refine am_e_ss 3 (q := (21, [(5, .inl ((i : Int) + 1)), (4, .inl ((I 72 (i + 1)))), (3, .inl ((i : Int) + 1)), (2, .inr (.inr (.inl (some 76)))), (1, .inr (.inr (.inl (some 22)))), (0, .inr (.inr (.inl (some 71))))], [], (am_mm D (am_up I 76 (kk).toNat y) J ρ))) rfl ?_
        have hins : sp_isrt l (L.take (i + 1)) = (sp_isrt l (L.take i)).take k ++ x :: (sp_isrt l (L.take i)).drop k := by
          rw [List.take_succ, List.getElem?_eq_getElem hil, Option.toList_some, sp_isrt_s, ← hx]
          exact sp_ins_k (sp_isrt_pw _) (by omega) hk1 f3'
        have hrw : am_rowl ((am_up I 76 (kk).toNat y) 76) 0 (sp_isrt l (L.take (i + 1))) := by
          rw [hins]
          exact am_rowl_ins (by omega) (fun j hj => (am_up_ne2 (by omega)).trans (f1 j hj)) (fun j h1 h2 => (am_up_ne2 (by omega)).trans (f2 j h1 (by omega))) (by rw [show k = (kk).toNat by omega]; exact am_up_at2.trans hyx)
        have hil2 : i + 1 < L.length := by omega
        have hx2 := hL (i + 1) _ (List.getElem?_eq_getElem hil2)
        rw [Nat.zero_add] at hx2
        have hlen2 : (sp_isrt l (L.take (i + 1))).length = i + 1 := by rw [sp_isrt_len, List.length_take]; omega
        refine (am_less (lv := [(5, .inl (((i : Int) + 1))), (4, .inl ((I 72 (i + 1)))), (3, .inl ((i + 1) : Int)), (2, .inr (.inr (.inl (some 76)))), (1, .inr (.inr (.inl (some 22)))), (0, .inr (.inr (.inl (some 71))))]) rfl (List.forall_mem_cons.mpr ⟨rfl, List.forall_mem_cons.mpr ⟨rfl, List.forall_mem_cons.mpr ⟨rfl, List.forall_mem_cons.mpr ⟨rfl, List.forall_mem_cons.mpr ⟨rfl, List.forall_mem_cons.mpr ⟨rfl, List.forall_mem_nil _⟩⟩⟩⟩⟩⟩) (c_sort_2_l (I := am_up I 76 (kk).toNat y) d (i := i + 1) (k := i + 1) (x := L[i + 1]) hL hc h6 hx6 hl hil2 rfl hx2 (by omega) (by omega) (fun j hj => am_rowl_d hrw (by omega)) (fun j h1 h2 => by omega) (fun j h1 h2 => by omega))).imp ?_
        rintro q ⟨Q9, rfl, h9⟩
        exact ⟨_, am_r_wp (fun c _ => Nat.beq c 76) (am_k_wp am_k_sub (am_k_up rfl (am_k_id))), h9⟩
    · show am_E _ _ _ 41 [(5, .inl kk), (4, .inl y), (3, .inl (i : Int)), (2, .inr (.inr (.inl (some 76)))), (1, .inr (.inr (.inl (some 22)))), (0, .inr (.inr (.inl (some 71))))] [] (am_mm D I J ρ) _
      have hlt : l ((sp_isrt l (L.take i)).getD (k - 1) 0) < l x := by omega
      refine am_e_ss 6 (q := (49, [(5, .inl kk), (4, .inl y), (3, .inl (i : Int)), (2, .inr (.inr (.inl (some 76)))), (1, .inr (.inr (.inl (some 22)))), (0, .inr (.inr (.inl (some 71))))], [.inl (kk - 1), .inr (.inr (.inl (some 76))), .inl kk, .inr (.inr (.inl (some 76)))], (am_mm D I J ρ))) rfl ?_
      refine am_e_iaload (m := 6) rfl rfl (by omega) (by omega) (by omega) ?_
      show am_E _ _ _ 50 [(5, .inl kk), (4, .inl y), (3, .inl (i : Int)), (2, .inr (.inr (.inl (some 76)))), (1, .inr (.inr (.inl (some 22)))), (0, .inr (.inr (.inl (some 71))))] [.inl ((I 76 ((kk - 1)).toNat)), .inl kk, .inr (.inr (.inl (some 76)))] (am_mm D I J ρ) _
      refine am_e_iastore (m := 6) rfl rfl (by omega) (by omega) (by omega) ?_
      show am_E _ _ _ 51 [(5, .inl kk), (4, .inl y), (3, .inl (i : Int)), (2, .inr (.inr (.inl (some 76)))), (1, .inr (.inr (.inl (some 22)))), (0, .inr (.inr (.inl (some 71))))] [] (am_mm D (am_up I 76 (kk).toNat (I 76 ((kk - 1)).toNat)) J ρ) _
      refine am_e_ss 2 (q := (21, [(5, .inl (kk + (-1))), (4, .inl y), (3, .inl (i : Int)), (2, .inr (.inr (.inl (some 76)))), (1, .inr (.inr (.inl (some 22)))), (0, .inr (.inr (.inl (some 71))))], [], (am_mm D (am_up I 76 (kk).toNat (I 76 ((kk - 1)).toNat)) J ρ))) rfl ?_
      obtain ⟨k', rfl⟩ : ∃ k', k = k' + 1 := ⟨k - 1, by omega⟩
      have ek : (kk).toNat = k' + 1 := by omega
      have g1 : ∀ j, j < k' → (am_up I 76 (kk).toNat (I 76 ((kk - 1)).toNat)) 76 j = ((sp_isrt l (L.take i)).getD j 0 : Int) := fun j hj => (am_up_ne2 (by omega)).trans (f1 j (by omega))
      have g2 : ∀ j, k' ≤ j → j < i → (am_up I 76 (kk).toNat (I 76 ((kk - 1)).toNat)) 76 (j + 1) = ((sp_isrt l (L.take i)).getD j 0 : Int) := by
        intro j h1 h2
        by_cases e : j = k'
        · subst e; rw [← ek]; refine am_up_at2.trans ?_; rw [show (kk - 1).toNat = j by omega]; exact f1 j (by omega)
        · exact (am_up_ne2 (by omega)).trans (f2 j (by omega) h2)
      have g3 : ∀ j, k' ≤ j → j < i → l ((sp_isrt l (L.take i)).getD j 0) < l x := by
        intro j h1 h2
        by_cases e : j = k'
        · subst e; exact hlt
        · exact f3 j (by omega) h2
      refine (am_less (lv := [(5, .inl ((kk + (-1)))), (4, .inl y), (3, .inl (i : Int)), (2, .inr (.inr (.inl (some 76)))), (1, .inr (.inr (.inl (some 22)))), (0, .inr (.inr (.inl (some 71))))]) rfl (List.forall_mem_cons.mpr ⟨rfl, List.forall_mem_cons.mpr ⟨rfl, List.forall_mem_cons.mpr ⟨rfl, List.forall_mem_cons.mpr ⟨rfl, List.forall_mem_cons.mpr ⟨rfl, List.forall_mem_cons.mpr ⟨rfl, List.forall_mem_nil _⟩⟩⟩⟩⟩⟩) (c_sort_2_l (I := am_up I 76 (kk).toNat (I 76 ((kk - 1)).toNat)) d (i := i) (k := k') (x := x) hL hc h6 hx6 hl hil hx hyx (by omega) (by omega) g1 g2 g3)).imp ?_
      rintro q ⟨Q9, rfl, h9⟩
      exact ⟨_, am_r_wp (fun c _ => Nat.beq c 76) (am_k_wp am_k_sub (am_k_up rfl (am_k_id))), h9⟩
termination_by (8 * (7 - i) + k)
decreasing_by all_goals omega
theorem c_sort_2 {X : Nat × (Nat → Int)} {D : List (Nat × Nat)} {I J : Nat → Nat → Int} {ρ : Nat → Nat → Option Nat} (d : Nat) {l : Nat → Int} {L : List Nat} (hL : am_rowl (I 72) 0 L) (hc : I 71 3 = (L.length : Int)) (h6 : L.length ≤ 6) (hx6 : ∀ x ∈ L, x < 6) (hl : ∀ x ∈ L, I 22 x = l x ∧ (-2147483648 ≤ l x ∧ l x < 2147483648))  : am_E X d 68 0 [(0, .inr (.inr (.inl (some 71)))), (1, .inr (.inr (.inl (some 22)))), (2, .inr (.inr (.inl (some 76))))] [] (am_mm D I J ρ) (fun q => ∃ Q, q = (none, am_mm D (am_wp (fun c _ => Nat.beq c 76) I Q) J ρ) ∧ am_rowl (Q 76) 0 (sp_isrt l L)) := by
  refine am_e_ss 5 (q := (7, [(3, .inl 0), (0, .inr (.inr (.inl (some 71)))), (1, .inr (.inr (.inl (some 22)))), (2, .inr (.inr (.inl (some 76))))], [.inl ((I 71 3)), .inl 0], (am_mm D I J ρ))) rfl ?_
  refine am_e_icmp2 rfl ⟨by omega, by omega⟩ ⟨by omega, by omega⟩ (fun (h1 : (I 71 3) ≤ 0) => ?_) (fun (h1 : ¬ ((I 71 3) ≤ 0)) => ?_)
  · show am_E _ _ _ 69 [(3, .inl 0), (0, .inr (.inr (.inl (some 71)))), (1, .inr (.inr (.inl (some 22)))), (2, .inr (.inr (.inl (some 76))))] [] (am_mm D I J ρ) _
    refine am_e_return rfl rfl ?_
    have e0 : L = [] := List.eq_nil_of_length_eq_zero (by omega)
    subst e0
    exact ⟨I, am_r_wp (fun c _ => Nat.beq c 76) am_k_id, am_rowl_nil⟩
  · show am_E _ _ _ 10 [(3, .inl 0), (0, .inr (.inr (.inl (some 71)))), (1, .inr (.inr (.inl (some 22)))), (2, .inr (.inr (.inl (some 76))))] [] (am_mm D I J ρ) _
    refine am_e_ss 7 (q := (21, [(5, .inl 0), (4, .inl ((I 72 0))), (3, .inl 0), (0, .inr (.inr (.inl (some 71)))), (1, .inr (.inr (.inl (some 22)))), (2, .inr (.inr (.inl (some 76))))], [], (am_mm D I J ρ))) rfl ?_
    have hil : 0 < L.length := by omega
    have hx2 := hL 0 _ (List.getElem?_eq_getElem hil)
    refine (am_less (lv := [(5, .inl 0), (4, .inl ((I 72 0))), (3, .inl (0 : Int)), (2, .inr (.inr (.inl (some 76)))), (1, .inr (.inr (.inl (some 22)))), (0, .inr (.inr (.inl (some 71))))]) rfl (List.forall_mem_cons.mpr ⟨rfl, List.forall_mem_cons.mpr ⟨rfl, List.forall_mem_cons.mpr ⟨rfl, List.forall_mem_cons.mpr ⟨rfl, List.forall_mem_cons.mpr ⟨rfl, List.forall_mem_cons.mpr ⟨rfl, List.forall_mem_nil _⟩⟩⟩⟩⟩⟩) (c_sort_2_l (I := I) d (i := 0) (k := 0) (x := L[0]) hL hc h6 hx6 hl hil rfl hx2 (by omega) (by omega) (fun j hj => by omega) (fun j h1 h2 => by omega) (fun j h1 h2 => by omega))).imp ?_
    rintro q ⟨Q9, rfl, h9⟩
    exact ⟨_, am_r_wp (fun c _ => Nat.beq c 76) (am_k_wp am_k_sub (am_k_id)), h9⟩
theorem c_sort_3_l {X : Nat × (Nat → Int)} {D : List (Nat × Nat)} {I J : Nat → Nat → Int} {ρ : Nat → Nat → Option Nat} (d : Nat) {l : Nat → Int} {L : List Nat} (hL : am_rowl (I 72) 0 L) (hc : I 71 3 = (L.length : Int)) (h6 : L.length ≤ 6) (hx6 : ∀ x ∈ L, x < 6) (hl : ∀ x ∈ L, I 23 x = l x ∧ (-2147483648 ≤ l x ∧ l x < 2147483648)) {kk y : Int} {i k x : Nat} (hil : i < L.length) (hx : x = L[i]) (hyx : y = (x : Int)) (hkk : kk = (k : Int)) (hk : k ≤ i) (f1 : ∀ j, j < k → I 77 j = ((sp_isrt l (L.take i)).getD j 0 : Int)) (f2 : ∀ j, k ≤ j → j < i → I 77 (j + 1) = ((sp_isrt l (L.take i)).getD j 0 : Int)) (f3 : ∀ j, k ≤ j → j < i → l ((sp_isrt l (L.take i)).getD j 0) < l x) : am_E X d 68 21 [(5, .inl kk), (4, .inl y), (3, .inl (i : Int)), (2, .inr (.inr (.inl (some 77)))), (1, .inr (.inr (.inl (some 23)))), (0, .inr (.inr (.inl (some 71))))] [] (am_mm D I J ρ) (fun q => ∃ Q, q = (none, am_mm D (am_wp (fun c _ => Nat.beq c 77) I Q) J ρ) ∧ am_rowl (Q 77) 0 (sp_isrt l L)) := by
  have hlen : (sp_isrt l (L.take i)).length = i := by rw [sp_isrt_len, List.length_take]; omega
  have hxm : x ∈ L := by rw [hx]; exact List.getElem_mem _
  have hx61 := hx6 x hxm
  have hl2 := hl x hxm
  have hl4 : I 23 (y).toNat = l x := by rw [hyx]; exact hl2.1
  have f3' : ∀ j, k ≤ j → j < (sp_isrt l (L.take i)).length → l ((sp_isrt l (L.take i)).getD j 0) < l x := fun j h1 h2 => f3 j h1 (by omega)
  refine am_e_ss 1 (q := (23, [(5, .inl kk), (4, .inl y), (3, .inl (i : Int)), (2, .inr (.inr (.inl (some 77)))), (1, .inr (.inr (.inl (some 23)))), (0, .inr (.inr (.inl (some 71))))], [.inl kk], (am_mm D I J ρ))) rfl ?_
  refine am_e_if2 rfl ⟨by omega, by omega⟩ (fun (h1 : kk ≤ 0) => ?_) (fun (h1 : ¬ (kk ≤ 0)) => ?_)
  · show am_E _ _ _ 57 [(5, .inl kk), (4, .inl y), (3, .inl (i : Int)), (2, .inr (.inr (.inl (some 77)))), (1, .inr (.inr (.inl (some 23)))), (0, .inr (.inr (.inl (some 71))))] [] (am_mm D I J ρ) _
    have hk1 : k = 0 ∨ l x ≤ l ((sp_isrt l (L.take i)).getD (k - 1) 0) := by left; omega
    refine am_e_ss 3 (q := (62, [(5, .inl kk), (4, .inl y), (3, .inl (i : Int)), (2, .inr (.inr (.inl (some 77)))), (1, .inr (.inr (.inl (some 23)))), (0, .inr (.inr (.inl (some 71))))], [.inl y, .inl kk, .inr (.inr (.inl (some 77)))], (am_mm D I J ρ))) rfl ?_
    refine am_e_iastore (m := 6) rfl rfl (by omega) (by omega) (by omega) ?_
    show am_E _ _ _ 63 [(5, .inl kk), (4, .inl y), (3, .inl (i : Int)), (2, .inr (.inr (.inl (some 77)))), (1, .inr (.inr (.inl (some 23)))), (0, .inr (.inr (.inl (some 71))))] [] (am_mm D (am_up I 77 (kk).toNat y) J ρ) _
    refine am_e_ss 5 (q := (7, [(3, .inl ((i : Int) + 1)), (5, .inl kk), (4, .inl y), (2, .inr (.inr (.inl (some 77)))), (1, .inr (.inr (.inl (some 23)))), (0, .inr (.inr (.inl (some 71))))], [.inl ((I 71 3)), .inl ((i : Int) + 1)], (am_mm D (am_up I 77 (kk).toNat y) J ρ))) rfl ?_
    refine am_e_icmp2 rfl ⟨by omega, by omega⟩ ⟨by omega, by omega⟩ (fun (h2 : (I 71 3) ≤ ((i : Int) + 1)) => ?_) (fun (h2 : ¬ ((I 71 3) ≤ ((i : Int) + 1))) => ?_)
    · show am_E _ _ _ 69 [(3, .inl ((i : Int) + 1)), (5, .inl kk), (4, .inl y), (2, .inr (.inr (.inl (some 77)))), (1, .inr (.inr (.inl (some 23)))), (0, .inr (.inr (.inl (some 71))))] [] (am_mm D (am_up I 77 (kk).toNat y) J ρ) _
      refine am_e_return rfl rfl ?_
      have hins : sp_isrt l (L.take (i + 1)) = (sp_isrt l (L.take i)).take k ++ x :: (sp_isrt l (L.take i)).drop k := by
        rw [List.take_succ, List.getElem?_eq_getElem hil, Option.toList_some, sp_isrt_s, ← hx]
        exact sp_ins_k (sp_isrt_pw _) (by omega) hk1 f3'
      have hrw : am_rowl ((am_up I 77 (kk).toNat y) 77) 0 (sp_isrt l (L.take (i + 1))) := by
        rw [hins]
        exact am_rowl_ins (by omega) (fun j hj => (am_up_ne2 (by omega)).trans (f1 j hj)) (fun j h1 h2 => (am_up_ne2 (by omega)).trans (f2 j h1 (by omega))) (by rw [show k = (kk).toNat by omega]; exact am_up_at2.trans hyx)
      rw [List.take_of_length_le (by omega)] at hrw
      exact ⟨_, am_r_wp (fun c _ => Nat.beq c 77) (am_k_up rfl (am_k_id)), hrw⟩
    · show am_E _ _ _ 10 [(3, .inl ((i : Int) + 1)), (5, .inl kk), (4, .inl y), (2, .inr (.inr (.inl (some 77)))), (1, .inr (.inr (.inl (some 23)))), (0, .inr (.inr (.inl (some 71))))] [] (am_mm D (am_up I 77 (kk).toNat y) J ρ) _
      refine am_e_ss 3 (q := (15, [(3, .inl ((i : Int) + 1)), (5, .inl kk), (4, .inl y), (2, .inr (.inr (.inl (some 77)))), (1, .inr (.inr (.inl (some 23)))), (0, .inr (.inr (.inl (some 71))))], [.inl ((i : Int) + 1), .inr (.inr (.inl (some 72)))], (am_mm D (am_up I 77 (kk).toNat y) J ρ))) rfl ?_
      refine am_e_iaload (m := 6) rfl rfl (by omega) (by omega) (by omega) ?_
      show am_E _ _ _ 16 [(3, .inl ((i : Int) + 1)), (5, .inl kk), (4, .inl y), (2, .inr (.inr (.inl (some 77)))), (1, .inr (.inr (.inl (some 23)))), (0, .inr (.inr (.inl (some 71))))] [.inl ((I 72 (i + 1)))] (am_mm D (am_up I 77 (kk).toNat y) J ρ) _
      refine am_e_ss 3 (q := (21, [(5, .inl ((i : Int) + 1)), (4, .inl ((I 72 (i + 1)))), (3, .inl ((i : Int) + 1)), (2, .inr (.inr (.inl (some 77)))), (1, .inr (.inr (.inl (some 23)))), (0, .inr (.inr (.inl (some 71))))], [], (am_mm D (am_up I 77 (kk).toNat y) J ρ))) rfl ?_
      have hins : sp_isrt l (L.take (i + 1)) = (sp_isrt l (L.take i)).take k ++ x :: (sp_isrt l (L.take i)).drop k := by
        rw [List.take_succ, List.getElem?_eq_getElem hil, Option.toList_some, sp_isrt_s, ← hx]
        exact sp_ins_k (sp_isrt_pw _) (by omega) hk1 f3'
      have hrw : am_rowl ((am_up I 77 (kk).toNat y) 77) 0 (sp_isrt l (L.take (i + 1))) := by
        rw [hins]
        exact am_rowl_ins (by omega) (fun j hj => (am_up_ne2 (by omega)).trans (f1 j hj)) (fun j h1 h2 => (am_up_ne2 (by omega)).trans (f2 j h1 (by omega))) (by rw [show k = (kk).toNat by omega]; exact am_up_at2.trans hyx)
      have hil2 : i + 1 < L.length := by omega
      have hx2 := hL (i + 1) _ (List.getElem?_eq_getElem hil2)
      rw [Nat.zero_add] at hx2
      have hlen2 : (sp_isrt l (L.take (i + 1))).length = i + 1 := by rw [sp_isrt_len, List.length_take]; omega
      refine (am_less (lv := [(5, .inl (((i : Int) + 1))), (4, .inl ((I 72 (i + 1)))), (3, .inl ((i + 1) : Int)), (2, .inr (.inr (.inl (some 77)))), (1, .inr (.inr (.inl (some 23)))), (0, .inr (.inr (.inl (some 71))))]) rfl (List.forall_mem_cons.mpr ⟨rfl, List.forall_mem_cons.mpr ⟨rfl, List.forall_mem_cons.mpr ⟨rfl, List.forall_mem_cons.mpr ⟨rfl, List.forall_mem_cons.mpr ⟨rfl, List.forall_mem_cons.mpr ⟨rfl, List.forall_mem_nil _⟩⟩⟩⟩⟩⟩) (c_sort_3_l (I := am_up I 77 (kk).toNat y) d (i := i + 1) (k := i + 1) (x := L[i + 1]) hL hc h6 hx6 hl hil2 rfl hx2 (by omega) (by omega) (fun j hj => am_rowl_d hrw (by omega)) (fun j h1 h2 => by omega) (fun j h1 h2 => by omega))).imp ?_
      rintro q ⟨Q9, rfl, h9⟩
      exact ⟨_, am_r_wp (fun c _ => Nat.beq c 77) (am_k_wp am_k_sub (am_k_up rfl (am_k_id))), h9⟩
  · show am_E _ _ _ 26 [(5, .inl kk), (4, .inl y), (3, .inl (i : Int)), (2, .inr (.inr (.inl (some 77)))), (1, .inr (.inr (.inl (some 23)))), (0, .inr (.inr (.inl (some 71))))] [] (am_mm D I J ρ) _
    have hr1 : I 77 (kk - 1).toNat = (((sp_isrt l (L.take i)).getD (k - 1) 0 : Nat) : Int) := by rw [show (kk - 1).toNat = k - 1 by omega]; exact f1 (k - 1) (by omega)
    have hmm : (sp_isrt l (L.take i)).getD (k - 1) 0 ∈ L := by
      rw [am_getD (by omega)]
      exact List.mem_of_mem_take ((sp_isrt_mem _).mp (List.getElem_mem _))
    have hl1 := hl _ hmm
    have hx62 := hx6 _ hmm
    have hl3 : I 23 (I 77 (kk - 1).toNat).toNat = l ((sp_isrt l (L.take i)).getD (k - 1) 0) := by rw [hr1]; exact hl1.1
    refine am_e_ss 5 (q := (32, [(5, .inl kk), (4, .inl y), (3, .inl (i : Int)), (2, .inr (.inr (.inl (some 77)))), (1, .inr (.inr (.inl (some 23)))), (0, .inr (.inr (.inl (some 71))))], [.inl (kk - 1), .inr (.inr (.inl (some 77))), .inr (.inr (.inl (some 23)))], (am_mm D I J ρ))) rfl ?_
    refine am_e_iaload (m := 6) rfl rfl (by omega) (by omega) (by omega) ?_
    show am_E _ _ _ 33 [(5, .inl kk), (4, .inl y), (3, .inl (i : Int)), (2, .inr (.inr (.inl (some 77)))), (1, .inr (.inr (.inl (some 23)))), (0, .inr (.inr (.inl (some 71))))] [.inl ((I 77 ((kk - 1)).toNat)), .inr (.inr (.inl (some 23)))] (am_mm D I J ρ) _
    refine am_e_iaload (m := 6) rfl rfl (by omega) (by omega) (by omega) ?_
    show am_E _ _ _ 34 [(5, .inl kk), (4, .inl y), (3, .inl (i : Int)), (2, .inr (.inr (.inl (some 77)))), (1, .inr (.inr (.inl (some 23)))), (0, .inr (.inr (.inl (some 71))))] [.inl ((I 23 ((I 77 ((kk - 1)).toNat)).toNat))] (am_mm D I J ρ) _
    refine am_e_ss 2 (q := (37, [(5, .inl kk), (4, .inl y), (3, .inl (i : Int)), (2, .inr (.inr (.inl (some 77)))), (1, .inr (.inr (.inl (some 23)))), (0, .inr (.inr (.inl (some 71))))], [.inl y, .inr (.inr (.inl (some 23))), .inl ((I 23 ((I 77 ((kk - 1)).toNat)).toNat))], (am_mm D I J ρ))) rfl ?_
    refine am_e_iaload (m := 6) rfl rfl (by omega) (by omega) (by omega) ?_
    show am_E _ _ _ 38 [(5, .inl kk), (4, .inl y), (3, .inl (i : Int)), (2, .inr (.inr (.inl (some 77)))), (1, .inr (.inr (.inl (some 23)))), (0, .inr (.inr (.inl (some 71))))] [.inl ((I 23 (y).toNat)), .inl ((I 23 ((I 77 ((kk - 1)).toNat)).toNat))] (am_mm D I J ρ) _
    refine am_e_icmp2 rfl ⟨by omega, by omega⟩ ⟨by omega, by omega⟩ (fun (h3 : (I 23 (y).toNat) ≤ (I 23 ((I 77 ((kk - 1)).toNat)).toNat)) => ?_) (fun (h3 : ¬ ((I 23 (y).toNat) ≤ (I 23 ((I 77 ((kk - 1)).toNat)).toNat))) => ?_)
    · show am_E _ _ _ 57 [(5, .inl kk), (4, .inl y), (3, .inl (i : Int)), (2, .inr (.inr (.inl (some 77)))), (1, .inr (.inr (.inl (some 23)))), (0, .inr (.inr (.inl (some 71))))] [] (am_mm D I J ρ) _
      have hk1 : k = 0 ∨ l x ≤ l ((sp_isrt l (L.take i)).getD (k - 1) 0) := by right; omega
      refine am_e_ss 3 (q := (62, [(5, .inl kk), (4, .inl y), (3, .inl (i : Int)), (2, .inr (.inr (.inl (some 77)))), (1, .inr (.inr (.inl (some 23)))), (0, .inr (.inr (.inl (some 71))))], [.inl y, .inl kk, .inr (.inr (.inl (some 77)))], (am_mm D I J ρ))) rfl ?_
      refine am_e_iastore (m := 6) rfl rfl (by omega) (by omega) (by omega) ?_
      show am_E _ _ _ 63 [(5, .inl kk), (4, .inl y), (3, .inl (i : Int)), (2, .inr (.inr (.inl (some 77)))), (1, .inr (.inr (.inl (some 23)))), (0, .inr (.inr (.inl (some 71))))] [] (am_mm D (am_up I 77 (kk).toNat y) J ρ) _
      refine am_e_ss 5 (q := (7, [(3, .inl ((i : Int) + 1)), (5, .inl kk), (4, .inl y), (2, .inr (.inr (.inl (some 77)))), (1, .inr (.inr (.inl (some 23)))), (0, .inr (.inr (.inl (some 71))))], [.inl ((I 71 3)), .inl ((i : Int) + 1)], (am_mm D (am_up I 77 (kk).toNat y) J ρ))) rfl ?_
      refine am_e_icmp2 rfl ⟨by omega, by omega⟩ ⟨by omega, by omega⟩ (fun (h4 : (I 71 3) ≤ ((i : Int) + 1)) => ?_) (fun (h4 : ¬ ((I 71 3) ≤ ((i : Int) + 1))) => ?_)
      · show am_E _ _ _ 69 [(3, .inl ((i : Int) + 1)), (5, .inl kk), (4, .inl y), (2, .inr (.inr (.inl (some 77)))), (1, .inr (.inr (.inl (some 23)))), (0, .inr (.inr (.inl (some 71))))] [] (am_mm D (am_up I 77 (kk).toNat y) J ρ) _
        refine am_e_return rfl rfl ?_
        have hins : sp_isrt l (L.take (i + 1)) = (sp_isrt l (L.take i)).take k ++ x :: (sp_isrt l (L.take i)).drop k := by
          rw [List.take_succ, List.getElem?_eq_getElem hil, Option.toList_some, sp_isrt_s, ← hx]
          exact sp_ins_k (sp_isrt_pw _) (by omega) hk1 f3'
        have hrw : am_rowl ((am_up I 77 (kk).toNat y) 77) 0 (sp_isrt l (L.take (i + 1))) := by
          rw [hins]
          exact am_rowl_ins (by omega) (fun j hj => (am_up_ne2 (by omega)).trans (f1 j hj)) (fun j h1 h2 => (am_up_ne2 (by omega)).trans (f2 j h1 (by omega))) (by rw [show k = (kk).toNat by omega]; exact am_up_at2.trans hyx)
        rw [List.take_of_length_le (by omega)] at hrw
        exact ⟨_, am_r_wp (fun c _ => Nat.beq c 77) (am_k_up rfl (am_k_id)), hrw⟩
      · show am_E _ _ _ 10 [(3, .inl ((i : Int) + 1)), (5, .inl kk), (4, .inl y), (2, .inr (.inr (.inl (some 77)))), (1, .inr (.inr (.inl (some 23)))), (0, .inr (.inr (.inl (some 71))))] [] (am_mm D (am_up I 77 (kk).toNat y) J ρ) _
        refine am_e_ss 3 (q := (15, [(3, .inl ((i : Int) + 1)), (5, .inl kk), (4, .inl y), (2, .inr (.inr (.inl (some 77)))), (1, .inr (.inr (.inl (some 23)))), (0, .inr (.inr (.inl (some 71))))], [.inl ((i : Int) + 1), .inr (.inr (.inl (some 72)))], (am_mm D (am_up I 77 (kk).toNat y) J ρ))) rfl ?_
        refine am_e_iaload (m := 6) rfl rfl (by omega) (by omega) (by omega) ?_
        show am_E _ _ _ 16 [(3, .inl ((i : Int) + 1)), (5, .inl kk), (4, .inl y), (2, .inr (.inr (.inl (some 77)))), (1, .inr (.inr (.inl (some 23)))), (0, .inr (.inr (.inl (some 71))))] [.inl ((I 72 (i + 1)))] (am_mm D (am_up I 77 (kk).toNat y) J ρ) _
        refine am_e_ss 3 (q := (21, [(5, .inl ((i : Int) + 1)), (4, .inl ((I 72 (i + 1)))), (3, .inl ((i : Int) + 1)), (2, .inr (.inr (.inl (some 77)))), (1, .inr (.inr (.inl (some 23)))), (0, .inr (.inr (.inl (some 71))))], [], (am_mm D (am_up I 77 (kk).toNat y) J ρ))) rfl ?_
        have hins : sp_isrt l (L.take (i + 1)) = (sp_isrt l (L.take i)).take k ++ x :: (sp_isrt l (L.take i)).drop k := by
          rw [List.take_succ, List.getElem?_eq_getElem hil, Option.toList_some, sp_isrt_s, ← hx]
          exact sp_ins_k (sp_isrt_pw _) (by omega) hk1 f3'
        have hrw : am_rowl ((am_up I 77 (kk).toNat y) 77) 0 (sp_isrt l (L.take (i + 1))) := by
          rw [hins]
          exact am_rowl_ins (by omega) (fun j hj => (am_up_ne2 (by omega)).trans (f1 j hj)) (fun j h1 h2 => (am_up_ne2 (by omega)).trans (f2 j h1 (by omega))) (by rw [show k = (kk).toNat by omega]; exact am_up_at2.trans hyx)
        have hil2 : i + 1 < L.length := by omega
        have hx2 := hL (i + 1) _ (List.getElem?_eq_getElem hil2)
        rw [Nat.zero_add] at hx2
        have hlen2 : (sp_isrt l (L.take (i + 1))).length = i + 1 := by rw [sp_isrt_len, List.length_take]; omega
        refine (am_less (lv := [(5, .inl (((i : Int) + 1))), (4, .inl ((I 72 (i + 1)))), (3, .inl ((i + 1) : Int)), (2, .inr (.inr (.inl (some 77)))), (1, .inr (.inr (.inl (some 23)))), (0, .inr (.inr (.inl (some 71))))]) rfl (List.forall_mem_cons.mpr ⟨rfl, List.forall_mem_cons.mpr ⟨rfl, List.forall_mem_cons.mpr ⟨rfl, List.forall_mem_cons.mpr ⟨rfl, List.forall_mem_cons.mpr ⟨rfl, List.forall_mem_cons.mpr ⟨rfl, List.forall_mem_nil _⟩⟩⟩⟩⟩⟩) (c_sort_3_l (I := am_up I 77 (kk).toNat y) d (i := i + 1) (k := i + 1) (x := L[i + 1]) hL hc h6 hx6 hl hil2 rfl hx2 (by omega) (by omega) (fun j hj => am_rowl_d hrw (by omega)) (fun j h1 h2 => by omega) (fun j h1 h2 => by omega))).imp ?_
        rintro q ⟨Q9, rfl, h9⟩
        exact ⟨_, am_r_wp (fun c _ => Nat.beq c 77) (am_k_wp am_k_sub (am_k_up rfl (am_k_id))), h9⟩
    · show am_E _ _ _ 41 [(5, .inl kk), (4, .inl y), (3, .inl (i : Int)), (2, .inr (.inr (.inl (some 77)))), (1, .inr (.inr (.inl (some 23)))), (0, .inr (.inr (.inl (some 71))))] [] (am_mm D I J ρ) _
      have hlt : l ((sp_isrt l (L.take i)).getD (k - 1) 0) < l x := by omega
      refine am_e_ss 6 (q := (49, [(5, .inl kk), (4, .inl y), (3, .inl (i : Int)), (2, .inr (.inr (.inl (some 77)))), (1, .inr (.inr (.inl (some 23)))), (0, .inr (.inr (.inl (some 71))))], [.inl (kk - 1), .inr (.inr (.inl (some 77))), .inl kk, .inr (.inr (.inl (some 77)))], (am_mm D I J ρ))) rfl ?_
      refine am_e_iaload (m := 6) rfl rfl (by omega) (by omega) (by omega) ?_
      show am_E _ _ _ 50 [(5, .inl kk), (4, .inl y), (3, .inl (i : Int)), (2, .inr (.inr (.inl (some 77)))), (1, .inr (.inr (.inl (some 23)))), (0, .inr (.inr (.inl (some 71))))] [.inl ((I 77 ((kk - 1)).toNat)), .inl kk, .inr (.inr (.inl (some 77)))] (am_mm D I J ρ) _
      refine am_e_iastore (m := 6) rfl rfl (by omega) (by omega) (by omega) ?_
      show am_E _ _ _ 51 [(5, .inl kk), (4, .inl y), (3, .inl (i : Int)), (2, .inr (.inr (.inl (some 77)))), (1, .inr (.inr (.inl (some 23)))), (0, .inr (.inr (.inl (some 71))))] [] (am_mm D (am_up I 77 (kk).toNat (I 77 ((kk - 1)).toNat)) J ρ) _
      refine am_e_ss 2 (q := (21, [(5, .inl (kk + (-1))), (4, .inl y), (3, .inl (i : Int)), (2, .inr (.inr (.inl (some 77)))), (1, .inr (.inr (.inl (some 23)))), (0, .inr (.inr (.inl (some 71))))], [], (am_mm D (am_up I 77 (kk).toNat (I 77 ((kk - 1)).toNat)) J ρ))) rfl ?_
      obtain ⟨k', rfl⟩ : ∃ k', k = k' + 1 := ⟨k - 1, by omega⟩
      have ek : (kk).toNat = k' + 1 := by omega
      have g1 : ∀ j, j < k' → (am_up I 77 (kk).toNat (I 77 ((kk - 1)).toNat)) 77 j = ((sp_isrt l (L.take i)).getD j 0 : Int) := fun j hj => (am_up_ne2 (by omega)).trans (f1 j (by omega))
      have g2 : ∀ j, k' ≤ j → j < i → (am_up I 77 (kk).toNat (I 77 ((kk - 1)).toNat)) 77 (j + 1) = ((sp_isrt l (L.take i)).getD j 0 : Int) := by
        intro j h1 h2
        by_cases e : j = k'
        · subst e; rw [← ek]; refine am_up_at2.trans ?_; rw [show (kk - 1).toNat = j by omega]; exact f1 j (by omega)
        · exact (am_up_ne2 (by omega)).trans (f2 j (by omega) h2)
      have g3 : ∀ j, k' ≤ j → j < i → l ((sp_isrt l (L.take i)).getD j 0) < l x := by
        intro j h1 h2
        by_cases e : j = k'
        · subst e; exact hlt
        · exact f3 j (by omega) h2
      refine (am_less (lv := [(5, .inl ((kk + (-1)))), (4, .inl y), (3, .inl (i : Int)), (2, .inr (.inr (.inl (some 77)))), (1, .inr (.inr (.inl (some 23)))), (0, .inr (.inr (.inl (some 71))))]) rfl (List.forall_mem_cons.mpr ⟨rfl, List.forall_mem_cons.mpr ⟨rfl, List.forall_mem_cons.mpr ⟨rfl, List.forall_mem_cons.mpr ⟨rfl, List.forall_mem_cons.mpr ⟨rfl, List.forall_mem_cons.mpr ⟨rfl, List.forall_mem_nil _⟩⟩⟩⟩⟩⟩) (c_sort_3_l (I := am_up I 77 (kk).toNat (I 77 ((kk - 1)).toNat)) d (i := i) (k := k') (x := x) hL hc h6 hx6 hl hil hx hyx (by omega) (by omega) g1 g2 g3)).imp ?_
      rintro q ⟨Q9, rfl, h9⟩
      exact ⟨_, am_r_wp (fun c _ => Nat.beq c 77) (am_k_wp am_k_sub (am_k_up rfl (am_k_id))), h9⟩
termination_by (8 * (7 - i) + k)
decreasing_by all_goals omega
theorem c_sort_3 {X : Nat × (Nat → Int)} {D : List (Nat × Nat)} {I J : Nat → Nat → Int} {ρ : Nat → Nat → Option Nat} (d : Nat) {l : Nat → Int} {L : List Nat} (hL : am_rowl (I 72) 0 L) (hc : I 71 3 = (L.length : Int)) (h6 : L.length ≤ 6) (hx6 : ∀ x ∈ L, x < 6) (hl : ∀ x ∈ L, I 23 x = l x ∧ (-2147483648 ≤ l x ∧ l x < 2147483648))  : am_E X d 68 0 [(0, .inr (.inr (.inl (some 71)))), (1, .inr (.inr (.inl (some 23)))), (2, .inr (.inr (.inl (some 77))))] [] (am_mm D I J ρ) (fun q => ∃ Q, q = (none, am_mm D (am_wp (fun c _ => Nat.beq c 77) I Q) J ρ) ∧ am_rowl (Q 77) 0 (sp_isrt l L)) := by
  refine am_e_ss 5 (q := (7, [(3, .inl 0), (0, .inr (.inr (.inl (some 71)))), (1, .inr (.inr (.inl (some 23)))), (2, .inr (.inr (.inl (some 77))))], [.inl ((I 71 3)), .inl 0], (am_mm D I J ρ))) rfl ?_
  refine am_e_icmp2 rfl ⟨by omega, by omega⟩ ⟨by omega, by omega⟩ (fun (h1 : (I 71 3) ≤ 0) => ?_) (fun (h1 : ¬ ((I 71 3) ≤ 0)) => ?_)
  · show am_E _ _ _ 69 [(3, .inl 0), (0, .inr (.inr (.inl (some 71)))), (1, .inr (.inr (.inl (some 23)))), (2, .inr (.inr (.inl (some 77))))] [] (am_mm D I J ρ) _
    refine am_e_return rfl rfl ?_
    have e0 : L = [] := List.eq_nil_of_length_eq_zero (by omega)
    subst e0
    exact ⟨I, am_r_wp (fun c _ => Nat.beq c 77) am_k_id, am_rowl_nil⟩
  · show am_E _ _ _ 10 [(3, .inl 0), (0, .inr (.inr (.inl (some 71)))), (1, .inr (.inr (.inl (some 23)))), (2, .inr (.inr (.inl (some 77))))] [] (am_mm D I J ρ) _
    refine am_e_ss 7 (q := (21, [(5, .inl 0), (4, .inl ((I 72 0))), (3, .inl 0), (0, .inr (.inr (.inl (some 71)))), (1, .inr (.inr (.inl (some 23)))), (2, .inr (.inr (.inl (some 77))))], [], (am_mm D I J ρ))) rfl ?_
    have hil : 0 < L.length := by omega
    have hx2 := hL 0 _ (List.getElem?_eq_getElem hil)
    refine (am_less (lv := [(5, .inl 0), (4, .inl ((I 72 0))), (3, .inl (0 : Int)), (2, .inr (.inr (.inl (some 77)))), (1, .inr (.inr (.inl (some 23)))), (0, .inr (.inr (.inl (some 71))))]) rfl (List.forall_mem_cons.mpr ⟨rfl, List.forall_mem_cons.mpr ⟨rfl, List.forall_mem_cons.mpr ⟨rfl, List.forall_mem_cons.mpr ⟨rfl, List.forall_mem_cons.mpr ⟨rfl, List.forall_mem_cons.mpr ⟨rfl, List.forall_mem_nil _⟩⟩⟩⟩⟩⟩) (c_sort_3_l (I := I) d (i := 0) (k := 0) (x := L[0]) hL hc h6 hx6 hl hil rfl hx2 (by omega) (by omega) (fun j hj => by omega) (fun j h1 h2 => by omega) (fun j h1 h2 => by omega))).imp ?_
    rintro q ⟨Q9, rfl, h9⟩
    exact ⟨_, am_r_wp (fun c _ => Nat.beq c 77) (am_k_wp am_k_sub (am_k_id)), h9⟩
theorem c_sort_4_l {X : Nat × (Nat → Int)} {D : List (Nat × Nat)} {I J : Nat → Nat → Int} {ρ : Nat → Nat → Option Nat} (d : Nat) {l : Nat → Int} {L : List Nat} (hL : am_rowl (I 72) 0 L) (hc : I 71 3 = (L.length : Int)) (h6 : L.length ≤ 6) (hx6 : ∀ x ∈ L, x < 6) (hl : ∀ x ∈ L, I 24 x = l x ∧ (-2147483648 ≤ l x ∧ l x < 2147483648)) {kk y : Int} {i k x : Nat} (hil : i < L.length) (hx : x = L[i]) (hyx : y = (x : Int)) (hkk : kk = (k : Int)) (hk : k ≤ i) (f1 : ∀ j, j < k → I 78 j = ((sp_isrt l (L.take i)).getD j 0 : Int)) (f2 : ∀ j, k ≤ j → j < i → I 78 (j + 1) = ((sp_isrt l (L.take i)).getD j 0 : Int)) (f3 : ∀ j, k ≤ j → j < i → l ((sp_isrt l (L.take i)).getD j 0) < l x) : am_E X d 68 21 [(5, .inl kk), (4, .inl y), (3, .inl (i : Int)), (2, .inr (.inr (.inl (some 78)))), (1, .inr (.inr (.inl (some 24)))), (0, .inr (.inr (.inl (some 71))))] [] (am_mm D I J ρ) (fun q => ∃ Q, q = (none, am_mm D (am_wp (fun c _ => Nat.beq c 78) I Q) J ρ) ∧ am_rowl (Q 78) 0 (sp_isrt l L)) := by
  have hlen : (sp_isrt l (L.take i)).length = i := by rw [sp_isrt_len, List.length_take]; omega
  have hxm : x ∈ L := by rw [hx]; exact List.getElem_mem _
  have hx61 := hx6 x hxm
  have hl2 := hl x hxm
  have hl4 : I 24 (y).toNat = l x := by rw [hyx]; exact hl2.1
  have f3' : ∀ j, k ≤ j → j < (sp_isrt l (L.take i)).length → l ((sp_isrt l (L.take i)).getD j 0) < l x := fun j h1 h2 => f3 j h1 (by omega)
  refine am_e_ss 1 (q := (23, [(5, .inl kk), (4, .inl y), (3, .inl (i : Int)), (2, .inr (.inr (.inl (some 78)))), (1, .inr (.inr (.inl (some 24)))), (0, .inr (.inr (.inl (some 71))))], [.inl kk], (am_mm D I J ρ))) rfl ?_
  refine am_e_if2 rfl ⟨by omega, by omega⟩ (fun (h1 : kk ≤ 0) => ?_) (fun (h1 : ¬ (kk ≤ 0)) => ?_)
  · show am_E _ _ _ 57 [(5, .inl kk), (4, .inl y), (3, .inl (i : Int)), (2, .inr (.inr (.inl (some 78)))), (1, .inr (.inr (.inl (some 24)))), (0, .inr (.inr (.inl (some 71))))] [] (am_mm D I J ρ) _
    have hk1 : k = 0 ∨ l x ≤ l ((sp_isrt l (L.take i)).getD (k - 1) 0) := by left; omega
    refine am_e_ss 3 (q := (62, [(5, .inl kk), (4, .inl y), (3, .inl (i : Int)), (2, .inr (.inr (.inl (some 78)))), (1, .inr (.inr (.inl (some 24)))), (0, .inr (.inr (.inl (some 71))))], [.inl y, .inl kk, .inr (.inr (.inl (some 78)))], (am_mm D I J ρ))) rfl ?_
    refine am_e_iastore (m := 6) rfl rfl (by omega) (by omega) (by omega) ?_
    show am_E _ _ _ 63 [(5, .inl kk), (4, .inl y), (3, .inl (i : Int)), (2, .inr (.inr (.inl (some 78)))), (1, .inr (.inr (.inl (some 24)))), (0, .inr (.inr (.inl (some 71))))] [] (am_mm D (am_up I 78 (kk).toNat y) J ρ) _
    refine am_e_ss 5 (q := (7, [(3, .inl ((i : Int) + 1)), (5, .inl kk), (4, .inl y), (2, .inr (.inr (.inl (some 78)))), (1, .inr (.inr (.inl (some 24)))), (0, .inr (.inr (.inl (some 71))))], [.inl ((I 71 3)), .inl ((i : Int) + 1)], (am_mm D (am_up I 78 (kk).toNat y) J ρ))) rfl ?_
    refine am_e_icmp2 rfl ⟨by omega, by omega⟩ ⟨by omega, by omega⟩ (fun (h2 : (I 71 3) ≤ ((i : Int) + 1)) => ?_) (fun (h2 : ¬ ((I 71 3) ≤ ((i : Int) + 1))) => ?_)
    · show am_E _ _ _ 69 [(3, .inl ((i : Int) + 1)), (5, .inl kk), (4, .inl y), (2, .inr (.inr (.inl (some 78)))), (1, .inr (.inr (.inl (some 24)))), (0, .inr (.inr (.inl (some 71))))] [] (am_mm D (am_up I 78 (kk).toNat y) J ρ) _
      refine am_e_return rfl rfl ?_
      have hins : sp_isrt l (L.take (i + 1)) = (sp_isrt l (L.take i)).take k ++ x :: (sp_isrt l (L.take i)).drop k := by
        rw [List.take_succ, List.getElem?_eq_getElem hil, Option.toList_some, sp_isrt_s, ← hx]
        exact sp_ins_k (sp_isrt_pw _) (by omega) hk1 f3'
      have hrw : am_rowl ((am_up I 78 (kk).toNat y) 78) 0 (sp_isrt l (L.take (i + 1))) := by
        rw [hins]
        exact am_rowl_ins (by omega) (fun j hj => (am_up_ne2 (by omega)).trans (f1 j hj)) (fun j h1 h2 => (am_up_ne2 (by omega)).trans (f2 j h1 (by omega))) (by rw [show k = (kk).toNat by omega]; exact am_up_at2.trans hyx)
      rw [List.take_of_length_le (by omega)] at hrw
      exact ⟨_, am_r_wp (fun c _ => Nat.beq c 78) (am_k_up rfl (am_k_id)), hrw⟩
    · show am_E _ _ _ 10 [(3, .inl ((i : Int) + 1)), (5, .inl kk), (4, .inl y), (2, .inr (.inr (.inl (some 78)))), (1, .inr (.inr (.inl (some 24)))), (0, .inr (.inr (.inl (some 71))))] [] (am_mm D (am_up I 78 (kk).toNat y) J ρ) _
      refine am_e_ss 3 (q := (15, [(3, .inl ((i : Int) + 1)), (5, .inl kk), (4, .inl y), (2, .inr (.inr (.inl (some 78)))), (1, .inr (.inr (.inl (some 24)))), (0, .inr (.inr (.inl (some 71))))], [.inl ((i : Int) + 1), .inr (.inr (.inl (some 72)))], (am_mm D (am_up I 78 (kk).toNat y) J ρ))) rfl ?_
      refine am_e_iaload (m := 6) rfl rfl (by omega) (by omega) (by omega) ?_
      show am_E _ _ _ 16 [(3, .inl ((i : Int) + 1)), (5, .inl kk), (4, .inl y), (2, .inr (.inr (.inl (some 78)))), (1, .inr (.inr (.inl (some 24)))), (0, .inr (.inr (.inl (some 71))))] [.inl ((I 72 (i + 1)))] (am_mm D (am_up I 78 (kk).toNat y) J ρ) _
      refine am_e_ss 3 (q := (21, [(5, .inl ((i : Int) + 1)), (4, .inl ((I 72 (i + 1)))), (3, .inl ((i : Int) + 1)), (2, .inr (.inr (.inl (some 78)))), (1, .inr (.inr (.inl (some 24)))), (0, .inr (.inr (.inl (some 71))))], [], (am_mm D (am_up I 78 (kk).toNat y) J ρ))) rfl ?_
      have hins : sp_isrt l (L.take (i + 1)) = (sp_isrt l (L.take i)).take k ++ x :: (sp_isrt l (L.take i)).drop k := by
        rw [List.take_succ, List.getElem?_eq_getElem hil, Option.toList_some, sp_isrt_s, ← hx]
        exact sp_ins_k (sp_isrt_pw _) (by omega) hk1 f3'
      have hrw : am_rowl ((am_up I 78 (kk).toNat y) 78) 0 (sp_isrt l (L.take (i + 1))) := by
        rw [hins]
        exact am_rowl_ins (by omega) (fun j hj => (am_up_ne2 (by omega)).trans (f1 j hj)) (fun j h1 h2 => (am_up_ne2 (by omega)).trans (f2 j h1 (by omega))) (by rw [show k = (kk).toNat by omega]; exact am_up_at2.trans hyx)
      have hil2 : i + 1 < L.length := by omega
      have hx2 := hL (i + 1) _ (List.getElem?_eq_getElem hil2)
      rw [Nat.zero_add] at hx2
      have hlen2 : (sp_isrt l (L.take (i + 1))).length = i + 1 := by rw [sp_isrt_len, List.length_take]; omega
      refine (am_less (lv := [(5, .inl (((i : Int) + 1))), (4, .inl ((I 72 (i + 1)))), (3, .inl ((i + 1) : Int)), (2, .inr (.inr (.inl (some 78)))), (1, .inr (.inr (.inl (some 24)))), (0, .inr (.inr (.inl (some 71))))]) rfl (List.forall_mem_cons.mpr ⟨rfl, List.forall_mem_cons.mpr ⟨rfl, List.forall_mem_cons.mpr ⟨rfl, List.forall_mem_cons.mpr ⟨rfl, List.forall_mem_cons.mpr ⟨rfl, List.forall_mem_cons.mpr ⟨rfl, List.forall_mem_nil _⟩⟩⟩⟩⟩⟩) (c_sort_4_l (I := am_up I 78 (kk).toNat y) d (i := i + 1) (k := i + 1) (x := L[i + 1]) hL hc h6 hx6 hl hil2 rfl hx2 (by omega) (by omega) (fun j hj => am_rowl_d hrw (by omega)) (fun j h1 h2 => by omega) (fun j h1 h2 => by omega))).imp ?_
      rintro q ⟨Q9, rfl, h9⟩
      exact ⟨_, am_r_wp (fun c _ => Nat.beq c 78) (am_k_wp am_k_sub (am_k_up rfl (am_k_id))), h9⟩
  · show am_E _ _ _ 26 [(5, .inl kk), (4, .inl y), (3, .inl (i : Int)), (2, .inr (.inr (.inl (some 78)))), (1, .inr (.inr (.inl (some 24)))), (0, .inr (.inr (.inl (some 71))))] [] (am_mm D I J ρ) _
    have hr1 : I 78 (kk - 1).toNat = (((sp_isrt l (L.take i)).getD (k - 1) 0 : Nat) : Int) := by rw [show (kk - 1).toNat = k - 1 by omega]; exact f1 (k - 1) (by omega)
    have hmm : (sp_isrt l (L.take i)).getD (k - 1) 0 ∈ L := by
      rw [am_getD (by omega)]
      exact List.mem_of_mem_take ((sp_isrt_mem _).mp (List.getElem_mem _))
    have hl1 := hl _ hmm
    have hx62 := hx6 _ hmm
    have hl3 : I 24 (I 78 (kk - 1).toNat).toNat = l ((sp_isrt l (L.take i)).getD (k - 1) 0) := by rw [hr1]; exact hl1.1
    refine am_e_ss 5 (q := (32, [(5, .inl kk), (4, .inl y), (3, .inl (i : Int)), (2, .inr (.inr (.inl (some 78)))), (1, .inr (.inr (.inl (some 24)))), (0, .inr (.inr (.inl (some 71))))], [.inl (kk - 1), .inr (.inr (.inl (some 78))), .inr (.inr (.inl (some 24)))], (am_mm D I J ρ))) rfl ?_
    refine am_e_iaload (m := 6) rfl rfl (by omega) (by omega) (by omega) ?_
    show am_E _ _ _ 33 [(5, .inl kk), (4, .inl y), (3, .inl (i : Int)), (2, .inr (.inr (.inl (some 78)))), (1, .inr (.inr (.inl (some 24)))), (0, .inr (.inr (.inl (some 71))))] [.inl ((I 78 ((kk - 1)).toNat)), .inr (.inr (.inl (some 24)))] (am_mm D I J ρ) _
    refine am_e_iaload (m := 6) rfl rfl (by omega) (by omega) (by omega) ?_
    show am_E _ _ _ 34 [(5, .inl kk), (4, .inl y), (3, .inl (i : Int)), (2, .inr (.inr (.inl (some 78)))), (1, .inr (.inr (.inl (some 24)))), (0, .inr (.inr (.inl (some 71))))] [.inl ((I 24 ((I 78 ((kk - 1)).toNat)).toNat))] (am_mm D I J ρ) _
    refine am_e_ss 2 (q := (37, [(5, .inl kk), (4, .inl y), (3, .inl (i : Int)), (2, .inr (.inr (.inl (some 78)))), (1, .inr (.inr (.inl (some 24)))), (0, .inr (.inr (.inl (some 71))))], [.inl y, .inr (.inr (.inl (some 24))), .inl ((I 24 ((I 78 ((kk - 1)).toNat)).toNat))], (am_mm D I J ρ))) rfl ?_
    refine am_e_iaload (m := 6) rfl rfl (by omega) (by omega) (by omega) ?_
    show am_E _ _ _ 38 [(5, .inl kk), (4, .inl y), (3, .inl (i : Int)), (2, .inr (.inr (.inl (some 78)))), (1, .inr (.inr (.inl (some 24)))), (0, .inr (.inr (.inl (some 71))))] [.inl ((I 24 (y).toNat)), .inl ((I 24 ((I 78 ((kk - 1)).toNat)).toNat))] (am_mm D I J ρ) _
    refine am_e_icmp2 rfl ⟨by omega, by omega⟩ ⟨by omega, by omega⟩ (fun (h3 : (I 24 (y).toNat) ≤ (I 24 ((I 78 ((kk - 1)).toNat)).toNat)) => ?_) (fun (h3 : ¬ ((I 24 (y).toNat) ≤ (I 24 ((I 78 ((kk - 1)).toNat)).toNat))) => ?_)
    · show am_E _ _ _ 57 [(5, .inl kk), (4, .inl y), (3, .inl (i : Int)), (2, .inr (.inr (.inl (some 78)))), (1, .inr (.inr (.inl (some 24)))), (0, .inr (.inr (.inl (some 71))))] [] (am_mm D I J ρ) _
      have hk1 : k = 0 ∨ l x ≤ l ((sp_isrt l (L.take i)).getD (k - 1) 0) := by right; omega
      refine am_e_ss 3 (q := (62, [(5, .inl kk), (4, .inl y), (3, .inl (i : Int)), (2, .inr (.inr (.inl (some 78)))), (1, .inr (.inr (.inl (some 24)))), (0, .inr (.inr (.inl (some 71))))], [.inl y, .inl kk, .inr (.inr (.inl (some 78)))], (am_mm D I J ρ))) rfl ?_
      refine am_e_iastore (m := 6) rfl rfl (by omega) (by omega) (by omega) ?_
      show am_E _ _ _ 63 [(5, .inl kk), (4, .inl y), (3, .inl (i : Int)), (2, .inr (.inr (.inl (some 78)))), (1, .inr (.inr (.inl (some 24)))), (0, .inr (.inr (.inl (some 71))))] [] (am_mm D (am_up I 78 (kk).toNat y) J ρ) _
      refine am_e_ss 5 (q := (7, [(3, .inl ((i : Int) + 1)), (5, .inl kk), (4, .inl y), (2, .inr (.inr (.inl (some 78)))), (1, .inr (.inr (.inl (some 24)))), (0, .inr (.inr (.inl (some 71))))], [.inl ((I 71 3)), .inl ((i : Int) + 1)], (am_mm D (am_up I 78 (kk).toNat y) J ρ))) rfl ?_
      refine am_e_icmp2 rfl ⟨by omega, by omega⟩ ⟨by omega, by omega⟩ (fun (h4 : (I 71 3) ≤ ((i : Int) + 1)) => ?_) (fun (h4 : ¬ ((I 71 3) ≤ ((i : Int) + 1))) => ?_)
      · show am_E _ _ _ 69 [(3, .inl ((i : Int) + 1)), (5, .inl kk), (4, .inl y), (2, .inr (.inr (.inl (some 78)))), (1, .inr (.inr (.inl (some 24)))), (0, .inr (.inr (.inl (some 71))))] [] (am_mm D (am_up I 78 (kk).toNat y) J ρ) _
        refine am_e_return rfl rfl ?_
        have hins : sp_isrt l (L.take (i + 1)) = (sp_isrt l (L.take i)).take k ++ x :: (sp_isrt l (L.take i)).drop k := by
          rw [List.take_succ, List.getElem?_eq_getElem hil, Option.toList_some, sp_isrt_s, ← hx]
          exact sp_ins_k (sp_isrt_pw _) (by omega) hk1 f3'
        have hrw : am_rowl ((am_up I 78 (kk).toNat y) 78) 0 (sp_isrt l (L.take (i + 1))) := by
          rw [hins]
          exact am_rowl_ins (by omega) (fun j hj => (am_up_ne2 (by omega)).trans (f1 j hj)) (fun j h1 h2 => (am_up_ne2 (by omega)).trans (f2 j h1 (by omega))) (by rw [show k = (kk).toNat by omega]; exact am_up_at2.trans hyx)
        rw [List.take_of_length_le (by omega)] at hrw
        exact ⟨_, am_r_wp (fun c _ => Nat.beq c 78) (am_k_up rfl (am_k_id)), hrw⟩
      · show am_E _ _ _ 10 [(3, .inl ((i : Int) + 1)), (5, .inl kk), (4, .inl y), (2, .inr (.inr (.inl (some 78)))), (1, .inr (.inr (.inl (some 24)))), (0, .inr (.inr (.inl (some 71))))] [] (am_mm D (am_up I 78 (kk).toNat y) J ρ) _
        refine am_e_ss 3 (q := (15, [(3, .inl ((i : Int) + 1)), (5, .inl kk), (4, .inl y), (2, .inr (.inr (.inl (some 78)))), (1, .inr (.inr (.inl (some 24)))), (0, .inr (.inr (.inl (some 71))))], [.inl ((i : Int) + 1), .inr (.inr (.inl (some 72)))], (am_mm D (am_up I 78 (kk).toNat y) J ρ))) rfl ?_
        refine am_e_iaload (m := 6) rfl rfl (by omega) (by omega) (by omega) ?_
        show am_E _ _ _ 16 [(3, .inl ((i : Int) + 1)), (5, .inl kk), (4, .inl y), (2, .inr (.inr (.inl (some 78)))), (1, .inr (.inr (.inl (some 24)))), (0, .inr (.inr (.inl (some 71))))] [.inl ((I 72 (i + 1)))] (am_mm D (am_up I 78 (kk).toNat y) J ρ) _
        refine am_e_ss 3 (q := (21, [(5, .inl ((i : Int) + 1)), (4, .inl ((I 72 (i + 1)))), (3, .inl ((i : Int) + 1)), (2, .inr (.inr (.inl (some 78)))), (1, .inr (.inr (.inl (some 24)))), (0, .inr (.inr (.inl (some 71))))], [], (am_mm D (am_up I 78 (kk).toNat y) J ρ))) rfl ?_
        have hins : sp_isrt l (L.take (i + 1)) = (sp_isrt l (L.take i)).take k ++ x :: (sp_isrt l (L.take i)).drop k := by
          rw [List.take_succ, List.getElem?_eq_getElem hil, Option.toList_some, sp_isrt_s, ← hx]
          exact sp_ins_k (sp_isrt_pw _) (by omega) hk1 f3'
        have hrw : am_rowl ((am_up I 78 (kk).toNat y) 78) 0 (sp_isrt l (L.take (i + 1))) := by
          rw [hins]
          exact am_rowl_ins (by omega) (fun j hj => (am_up_ne2 (by omega)).trans (f1 j hj)) (fun j h1 h2 => (am_up_ne2 (by omega)).trans (f2 j h1 (by omega))) (by rw [show k = (kk).toNat by omega]; exact am_up_at2.trans hyx)
        have hil2 : i + 1 < L.length := by omega
        have hx2 := hL (i + 1) _ (List.getElem?_eq_getElem hil2)
        rw [Nat.zero_add] at hx2
        have hlen2 : (sp_isrt l (L.take (i + 1))).length = i + 1 := by rw [sp_isrt_len, List.length_take]; omega
        refine (am_less (lv := [(5, .inl (((i : Int) + 1))), (4, .inl ((I 72 (i + 1)))), (3, .inl ((i + 1) : Int)), (2, .inr (.inr (.inl (some 78)))), (1, .inr (.inr (.inl (some 24)))), (0, .inr (.inr (.inl (some 71))))]) rfl (List.forall_mem_cons.mpr ⟨rfl, List.forall_mem_cons.mpr ⟨rfl, List.forall_mem_cons.mpr ⟨rfl, List.forall_mem_cons.mpr ⟨rfl, List.forall_mem_cons.mpr ⟨rfl, List.forall_mem_cons.mpr ⟨rfl, List.forall_mem_nil _⟩⟩⟩⟩⟩⟩) (c_sort_4_l (I := am_up I 78 (kk).toNat y) d (i := i + 1) (k := i + 1) (x := L[i + 1]) hL hc h6 hx6 hl hil2 rfl hx2 (by omega) (by omega) (fun j hj => am_rowl_d hrw (by omega)) (fun j h1 h2 => by omega) (fun j h1 h2 => by omega))).imp ?_
        rintro q ⟨Q9, rfl, h9⟩
        exact ⟨_, am_r_wp (fun c _ => Nat.beq c 78) (am_k_wp am_k_sub (am_k_up rfl (am_k_id))), h9⟩
    · show am_E _ _ _ 41 [(5, .inl kk), (4, .inl y), (3, .inl (i : Int)), (2, .inr (.inr (.inl (some 78)))), (1, .inr (.inr (.inl (some 24)))), (0, .inr (.inr (.inl (some 71))))] [] (am_mm D I J ρ) _
      have hlt : l ((sp_isrt l (L.take i)).getD (k - 1) 0) < l x := by omega
      refine am_e_ss 6 (q := (49, [(5, .inl kk), (4, .inl y), (3, .inl (i : Int)), (2, .inr (.inr (.inl (some 78)))), (1, .inr (.inr (.inl (some 24)))), (0, .inr (.inr (.inl (some 71))))], [.inl (kk - 1), .inr (.inr (.inl (some 78))), .inl kk, .inr (.inr (.inl (some 78)))], (am_mm D I J ρ))) rfl ?_
      refine am_e_iaload (m := 6) rfl rfl (by omega) (by omega) (by omega) ?_
      show am_E _ _ _ 50 [(5, .inl kk), (4, .inl y), (3, .inl (i : Int)), (2, .inr (.inr (.inl (some 78)))), (1, .inr (.inr (.inl (some 24)))), (0, .inr (.inr (.inl (some 71))))] [.inl ((I 78 ((kk - 1)).toNat)), .inl kk, .inr (.inr (.inl (some 78)))] (am_mm D I J ρ) _
      refine am_e_iastore (m := 6) rfl rfl (by omega) (by omega) (by omega) ?_
      show am_E _ _ _ 51 [(5, .inl kk), (4, .inl y), (3, .inl (i : Int)), (2, .inr (.inr (.inl (some 78)))), (1, .inr (.inr (.inl (some 24)))), (0, .inr (.inr (.inl (some 71))))] [] (am_mm D (am_up I 78 (kk).toNat (I 78 ((kk - 1)).toNat)) J ρ) _
      refine am_e_ss 2 (q := (21, [(5, .inl (kk + (-1))), (4, .inl y), (3, .inl (i : Int)), (2, .inr (.inr (.inl (some 78)))), (1, .inr (.inr (.inl (some 24)))), (0, .inr (.inr (.inl (some 71))))], [], (am_mm D (am_up I 78 (kk).toNat (I 78 ((kk - 1)).toNat)) J ρ))) rfl ?_
      obtain ⟨k', rfl⟩ : ∃ k', k = k' + 1 := ⟨k - 1, by omega⟩
      have ek : (kk).toNat = k' + 1 := by omega
      have g1 : ∀ j, j < k' → (am_up I 78 (kk).toNat (I 78 ((kk - 1)).toNat)) 78 j = ((sp_isrt l (L.take i)).getD j 0 : Int) := fun j hj => (am_up_ne2 (by omega)).trans (f1 j (by omega))
      have g2 : ∀ j, k' ≤ j → j < i → (am_up I 78 (kk).toNat (I 78 ((kk - 1)).toNat)) 78 (j + 1) = ((sp_isrt l (L.take i)).getD j 0 : Int) := by
        intro j h1 h2
        by_cases e : j = k'
        · subst e; rw [← ek]; refine am_up_at2.trans ?_; rw [show (kk - 1).toNat = j by omega]; exact f1 j (by omega)
        · exact (am_up_ne2 (by omega)).trans (f2 j (by omega) h2)
      have g3 : ∀ j, k' ≤ j → j < i → l ((sp_isrt l (L.take i)).getD j 0) < l x := by
        intro j h1 h2
        by_cases e : j = k'
        · subst e; exact hlt
        · exact f3 j (by omega) h2
      refine (am_less (lv := [(5, .inl ((kk + (-1)))), (4, .inl y), (3, .inl (i : Int)), (2, .inr (.inr (.inl (some 78)))), (1, .inr (.inr (.inl (some 24)))), (0, .inr (.inr (.inl (some 71))))]) rfl (List.forall_mem_cons.mpr ⟨rfl, List.forall_mem_cons.mpr ⟨rfl, List.forall_mem_cons.mpr ⟨rfl, List.forall_mem_cons.mpr ⟨rfl, List.forall_mem_cons.mpr ⟨rfl, List.forall_mem_cons.mpr ⟨rfl, List.forall_mem_nil _⟩⟩⟩⟩⟩⟩) (c_sort_4_l (I := am_up I 78 (kk).toNat (I 78 ((kk - 1)).toNat)) d (i := i) (k := k') (x := x) hL hc h6 hx6 hl hil hx hyx (by omega) (by omega) g1 g2 g3)).imp ?_
      rintro q ⟨Q9, rfl, h9⟩
      exact ⟨_, am_r_wp (fun c _ => Nat.beq c 78) (am_k_wp am_k_sub (am_k_up rfl (am_k_id))), h9⟩
termination_by (8 * (7 - i) + k)
decreasing_by all_goals omega
theorem c_sort_4 {X : Nat × (Nat → Int)} {D : List (Nat × Nat)} {I J : Nat → Nat → Int} {ρ : Nat → Nat → Option Nat} (d : Nat) {l : Nat → Int} {L : List Nat} (hL : am_rowl (I 72) 0 L) (hc : I 71 3 = (L.length : Int)) (h6 : L.length ≤ 6) (hx6 : ∀ x ∈ L, x < 6) (hl : ∀ x ∈ L, I 24 x = l x ∧ (-2147483648 ≤ l x ∧ l x < 2147483648))  : am_E X d 68 0 [(0, .inr (.inr (.inl (some 71)))), (1, .inr (.inr (.inl (some 24)))), (2, .inr (.inr (.inl (some 78))))] [] (am_mm D I J ρ) (fun q => ∃ Q, q = (none, am_mm D (am_wp (fun c _ => Nat.beq c 78) I Q) J ρ) ∧ am_rowl (Q 78) 0 (sp_isrt l L)) := by
  refine am_e_ss 5 (q := (7, [(3, .inl 0), (0, .inr (.inr (.inl (some 71)))), (1, .inr (.inr (.inl (some 24)))), (2, .inr (.inr (.inl (some 78))))], [.inl ((I 71 3)), .inl 0], (am_mm D I J ρ))) rfl ?_
  refine am_e_icmp2 rfl ⟨by omega, by omega⟩ ⟨by omega, by omega⟩ (fun (h1 : (I 71 3) ≤ 0) => ?_) (fun (h1 : ¬ ((I 71 3) ≤ 0)) => ?_)
  · show am_E _ _ _ 69 [(3, .inl 0), (0, .inr (.inr (.inl (some 71)))), (1, .inr (.inr (.inl (some 24)))), (2, .inr (.inr (.inl (some 78))))] [] (am_mm D I J ρ) _
    refine am_e_return rfl rfl ?_
    have e0 : L = [] := List.eq_nil_of_length_eq_zero (by omega)
    subst e0
    exact ⟨I, am_r_wp (fun c _ => Nat.beq c 78) am_k_id, am_rowl_nil⟩
  · show am_E _ _ _ 10 [(3, .inl 0), (0, .inr (.inr (.inl (some 71)))), (1, .inr (.inr (.inl (some 24)))), (2, .inr (.inr (.inl (some 78))))] [] (am_mm D I J ρ) _
    refine am_e_ss 7 (q := (21, [(5, .inl 0), (4, .inl ((I 72 0))), (3, .inl 0), (0, .inr (.inr (.inl (some 71)))), (1, .inr (.inr (.inl (some 24)))), (2, .inr (.inr (.inl (some 78))))], [], (am_mm D I J ρ))) rfl ?_
    have hil : 0 < L.length := by omega
    have hx2 := hL 0 _ (List.getElem?_eq_getElem hil)
    refine (am_less (lv := [(5, .inl 0), (4, .inl ((I 72 0))), (3, .inl (0 : Int)), (2, .inr (.inr (.inl (some 78)))), (1, .inr (.inr (.inl (some 24)))), (0, .inr (.inr (.inl (some 71))))]) rfl (List.forall_mem_cons.mpr ⟨rfl, List.forall_mem_cons.mpr ⟨rfl, List.forall_mem_cons.mpr ⟨rfl, List.forall_mem_cons.mpr ⟨rfl, List.forall_mem_cons.mpr ⟨rfl, List.forall_mem_cons.mpr ⟨rfl, List.forall_mem_nil _⟩⟩⟩⟩⟩⟩) (c_sort_4_l (I := I) d (i := 0) (k := 0) (x := L[0]) hL hc h6 hx6 hl hil rfl hx2 (by omega) (by omega) (fun j hj => by omega) (fun j h1 h2 => by omega) (fun j h1 h2 => by omega))).imp ?_
    rintro q ⟨Q9, rfl, h9⟩
    exact ⟨_, am_r_wp (fun c _ => Nat.beq c 78) (am_k_wp am_k_sub (am_k_id)), h9⟩
theorem c_sort_5_l {X : Nat × (Nat → Int)} {D : List (Nat × Nat)} {I J : Nat → Nat → Int} {ρ : Nat → Nat → Option Nat} (d : Nat) {l : Nat → Int} {L : List Nat} (hL : am_rowl (I 72) 0 L) (hc : I 71 3 = (L.length : Int)) (h6 : L.length ≤ 6) (hx6 : ∀ x ∈ L, x < 6) (hl : ∀ x ∈ L, I 25 x = l x ∧ (-2147483648 ≤ l x ∧ l x < 2147483648)) {kk y : Int} {i k x : Nat} (hil : i < L.length) (hx : x = L[i]) (hyx : y = (x : Int)) (hkk : kk = (k : Int)) (hk : k ≤ i) (f1 : ∀ j, j < k → I 79 j = ((sp_isrt l (L.take i)).getD j 0 : Int)) (f2 : ∀ j, k ≤ j → j < i → I 79 (j + 1) = ((sp_isrt l (L.take i)).getD j 0 : Int)) (f3 : ∀ j, k ≤ j → j < i → l ((sp_isrt l (L.take i)).getD j 0) < l x) : am_E X d 68 21 [(5, .inl kk), (4, .inl y), (3, .inl (i : Int)), (2, .inr (.inr (.inl (some 79)))), (1, .inr (.inr (.inl (some 25)))), (0, .inr (.inr (.inl (some 71))))] [] (am_mm D I J ρ) (fun q => ∃ Q, q = (none, am_mm D (am_wp (fun c _ => Nat.beq c 79) I Q) J ρ) ∧ am_rowl (Q 79) 0 (sp_isrt l L)) := by
  have hlen : (sp_isrt l (L.take i)).length = i := by rw [sp_isrt_len, List.length_take]; omega
  have hxm : x ∈ L := by rw [hx]; exact List.getElem_mem _
  have hx61 := hx6 x hxm
  have hl2 := hl x hxm
  have hl4 : I 25 (y).toNat = l x := by rw [hyx]; exact hl2.1
  have f3' : ∀ j, k ≤ j → j < (sp_isrt l (L.take i)).length → l ((sp_isrt l (L.take i)).getD j 0) < l x := fun j h1 h2 => f3 j h1 (by omega)
  refine am_e_ss 1 (q := (23, [(5, .inl kk), (4, .inl y), (3, .inl (i : Int)), (2, .inr (.inr (.inl (some 79)))), (1, .inr (.inr (.inl (some 25)))), (0, .inr (.inr (.inl (some 71))))], [.inl kk], (am_mm D I J ρ))) rfl ?_
  refine am_e_if2 rfl ⟨by omega, by omega⟩ (fun (h1 : kk ≤ 0) => ?_) (fun (h1 : ¬ (kk ≤ 0)) => ?_)
  · show am_E _ _ _ 57 [(5, .inl kk), (4, .inl y), (3, .inl (i : Int)), (2, .inr (.inr (.inl (some 79)))), (1, .inr (.inr (.inl (some 25)))), (0, .inr (.inr (.inl (some 71))))] [] (am_mm D I J ρ) _
    have hk1 : k = 0 ∨ l x ≤ l ((sp_isrt l (L.take i)).getD (k - 1) 0) := by left; omega
    refine am_e_ss 3 (q := (62, [(5, .inl kk), (4, .inl y), (3, .inl (i : Int)), (2, .inr (.inr (.inl (some 79)))), (1, .inr (.inr (.inl (some 25)))), (0, .inr (.inr (.inl (some 71))))], [.inl y, .inl kk, .inr (.inr (.inl (some 79)))], (am_mm D I J ρ))) rfl ?_
    refine am_e_iastore (m := 6) rfl rfl (by omega) (by omega) (by omega) ?_
    show am_E _ _ _ 63 [(5, .inl kk), (4, .inl y), (3, .inl (i : Int)), (2, .inr (.inr (.inl (some 79)))), (1, .inr (.inr (.inl (some 25)))), (0, .inr (.inr (.inl (some 71))))] [] (am_mm D (am_up I 79 (kk).toNat y) J ρ) _
    refine am_e_ss 5 (q := (7, [(3, .inl ((i : Int) + 1)), (5, .inl kk), (4, .inl y), (2, .inr (.inr (.inl (some 79)))), (1, .inr (.inr (.inl (some 25)))), (0, .inr (.inr (.inl (some 71))))], [.inl ((I 71 3)), .inl ((i : Int) + 1)], (am_mm D (am_up I 79 (kk).toNat y) J ρ))) rfl ?_
    refine am_e_icmp2 rfl ⟨by omega, by omega⟩ ⟨by omega, by omega⟩ (fun (h2 : (I 71 3) ≤ ((i : Int) + 1)) => ?_) (fun (h2 : ¬ ((I 71 3) ≤ ((i : Int) + 1))) => ?_)
    · show am_E _ _ _ 69 [(3, .inl ((i : Int) + 1)), (5, .inl kk), (4, .inl y), (2, .inr (.inr (.inl (some 79)))), (1, .inr (.inr (.inl (some 25)))), (0, .inr (.inr (.inl (some 71))))] [] (am_mm D (am_up I 79 (kk).toNat y) J ρ) _
      refine am_e_return rfl rfl ?_
      have hins : sp_isrt l (L.take (i + 1)) = (sp_isrt l (L.take i)).take k ++ x :: (sp_isrt l (L.take i)).drop k := by
        rw [List.take_succ, List.getElem?_eq_getElem hil, Option.toList_some, sp_isrt_s, ← hx]
        exact sp_ins_k (sp_isrt_pw _) (by omega) hk1 f3'
      have hrw : am_rowl ((am_up I 79 (kk).toNat y) 79) 0 (sp_isrt l (L.take (i + 1))) := by
        rw [hins]
        exact am_rowl_ins (by omega) (fun j hj => (am_up_ne2 (by omega)).trans (f1 j hj)) (fun j h1 h2 => (am_up_ne2 (by omega)).trans (f2 j h1 (by omega))) (by rw [show k = (kk).toNat by omega]; exact am_up_at2.trans hyx)
      rw [List.take_of_length_le (by omega)] at hrw
      exact ⟨_, am_r_wp (fun c _ => Nat.beq c 79) (am_k_up rfl (am_k_id)), hrw⟩
    · show am_E _ _ _ 10 [(3, .inl ((i : Int) + 1)), (5, .inl kk), (4, .inl y), (2, .inr (.inr (.inl (some 79)))), (1, .inr (.inr (.inl (some 25)))), (0, .inr (.inr (.inl (some 71))))] [] (am_mm D (am_up I 79 (kk).toNat y) J ρ) _
      refine am_e_ss 3 (q := (15, [(3, .inl ((i : Int) + 1)), (5, .inl kk), (4, .inl y), (2, .inr (.inr (.inl (some 79)))), (1, .inr (.inr (.inl (some 25)))), (0, .inr (.inr (.inl (some 71))))], [.inl ((i : Int) + 1), .inr (.inr (.inl (some 72)))], (am_mm D (am_up I 79 (kk).toNat y) J ρ))) rfl ?_
      refine am_e_iaload (m := 6) rfl rfl (by omega) (by omega) (by omega) ?_
      show am_E _ _ _ 16 [(3, .inl ((i : Int) + 1)), (5, .inl kk), (4, .inl y), (2, .inr (.inr (.inl (some 79)))), (1, .inr (.inr (.inl (some 25)))), (0, .inr (.inr (.inl (some 71))))] [.inl ((I 72 (i + 1)))] (am_mm D (am_up I 79 (kk).toNat y) J ρ) _
      refine am_e_ss 3 (q := (21, [(5, .inl ((i : Int) + 1)), (4, .inl ((I 72 (i + 1)))), (3, .inl ((i : Int) + 1)), (2, .inr (.inr (.inl (some 79)))), (1, .inr (.inr (.inl (some 25)))), (0, .inr (.inr (.inl (some 71))))], [], (am_mm D (am_up I 79 (kk).toNat y) J ρ))) rfl ?_
      have hins : sp_isrt l (L.take (i + 1)) = (sp_isrt l (L.take i)).take k ++ x :: (sp_isrt l (L.take i)).drop k := by
        rw [List.take_succ, List.getElem?_eq_getElem hil, Option.toList_some, sp_isrt_s, ← hx]
        exact sp_ins_k (sp_isrt_pw _) (by omega) hk1 f3'
      have hrw : am_rowl ((am_up I 79 (kk).toNat y) 79) 0 (sp_isrt l (L.take (i + 1))) := by
        rw [hins]
        exact am_rowl_ins (by omega) (fun j hj => (am_up_ne2 (by omega)).trans (f1 j hj)) (fun j h1 h2 => (am_up_ne2 (by omega)).trans (f2 j h1 (by omega))) (by rw [show k = (kk).toNat by omega]; exact am_up_at2.trans hyx)
      have hil2 : i + 1 < L.length := by omega
      have hx2 := hL (i + 1) _ (List.getElem?_eq_getElem hil2)
      rw [Nat.zero_add] at hx2
      have hlen2 : (sp_isrt l (L.take (i + 1))).length = i + 1 := by rw [sp_isrt_len, List.length_take]; omega
      refine (am_less (lv := [(5, .inl (((i : Int) + 1))), (4, .inl ((I 72 (i + 1)))), (3, .inl ((i + 1) : Int)), (2, .inr (.inr (.inl (some 79)))), (1, .inr (.inr (.inl (some 25)))), (0, .inr (.inr (.inl (some 71))))]) rfl (List.forall_mem_cons.mpr ⟨rfl, List.forall_mem_cons.mpr ⟨rfl, List.forall_mem_cons.mpr ⟨rfl, List.forall_mem_cons.mpr ⟨rfl, List.forall_mem_cons.mpr ⟨rfl, List.forall_mem_cons.mpr ⟨rfl, List.forall_mem_nil _⟩⟩⟩⟩⟩⟩) (c_sort_5_l (I := am_up I 79 (kk).toNat y) d (i := i + 1) (k := i + 1) (x := L[i + 1]) hL hc h6 hx6 hl hil2 rfl hx2 (by omega) (by omega) (fun j hj => am_rowl_d hrw (by omega)) (fun j h1 h2 => by omega) (fun j h1 h2 => by omega))).imp ?_
      rintro q ⟨Q9, rfl, h9⟩
      exact ⟨_, am_r_wp (fun c _ => Nat.beq c 79) (am_k_wp am_k_sub (am_k_up rfl (am_k_id))), h9⟩
  · show am_E _ _ _ 26 [(5, .inl kk), (4, .inl y), (3, .inl (i : Int)), (2, .inr (.inr (.inl (some 79)))), (1, .inr (.inr (.inl (some 25)))), (0, .inr (.inr (.inl (some 71))))] [] (am_mm D I J ρ) _
    have hr1 : I 79 (kk - 1).toNat = (((sp_isrt l (L.take i)).getD (k - 1) 0 : Nat) : Int) := by rw [show (kk - 1).toNat = k - 1 by omega]; exact f1 (k - 1) (by omega)
    have hmm : (sp_isrt l (L.take i)).getD (k - 1) 0 ∈ L := by
      rw [am_getD (by omega)]
      exact List.mem_of_mem_take ((sp_isrt_mem _).mp (List.getElem_mem _))
    have hl1 := hl _ hmm
    have hx62 := hx6 _ hmm
    have hl3 : I 25 (I 79 (kk - 1).toNat).toNat = l ((sp_isrt l (L.take i)).getD (k - 1) 0) := by rw [hr1]; exact hl1.1
    refine am_e_ss 5 (q := (32, [(5, .inl kk), (4, .inl y), (3, .inl (i : Int)), (2, .inr (.inr (.inl (some 79)))), (1, .inr (.inr (.inl (some 25)))), (0, .inr (.inr (.inl (some 71))))], [.inl (kk - 1), .inr (.inr (.inl (some 79))), .inr (.inr (.inl (some 25)))], (am_mm D I J ρ))) rfl ?_
    refine am_e_iaload (m := 6) rfl rfl (by omega) (by omega) (by omega) ?_
    show am_E _ _ _ 33 [(5, .inl kk), (4, .inl y), (3, .inl (i : Int)), (2, .inr (.inr (.inl (some 79)))), (1, .inr (.inr (.inl (some 25)))), (0, .inr (.inr (.inl (some 71))))] [.inl ((I 79 ((kk - 1)).toNat)), .inr (.inr (.inl (some 25)))] (am_mm D I J ρ) _
    refine am_e_iaload (m := 6) rfl rfl (by omega) (by omega) (by omega) ?_
    show am_E _ _ _ 34 [(5, .inl kk), (4, .inl y), (3, .inl (i : Int)), (2, .inr (.inr (.inl (some 79)))), (1, .inr (.inr (.inl (some 25)))), (0, .inr (.inr (.inl (some 71))))] [.inl ((I 25 ((I 79 ((kk - 1)).toNat)).toNat))] (am_mm D I J ρ) _
    refine am_e_ss 2 (q := (37, [(5, .inl kk), (4, .inl y), (3, .inl (i : Int)), (2, .inr (.inr (.inl (some 79)))), (1, .inr (.inr (.inl (some 25)))), (0, .inr (.inr (.inl (some 71))))], [.inl y, .inr (.inr (.inl (some 25))), .inl ((I 25 ((I 79 ((kk - 1)).toNat)).toNat))], (am_mm D I J ρ))) rfl ?_
    refine am_e_iaload (m := 6) rfl rfl (by omega) (by omega) (by omega) ?_
    show am_E _ _ _ 38 [(5, .inl kk), (4, .inl y), (3, .inl (i : Int)), (2, .inr (.inr (.inl (some 79)))), (1, .inr (.inr (.inl (some 25)))), (0, .inr (.inr (.inl (some 71))))] [.inl ((I 25 (y).toNat)), .inl ((I 25 ((I 79 ((kk - 1)).toNat)).toNat))] (am_mm D I J ρ) _
    refine am_e_icmp2 rfl ⟨by omega, by omega⟩ ⟨by omega, by omega⟩ (fun (h3 : (I 25 (y).toNat) ≤ (I 25 ((I 79 ((kk - 1)).toNat)).toNat)) => ?_) (fun (h3 : ¬ ((I 25 (y).toNat) ≤ (I 25 ((I 79 ((kk - 1)).toNat)).toNat))) => ?_)
    · show am_E _ _ _ 57 [(5, .inl kk), (4, .inl y), (3, .inl (i : Int)), (2, .inr (.inr (.inl (some 79)))), (1, .inr (.inr (.inl (some 25)))), (0, .inr (.inr (.inl (some 71))))] [] (am_mm D I J ρ) _
      have hk1 : k = 0 ∨ l x ≤ l ((sp_isrt l (L.take i)).getD (k - 1) 0) := by right; omega
      refine am_e_ss 3 (q := (62, [(5, .inl kk), (4, .inl y), (3, .inl (i : Int)), (2, .inr (.inr (.inl (some 79)))), (1, .inr (.inr (.inl (some 25)))), (0, .inr (.inr (.inl (some 71))))], [.inl y, .inl kk, .inr (.inr (.inl (some 79)))], (am_mm D I J ρ))) rfl ?_
      refine am_e_iastore (m := 6) rfl rfl (by omega) (by omega) (by omega) ?_
      show am_E _ _ _ 63 [(5, .inl kk), (4, .inl y), (3, .inl (i : Int)), (2, .inr (.inr (.inl (some 79)))), (1, .inr (.inr (.inl (some 25)))), (0, .inr (.inr (.inl (some 71))))] [] (am_mm D (am_up I 79 (kk).toNat y) J ρ) _
      refine am_e_ss 5 (q := (7, [(3, .inl ((i : Int) + 1)), (5, .inl kk), (4, .inl y), (2, .inr (.inr (.inl (some 79)))), (1, .inr (.inr (.inl (some 25)))), (0, .inr (.inr (.inl (some 71))))], [.inl ((I 71 3)), .inl ((i : Int) + 1)], (am_mm D (am_up I 79 (kk).toNat y) J ρ))) rfl ?_
      refine am_e_icmp2 rfl ⟨by omega, by omega⟩ ⟨by omega, by omega⟩ (fun (h4 : (I 71 3) ≤ ((i : Int) + 1)) => ?_) (fun (h4 : ¬ ((I 71 3) ≤ ((i : Int) + 1))) => ?_)
      · show am_E _ _ _ 69 [(3, .inl ((i : Int) + 1)), (5, .inl kk), (4, .inl y), (2, .inr (.inr (.inl (some 79)))), (1, .inr (.inr (.inl (some 25)))), (0, .inr (.inr (.inl (some 71))))] [] (am_mm D (am_up I 79 (kk).toNat y) J ρ) _
        refine am_e_return rfl rfl ?_
        have hins : sp_isrt l (L.take (i + 1)) = (sp_isrt l (L.take i)).take k ++ x :: (sp_isrt l (L.take i)).drop k := by
          rw [List.take_succ, List.getElem?_eq_getElem hil, Option.toList_some, sp_isrt_s, ← hx]
          exact sp_ins_k (sp_isrt_pw _) (by omega) hk1 f3'
        have hrw : am_rowl ((am_up I 79 (kk).toNat y) 79) 0 (sp_isrt l (L.take (i + 1))) := by
          rw [hins]
          exact am_rowl_ins (by omega) (fun j hj => (am_up_ne2 (by omega)).trans (f1 j hj)) (fun j h1 h2 => (am_up_ne2 (by omega)).trans (f2 j h1 (by omega))) (by rw [show k = (kk).toNat by omega]; exact am_up_at2.trans hyx)
        rw [List.take_of_length_le (by omega)] at hrw
        exact ⟨_, am_r_wp (fun c _ => Nat.beq c 79) (am_k_up rfl (am_k_id)), hrw⟩
      · show am_E _ _ _ 10 [(3, .inl ((i : Int) + 1)), (5, .inl kk), (4, .inl y), (2, .inr (.inr (.inl (some 79)))), (1, .inr (.inr (.inl (some 25)))), (0, .inr (.inr (.inl (some 71))))] [] (am_mm D (am_up I 79 (kk).toNat y) J ρ) _
        refine am_e_ss 3 (q := (15, [(3, .inl ((i : Int) + 1)), (5, .inl kk), (4, .inl y), (2, .inr (.inr (.inl (some 79)))), (1, .inr (.inr (.inl (some 25)))), (0, .inr (.inr (.inl (some 71))))], [.inl ((i : Int) + 1), .inr (.inr (.inl (some 72)))], (am_mm D (am_up I 79 (kk).toNat y) J ρ))) rfl ?_
        refine am_e_iaload (m := 6) rfl rfl (by omega) (by omega) (by omega) ?_
        show am_E _ _ _ 16 [(3, .inl ((i : Int) + 1)), (5, .inl kk), (4, .inl y), (2, .inr (.inr (.inl (some 79)))), (1, .inr (.inr (.inl (some 25)))), (0, .inr (.inr (.inl (some 71))))] [.inl ((I 72 (i + 1)))] (am_mm D (am_up I 79 (kk).toNat y) J ρ) _
        refine am_e_ss 3 (q := (21, [(5, .inl ((i : Int) + 1)), (4, .inl ((I 72 (i + 1)))), (3, .inl ((i : Int) + 1)), (2, .inr (.inr (.inl (some 79)))), (1, .inr (.inr (.inl (some 25)))), (0, .inr (.inr (.inl (some 71))))], [], (am_mm D (am_up I 79 (kk).toNat y) J ρ))) rfl ?_
        have hins : sp_isrt l (L.take (i + 1)) = (sp_isrt l (L.take i)).take k ++ x :: (sp_isrt l (L.take i)).drop k := by
          rw [List.take_succ, List.getElem?_eq_getElem hil, Option.toList_some, sp_isrt_s, ← hx]
          exact sp_ins_k (sp_isrt_pw _) (by omega) hk1 f3'
        have hrw : am_rowl ((am_up I 79 (kk).toNat y) 79) 0 (sp_isrt l (L.take (i + 1))) := by
          rw [hins]
          exact am_rowl_ins (by omega) (fun j hj => (am_up_ne2 (by omega)).trans (f1 j hj)) (fun j h1 h2 => (am_up_ne2 (by omega)).trans (f2 j h1 (by omega))) (by rw [show k = (kk).toNat by omega]; exact am_up_at2.trans hyx)
        have hil2 : i + 1 < L.length := by omega
        have hx2 := hL (i + 1) _ (List.getElem?_eq_getElem hil2)
        rw [Nat.zero_add] at hx2
        have hlen2 : (sp_isrt l (L.take (i + 1))).length = i + 1 := by rw [sp_isrt_len, List.length_take]; omega
        refine (am_less (lv := [(5, .inl (((i : Int) + 1))), (4, .inl ((I 72 (i + 1)))), (3, .inl ((i + 1) : Int)), (2, .inr (.inr (.inl (some 79)))), (1, .inr (.inr (.inl (some 25)))), (0, .inr (.inr (.inl (some 71))))]) rfl (List.forall_mem_cons.mpr ⟨rfl, List.forall_mem_cons.mpr ⟨rfl, List.forall_mem_cons.mpr ⟨rfl, List.forall_mem_cons.mpr ⟨rfl, List.forall_mem_cons.mpr ⟨rfl, List.forall_mem_cons.mpr ⟨rfl, List.forall_mem_nil _⟩⟩⟩⟩⟩⟩) (c_sort_5_l (I := am_up I 79 (kk).toNat y) d (i := i + 1) (k := i + 1) (x := L[i + 1]) hL hc h6 hx6 hl hil2 rfl hx2 (by omega) (by omega) (fun j hj => am_rowl_d hrw (by omega)) (fun j h1 h2 => by omega) (fun j h1 h2 => by omega))).imp ?_
        rintro q ⟨Q9, rfl, h9⟩
        exact ⟨_, am_r_wp (fun c _ => Nat.beq c 79) (am_k_wp am_k_sub (am_k_up rfl (am_k_id))), h9⟩
    · show am_E _ _ _ 41 [(5, .inl kk), (4, .inl y), (3, .inl (i : Int)), (2, .inr (.inr (.inl (some 79)))), (1, .inr (.inr (.inl (some 25)))), (0, .inr (.inr (.inl (some 71))))] [] (am_mm D I J ρ) _
      have hlt : l ((sp_isrt l (L.take i)).getD (k - 1) 0) < l x := by omega
      refine am_e_ss 6 (q := (49, [(5, .inl kk), (4, .inl y), (3, .inl (i : Int)), (2, .inr (.inr (.inl (some 79)))), (1, .inr (.inr (.inl (some 25)))), (0, .inr (.inr (.inl (some 71))))], [.inl (kk - 1), .inr (.inr (.inl (some 79))), .inl kk, .inr (.inr (.inl (some 79)))], (am_mm D I J ρ))) rfl ?_
      refine am_e_iaload (m := 6) rfl rfl (by omega) (by omega) (by omega) ?_
      show am_E _ _ _ 50 [(5, .inl kk), (4, .inl y), (3, .inl (i : Int)), (2, .inr (.inr (.inl (some 79)))), (1, .inr (.inr (.inl (some 25)))), (0, .inr (.inr (.inl (some 71))))] [.inl ((I 79 ((kk - 1)).toNat)), .inl kk, .inr (.inr (.inl (some 79)))] (am_mm D I J ρ) _
      refine am_e_iastore (m := 6) rfl rfl (by omega) (by omega) (by omega) ?_
      show am_E _ _ _ 51 [(5, .inl kk), (4, .inl y), (3, .inl (i : Int)), (2, .inr (.inr (.inl (some 79)))), (1, .inr (.inr (.inl (some 25)))), (0, .inr (.inr (.inl (some 71))))] [] (am_mm D (am_up I 79 (kk).toNat (I 79 ((kk - 1)).toNat)) J ρ) _
      refine am_e_ss 2 (q := (21, [(5, .inl (kk + (-1))), (4, .inl y), (3, .inl (i : Int)), (2, .inr (.inr (.inl (some 79)))), (1, .inr (.inr (.inl (some 25)))), (0, .inr (.inr (.inl (some 71))))], [], (am_mm D (am_up I 79 (kk).toNat (I 79 ((kk - 1)).toNat)) J ρ))) rfl ?_
      obtain ⟨k', rfl⟩ : ∃ k', k = k' + 1 := ⟨k - 1, by omega⟩
      have ek : (kk).toNat = k' + 1 := by omega
      have g1 : ∀ j, j < k' → (am_up I 79 (kk).toNat (I 79 ((kk - 1)).toNat)) 79 j = ((sp_isrt l (L.take i)).getD j 0 : Int) := fun j hj => (am_up_ne2 (by omega)).trans (f1 j (by omega))
      have g2 : ∀ j, k' ≤ j → j < i → (am_up I 79 (kk).toNat (I 79 ((kk - 1)).toNat)) 79 (j + 1) = ((sp_isrt l (L.take i)).getD j 0 : Int) := by
        intro j h1 h2
        by_cases e : j = k'
        · subst e; rw [← ek]; refine am_up_at2.trans ?_; rw [show (kk - 1).toNat = j by omega]; exact f1 j (by omega)
        · exact (am_up_ne2 (by omega)).trans (f2 j (by omega) h2)
      have g3 : ∀ j, k' ≤ j → j < i → l ((sp_isrt l (L.take i)).getD j 0) < l x := by
        intro j h1 h2
        by_cases e : j = k'
        · subst e; exact hlt
        · exact f3 j (by omega) h2
      refine (am_less (lv := [(5, .inl ((kk + (-1)))), (4, .inl y), (3, .inl (i : Int)), (2, .inr (.inr (.inl (some 79)))), (1, .inr (.inr (.inl (some 25)))), (0, .inr (.inr (.inl (some 71))))]) rfl (List.forall_mem_cons.mpr ⟨rfl, List.forall_mem_cons.mpr ⟨rfl, List.forall_mem_cons.mpr ⟨rfl, List.forall_mem_cons.mpr ⟨rfl, List.forall_mem_cons.mpr ⟨rfl, List.forall_mem_cons.mpr ⟨rfl, List.forall_mem_nil _⟩⟩⟩⟩⟩⟩) (c_sort_5_l (I := am_up I 79 (kk).toNat (I 79 ((kk - 1)).toNat)) d (i := i) (k := k') (x := x) hL hc h6 hx6 hl hil hx hyx (by omega) (by omega) g1 g2 g3)).imp ?_
      rintro q ⟨Q9, rfl, h9⟩
      exact ⟨_, am_r_wp (fun c _ => Nat.beq c 79) (am_k_wp am_k_sub (am_k_up rfl (am_k_id))), h9⟩
termination_by (8 * (7 - i) + k)
decreasing_by all_goals omega
theorem c_sort_5 {X : Nat × (Nat → Int)} {D : List (Nat × Nat)} {I J : Nat → Nat → Int} {ρ : Nat → Nat → Option Nat} (d : Nat) {l : Nat → Int} {L : List Nat} (hL : am_rowl (I 72) 0 L) (hc : I 71 3 = (L.length : Int)) (h6 : L.length ≤ 6) (hx6 : ∀ x ∈ L, x < 6) (hl : ∀ x ∈ L, I 25 x = l x ∧ (-2147483648 ≤ l x ∧ l x < 2147483648))  : am_E X d 68 0 [(0, .inr (.inr (.inl (some 71)))), (1, .inr (.inr (.inl (some 25)))), (2, .inr (.inr (.inl (some 79))))] [] (am_mm D I J ρ) (fun q => ∃ Q, q = (none, am_mm D (am_wp (fun c _ => Nat.beq c 79) I Q) J ρ) ∧ am_rowl (Q 79) 0 (sp_isrt l L)) := by
  refine am_e_ss 5 (q := (7, [(3, .inl 0), (0, .inr (.inr (.inl (some 71)))), (1, .inr (.inr (.inl (some 25)))), (2, .inr (.inr (.inl (some 79))))], [.inl ((I 71 3)), .inl 0], (am_mm D I J ρ))) rfl ?_
  refine am_e_icmp2 rfl ⟨by omega, by omega⟩ ⟨by omega, by omega⟩ (fun (h1 : (I 71 3) ≤ 0) => ?_) (fun (h1 : ¬ ((I 71 3) ≤ 0)) => ?_)
  · show am_E _ _ _ 69 [(3, .inl 0), (0, .inr (.inr (.inl (some 71)))), (1, .inr (.inr (.inl (some 25)))), (2, .inr (.inr (.inl (some 79))))] [] (am_mm D I J ρ) _
    refine am_e_return rfl rfl ?_
    have e0 : L = [] := List.eq_nil_of_length_eq_zero (by omega)
    subst e0
    exact ⟨I, am_r_wp (fun c _ => Nat.beq c 79) am_k_id, am_rowl_nil⟩
  · show am_E _ _ _ 10 [(3, .inl 0), (0, .inr (.inr (.inl (some 71)))), (1, .inr (.inr (.inl (some 25)))), (2, .inr (.inr (.inl (some 79))))] [] (am_mm D I J ρ) _
    refine am_e_ss 7 (q := (21, [(5, .inl 0), (4, .inl ((I 72 0))), (3, .inl 0), (0, .inr (.inr (.inl (some 71)))), (1, .inr (.inr (.inl (some 25)))), (2, .inr (.inr (.inl (some 79))))], [], (am_mm D I J ρ))) rfl ?_
    have hil : 0 < L.length := by omega
    have hx2 := hL 0 _ (List.getElem?_eq_getElem hil)
    refine (am_less (lv := [(5, .inl 0), (4, .inl ((I 72 0))), (3, .inl (0 : Int)), (2, .inr (.inr (.inl (some 79)))), (1, .inr (.inr (.inl (some 25)))), (0, .inr (.inr (.inl (some 71))))]) rfl (List.forall_mem_cons.mpr ⟨rfl, List.forall_mem_cons.mpr ⟨rfl, List.forall_mem_cons.mpr ⟨rfl, List.forall_mem_cons.mpr ⟨rfl, List.forall_mem_cons.mpr ⟨rfl, List.forall_mem_cons.mpr ⟨rfl, List.forall_mem_nil _⟩⟩⟩⟩⟩⟩) (c_sort_5_l (I := I) d (i := 0) (k := 0) (x := L[0]) hL hc h6 hx6 hl hil rfl hx2 (by omega) (by omega) (fun j hj => by omega) (fun j h1 h2 => by omega) (fun j h1 h2 => by omega))).imp ?_
    rintro q ⟨Q9, rfl, h9⟩
    exact ⟨_, am_r_wp (fun c _ => Nat.beq c 79) (am_k_wp am_k_sub (am_k_id)), h9⟩
