set_option maxRecDepth 2000 in
set_option maxHeartbeats 4000000 in
theorem r_looks_l {X : Nat × (Nat → Int)} {D : List (Nat × Nat)} {I J : Nat → Nat → Int} {ρ : Nat → Nat → Option Nat} (d : Nat) {n k : Nat} {i t nn : Int} {f r stp : Nat → Int} {Q : Nat → Nat → Int} (hstp : stp = fun k : Nat => I 108 ((178 + (140 * (I 108 24))) + (k : Int)).toNat) (hnn : nn = (n : Int)) (hn : n ≤ 140) (c24 : -1 ≤ I 108 24 ∧ I 108 24 ≤ 4) (c38 : I 108 24 = -1 → n = 0) (hw : sp_wf stp n) (hk : k ≤ n) (hi : i = (178 + (140 * (I 108 24))) + (k : Int)) (ht : t = sp_top stp k) (hf : ∀ j, j < 6 → I 111 j = f j) (hfr : ∀ j, j < 6 → -2147483648 ≤ f j ∧ f j < 2147483648) (hq1 : Q 112 = sp_row f stp r k) (hq2 : Q 107 12 = sp_lkg f stp r k) (hq3 : Q 107 13 = sp_rdg f stp r k) : am_E X d 158 143 [(6, .inl i), (5, .inl t), (4, .inl ((178 + (140 * (I 108 24))))), (3, .inl nn), (0, .inr (.inr (.inl (some 107))))] [] (am_mm D (am_wp tK I Q) J ρ) (fun r' => ∃ Q', r' = (none, am_mm D (am_wp tK I Q') J ρ) ∧ Q' 107 12 = sp_lkg f stp r n ∧ Q' 107 13 = sp_rdg f stp r n) := by
  have hsk : stp k = I 108 i.toNat := by rw [hstp, hi]
  have b0 := sp_lkg_b (f := f) (r := r) hw k hk
  have b1 := sp_rdg_b (f := f) (r := r) hw k hk
  have r01 := sp_row_01 (f := f) (r := r) hw k hk
  rw [← hq1, ← ht] at r01
  have q1 : k < n → _ := fun h => hw k h
  have q2 : 1 ≤ t → Q 112 (t - 1).toNat = 0 ∨ Q 112 (t - 1).toNat = 1 := fun h => r01 _ (by omega)
  have q3 : 2 ≤ t → Q 112 ((t + (-1)) - 1).toNat = 0 ∨ Q 112 ((t + (-1)) - 1).toNat = 1 := fun h => r01 _ (by omega)
  have q4 : 2 ≤ t → Q 112 (t + (-1)).toNat = 0 ∨ Q 112 (t + (-1)).toNat = 1 := fun h => r01 _ (by omega)
  have q9 := ht
  have q5 : t = 1 → Q 112 0 = 0 ∨ Q 112 0 = 1 := fun h => r01 _ (by omega)
  have q6 : ∀ x : Int, 0 ≤ x → x ≤ 5 → -2147483648 ≤ I 111 x.toNat ∧ I 111 x.toNat < 2147483648 := fun x h0 h1 => by rw [hf _ (by omega)]; exact hfr _ (by omega)
  rw [hsk] at q1
  have q7 := q6 (I 108 i.toNat % 8)
  rw [← ht] at q1
  refine am_e_ss 4 (q := (149, [(6, .inl i), (5, .inl t), (4, .inl ((178 + (140 * (I 108 24))))), (3, .inl nn), (0, .inr (.inr (.inl (some 107))))], [.inl ((178 + (140 * (I 108 24))) + nn), .inl i], (am_mm D (am_wp tK I Q) J ρ))) rfl ?_
  refine am_e_icmp2 rfl ⟨by omega, by omega⟩ ⟨by omega, by omega⟩ (fun (h1 : ((178 + (140 * (I 108 24))) + nn) ≤ i) => ?_) (fun (h1 : ¬ (((178 + (140 * (I 108 24))) + nn) ≤ i)) => ?_)
  · show am_E _ _ _ 478 [(6, .inl i), (5, .inl t), (4, .inl ((178 + (140 * (I 108 24))))), (3, .inl nn), (0, .inr (.inr (.inl (some 107))))] [] (am_mm D (am_wp tK I Q) J ρ) _
    refine am_e_return rfl rfl ?_
    have e : k = n := by omega
    subst e
    exact ⟨Q, rfl, hq2, hq3⟩
  · show am_E _ _ _ 152 [(6, .inl i), (5, .inl t), (4, .inl ((178 + (140 * (I 108 24))))), (3, .inl nn), (0, .inr (.inr (.inl (some 107))))] [] (am_mm D (am_wp tK I Q) J ρ) _
    obtain ⟨w0, w1, w2, w3, w4⟩ := q1 (by clear q1 q2 q3 q4 q5 q7; omega)
    clear q1
    refine am_e_ss 3 (q := (158, [(6, .inl i), (5, .inl t), (4, .inl ((178 + (140 * (I 108 24))))), (3, .inl nn), (0, .inr (.inr (.inl (some 107))))], [.inl i, .inr (.inr (.inl (some 108)))], (am_mm D (am_wp tK I Q) J ρ))) rfl ?_
    refine am_e_iaload (m := 878) rfl rfl (by omega) (by omega) (by omega) ?_
    show am_E _ _ _ 159 [(6, .inl i), (5, .inl t), (4, .inl ((178 + (140 * (I 108 24))))), (3, .inl nn), (0, .inr (.inr (.inl (some 107))))] [.inl ((I 108 (i).toNat))] (am_mm D (am_wp tK I Q) J ρ) _
    refine am_e_ss 2 (q := (163, [(7, .inl ((I 108 (i).toNat))), (6, .inl i), (5, .inl t), (4, .inl ((178 + (140 * (I 108 24))))), (3, .inl nn), (0, .inr (.inr (.inl (some 107))))], [.inl ((I 108 (i).toNat))], (am_mm D (am_wp tK I Q) J ρ))) rfl ?_
    refine am_e_if2 rfl ⟨by omega, by omega⟩ (fun (h2 : (I 108 (i).toNat) < 0) => ?_) (fun (h2 : ¬ ((I 108 (i).toNat) < 0)) => ?_)
    · show am_E _ _ _ 260 [(7, .inl ((I 108 (i).toNat))), (6, .inl i), (5, .inl t), (4, .inl ((178 + (140 * (I 108 24))))), (3, .inl nn), (0, .inr (.inr (.inl (some 107))))] [] (am_mm D (am_wp tK I Q) J ρ) _
      clear w1 q7
      refine am_e_ss 2 (q := (263, [(7, .inl ((I 108 (i).toNat))), (6, .inl i), (5, .inl t), (4, .inl ((178 + (140 * (I 108 24))))), (3, .inl nn), (0, .inr (.inr (.inl (some 107))))], [.inl (-1), .inl ((I 108 (i).toNat))], (am_mm D (am_wp tK I Q) J ρ))) rfl ?_
      refine am_e_icmp2 rfl ⟨by omega, by omega⟩ ⟨by omega, by omega⟩ (fun (h3 : ¬ (I 108 (i).toNat) = (-1)) => ?_) (fun (h3 : ¬ (¬ (I 108 (i).toNat) = (-1))) => ?_)
      · show am_E _ _ _ 295 [(7, .inl ((I 108 (i).toNat))), (6, .inl i), (5, .inl t), (4, .inl ((178 + (140 * (I 108 24))))), (3, .inl nn), (0, .inr (.inr (.inl (some 107))))] [] (am_mm D (am_wp tK I Q) J ρ) _
        refine am_e_ss 2 (q := (299, [(7, .inl ((I 108 (i).toNat))), (6, .inl i), (5, .inl t), (4, .inl ((178 + (140 * (I 108 24))))), (3, .inl nn), (0, .inr (.inr (.inl (some 107))))], [.inl (-10), .inl ((I 108 (i).toNat))], (am_mm D (am_wp tK I Q) J ρ))) rfl ?_
        refine am_e_icmp2 rfl ⟨by omega, by omega⟩ ⟨by omega, by omega⟩ (fun (h4 : (I 108 (i).toNat) ≤ (-10)) => ?_) (fun (h4 : ¬ ((I 108 (i).toNat) ≤ (-10))) => ?_)
        · show am_E _ _ _ 381 [(7, .inl ((I 108 (i).toNat))), (6, .inl i), (5, .inl t), (4, .inl ((178 + (140 * (I 108 24))))), (3, .inl nn), (0, .inr (.inr (.inl (some 107))))] [] (am_mm D (am_wp tK I Q) J ρ) _
          have w5 := w4 (by clear w2 w3 w4 q2 q3 q4 q5; omega)
          clear w2 w3 w4 q2 q3 q4
          have q5 := q5 w5
          refine am_e_ss 11 (q := (399, [(8, .inl ((Q 112 0))), (5, .inl 0), (7, .inl ((I 108 (i).toNat))), (6, .inl i), (4, .inl ((178 + (140 * (I 108 24))))), (3, .inl nn), (0, .inr (.inr (.inl (some 107))))], [.inl ((Q 112 0)), .inl ((Q 107 12)), .inr (.inr (.inl (some 107)))], (am_mm D (am_wp tK I Q) J ρ))) rfl ?_
          refine am_e_if2 rfl ⟨by omega, by omega⟩ (fun (h5 : (Q 112 0) = 0) => ?_) (fun (h5 : ¬ ((Q 112 0) = 0)) => ?_)
          · show am_E _ _ _ 410 [(8, .inl ((Q 112 0))), (5, .inl 0), (7, .inl ((I 108 (i).toNat))), (6, .inl i), (4, .inl ((178 + (140 * (I 108 24))))), (3, .inl nn), (0, .inr (.inr (.inl (some 107))))] [.inl ((Q 107 12)), .inr (.inr (.inl (some 107)))] (am_mm D (am_wp tK I Q) J ρ) _
            refine am_e_ss 8 (q := (447, [(8, .inl ((Q 112 0))), (5, .inl 0), (7, .inl ((I 108 (i).toNat))), (6, .inl i), (4, .inl ((178 + (140 * (I 108 24))))), (3, .inl nn), (0, .inr (.inr (.inl (some 107))))], [.inl ((Q 112 0)), .inl ((Q 107 13)), .inr (.inr (.inl (some 107)))], (am_mm D (am_up (am_wp tK I Q) 107 12 ((Q 107 12) + 0)) J ρ))) rfl ?_
            refine am_e_if2 rfl ⟨by omega, by omega⟩ (fun (h6 : (Q 112 0) = 0) => ?_) (fun (h6 : ¬ ((Q 112 0) = 0)) => ?_)
            · show am_E _ _ _ 467 [(8, .inl ((Q 112 0))), (5, .inl 0), (7, .inl ((I 108 (i).toNat))), (6, .inl i), (4, .inl ((178 + (140 * (I 108 24))))), (3, .inl nn), (0, .inr (.inr (.inl (some 107))))] [.inl ((Q 107 13)), .inr (.inr (.inl (some 107)))] (am_mm D (am_up (am_wp tK I Q) 107 12 ((Q 107 12) + 0)) J ρ) _
              refine am_e_ss 5 (q := (143, [(6, .inl (i + 1)), (8, .inl ((Q 112 0))), (5, .inl 0), (7, .inl ((I 108 (i).toNat))), (4, .inl ((178 + (140 * (I 108 24))))), (3, .inl nn), (0, .inr (.inr (.inl (some 107))))], [], (am_mm D (am_up (am_up (am_wp tK I Q) 107 12 ((Q 107 12) + 0)) 107 13 ((Q 107 13) + 0)) J ρ))) rfl ?_
              have eT : 0 = sp_top stp (k + 1) := by
                rw [sp_top_s, hsk]
                (repeat' split) <;> omega
              have e1 : (am_up (am_up (am_wp tK I Q) 107 12 ((Q 107 12) + 0)) 107 13 ((Q 107 13) + 0)) 112 = sp_row f stp r (k + 1) := by
                show Q 112 = _
                rw [hq1, sp_row_s, hsk]
                (repeat' split) <;> first | (exfalso; omega) | rfl
              have e12 : (am_up (am_up (am_wp tK I Q) 107 12 ((Q 107 12) + 0)) 107 13 ((Q 107 13) + 0)) 107 12 = sp_lkg f stp r (k + 1) := by
                show ((Q 107 12) + 0) = _
                rw [sp_lkg_s, hsk, ← hq1]
                unfold sp_lkd
                (repeat' split) <;> omega
              have e13 : (am_up (am_up (am_wp tK I Q) 107 12 ((Q 107 12) + 0)) 107 13 ((Q 107 13) + 0)) 107 13 = sp_rdg f stp r (k + 1) := by
                show ((Q 107 13) + 0) = _
                rw [sp_rdg_s, hsk, ← hq1]
                unfold sp_rdd
                (repeat' split) <;> omega
              refine am_e_wp tK (am_k_up rfl (am_k_up rfl (am_k_wp am_k_sub (am_k_id)))) ?_
              exact am_less (lv := [(6, .inl ((i + 1))), (5, .inl 0), (4, .inl ((178 + (140 * (I 108 24))))), (3, .inl nn), (0, .inr (.inr (.inl (some 107))))]) rfl (List.forall_mem_cons.mpr ⟨rfl, List.forall_mem_cons.mpr ⟨rfl, List.forall_mem_cons.mpr ⟨rfl, List.forall_mem_cons.mpr ⟨rfl, List.forall_mem_cons.mpr ⟨rfl, List.forall_mem_nil _⟩⟩⟩⟩⟩) (r_looks_l d (n := n) (k := k + 1) (f := f) (r := r) (stp := stp) hstp hnn hn c24 c38 hw (by omega) (by omega) eT hf hfr e1 e12 e13)
            · show am_E _ _ _ 450 [(8, .inl ((Q 112 0))), (5, .inl 0), (7, .inl ((I 108 (i).toNat))), (6, .inl i), (4, .inl ((178 + (140 * (I 108 24))))), (3, .inl nn), (0, .inr (.inr (.inl (some 107))))] [.inl ((Q 107 13)), .inr (.inr (.inl (some 107)))] (am_mm D (am_up (am_wp tK I Q) 107 12 ((Q 107 12) + 0)) J ρ) _
              refine am_e_ss 2 (q := (455, [(8, .inl ((Q 112 0))), (5, .inl 0), (7, .inl ((I 108 (i).toNat))), (6, .inl i), (4, .inl ((178 + (140 * (I 108 24))))), (3, .inl nn), (0, .inr (.inr (.inl (some 107))))], [.inl (-400), .inl ((I 108 (i).toNat)), .inl ((Q 107 13)), .inr (.inr (.inl (some 107)))], (am_mm D (am_up (am_wp tK I Q) 107 12 ((Q 107 12) + 0)) J ρ))) rfl ?_
              refine am_e_icmp2 rfl ⟨by omega, by omega⟩ ⟨by omega, by omega⟩ (fun (h7 : (-400) < (I 108 (i).toNat)) => ?_) (fun (h7 : ¬ ((-400) < (I 108 (i).toNat))) => ?_)
              · show am_E _ _ _ 467 [(8, .inl ((Q 112 0))), (5, .inl 0), (7, .inl ((I 108 (i).toNat))), (6, .inl i), (4, .inl ((178 + (140 * (I 108 24))))), (3, .inl nn), (0, .inr (.inr (.inl (some 107))))] [.inl ((Q 107 13)), .inr (.inr (.inl (some 107)))] (am_mm D (am_up (am_wp tK I Q) 107 12 ((Q 107 12) + 0)) J ρ) _
                refine am_e_ss 5 (q := (143, [(6, .inl (i + 1)), (8, .inl ((Q 112 0))), (5, .inl 0), (7, .inl ((I 108 (i).toNat))), (4, .inl ((178 + (140 * (I 108 24))))), (3, .inl nn), (0, .inr (.inr (.inl (some 107))))], [], (am_mm D (am_up (am_up (am_wp tK I Q) 107 12 ((Q 107 12) + 0)) 107 13 ((Q 107 13) + 0)) J ρ))) rfl ?_
                have eT : 0 = sp_top stp (k + 1) := by
                  rw [sp_top_s, hsk]
                  (repeat' split) <;> omega
                have e1 : (am_up (am_up (am_wp tK I Q) 107 12 ((Q 107 12) + 0)) 107 13 ((Q 107 13) + 0)) 112 = sp_row f stp r (k + 1) := by
                  show Q 112 = _
                  rw [hq1, sp_row_s, hsk]
                  (repeat' split) <;> first | (exfalso; omega) | rfl
                have e12 : (am_up (am_up (am_wp tK I Q) 107 12 ((Q 107 12) + 0)) 107 13 ((Q 107 13) + 0)) 107 12 = sp_lkg f stp r (k + 1) := by
                  show ((Q 107 12) + 0) = _
                  rw [sp_lkg_s, hsk, ← hq1]
                  unfold sp_lkd
                  (repeat' split) <;> omega
                have e13 : (am_up (am_up (am_wp tK I Q) 107 12 ((Q 107 12) + 0)) 107 13 ((Q 107 13) + 0)) 107 13 = sp_rdg f stp r (k + 1) := by
                  show ((Q 107 13) + 0) = _
                  rw [sp_rdg_s, hsk, ← hq1]
                  unfold sp_rdd
                  (repeat' split) <;> omega
                refine am_e_wp tK (am_k_up rfl (am_k_up rfl (am_k_wp am_k_sub (am_k_id)))) ?_
                exact am_less (lv := [(6, .inl ((i + 1))), (5, .inl 0), (4, .inl ((178 + (140 * (I 108 24))))), (3, .inl nn), (0, .inr (.inr (.inl (some 107))))]) rfl (List.forall_mem_cons.mpr ⟨rfl, List.forall_mem_cons.mpr ⟨rfl, List.forall_mem_cons.mpr ⟨rfl, List.forall_mem_cons.mpr ⟨rfl, List.forall_mem_cons.mpr ⟨rfl, List.forall_mem_nil _⟩⟩⟩⟩⟩) (r_looks_l d (n := n) (k := k + 1) (f := f) (r := r) (stp := stp) hstp hnn hn c24 c38 hw (by omega) (by omega) eT hf hfr e1 e12 e13)
              · show am_E _ _ _ 458 [(8, .inl ((Q 112 0))), (5, .inl 0), (7, .inl ((I 108 (i).toNat))), (6, .inl i), (4, .inl ((178 + (140 * (I 108 24))))), (3, .inl nn), (0, .inr (.inr (.inl (some 107))))] [.inl ((Q 107 13)), .inr (.inr (.inl (some 107)))] (am_mm D (am_up (am_wp tK I Q) 107 12 ((Q 107 12) + 0)) J ρ) _
                refine am_e_ss 8 (q := (143, [(6, .inl (i + 1)), (8, .inl ((Q 112 0))), (5, .inl 0), (7, .inl ((I 108 (i).toNat))), (4, .inl ((178 + (140 * (I 108 24))))), (3, .inl nn), (0, .inr (.inr (.inl (some 107))))], [], (am_mm D (am_up (am_up (am_wp tK I Q) 107 12 ((Q 107 12) + 0)) 107 13 ((Q 107 13) + ((-400) - (I 108 (i).toNat)))) J ρ))) rfl ?_
                have eT : 0 = sp_top stp (k + 1) := by
                  rw [sp_top_s, hsk]
                  (repeat' split) <;> omega
                have e1 : (am_up (am_up (am_wp tK I Q) 107 12 ((Q 107 12) + 0)) 107 13 ((Q 107 13) + ((-400) - (I 108 (i).toNat)))) 112 = sp_row f stp r (k + 1) := by
                  show Q 112 = _
                  rw [hq1, sp_row_s, hsk]
                  (repeat' split) <;> first | (exfalso; omega) | rfl
                have e12 : (am_up (am_up (am_wp tK I Q) 107 12 ((Q 107 12) + 0)) 107 13 ((Q 107 13) + ((-400) - (I 108 (i).toNat)))) 107 12 = sp_lkg f stp r (k + 1) := by
                  show ((Q 107 12) + 0) = _
                  rw [sp_lkg_s, hsk, ← hq1]
                  unfold sp_lkd
                  (repeat' split) <;> omega
                have e13 : (am_up (am_up (am_wp tK I Q) 107 12 ((Q 107 12) + 0)) 107 13 ((Q 107 13) + ((-400) - (I 108 (i).toNat)))) 107 13 = sp_rdg f stp r (k + 1) := by
                  show ((Q 107 13) + ((-400) - (I 108 (i).toNat))) = _
                  rw [sp_rdg_s, hsk, ← hq1]
                  unfold sp_rdd
                  (repeat' split) <;> omega
                refine am_e_wp tK (am_k_up rfl (am_k_up rfl (am_k_wp am_k_sub (am_k_id)))) ?_
                exact am_less (lv := [(6, .inl ((i + 1))), (5, .inl 0), (4, .inl ((178 + (140 * (I 108 24))))), (3, .inl nn), (0, .inr (.inr (.inl (some 107))))]) rfl (List.forall_mem_cons.mpr ⟨rfl, List.forall_mem_cons.mpr ⟨rfl, List.forall_mem_cons.mpr ⟨rfl, List.forall_mem_cons.mpr ⟨rfl, List.forall_mem_cons.mpr ⟨rfl, List.forall_mem_nil _⟩⟩⟩⟩⟩) (r_looks_l d (n := n) (k := k + 1) (f := f) (r := r) (stp := stp) hstp hnn hn c24 c38 hw (by omega) (by omega) eT hf hfr e1 e12 e13)
          · show am_E _ _ _ 402 [(8, .inl ((Q 112 0))), (5, .inl 0), (7, .inl ((I 108 (i).toNat))), (6, .inl i), (4, .inl ((178 + (140 * (I 108 24))))), (3, .inl nn), (0, .inr (.inr (.inl (some 107))))] [.inl ((Q 107 12)), .inr (.inr (.inl (some 107)))] (am_mm D (am_wp tK I Q) J ρ) _
            refine am_e_ss 2 (q := (407, [(8, .inl ((Q 112 0))), (5, .inl 0), (7, .inl ((I 108 (i).toNat))), (6, .inl i), (4, .inl ((178 + (140 * (I 108 24))))), (3, .inl nn), (0, .inr (.inr (.inl (some 107))))], [.inl (-400), .inl ((I 108 (i).toNat)), .inl ((Q 107 12)), .inr (.inr (.inl (some 107)))], (am_mm D (am_wp tK I Q) J ρ))) rfl ?_
            refine am_e_icmp2 rfl ⟨by omega, by omega⟩ ⟨by omega, by omega⟩ (fun (h8 : (-400) < (I 108 (i).toNat)) => ?_) (fun (h8 : ¬ ((-400) < (I 108 (i).toNat))) => ?_)
            · show am_E _ _ _ 414 [(8, .inl ((Q 112 0))), (5, .inl 0), (7, .inl ((I 108 (i).toNat))), (6, .inl i), (4, .inl ((178 + (140 * (I 108 24))))), (3, .inl nn), (0, .inr (.inr (.inl (some 107))))] [.inl ((Q 107 12)), .inr (.inr (.inl (some 107)))] (am_mm D (am_wp tK I Q) J ρ) _
              refine am_e_ss 2 (q := (419, [(8, .inl ((Q 112 0))), (5, .inl 0), (7, .inl ((I 108 (i).toNat))), (6, .inl i), (4, .inl ((178 + (140 * (I 108 24))))), (3, .inl nn), (0, .inr (.inr (.inl (some 107))))], [.inl (-200), .inl ((I 108 (i).toNat)), .inl ((Q 107 12)), .inr (.inr (.inl (some 107)))], (am_mm D (am_wp tK I Q) J ρ))) rfl ?_
              refine am_e_icmp2 rfl ⟨by omega, by omega⟩ ⟨by omega, by omega⟩ (fun (h9 : (I 108 (i).toNat) ≤ (-200)) => ?_) (fun (h9 : ¬ ((I 108 (i).toNat) ≤ (-200))) => ?_)
              · show am_E _ _ _ 430 [(8, .inl ((Q 112 0))), (5, .inl 0), (7, .inl ((I 108 (i).toNat))), (6, .inl i), (4, .inl ((178 + (140 * (I 108 24))))), (3, .inl nn), (0, .inr (.inr (.inl (some 107))))] [.inl ((Q 107 12)), .inr (.inr (.inl (some 107)))] (am_mm D (am_wp tK I Q) J ρ) _
                refine am_e_ss 9 (q := (447, [(8, .inl ((Q 112 0))), (5, .inl 0), (7, .inl ((I 108 (i).toNat))), (6, .inl i), (4, .inl ((178 + (140 * (I 108 24))))), (3, .inl nn), (0, .inr (.inr (.inl (some 107))))], [.inl ((Q 112 0)), .inl ((Q 107 13)), .inr (.inr (.inl (some 107)))], (am_mm D (am_up (am_wp tK I Q) 107 12 ((Q 107 12) + ((I 108 (i).toNat) - (-200)))) J ρ))) rfl ?_
                refine am_e_if2 rfl ⟨by omega, by omega⟩ (fun (h10 : (Q 112 0) = 0) => ?_) (fun (h10 : ¬ ((Q 112 0) = 0)) => ?_)
                · show am_E _ _ _ 467 [(8, .inl ((Q 112 0))), (5, .inl 0), (7, .inl ((I 108 (i).toNat))), (6, .inl i), (4, .inl ((178 + (140 * (I 108 24))))), (3, .inl nn), (0, .inr (.inr (.inl (some 107))))] [.inl ((Q 107 13)), .inr (.inr (.inl (some 107)))] (am_mm D (am_up (am_wp tK I Q) 107 12 ((Q 107 12) + ((I 108 (i).toNat) - (-200)))) J ρ) _
                  refine am_e_ss 5 (q := (143, [(6, .inl (i + 1)), (8, .inl ((Q 112 0))), (5, .inl 0), (7, .inl ((I 108 (i).toNat))), (4, .inl ((178 + (140 * (I 108 24))))), (3, .inl nn), (0, .inr (.inr (.inl (some 107))))], [], (am_mm D (am_up (am_up (am_wp tK I Q) 107 12 ((Q 107 12) + ((I 108 (i).toNat) - (-200)))) 107 13 ((Q 107 13) + 0)) J ρ))) rfl ?_
                  have eT : 0 = sp_top stp (k + 1) := by
                    rw [sp_top_s, hsk]
                    (repeat' split) <;> omega
                  have e1 : (am_up (am_up (am_wp tK I Q) 107 12 ((Q 107 12) + ((I 108 (i).toNat) - (-200)))) 107 13 ((Q 107 13) + 0)) 112 = sp_row f stp r (k + 1) := by
                    show Q 112 = _
                    rw [hq1, sp_row_s, hsk]
                    (repeat' split) <;> first | (exfalso; omega) | rfl
                  have e12 : (am_up (am_up (am_wp tK I Q) 107 12 ((Q 107 12) + ((I 108 (i).toNat) - (-200)))) 107 13 ((Q 107 13) + 0)) 107 12 = sp_lkg f stp r (k + 1) := by
                    show ((Q 107 12) + ((I 108 (i).toNat) - (-200))) = _
                    rw [sp_lkg_s, hsk, ← hq1]
                    unfold sp_lkd
                    (repeat' split) <;> omega
                  have e13 : (am_up (am_up (am_wp tK I Q) 107 12 ((Q 107 12) + ((I 108 (i).toNat) - (-200)))) 107 13 ((Q 107 13) + 0)) 107 13 = sp_rdg f stp r (k + 1) := by
                    show ((Q 107 13) + 0) = _
                    rw [sp_rdg_s, hsk, ← hq1]
                    unfold sp_rdd
                    (repeat' split) <;> omega
                  refine am_e_wp tK (am_k_up rfl (am_k_up rfl (am_k_wp am_k_sub (am_k_id)))) ?_
                  exact am_less (lv := [(6, .inl ((i + 1))), (5, .inl 0), (4, .inl ((178 + (140 * (I 108 24))))), (3, .inl nn), (0, .inr (.inr (.inl (some 107))))]) rfl (List.forall_mem_cons.mpr ⟨rfl, List.forall_mem_cons.mpr ⟨rfl, List.forall_mem_cons.mpr ⟨rfl, List.forall_mem_cons.mpr ⟨rfl, List.forall_mem_cons.mpr ⟨rfl, List.forall_mem_nil _⟩⟩⟩⟩⟩) (r_looks_l d (n := n) (k := k + 1) (f := f) (r := r) (stp := stp) hstp hnn hn c24 c38 hw (by omega) (by omega) eT hf hfr e1 e12 e13)
                · show am_E _ _ _ 450 [(8, .inl ((Q 112 0))), (5, .inl 0), (7, .inl ((I 108 (i).toNat))), (6, .inl i), (4, .inl ((178 + (140 * (I 108 24))))), (3, .inl nn), (0, .inr (.inr (.inl (some 107))))] [.inl ((Q 107 13)), .inr (.inr (.inl (some 107)))] (am_mm D (am_up (am_wp tK I Q) 107 12 ((Q 107 12) + ((I 108 (i).toNat) - (-200)))) J ρ) _
                  refine am_e_ss 2 (q := (455, [(8, .inl ((Q 112 0))), (5, .inl 0), (7, .inl ((I 108 (i).toNat))), (6, .inl i), (4, .inl ((178 + (140 * (I 108 24))))), (3, .inl nn), (0, .inr (.inr (.inl (some 107))))], [.inl (-400), .inl ((I 108 (i).toNat)), .inl ((Q 107 13)), .inr (.inr (.inl (some 107)))], (am_mm D (am_up (am_wp tK I Q) 107 12 ((Q 107 12) + ((I 108 (i).toNat) - (-200)))) J ρ))) rfl ?_
                  refine am_e_icmp2 rfl ⟨by omega, by omega⟩ ⟨by omega, by omega⟩ (fun (h11 : (-400) < (I 108 (i).toNat)) => ?_) (fun (h11 : ¬ ((-400) < (I 108 (i).toNat))) => ?_)
                  · show am_E _ _ _ 467 [(8, .inl ((Q 112 0))), (5, .inl 0), (7, .inl ((I 108 (i).toNat))), (6, .inl i), (4, .inl ((178 + (140 * (I 108 24))))), (3, .inl nn), (0, .inr (.inr (.inl (some 107))))] [.inl ((Q 107 13)), .inr (.inr (.inl (some 107)))] (am_mm D (am_up (am_wp tK I Q) 107 12 ((Q 107 12) + ((I 108 (i).toNat) - (-200)))) J ρ) _
                    refine am_e_ss 5 (q := (143, [(6, .inl (i + 1)), (8, .inl ((Q 112 0))), (5, .inl 0), (7, .inl ((I 108 (i).toNat))), (4, .inl ((178 + (140 * (I 108 24))))), (3, .inl nn), (0, .inr (.inr (.inl (some 107))))], [], (am_mm D (am_up (am_up (am_wp tK I Q) 107 12 ((Q 107 12) + ((I 108 (i).toNat) - (-200)))) 107 13 ((Q 107 13) + 0)) J ρ))) rfl ?_
                    have eT : 0 = sp_top stp (k + 1) := by
                      rw [sp_top_s, hsk]
                      (repeat' split) <;> omega
                    have e1 : (am_up (am_up (am_wp tK I Q) 107 12 ((Q 107 12) + ((I 108 (i).toNat) - (-200)))) 107 13 ((Q 107 13) + 0)) 112 = sp_row f stp r (k + 1) := by
                      show Q 112 = _
                      rw [hq1, sp_row_s, hsk]
                      (repeat' split) <;> first | (exfalso; omega) | rfl
                    have e12 : (am_up (am_up (am_wp tK I Q) 107 12 ((Q 107 12) + ((I 108 (i).toNat) - (-200)))) 107 13 ((Q 107 13) + 0)) 107 12 = sp_lkg f stp r (k + 1) := by
                      show ((Q 107 12) + ((I 108 (i).toNat) - (-200))) = _
                      rw [sp_lkg_s, hsk, ← hq1]
                      unfold sp_lkd
                      (repeat' split) <;> omega
                    have e13 : (am_up (am_up (am_wp tK I Q) 107 12 ((Q 107 12) + ((I 108 (i).toNat) - (-200)))) 107 13 ((Q 107 13) + 0)) 107 13 = sp_rdg f stp r (k + 1) := by
                      show ((Q 107 13) + 0) = _
                      rw [sp_rdg_s, hsk, ← hq1]
                      unfold sp_rdd
                      (repeat' split) <;> omega
                    refine am_e_wp tK (am_k_up rfl (am_k_up rfl (am_k_wp am_k_sub (am_k_id)))) ?_
                    exact am_less (lv := [(6, .inl ((i + 1))), (5, .inl 0), (4, .inl ((178 + (140 * (I 108 24))))), (3, .inl nn), (0, .inr (.inr (.inl (some 107))))]) rfl (List.forall_mem_cons.mpr ⟨rfl, List.forall_mem_cons.mpr ⟨rfl, List.forall_mem_cons.mpr ⟨rfl, List.forall_mem_cons.mpr ⟨rfl, List.forall_mem_cons.mpr ⟨rfl, List.forall_mem_nil _⟩⟩⟩⟩⟩) (r_looks_l d (n := n) (k := k + 1) (f := f) (r := r) (stp := stp) hstp hnn hn c24 c38 hw (by omega) (by omega) eT hf hfr e1 e12 e13)
                  · show am_E _ _ _ 458 [(8, .inl ((Q 112 0))), (5, .inl 0), (7, .inl ((I 108 (i).toNat))), (6, .inl i), (4, .inl ((178 + (140 * (I 108 24))))), (3, .inl nn), (0, .inr (.inr (.inl (some 107))))] [.inl ((Q 107 13)), .inr (.inr (.inl (some 107)))] (am_mm D (am_up (am_wp tK I Q) 107 12 ((Q 107 12) + ((I 108 (i).toNat) - (-200)))) J ρ) _
                    refine am_e_ss 8 (q := (143, [(6, .inl (i + 1)), (8, .inl ((Q 112 0))), (5, .inl 0), (7, .inl ((I 108 (i).toNat))), (4, .inl ((178 + (140 * (I 108 24))))), (3, .inl nn), (0, .inr (.inr (.inl (some 107))))], [], (am_mm D (am_up (am_up (am_wp tK I Q) 107 12 ((Q 107 12) + ((I 108 (i).toNat) - (-200)))) 107 13 ((Q 107 13) + ((-400) - (I 108 (i).toNat)))) J ρ))) rfl ?_
                    have eT : 0 = sp_top stp (k + 1) := by
                      rw [sp_top_s, hsk]
                      (repeat' split) <;> omega
                    have e1 : (am_up (am_up (am_wp tK I Q) 107 12 ((Q 107 12) + ((I 108 (i).toNat) - (-200)))) 107 13 ((Q 107 13) + ((-400) - (I 108 (i).toNat)))) 112 = sp_row f stp r (k + 1) := by
                      show Q 112 = _
                      rw [hq1, sp_row_s, hsk]
                      (repeat' split) <;> first | (exfalso; omega) | rfl
                    have e12 : (am_up (am_up (am_wp tK I Q) 107 12 ((Q 107 12) + ((I 108 (i).toNat) - (-200)))) 107 13 ((Q 107 13) + ((-400) - (I 108 (i).toNat)))) 107 12 = sp_lkg f stp r (k + 1) := by
                      show ((Q 107 12) + ((I 108 (i).toNat) - (-200))) = _
                      rw [sp_lkg_s, hsk, ← hq1]
                      unfold sp_lkd
                      (repeat' split) <;> omega
                    have e13 : (am_up (am_up (am_wp tK I Q) 107 12 ((Q 107 12) + ((I 108 (i).toNat) - (-200)))) 107 13 ((Q 107 13) + ((-400) - (I 108 (i).toNat)))) 107 13 = sp_rdg f stp r (k + 1) := by
                      show ((Q 107 13) + ((-400) - (I 108 (i).toNat))) = _
                      rw [sp_rdg_s, hsk, ← hq1]
                      unfold sp_rdd
                      (repeat' split) <;> omega
                    refine am_e_wp tK (am_k_up rfl (am_k_up rfl (am_k_wp am_k_sub (am_k_id)))) ?_
                    exact am_less (lv := [(6, .inl ((i + 1))), (5, .inl 0), (4, .inl ((178 + (140 * (I 108 24))))), (3, .inl nn), (0, .inr (.inr (.inl (some 107))))]) rfl (List.forall_mem_cons.mpr ⟨rfl, List.forall_mem_cons.mpr ⟨rfl, List.forall_mem_cons.mpr ⟨rfl, List.forall_mem_cons.mpr ⟨rfl, List.forall_mem_cons.mpr ⟨rfl, List.forall_mem_nil _⟩⟩⟩⟩⟩) (r_looks_l d (n := n) (k := k + 1) (f := f) (r := r) (stp := stp) hstp hnn hn c24 c38 hw (by omega) (by omega) eT hf hfr e1 e12 e13)
              · show am_E _ _ _ 422 [(8, .inl ((Q 112 0))), (5, .inl 0), (7, .inl ((I 108 (i).toNat))), (6, .inl i), (4, .inl ((178 + (140 * (I 108 24))))), (3, .inl nn), (0, .inr (.inr (.inl (some 107))))] [.inl ((Q 107 12)), .inr (.inr (.inl (some 107)))] (am_mm D (am_wp tK I Q) J ρ) _
                refine am_e_ss 10 (q := (447, [(8, .inl ((Q 112 0))), (5, .inl 0), (7, .inl ((I 108 (i).toNat))), (6, .inl i), (4, .inl ((178 + (140 * (I 108 24))))), (3, .inl nn), (0, .inr (.inr (.inl (some 107))))], [.inl ((Q 112 0)), .inl ((Q 107 13)), .inr (.inr (.inl (some 107)))], (am_mm D (am_up (am_wp tK I Q) 107 12 ((Q 107 12) + ((-10) - (I 108 (i).toNat)))) J ρ))) rfl ?_
                refine am_e_if2 rfl ⟨by omega, by omega⟩ (fun (h12 : (Q 112 0) = 0) => ?_) (fun (h12 : ¬ ((Q 112 0) = 0)) => ?_)
                · show am_E _ _ _ 467 [(8, .inl ((Q 112 0))), (5, .inl 0), (7, .inl ((I 108 (i).toNat))), (6, .inl i), (4, .inl ((178 + (140 * (I 108 24))))), (3, .inl nn), (0, .inr (.inr (.inl (some 107))))] [.inl ((Q 107 13)), .inr (.inr (.inl (some 107)))] (am_mm D (am_up (am_wp tK I Q) 107 12 ((Q 107 12) + ((-10) - (I 108 (i).toNat)))) J ρ) _
                  refine am_e_ss 5 (q := (143, [(6, .inl (i + 1)), (8, .inl ((Q 112 0))), (5, .inl 0), (7, .inl ((I 108 (i).toNat))), (4, .inl ((178 + (140 * (I 108 24))))), (3, .inl nn), (0, .inr (.inr (.inl (some 107))))], [], (am_mm D (am_up (am_up (am_wp tK I Q) 107 12 ((Q 107 12) + ((-10) - (I 108 (i).toNat)))) 107 13 ((Q 107 13) + 0)) J ρ))) rfl ?_
                  have eT : 0 = sp_top stp (k + 1) := by
                    rw [sp_top_s, hsk]
                    (repeat' split) <;> omega
                  have e1 : (am_up (am_up (am_wp tK I Q) 107 12 ((Q 107 12) + ((-10) - (I 108 (i).toNat)))) 107 13 ((Q 107 13) + 0)) 112 = sp_row f stp r (k + 1) := by
                    show Q 112 = _
                    rw [hq1, sp_row_s, hsk]
                    (repeat' split) <;> first | (exfalso; omega) | rfl
                  have e12 : (am_up (am_up (am_wp tK I Q) 107 12 ((Q 107 12) + ((-10) - (I 108 (i).toNat)))) 107 13 ((Q 107 13) + 0)) 107 12 = sp_lkg f stp r (k + 1) := by
                    show ((Q 107 12) + ((-10) - (I 108 (i).toNat))) = _
                    rw [sp_lkg_s, hsk, ← hq1]
                    unfold sp_lkd
                    (repeat' split) <;> omega
                  have e13 : (am_up (am_up (am_wp tK I Q) 107 12 ((Q 107 12) + ((-10) - (I 108 (i).toNat)))) 107 13 ((Q 107 13) + 0)) 107 13 = sp_rdg f stp r (k + 1) := by
                    show ((Q 107 13) + 0) = _
                    rw [sp_rdg_s, hsk, ← hq1]
                    unfold sp_rdd
                    (repeat' split) <;> omega
                  refine am_e_wp tK (am_k_up rfl (am_k_up rfl (am_k_wp am_k_sub (am_k_id)))) ?_
                  exact am_less (lv := [(6, .inl ((i + 1))), (5, .inl 0), (4, .inl ((178 + (140 * (I 108 24))))), (3, .inl nn), (0, .inr (.inr (.inl (some 107))))]) rfl (List.forall_mem_cons.mpr ⟨rfl, List.forall_mem_cons.mpr ⟨rfl, List.forall_mem_cons.mpr ⟨rfl, List.forall_mem_cons.mpr ⟨rfl, List.forall_mem_cons.mpr ⟨rfl, List.forall_mem_nil _⟩⟩⟩⟩⟩) (r_looks_l d (n := n) (k := k + 1) (f := f) (r := r) (stp := stp) hstp hnn hn c24 c38 hw (by omega) (by omega) eT hf hfr e1 e12 e13)
                · show am_E _ _ _ 450 [(8, .inl ((Q 112 0))), (5, .inl 0), (7, .inl ((I 108 (i).toNat))), (6, .inl i), (4, .inl ((178 + (140 * (I 108 24))))), (3, .inl nn), (0, .inr (.inr (.inl (some 107))))] [.inl ((Q 107 13)), .inr (.inr (.inl (some 107)))] (am_mm D (am_up (am_wp tK I Q) 107 12 ((Q 107 12) + ((-10) - (I 108 (i).toNat)))) J ρ) _
                  refine am_e_ss 2 (q := (455, [(8, .inl ((Q 112 0))), (5, .inl 0), (7, .inl ((I 108 (i).toNat))), (6, .inl i), (4, .inl ((178 + (140 * (I 108 24))))), (3, .inl nn), (0, .inr (.inr (.inl (some 107))))], [.inl (-400), .inl ((I 108 (i).toNat)), .inl ((Q 107 13)), .inr (.inr (.inl (some 107)))], (am_mm D (am_up (am_wp tK I Q) 107 12 ((Q 107 12) + ((-10) - (I 108 (i).toNat)))) J ρ))) rfl ?_
                  refine am_e_icmp2 rfl ⟨by omega, by omega⟩ ⟨by omega, by omega⟩ (fun (h13 : (-400) < (I 108 (i).toNat)) => ?_) (fun (h13 : ¬ ((-400) < (I 108 (i).toNat))) => ?_)
                  · show am_E _ _ _ 467 [(8, .inl ((Q 112 0))), (5, .inl 0), (7, .inl ((I 108 (i).toNat))), (6, .inl i), (4, .inl ((178 + (140 * (I 108 24))))), (3, .inl nn), (0, .inr (.inr (.inl (some 107))))] [.inl ((Q 107 13)), .inr (.inr (.inl (some 107)))] (am_mm D (am_up (am_wp tK I Q) 107 12 ((Q 107 12) + ((-10) - (I 108 (i).toNat)))) J ρ) _
                    refine am_e_ss 5 (q := (143, [(6, .inl (i + 1)), (8, .inl ((Q 112 0))), (5, .inl 0), (7, .inl ((I 108 (i).toNat))), (4, .inl ((178 + (140 * (I 108 24))))), (3, .inl nn), (0, .inr (.inr (.inl (some 107))))], [], (am_mm D (am_up (am_up (am_wp tK I Q) 107 12 ((Q 107 12) + ((-10) - (I 108 (i).toNat)))) 107 13 ((Q 107 13) + 0)) J ρ))) rfl ?_
                    have eT : 0 = sp_top stp (k + 1) := by
                      rw [sp_top_s, hsk]
                      (repeat' split) <;> omega
                    have e1 : (am_up (am_up (am_wp tK I Q) 107 12 ((Q 107 12) + ((-10) - (I 108 (i).toNat)))) 107 13 ((Q 107 13) + 0)) 112 = sp_row f stp r (k + 1) := by
                      show Q 112 = _
                      rw [hq1, sp_row_s, hsk]
                      (repeat' split) <;> first | (exfalso; omega) | rfl
                    have e12 : (am_up (am_up (am_wp tK I Q) 107 12 ((Q 107 12) + ((-10) - (I 108 (i).toNat)))) 107 13 ((Q 107 13) + 0)) 107 12 = sp_lkg f stp r (k + 1) := by
                      show ((Q 107 12) + ((-10) - (I 108 (i).toNat))) = _
                      rw [sp_lkg_s, hsk, ← hq1]
                      unfold sp_lkd
                      (repeat' split) <;> omega
                    have e13 : (am_up (am_up (am_wp tK I Q) 107 12 ((Q 107 12) + ((-10) - (I 108 (i).toNat)))) 107 13 ((Q 107 13) + 0)) 107 13 = sp_rdg f stp r (k + 1) := by
                      show ((Q 107 13) + 0) = _
                      rw [sp_rdg_s, hsk, ← hq1]
                      unfold sp_rdd
                      (repeat' split) <;> omega
                    refine am_e_wp tK (am_k_up rfl (am_k_up rfl (am_k_wp am_k_sub (am_k_id)))) ?_
                    exact am_less (lv := [(6, .inl ((i + 1))), (5, .inl 0), (4, .inl ((178 + (140 * (I 108 24))))), (3, .inl nn), (0, .inr (.inr (.inl (some 107))))]) rfl (List.forall_mem_cons.mpr ⟨rfl, List.forall_mem_cons.mpr ⟨rfl, List.forall_mem_cons.mpr ⟨rfl, List.forall_mem_cons.mpr ⟨rfl, List.forall_mem_cons.mpr ⟨rfl, List.forall_mem_nil _⟩⟩⟩⟩⟩) (r_looks_l d (n := n) (k := k + 1) (f := f) (r := r) (stp := stp) hstp hnn hn c24 c38 hw (by omega) (by omega) eT hf hfr e1 e12 e13)
                  · show am_E _ _ _ 458 [(8, .inl ((Q 112 0))), (5, .inl 0), (7, .inl ((I 108 (i).toNat))), (6, .inl i), (4, .inl ((178 + (140 * (I 108 24))))), (3, .inl nn), (0, .inr (.inr (.inl (some 107))))] [.inl ((Q 107 13)), .inr (.inr (.inl (some 107)))] (am_mm D (am_up (am_wp tK I Q) 107 12 ((Q 107 12) + ((-10) - (I 108 (i).toNat)))) J ρ) _
                    refine am_e_ss 8 (q := (143, [(6, .inl (i + 1)), (8, .inl ((Q 112 0))), (5, .inl 0), (7, .inl ((I 108 (i).toNat))), (4, .inl ((178 + (140 * (I 108 24))))), (3, .inl nn), (0, .inr (.inr (.inl (some 107))))], [], (am_mm D (am_up (am_up (am_wp tK I Q) 107 12 ((Q 107 12) + ((-10) - (I 108 (i).toNat)))) 107 13 ((Q 107 13) + ((-400) - (I 108 (i).toNat)))) J ρ))) rfl ?_
                    have eT : 0 = sp_top stp (k + 1) := by
                      rw [sp_top_s, hsk]
                      (repeat' split) <;> omega
                    have e1 : (am_up (am_up (am_wp tK I Q) 107 12 ((Q 107 12) + ((-10) - (I 108 (i).toNat)))) 107 13 ((Q 107 13) + ((-400) - (I 108 (i).toNat)))) 112 = sp_row f stp r (k + 1) := by
                      show Q 112 = _
                      rw [hq1, sp_row_s, hsk]
                      (repeat' split) <;> first | (exfalso; omega) | rfl
                    have e12 : (am_up (am_up (am_wp tK I Q) 107 12 ((Q 107 12) + ((-10) - (I 108 (i).toNat)))) 107 13 ((Q 107 13) + ((-400) - (I 108 (i).toNat)))) 107 12 = sp_lkg f stp r (k + 1) := by
                      show ((Q 107 12) + ((-10) - (I 108 (i).toNat))) = _
                      rw [sp_lkg_s, hsk, ← hq1]
                      unfold sp_lkd
                      (repeat' split) <;> omega
                    have e13 : (am_up (am_up (am_wp tK I Q) 107 12 ((Q 107 12) + ((-10) - (I 108 (i).toNat)))) 107 13 ((Q 107 13) + ((-400) - (I 108 (i).toNat)))) 107 13 = sp_rdg f stp r (k + 1) := by
                      show ((Q 107 13) + ((-400) - (I 108 (i).toNat))) = _
                      rw [sp_rdg_s, hsk, ← hq1]
                      unfold sp_rdd
                      (repeat' split) <;> omega
                    refine am_e_wp tK (am_k_up rfl (am_k_up rfl (am_k_wp am_k_sub (am_k_id)))) ?_
                    exact am_less (lv := [(6, .inl ((i + 1))), (5, .inl 0), (4, .inl ((178 + (140 * (I 108 24))))), (3, .inl nn), (0, .inr (.inr (.inl (some 107))))]) rfl (List.forall_mem_cons.mpr ⟨rfl, List.forall_mem_cons.mpr ⟨rfl, List.forall_mem_cons.mpr ⟨rfl, List.forall_mem_cons.mpr ⟨rfl, List.forall_mem_cons.mpr ⟨rfl, List.forall_mem_nil _⟩⟩⟩⟩⟩) (r_looks_l d (n := n) (k := k + 1) (f := f) (r := r) (stp := stp) hstp hnn hn c24 c38 hw (by omega) (by omega) eT hf hfr e1 e12 e13)
            · show am_E _ _ _ 410 [(8, .inl ((Q 112 0))), (5, .inl 0), (7, .inl ((I 108 (i).toNat))), (6, .inl i), (4, .inl ((178 + (140 * (I 108 24))))), (3, .inl nn), (0, .inr (.inr (.inl (some 107))))] [.inl ((Q 107 12)), .inr (.inr (.inl (some 107)))] (am_mm D (am_wp tK I Q) J ρ) _
              refine am_e_ss 8 (q := (447, [(8, .inl ((Q 112 0))), (5, .inl 0), (7, .inl ((I 108 (i).toNat))), (6, .inl i), (4, .inl ((178 + (140 * (I 108 24))))), (3, .inl nn), (0, .inr (.inr (.inl (some 107))))], [.inl ((Q 112 0)), .inl ((Q 107 13)), .inr (.inr (.inl (some 107)))], (am_mm D (am_up (am_wp tK I Q) 107 12 ((Q 107 12) + 0)) J ρ))) rfl ?_
              refine am_e_if2 rfl ⟨by omega, by omega⟩ (fun (h14 : (Q 112 0) = 0) => ?_) (fun (h14 : ¬ ((Q 112 0) = 0)) => ?_)
              · show am_E _ _ _ 467 [(8, .inl ((Q 112 0))), (5, .inl 0), (7, .inl ((I 108 (i).toNat))), (6, .inl i), (4, .inl ((178 + (140 * (I 108 24))))), (3, .inl nn), (0, .inr (.inr (.inl (some 107))))] [.inl ((Q 107 13)), .inr (.inr (.inl (some 107)))] (am_mm D (am_up (am_wp tK I Q) 107 12 ((Q 107 12) + 0)) J ρ) _
                refine am_e_ss 5 (q := (143, [(6, .inl (i + 1)), (8, .inl ((Q 112 0))), (5, .inl 0), (7, .inl ((I 108 (i).toNat))), (4, .inl ((178 + (140 * (I 108 24))))), (3, .inl nn), (0, .inr (.inr (.inl (some 107))))], [], (am_mm D (am_up (am_up (am_wp tK I Q) 107 12 ((Q 107 12) + 0)) 107 13 ((Q 107 13) + 0)) J ρ))) rfl ?_
                have eT : 0 = sp_top stp (k + 1) := by
                  rw [sp_top_s, hsk]
                  (repeat' split) <;> omega
                have e1 : (am_up (am_up (am_wp tK I Q) 107 12 ((Q 107 12) + 0)) 107 13 ((Q 107 13) + 0)) 112 = sp_row f stp r (k + 1) := by
                  show Q 112 = _
                  rw [hq1, sp_row_s, hsk]
                  (repeat' split) <;> first | (exfalso; omega) | rfl
                have e12 : (am_up (am_up (am_wp tK I Q) 107 12 ((Q 107 12) + 0)) 107 13 ((Q 107 13) + 0)) 107 12 = sp_lkg f stp r (k + 1) := by
                  show ((Q 107 12) + 0) = _
                  rw [sp_lkg_s, hsk, ← hq1]
                  unfold sp_lkd
                  (repeat' split) <;> omega
                have e13 : (am_up (am_up (am_wp tK I Q) 107 12 ((Q 107 12) + 0)) 107 13 ((Q 107 13) + 0)) 107 13 = sp_rdg f stp r (k + 1) := by
                  show ((Q 107 13) + 0) = _
                  rw [sp_rdg_s, hsk, ← hq1]
                  unfold sp_rdd
                  (repeat' split) <;> omega
                refine am_e_wp tK (am_k_up rfl (am_k_up rfl (am_k_wp am_k_sub (am_k_id)))) ?_
                exact am_less (lv := [(6, .inl ((i + 1))), (5, .inl 0), (4, .inl ((178 + (140 * (I 108 24))))), (3, .inl nn), (0, .inr (.inr (.inl (some 107))))]) rfl (List.forall_mem_cons.mpr ⟨rfl, List.forall_mem_cons.mpr ⟨rfl, List.forall_mem_cons.mpr ⟨rfl, List.forall_mem_cons.mpr ⟨rfl, List.forall_mem_cons.mpr ⟨rfl, List.forall_mem_nil _⟩⟩⟩⟩⟩) (r_looks_l d (n := n) (k := k + 1) (f := f) (r := r) (stp := stp) hstp hnn hn c24 c38 hw (by omega) (by omega) eT hf hfr e1 e12 e13)
              · show am_E _ _ _ 450 [(8, .inl ((Q 112 0))), (5, .inl 0), (7, .inl ((I 108 (i).toNat))), (6, .inl i), (4, .inl ((178 + (140 * (I 108 24))))), (3, .inl nn), (0, .inr (.inr (.inl (some 107))))] [.inl ((Q 107 13)), .inr (.inr (.inl (some 107)))] (am_mm D (am_up (am_wp tK I Q) 107 12 ((Q 107 12) + 0)) J ρ) _
                refine am_e_ss 2 (q := (455, [(8, .inl ((Q 112 0))), (5, .inl 0), (7, .inl ((I 108 (i).toNat))), (6, .inl i), (4, .inl ((178 + (140 * (I 108 24))))), (3, .inl nn), (0, .inr (.inr (.inl (some 107))))], [.inl (-400), .inl ((I 108 (i).toNat)), .inl ((Q 107 13)), .inr (.inr (.inl (some 107)))], (am_mm D (am_up (am_wp tK I Q) 107 12 ((Q 107 12) + 0)) J ρ))) rfl ?_
                refine am_e_icmp2 rfl ⟨by omega, by omega⟩ ⟨by omega, by omega⟩ (fun (h15 : (-400) < (I 108 (i).toNat)) => ?_) (fun (h15 : ¬ ((-400) < (I 108 (i).toNat))) => ?_)
                · show am_E _ _ _ 467 [(8, .inl ((Q 112 0))), (5, .inl 0), (7, .inl ((I 108 (i).toNat))), (6, .inl i), (4, .inl ((178 + (140 * (I 108 24))))), (3, .inl nn), (0, .inr (.inr (.inl (some 107))))] [.inl ((Q 107 13)), .inr (.inr (.inl (some 107)))] (am_mm D (am_up (am_wp tK I Q) 107 12 ((Q 107 12) + 0)) J ρ) _
                  refine am_e_ss 5 (q := (143, [(6, .inl (i + 1)), (8, .inl ((Q 112 0))), (5, .inl 0), (7, .inl ((I 108 (i).toNat))), (4, .inl ((178 + (140 * (I 108 24))))), (3, .inl nn), (0, .inr (.inr (.inl (some 107))))], [], (am_mm D (am_up (am_up (am_wp tK I Q) 107 12 ((Q 107 12) + 0)) 107 13 ((Q 107 13) + 0)) J ρ))) rfl ?_
                  have eT : 0 = sp_top stp (k + 1) := by
                    rw [sp_top_s, hsk]
                    (repeat' split) <;> omega
                  have e1 : (am_up (am_up (am_wp tK I Q) 107 12 ((Q 107 12) + 0)) 107 13 ((Q 107 13) + 0)) 112 = sp_row f stp r (k + 1) := by
                    show Q 112 = _
                    rw [hq1, sp_row_s, hsk]
                    (repeat' split) <;> first | (exfalso; omega) | rfl
                  have e12 : (am_up (am_up (am_wp tK I Q) 107 12 ((Q 107 12) + 0)) 107 13 ((Q 107 13) + 0)) 107 12 = sp_lkg f stp r (k + 1) := by
                    show ((Q 107 12) + 0) = _
                    rw [sp_lkg_s, hsk, ← hq1]
                    unfold sp_lkd
                    (repeat' split) <;> omega
                  have e13 : (am_up (am_up (am_wp tK I Q) 107 12 ((Q 107 12) + 0)) 107 13 ((Q 107 13) + 0)) 107 13 = sp_rdg f stp r (k + 1) := by
                    show ((Q 107 13) + 0) = _
                    rw [sp_rdg_s, hsk, ← hq1]
                    unfold sp_rdd
                    (repeat' split) <;> omega
                  refine am_e_wp tK (am_k_up rfl (am_k_up rfl (am_k_wp am_k_sub (am_k_id)))) ?_
                  exact am_less (lv := [(6, .inl ((i + 1))), (5, .inl 0), (4, .inl ((178 + (140 * (I 108 24))))), (3, .inl nn), (0, .inr (.inr (.inl (some 107))))]) rfl (List.forall_mem_cons.mpr ⟨rfl, List.forall_mem_cons.mpr ⟨rfl, List.forall_mem_cons.mpr ⟨rfl, List.forall_mem_cons.mpr ⟨rfl, List.forall_mem_cons.mpr ⟨rfl, List.forall_mem_nil _⟩⟩⟩⟩⟩) (r_looks_l d (n := n) (k := k + 1) (f := f) (r := r) (stp := stp) hstp hnn hn c24 c38 hw (by omega) (by omega) eT hf hfr e1 e12 e13)
                · show am_E _ _ _ 458 [(8, .inl ((Q 112 0))), (5, .inl 0), (7, .inl ((I 108 (i).toNat))), (6, .inl i), (4, .inl ((178 + (140 * (I 108 24))))), (3, .inl nn), (0, .inr (.inr (.inl (some 107))))] [.inl ((Q 107 13)), .inr (.inr (.inl (some 107)))] (am_mm D (am_up (am_wp tK I Q) 107 12 ((Q 107 12) + 0)) J ρ) _
                  refine am_e_ss 8 (q := (143, [(6, .inl (i + 1)), (8, .inl ((Q 112 0))), (5, .inl 0), (7, .inl ((I 108 (i).toNat))), (4, .inl ((178 + (140 * (I 108 24))))), (3, .inl nn), (0, .inr (.inr (.inl (some 107))))], [], (am_mm D (am_up (am_up (am_wp tK I Q) 107 12 ((Q 107 12) + 0)) 107 13 ((Q 107 13) + ((-400) - (I 108 (i).toNat)))) J ρ))) rfl ?_
                  have eT : 0 = sp_top stp (k + 1) := by
                    rw [sp_top_s, hsk]
                    (repeat' split) <;> omega
                  have e1 : (am_up (am_up (am_wp tK I Q) 107 12 ((Q 107 12) + 0)) 107 13 ((Q 107 13) + ((-400) - (I 108 (i).toNat)))) 112 = sp_row f stp r (k + 1) := by
                    show Q 112 = _
                    rw [hq1, sp_row_s, hsk]
                    (repeat' split) <;> first | (exfalso; omega) | rfl
                  have e12 : (am_up (am_up (am_wp tK I Q) 107 12 ((Q 107 12) + 0)) 107 13 ((Q 107 13) + ((-400) - (I 108 (i).toNat)))) 107 12 = sp_lkg f stp r (k + 1) := by
                    show ((Q 107 12) + 0) = _
                    rw [sp_lkg_s, hsk, ← hq1]
                    unfold sp_lkd
                    (repeat' split) <;> omega
                  have e13 : (am_up (am_up (am_wp tK I Q) 107 12 ((Q 107 12) + 0)) 107 13 ((Q 107 13) + ((-400) - (I 108 (i).toNat)))) 107 13 = sp_rdg f stp r (k + 1) := by
                    show ((Q 107 13) + ((-400) - (I 108 (i).toNat))) = _
                    rw [sp_rdg_s, hsk, ← hq1]
                    unfold sp_rdd
                    (repeat' split) <;> omega
                  refine am_e_wp tK (am_k_up rfl (am_k_up rfl (am_k_wp am_k_sub (am_k_id)))) ?_
                  exact am_less (lv := [(6, .inl ((i + 1))), (5, .inl 0), (4, .inl ((178 + (140 * (I 108 24))))), (3, .inl nn), (0, .inr (.inr (.inl (some 107))))]) rfl (List.forall_mem_cons.mpr ⟨rfl, List.forall_mem_cons.mpr ⟨rfl, List.forall_mem_cons.mpr ⟨rfl, List.forall_mem_cons.mpr ⟨rfl, List.forall_mem_cons.mpr ⟨rfl, List.forall_mem_nil _⟩⟩⟩⟩⟩) (r_looks_l d (n := n) (k := k + 1) (f := f) (r := r) (stp := stp) hstp hnn hn c24 c38 hw (by omega) (by omega) eT hf hfr e1 e12 e13)
        · show am_E _ _ _ 302 [(7, .inl ((I 108 (i).toNat))), (6, .inl i), (5, .inl t), (4, .inl ((178 + (140 * (I 108 24))))), (3, .inl nn), (0, .inr (.inr (.inl (some 107))))] [] (am_mm D (am_wp tK I Q) J ρ) _
          obtain ⟨w5, w6⟩ := w3 (by clear w2 w3 w4 q2 q3 q4 q5; omega) (by clear w2 w3 w4 q2 q3 q4 q5; omega)
          clear w2 w3 w4 q2 q5
          have q3 := q3 w5
          have q4 := q4 w5
          refine am_e_ss 8 (q := (317, [(5, .inl (t + (-1))), (7, .inl ((I 108 (i).toNat))), (6, .inl i), (4, .inl ((178 + (140 * (I 108 24))))), (3, .inl nn), (0, .inr (.inr (.inl (some 107))))], [.inl (-2), .inl ((I 108 (i).toNat)), .inl ((t + (-1)) - 1), .inr (.inr (.inl (some 112)))], (am_mm D (am_wp tK I Q) J ρ))) rfl ?_
          refine am_e_icmp2 rfl ⟨by omega, by omega⟩ ⟨by omega, by omega⟩ (fun (h16 : ¬ (I 108 (i).toNat) = (-2)) => ?_) (fun (h16 : ¬ (¬ (I 108 (i).toNat) = (-2))) => ?_)
          · show am_E _ _ _ 350 [(5, .inl (t + (-1))), (7, .inl ((I 108 (i).toNat))), (6, .inl i), (4, .inl ((178 + (140 * (I 108 24))))), (3, .inl nn), (0, .inr (.inr (.inl (some 107))))] [.inl ((t + (-1)) - 1), .inr (.inr (.inl (some 112)))] (am_mm D (am_wp tK I Q) J ρ) _
            refine am_e_ss 5 (q := (358, [(5, .inl (t + (-1))), (7, .inl ((I 108 (i).toNat))), (6, .inl i), (4, .inl ((178 + (140 * (I 108 24))))), (3, .inl nn), (0, .inr (.inr (.inl (some 107))))], [.inl ((t + (-1)) - 1), .inr (.inr (.inl (some 112))), .inl ((t + (-1)) - 1), .inr (.inr (.inl (some 112)))], (am_mm D (am_wp tK I Q) J ρ))) rfl ?_
            refine am_e_baload (m := 64) rfl rfl (by omega) (by omega) (by omega) ?_
            show am_E _ _ _ 359 [(5, .inl (t + (-1))), (7, .inl ((I 108 (i).toNat))), (6, .inl i), (4, .inl ((178 + (140 * (I 108 24))))), (3, .inl nn), (0, .inr (.inr (.inl (some 107))))] [.inl ((Q 112 (((t + (-1)) - 1)).toNat)), .inl ((t + (-1)) - 1), .inr (.inr (.inl (some 112)))] (am_mm D (am_wp tK I Q) J ρ) _
            refine am_e_if2 rfl ⟨by omega, by omega⟩ (fun (h17 : ¬ (Q 112 (((t + (-1)) - 1)).toNat) = 0) => ?_) (fun (h17 : ¬ (¬ (Q 112 (((t + (-1)) - 1)).toNat) = 0)) => ?_)
            · show am_E _ _ _ 372 [(5, .inl (t + (-1))), (7, .inl ((I 108 (i).toNat))), (6, .inl i), (4, .inl ((178 + (140 * (I 108 24))))), (3, .inl nn), (0, .inr (.inr (.inl (some 107))))] [.inl ((t + (-1)) - 1), .inr (.inr (.inl (some 112)))] (am_mm D (am_wp tK I Q) J ρ) _
              refine am_e_ss 2 (q := (377, [(5, .inl (t + (-1))), (7, .inl ((I 108 (i).toNat))), (6, .inl i), (4, .inl ((178 + (140 * (I 108 24))))), (3, .inl nn), (0, .inr (.inr (.inl (some 107))))], [.inl 1, .inl ((t + (-1)) - 1), .inr (.inr (.inl (some 112)))], (am_mm D (am_wp tK I Q) J ρ))) rfl ?_
              refine am_e_bastore (m := 64) rfl rfl (by omega) (by omega) (by omega) (by omega) ?_
              show am_E _ _ _ 378 [(5, .inl (t + (-1))), (7, .inl ((I 108 (i).toNat))), (6, .inl i), (4, .inl ((178 + (140 * (I 108 24))))), (3, .inl nn), (0, .inr (.inr (.inl (some 107))))] [] (am_mm D (am_up (am_wp tK I Q) 112 (((t + (-1)) - 1)).toNat 1) J ρ) _
              refine am_e_ss 3 (q := (143, [(6, .inl (i + 1)), (5, .inl (t + (-1))), (7, .inl ((I 108 (i).toNat))), (4, .inl ((178 + (140 * (I 108 24))))), (3, .inl nn), (0, .inr (.inr (.inl (some 107))))], [], (am_mm D (am_up (am_wp tK I Q) 112 (((t + (-1)) - 1)).toNat 1) J ρ))) rfl ?_
              have eT : (t + (-1)) = sp_top stp (k + 1) := by
                rw [sp_top_s, hsk]
                (repeat' split) <;> omega
              have e1 : (am_up (am_wp tK I Q) 112 (((t + (-1)) - 1)).toNat 1) 112 = sp_row f stp r (k + 1) := by
                rw [show (am_up (am_wp tK I Q) 112 (((t + (-1)) - 1)).toNat 1) 112 = am_u1 (Q 112) (((t + (-1)) - 1)).toNat 1 from am_up_ro, sp_row_s, hsk, ← hq1, ← ht]
                unfold sp_test
                try rw [← hf _ (show (I 108 i.toNat % 8).toNat < 6 by omega)]
                (try rw [show t + (-1) - 1 = t - 1 - 1 by omega] at *)
                (try rw [show t + (-1) = t - 1 by omega] at *)
                (repeat' split) <;> first | (exfalso; omega) | rfl
              have e12 : (am_up (am_wp tK I Q) 112 (((t + (-1)) - 1)).toNat 1) 107 12 = sp_lkg f stp r (k + 1) := by
                show (Q 107 12) = _
                rw [sp_lkg_s, hsk, ← hq1]
                unfold sp_lkd
                (repeat' split) <;> omega
              have e13 : (am_up (am_wp tK I Q) 112 (((t + (-1)) - 1)).toNat 1) 107 13 = sp_rdg f stp r (k + 1) := by
                show (Q 107 13) = _
                rw [sp_rdg_s, hsk, ← hq1]
                unfold sp_rdd
                (repeat' split) <;> omega
              refine am_e_wp tK (am_k_up rfl (am_k_wp am_k_sub (am_k_id))) ?_
              exact am_less (lv := [(6, .inl ((i + 1))), (5, .inl ((t + (-1)))), (4, .inl ((178 + (140 * (I 108 24))))), (3, .inl nn), (0, .inr (.inr (.inl (some 107))))]) rfl (List.forall_mem_cons.mpr ⟨rfl, List.forall_mem_cons.mpr ⟨rfl, List.forall_mem_cons.mpr ⟨rfl, List.forall_mem_cons.mpr ⟨rfl, List.forall_mem_cons.mpr ⟨rfl, List.forall_mem_nil _⟩⟩⟩⟩⟩) (r_looks_l d (n := n) (k := k + 1) (f := f) (r := r) (stp := stp) hstp hnn hn c24 c38 hw (by omega) (by omega) eT hf hfr e1 e12 e13)
            · show am_E _ _ _ 362 [(5, .inl (t + (-1))), (7, .inl ((I 108 (i).toNat))), (6, .inl i), (4, .inl ((178 + (140 * (I 108 24))))), (3, .inl nn), (0, .inr (.inr (.inl (some 107))))] [.inl ((t + (-1)) - 1), .inr (.inr (.inl (some 112)))] (am_mm D (am_wp tK I Q) J ρ) _
              refine am_e_ss 3 (q := (368, [(5, .inl (t + (-1))), (7, .inl ((I 108 (i).toNat))), (6, .inl i), (4, .inl ((178 + (140 * (I 108 24))))), (3, .inl nn), (0, .inr (.inr (.inl (some 107))))], [.inl (t + (-1)), .inr (.inr (.inl (some 112))), .inl ((t + (-1)) - 1), .inr (.inr (.inl (some 112)))], (am_mm D (am_wp tK I Q) J ρ))) rfl ?_
              refine am_e_baload (m := 64) rfl rfl (by omega) (by omega) (by omega) ?_
              show am_E _ _ _ 369 [(5, .inl (t + (-1))), (7, .inl ((I 108 (i).toNat))), (6, .inl i), (4, .inl ((178 + (140 * (I 108 24))))), (3, .inl nn), (0, .inr (.inr (.inl (some 107))))] [.inl ((Q 112 ((t + (-1))).toNat)), .inl ((t + (-1)) - 1), .inr (.inr (.inl (some 112)))] (am_mm D (am_wp tK I Q) J ρ) _
              refine am_e_if2 rfl ⟨by omega, by omega⟩ (fun (h18 : (Q 112 ((t + (-1))).toNat) = 0) => ?_) (fun (h18 : ¬ ((Q 112 ((t + (-1))).toNat) = 0)) => ?_)
              · show am_E _ _ _ 376 [(5, .inl (t + (-1))), (7, .inl ((I 108 (i).toNat))), (6, .inl i), (4, .inl ((178 + (140 * (I 108 24))))), (3, .inl nn), (0, .inr (.inr (.inl (some 107))))] [.inl ((t + (-1)) - 1), .inr (.inr (.inl (some 112)))] (am_mm D (am_wp tK I Q) J ρ) _
                refine am_e_ss 1 (q := (377, [(5, .inl (t + (-1))), (7, .inl ((I 108 (i).toNat))), (6, .inl i), (4, .inl ((178 + (140 * (I 108 24))))), (3, .inl nn), (0, .inr (.inr (.inl (some 107))))], [.inl 0, .inl ((t + (-1)) - 1), .inr (.inr (.inl (some 112)))], (am_mm D (am_wp tK I Q) J ρ))) rfl ?_
                refine am_e_bastore (m := 64) rfl rfl (by omega) (by omega) (by omega) (by omega) ?_
                show am_E _ _ _ 378 [(5, .inl (t + (-1))), (7, .inl ((I 108 (i).toNat))), (6, .inl i), (4, .inl ((178 + (140 * (I 108 24))))), (3, .inl nn), (0, .inr (.inr (.inl (some 107))))] [] (am_mm D (am_up (am_wp tK I Q) 112 (((t + (-1)) - 1)).toNat 0) J ρ) _
                refine am_e_ss 3 (q := (143, [(6, .inl (i + 1)), (5, .inl (t + (-1))), (7, .inl ((I 108 (i).toNat))), (4, .inl ((178 + (140 * (I 108 24))))), (3, .inl nn), (0, .inr (.inr (.inl (some 107))))], [], (am_mm D (am_up (am_wp tK I Q) 112 (((t + (-1)) - 1)).toNat 0) J ρ))) rfl ?_
                have eT : (t + (-1)) = sp_top stp (k + 1) := by
                  rw [sp_top_s, hsk]
                  (repeat' split) <;> omega
                have e1 : (am_up (am_wp tK I Q) 112 (((t + (-1)) - 1)).toNat 0) 112 = sp_row f stp r (k + 1) := by
                  rw [show (am_up (am_wp tK I Q) 112 (((t + (-1)) - 1)).toNat 0) 112 = am_u1 (Q 112) (((t + (-1)) - 1)).toNat 0 from am_up_ro, sp_row_s, hsk, ← hq1, ← ht]
                  unfold sp_test
                  try rw [← hf _ (show (I 108 i.toNat % 8).toNat < 6 by omega)]
                  (try rw [show t + (-1) - 1 = t - 1 - 1 by omega] at *)
                  (try rw [show t + (-1) = t - 1 by omega] at *)
                  (repeat' split) <;> first | (exfalso; omega) | rfl
                have e12 : (am_up (am_wp tK I Q) 112 (((t + (-1)) - 1)).toNat 0) 107 12 = sp_lkg f stp r (k + 1) := by
                  show (Q 107 12) = _
                  rw [sp_lkg_s, hsk, ← hq1]
                  unfold sp_lkd
                  (repeat' split) <;> omega
                have e13 : (am_up (am_wp tK I Q) 112 (((t + (-1)) - 1)).toNat 0) 107 13 = sp_rdg f stp r (k + 1) := by
                  show (Q 107 13) = _
                  rw [sp_rdg_s, hsk, ← hq1]
                  unfold sp_rdd
                  (repeat' split) <;> omega
                refine am_e_wp tK (am_k_up rfl (am_k_wp am_k_sub (am_k_id))) ?_
                exact am_less (lv := [(6, .inl ((i + 1))), (5, .inl ((t + (-1)))), (4, .inl ((178 + (140 * (I 108 24))))), (3, .inl nn), (0, .inr (.inr (.inl (some 107))))]) rfl (List.forall_mem_cons.mpr ⟨rfl, List.forall_mem_cons.mpr ⟨rfl, List.forall_mem_cons.mpr ⟨rfl, List.forall_mem_cons.mpr ⟨rfl, List.forall_mem_cons.mpr ⟨rfl, List.forall_mem_nil _⟩⟩⟩⟩⟩) (r_looks_l d (n := n) (k := k + 1) (f := f) (r := r) (stp := stp) hstp hnn hn c24 c38 hw (by omega) (by omega) eT hf hfr e1 e12 e13)
              · show am_E _ _ _ 372 [(5, .inl (t + (-1))), (7, .inl ((I 108 (i).toNat))), (6, .inl i), (4, .inl ((178 + (140 * (I 108 24))))), (3, .inl nn), (0, .inr (.inr (.inl (some 107))))] [.inl ((t + (-1)) - 1), .inr (.inr (.inl (some 112)))] (am_mm D (am_wp tK I Q) J ρ) _
                refine am_e_ss 2 (q := (377, [(5, .inl (t + (-1))), (7, .inl ((I 108 (i).toNat))), (6, .inl i), (4, .inl ((178 + (140 * (I 108 24))))), (3, .inl nn), (0, .inr (.inr (.inl (some 107))))], [.inl 1, .inl ((t + (-1)) - 1), .inr (.inr (.inl (some 112)))], (am_mm D (am_wp tK I Q) J ρ))) rfl ?_
                refine am_e_bastore (m := 64) rfl rfl (by omega) (by omega) (by omega) (by omega) ?_
                show am_E _ _ _ 378 [(5, .inl (t + (-1))), (7, .inl ((I 108 (i).toNat))), (6, .inl i), (4, .inl ((178 + (140 * (I 108 24))))), (3, .inl nn), (0, .inr (.inr (.inl (some 107))))] [] (am_mm D (am_up (am_wp tK I Q) 112 (((t + (-1)) - 1)).toNat 1) J ρ) _
                refine am_e_ss 3 (q := (143, [(6, .inl (i + 1)), (5, .inl (t + (-1))), (7, .inl ((I 108 (i).toNat))), (4, .inl ((178 + (140 * (I 108 24))))), (3, .inl nn), (0, .inr (.inr (.inl (some 107))))], [], (am_mm D (am_up (am_wp tK I Q) 112 (((t + (-1)) - 1)).toNat 1) J ρ))) rfl ?_
                have eT : (t + (-1)) = sp_top stp (k + 1) := by
                  rw [sp_top_s, hsk]
                  (repeat' split) <;> omega
                have e1 : (am_up (am_wp tK I Q) 112 (((t + (-1)) - 1)).toNat 1) 112 = sp_row f stp r (k + 1) := by
                  rw [show (am_up (am_wp tK I Q) 112 (((t + (-1)) - 1)).toNat 1) 112 = am_u1 (Q 112) (((t + (-1)) - 1)).toNat 1 from am_up_ro, sp_row_s, hsk, ← hq1, ← ht]
                  unfold sp_test
                  try rw [← hf _ (show (I 108 i.toNat % 8).toNat < 6 by omega)]
                  (try rw [show t + (-1) - 1 = t - 1 - 1 by omega] at *)
                  (try rw [show t + (-1) = t - 1 by omega] at *)
                  (repeat' split) <;> first | (exfalso; omega) | rfl
                have e12 : (am_up (am_wp tK I Q) 112 (((t + (-1)) - 1)).toNat 1) 107 12 = sp_lkg f stp r (k + 1) := by
                  show (Q 107 12) = _
                  rw [sp_lkg_s, hsk, ← hq1]
                  unfold sp_lkd
                  (repeat' split) <;> omega
                have e13 : (am_up (am_wp tK I Q) 112 (((t + (-1)) - 1)).toNat 1) 107 13 = sp_rdg f stp r (k + 1) := by
                  show (Q 107 13) = _
                  rw [sp_rdg_s, hsk, ← hq1]
                  unfold sp_rdd
                  (repeat' split) <;> omega
                refine am_e_wp tK (am_k_up rfl (am_k_wp am_k_sub (am_k_id))) ?_
                exact am_less (lv := [(6, .inl ((i + 1))), (5, .inl ((t + (-1)))), (4, .inl ((178 + (140 * (I 108 24))))), (3, .inl nn), (0, .inr (.inr (.inl (some 107))))]) rfl (List.forall_mem_cons.mpr ⟨rfl, List.forall_mem_cons.mpr ⟨rfl, List.forall_mem_cons.mpr ⟨rfl, List.forall_mem_cons.mpr ⟨rfl, List.forall_mem_cons.mpr ⟨rfl, List.forall_mem_nil _⟩⟩⟩⟩⟩) (r_looks_l d (n := n) (k := k + 1) (f := f) (r := r) (stp := stp) hstp hnn hn c24 c38 hw (by omega) (by omega) eT hf hfr e1 e12 e13)
          · show am_E _ _ _ 320 [(5, .inl (t + (-1))), (7, .inl ((I 108 (i).toNat))), (6, .inl i), (4, .inl ((178 + (140 * (I 108 24))))), (3, .inl nn), (0, .inr (.inr (.inl (some 107))))] [.inl ((t + (-1)) - 1), .inr (.inr (.inl (some 112)))] (am_mm D (am_wp tK I Q) J ρ) _
            refine am_e_ss 5 (q := (328, [(5, .inl (t + (-1))), (7, .inl ((I 108 (i).toNat))), (6, .inl i), (4, .inl ((178 + (140 * (I 108 24))))), (3, .inl nn), (0, .inr (.inr (.inl (some 107))))], [.inl ((t + (-1)) - 1), .inr (.inr (.inl (some 112))), .inl ((t + (-1)) - 1), .inr (.inr (.inl (some 112)))], (am_mm D (am_wp tK I Q) J ρ))) rfl ?_
            refine am_e_baload (m := 64) rfl rfl (by omega) (by omega) (by omega) ?_
            show am_E _ _ _ 329 [(5, .inl (t + (-1))), (7, .inl ((I 108 (i).toNat))), (6, .inl i), (4, .inl ((178 + (140 * (I 108 24))))), (3, .inl nn), (0, .inr (.inr (.inl (some 107))))] [.inl ((Q 112 (((t + (-1)) - 1)).toNat)), .inl ((t + (-1)) - 1), .inr (.inr (.inl (some 112)))] (am_mm D (am_wp tK I Q) J ρ) _
            refine am_e_if2 rfl ⟨by omega, by omega⟩ (fun (h19 : (Q 112 (((t + (-1)) - 1)).toNat) = 0) => ?_) (fun (h19 : ¬ ((Q 112 (((t + (-1)) - 1)).toNat) = 0)) => ?_)
            · show am_E _ _ _ 346 [(5, .inl (t + (-1))), (7, .inl ((I 108 (i).toNat))), (6, .inl i), (4, .inl ((178 + (140 * (I 108 24))))), (3, .inl nn), (0, .inr (.inr (.inl (some 107))))] [.inl ((t + (-1)) - 1), .inr (.inr (.inl (some 112)))] (am_mm D (am_wp tK I Q) J ρ) _
              refine am_e_ss 2 (q := (377, [(5, .inl (t + (-1))), (7, .inl ((I 108 (i).toNat))), (6, .inl i), (4, .inl ((178 + (140 * (I 108 24))))), (3, .inl nn), (0, .inr (.inr (.inl (some 107))))], [.inl 0, .inl ((t + (-1)) - 1), .inr (.inr (.inl (some 112)))], (am_mm D (am_wp tK I Q) J ρ))) rfl ?_
              refine am_e_bastore (m := 64) rfl rfl (by omega) (by omega) (by omega) (by omega) ?_
              show am_E _ _ _ 378 [(5, .inl (t + (-1))), (7, .inl ((I 108 (i).toNat))), (6, .inl i), (4, .inl ((178 + (140 * (I 108 24))))), (3, .inl nn), (0, .inr (.inr (.inl (some 107))))] [] (am_mm D (am_up (am_wp tK I Q) 112 (((t + (-1)) - 1)).toNat 0) J ρ) _
              refine am_e_ss 3 (q := (143, [(6, .inl (i + 1)), (5, .inl (t + (-1))), (7, .inl ((I 108 (i).toNat))), (4, .inl ((178 + (140 * (I 108 24))))), (3, .inl nn), (0, .inr (.inr (.inl (some 107))))], [], (am_mm D (am_up (am_wp tK I Q) 112 (((t + (-1)) - 1)).toNat 0) J ρ))) rfl ?_
              have eT : (t + (-1)) = sp_top stp (k + 1) := by
                rw [sp_top_s, hsk]
                (repeat' split) <;> omega
              have e1 : (am_up (am_wp tK I Q) 112 (((t + (-1)) - 1)).toNat 0) 112 = sp_row f stp r (k + 1) := by
                rw [show (am_up (am_wp tK I Q) 112 (((t + (-1)) - 1)).toNat 0) 112 = am_u1 (Q 112) (((t + (-1)) - 1)).toNat 0 from am_up_ro, sp_row_s, hsk, ← hq1, ← ht]
                unfold sp_test
                try rw [← hf _ (show (I 108 i.toNat % 8).toNat < 6 by omega)]
                (try rw [show t + (-1) - 1 = t - 1 - 1 by omega] at *)
                (try rw [show t + (-1) = t - 1 by omega] at *)
                (repeat' split) <;> first | (exfalso; omega) | rfl
              have e12 : (am_up (am_wp tK I Q) 112 (((t + (-1)) - 1)).toNat 0) 107 12 = sp_lkg f stp r (k + 1) := by
                show (Q 107 12) = _
                rw [sp_lkg_s, hsk, ← hq1]
                unfold sp_lkd
                (repeat' split) <;> omega
              have e13 : (am_up (am_wp tK I Q) 112 (((t + (-1)) - 1)).toNat 0) 107 13 = sp_rdg f stp r (k + 1) := by
                show (Q 107 13) = _
                rw [sp_rdg_s, hsk, ← hq1]
                unfold sp_rdd
                (repeat' split) <;> omega
              refine am_e_wp tK (am_k_up rfl (am_k_wp am_k_sub (am_k_id))) ?_
              exact am_less (lv := [(6, .inl ((i + 1))), (5, .inl ((t + (-1)))), (4, .inl ((178 + (140 * (I 108 24))))), (3, .inl nn), (0, .inr (.inr (.inl (some 107))))]) rfl (List.forall_mem_cons.mpr ⟨rfl, List.forall_mem_cons.mpr ⟨rfl, List.forall_mem_cons.mpr ⟨rfl, List.forall_mem_cons.mpr ⟨rfl, List.forall_mem_cons.mpr ⟨rfl, List.forall_mem_nil _⟩⟩⟩⟩⟩) (r_looks_l d (n := n) (k := k + 1) (f := f) (r := r) (stp := stp) hstp hnn hn c24 c38 hw (by omega) (by omega) eT hf hfr e1 e12 e13)
            · show am_E _ _ _ 332 [(5, .inl (t + (-1))), (7, .inl ((I 108 (i).toNat))), (6, .inl i), (4, .inl ((178 + (140 * (I 108 24))))), (3, .inl nn), (0, .inr (.inr (.inl (some 107))))] [.inl ((t + (-1)) - 1), .inr (.inr (.inl (some 112)))] (am_mm D (am_wp tK I Q) J ρ) _
              refine am_e_ss 3 (q := (338, [(5, .inl (t + (-1))), (7, .inl ((I 108 (i).toNat))), (6, .inl i), (4, .inl ((178 + (140 * (I 108 24))))), (3, .inl nn), (0, .inr (.inr (.inl (some 107))))], [.inl (t + (-1)), .inr (.inr (.inl (some 112))), .inl ((t + (-1)) - 1), .inr (.inr (.inl (some 112)))], (am_mm D (am_wp tK I Q) J ρ))) rfl ?_
              refine am_e_baload (m := 64) rfl rfl (by omega) (by omega) (by omega) ?_
              show am_E _ _ _ 339 [(5, .inl (t + (-1))), (7, .inl ((I 108 (i).toNat))), (6, .inl i), (4, .inl ((178 + (140 * (I 108 24))))), (3, .inl nn), (0, .inr (.inr (.inl (some 107))))] [.inl ((Q 112 ((t + (-1))).toNat)), .inl ((t + (-1)) - 1), .inr (.inr (.inl (some 112)))] (am_mm D (am_wp tK I Q) J ρ) _
              refine am_e_if2 rfl ⟨by omega, by omega⟩ (fun (h20 : (Q 112 ((t + (-1))).toNat) = 0) => ?_) (fun (h20 : ¬ ((Q 112 ((t + (-1))).toNat) = 0)) => ?_)
              · show am_E _ _ _ 346 [(5, .inl (t + (-1))), (7, .inl ((I 108 (i).toNat))), (6, .inl i), (4, .inl ((178 + (140 * (I 108 24))))), (3, .inl nn), (0, .inr (.inr (.inl (some 107))))] [.inl ((t + (-1)) - 1), .inr (.inr (.inl (some 112)))] (am_mm D (am_wp tK I Q) J ρ) _
                refine am_e_ss 2 (q := (377, [(5, .inl (t + (-1))), (7, .inl ((I 108 (i).toNat))), (6, .inl i), (4, .inl ((178 + (140 * (I 108 24))))), (3, .inl nn), (0, .inr (.inr (.inl (some 107))))], [.inl 0, .inl ((t + (-1)) - 1), .inr (.inr (.inl (some 112)))], (am_mm D (am_wp tK I Q) J ρ))) rfl ?_
                refine am_e_bastore (m := 64) rfl rfl (by omega) (by omega) (by omega) (by omega) ?_
                show am_E _ _ _ 378 [(5, .inl (t + (-1))), (7, .inl ((I 108 (i).toNat))), (6, .inl i), (4, .inl ((178 + (140 * (I 108 24))))), (3, .inl nn), (0, .inr (.inr (.inl (some 107))))] [] (am_mm D (am_up (am_wp tK I Q) 112 (((t + (-1)) - 1)).toNat 0) J ρ) _
                refine am_e_ss 3 (q := (143, [(6, .inl (i + 1)), (5, .inl (t + (-1))), (7, .inl ((I 108 (i).toNat))), (4, .inl ((178 + (140 * (I 108 24))))), (3, .inl nn), (0, .inr (.inr (.inl (some 107))))], [], (am_mm D (am_up (am_wp tK I Q) 112 (((t + (-1)) - 1)).toNat 0) J ρ))) rfl ?_
                have eT : (t + (-1)) = sp_top stp (k + 1) := by
                  rw [sp_top_s, hsk]
                  (repeat' split) <;> omega
                have e1 : (am_up (am_wp tK I Q) 112 (((t + (-1)) - 1)).toNat 0) 112 = sp_row f stp r (k + 1) := by
                  rw [show (am_up (am_wp tK I Q) 112 (((t + (-1)) - 1)).toNat 0) 112 = am_u1 (Q 112) (((t + (-1)) - 1)).toNat 0 from am_up_ro, sp_row_s, hsk, ← hq1, ← ht]
                  unfold sp_test
                  try rw [← hf _ (show (I 108 i.toNat % 8).toNat < 6 by omega)]
                  (try rw [show t + (-1) - 1 = t - 1 - 1 by omega] at *)
                  (try rw [show t + (-1) = t - 1 by omega] at *)
                  (repeat' split) <;> first | (exfalso; omega) | rfl
                have e12 : (am_up (am_wp tK I Q) 112 (((t + (-1)) - 1)).toNat 0) 107 12 = sp_lkg f stp r (k + 1) := by
                  show (Q 107 12) = _
                  rw [sp_lkg_s, hsk, ← hq1]
                  unfold sp_lkd
                  (repeat' split) <;> omega
                have e13 : (am_up (am_wp tK I Q) 112 (((t + (-1)) - 1)).toNat 0) 107 13 = sp_rdg f stp r (k + 1) := by
                  show (Q 107 13) = _
                  rw [sp_rdg_s, hsk, ← hq1]
                  unfold sp_rdd
                  (repeat' split) <;> omega
                refine am_e_wp tK (am_k_up rfl (am_k_wp am_k_sub (am_k_id))) ?_
                exact am_less (lv := [(6, .inl ((i + 1))), (5, .inl ((t + (-1)))), (4, .inl ((178 + (140 * (I 108 24))))), (3, .inl nn), (0, .inr (.inr (.inl (some 107))))]) rfl (List.forall_mem_cons.mpr ⟨rfl, List.forall_mem_cons.mpr ⟨rfl, List.forall_mem_cons.mpr ⟨rfl, List.forall_mem_cons.mpr ⟨rfl, List.forall_mem_cons.mpr ⟨rfl, List.forall_mem_nil _⟩⟩⟩⟩⟩) (r_looks_l d (n := n) (k := k + 1) (f := f) (r := r) (stp := stp) hstp hnn hn c24 c38 hw (by omega) (by omega) eT hf hfr e1 e12 e13)
              · show am_E _ _ _ 342 [(5, .inl (t + (-1))), (7, .inl ((I 108 (i).toNat))), (6, .inl i), (4, .inl ((178 + (140 * (I 108 24))))), (3, .inl nn), (0, .inr (.inr (.inl (some 107))))] [.inl ((t + (-1)) - 1), .inr (.inr (.inl (some 112)))] (am_mm D (am_wp tK I Q) J ρ) _
                refine am_e_ss 2 (q := (377, [(5, .inl (t + (-1))), (7, .inl ((I 108 (i).toNat))), (6, .inl i), (4, .inl ((178 + (140 * (I 108 24))))), (3, .inl nn), (0, .inr (.inr (.inl (some 107))))], [.inl 1, .inl ((t + (-1)) - 1), .inr (.inr (.inl (some 112)))], (am_mm D (am_wp tK I Q) J ρ))) rfl ?_
                refine am_e_bastore (m := 64) rfl rfl (by omega) (by omega) (by omega) (by omega) ?_
                show am_E _ _ _ 378 [(5, .inl (t + (-1))), (7, .inl ((I 108 (i).toNat))), (6, .inl i), (4, .inl ((178 + (140 * (I 108 24))))), (3, .inl nn), (0, .inr (.inr (.inl (some 107))))] [] (am_mm D (am_up (am_wp tK I Q) 112 (((t + (-1)) - 1)).toNat 1) J ρ) _
                refine am_e_ss 3 (q := (143, [(6, .inl (i + 1)), (5, .inl (t + (-1))), (7, .inl ((I 108 (i).toNat))), (4, .inl ((178 + (140 * (I 108 24))))), (3, .inl nn), (0, .inr (.inr (.inl (some 107))))], [], (am_mm D (am_up (am_wp tK I Q) 112 (((t + (-1)) - 1)).toNat 1) J ρ))) rfl ?_
                have eT : (t + (-1)) = sp_top stp (k + 1) := by
                  rw [sp_top_s, hsk]
                  (repeat' split) <;> omega
                have e1 : (am_up (am_wp tK I Q) 112 (((t + (-1)) - 1)).toNat 1) 112 = sp_row f stp r (k + 1) := by
                  rw [show (am_up (am_wp tK I Q) 112 (((t + (-1)) - 1)).toNat 1) 112 = am_u1 (Q 112) (((t + (-1)) - 1)).toNat 1 from am_up_ro, sp_row_s, hsk, ← hq1, ← ht]
                  unfold sp_test
                  try rw [← hf _ (show (I 108 i.toNat % 8).toNat < 6 by omega)]
                  (try rw [show t + (-1) - 1 = t - 1 - 1 by omega] at *)
                  (try rw [show t + (-1) = t - 1 by omega] at *)
                  (repeat' split) <;> first | (exfalso; omega) | rfl
                have e12 : (am_up (am_wp tK I Q) 112 (((t + (-1)) - 1)).toNat 1) 107 12 = sp_lkg f stp r (k + 1) := by
                  show (Q 107 12) = _
                  rw [sp_lkg_s, hsk, ← hq1]
                  unfold sp_lkd
                  (repeat' split) <;> omega
                have e13 : (am_up (am_wp tK I Q) 112 (((t + (-1)) - 1)).toNat 1) 107 13 = sp_rdg f stp r (k + 1) := by
                  show (Q 107 13) = _
                  rw [sp_rdg_s, hsk, ← hq1]
                  unfold sp_rdd
                  (repeat' split) <;> omega
                refine am_e_wp tK (am_k_up rfl (am_k_wp am_k_sub (am_k_id))) ?_
                exact am_less (lv := [(6, .inl ((i + 1))), (5, .inl ((t + (-1)))), (4, .inl ((178 + (140 * (I 108 24))))), (3, .inl nn), (0, .inr (.inr (.inl (some 107))))]) rfl (List.forall_mem_cons.mpr ⟨rfl, List.forall_mem_cons.mpr ⟨rfl, List.forall_mem_cons.mpr ⟨rfl, List.forall_mem_cons.mpr ⟨rfl, List.forall_mem_cons.mpr ⟨rfl, List.forall_mem_nil _⟩⟩⟩⟩⟩) (r_looks_l d (n := n) (k := k + 1) (f := f) (r := r) (stp := stp) hstp hnn hn c24 c38 hw (by omega) (by omega) eT hf hfr e1 e12 e13)
      · show am_E _ _ _ 266 [(7, .inl ((I 108 (i).toNat))), (6, .inl i), (5, .inl t), (4, .inl ((178 + (140 * (I 108 24))))), (3, .inl nn), (0, .inr (.inr (.inl (some 107))))] [] (am_mm D (am_wp tK I Q) J ρ) _
        obtain ⟨w5, w6⟩ := w2 (by clear w2 w3 w4 q2 q3 q4 q5; omega)
        clear w2 w3 w4 q3 q4 q5
        have q2 := q2 w5
        refine am_e_ss 10 (q := (282, [(7, .inl ((I 108 (i).toNat))), (6, .inl i), (5, .inl t), (4, .inl ((178 + (140 * (I 108 24))))), (3, .inl nn), (0, .inr (.inr (.inl (some 107))))], [.inl (t - 1), .inr (.inr (.inl (some 112))), .inl (t - 1), .inr (.inr (.inl (some 112)))], (am_mm D (am_wp tK I Q) J ρ))) rfl ?_
        refine am_e_baload (m := 64) rfl rfl (by omega) (by omega) (by omega) ?_
        show am_E _ _ _ 283 [(7, .inl ((I 108 (i).toNat))), (6, .inl i), (5, .inl t), (4, .inl ((178 + (140 * (I 108 24))))), (3, .inl nn), (0, .inr (.inr (.inl (some 107))))] [.inl ((Q 112 ((t - 1)).toNat)), .inl (t - 1), .inr (.inr (.inl (some 112)))] (am_mm D (am_wp tK I Q) J ρ) _
        refine am_e_if2 rfl ⟨by omega, by omega⟩ (fun (h21 : ¬ (Q 112 ((t - 1)).toNat) = 0) => ?_) (fun (h21 : ¬ (¬ (Q 112 ((t - 1)).toNat) = 0)) => ?_)
        · show am_E _ _ _ 290 [(7, .inl ((I 108 (i).toNat))), (6, .inl i), (5, .inl t), (4, .inl ((178 + (140 * (I 108 24))))), (3, .inl nn), (0, .inr (.inr (.inl (some 107))))] [.inl (t - 1), .inr (.inr (.inl (some 112)))] (am_mm D (am_wp tK I Q) J ρ) _
          refine am_e_ss 1 (q := (291, [(7, .inl ((I 108 (i).toNat))), (6, .inl i), (5, .inl t), (4, .inl ((178 + (140 * (I 108 24))))), (3, .inl nn), (0, .inr (.inr (.inl (some 107))))], [.inl 0, .inl (t - 1), .inr (.inr (.inl (some 112)))], (am_mm D (am_wp tK I Q) J ρ))) rfl ?_
          refine am_e_bastore (m := 64) rfl rfl (by omega) (by omega) (by omega) (by omega) ?_
          show am_E _ _ _ 292 [(7, .inl ((I 108 (i).toNat))), (6, .inl i), (5, .inl t), (4, .inl ((178 + (140 * (I 108 24))))), (3, .inl nn), (0, .inr (.inr (.inl (some 107))))] [] (am_mm D (am_up (am_wp tK I Q) 112 ((t - 1)).toNat 0) J ρ) _
          refine am_e_ss 3 (q := (143, [(6, .inl (i + 1)), (7, .inl ((I 108 (i).toNat))), (5, .inl t), (4, .inl ((178 + (140 * (I 108 24))))), (3, .inl nn), (0, .inr (.inr (.inl (some 107))))], [], (am_mm D (am_up (am_wp tK I Q) 112 ((t - 1)).toNat 0) J ρ))) rfl ?_
          have eT : t = sp_top stp (k + 1) := by
            rw [sp_top_s, hsk]
            (repeat' split) <;> omega
          have e1 : (am_up (am_wp tK I Q) 112 ((t - 1)).toNat 0) 112 = sp_row f stp r (k + 1) := by
            rw [show (am_up (am_wp tK I Q) 112 ((t - 1)).toNat 0) 112 = am_u1 (Q 112) ((t - 1)).toNat 0 from am_up_ro, sp_row_s, hsk, ← hq1, ← ht]
            unfold sp_test
            try rw [← hf _ (show (I 108 i.toNat % 8).toNat < 6 by omega)]
            (try rw [show t + (-1) - 1 = t - 1 - 1 by omega] at *)
            (try rw [show t + (-1) = t - 1 by omega] at *)
            (repeat' split) <;> first | (exfalso; omega) | rfl
          have e12 : (am_up (am_wp tK I Q) 112 ((t - 1)).toNat 0) 107 12 = sp_lkg f stp r (k + 1) := by
            show (Q 107 12) = _
            rw [sp_lkg_s, hsk, ← hq1]
            unfold sp_lkd
            (repeat' split) <;> omega
          have e13 : (am_up (am_wp tK I Q) 112 ((t - 1)).toNat 0) 107 13 = sp_rdg f stp r (k + 1) := by
            show (Q 107 13) = _
            rw [sp_rdg_s, hsk, ← hq1]
            unfold sp_rdd
            (repeat' split) <;> omega
          refine am_e_wp tK (am_k_up rfl (am_k_wp am_k_sub (am_k_id))) ?_
          exact am_less (lv := [(6, .inl ((i + 1))), (5, .inl t), (4, .inl ((178 + (140 * (I 108 24))))), (3, .inl nn), (0, .inr (.inr (.inl (some 107))))]) rfl (List.forall_mem_cons.mpr ⟨rfl, List.forall_mem_cons.mpr ⟨rfl, List.forall_mem_cons.mpr ⟨rfl, List.forall_mem_cons.mpr ⟨rfl, List.forall_mem_cons.mpr ⟨rfl, List.forall_mem_nil _⟩⟩⟩⟩⟩) (r_looks_l d (n := n) (k := k + 1) (f := f) (r := r) (stp := stp) hstp hnn hn c24 c38 hw (by omega) (by omega) eT hf hfr e1 e12 e13)
        · show am_E _ _ _ 286 [(7, .inl ((I 108 (i).toNat))), (6, .inl i), (5, .inl t), (4, .inl ((178 + (140 * (I 108 24))))), (3, .inl nn), (0, .inr (.inr (.inl (some 107))))] [.inl (t - 1), .inr (.inr (.inl (some 112)))] (am_mm D (am_wp tK I Q) J ρ) _
          refine am_e_ss 2 (q := (291, [(7, .inl ((I 108 (i).toNat))), (6, .inl i), (5, .inl t), (4, .inl ((178 + (140 * (I 108 24))))), (3, .inl nn), (0, .inr (.inr (.inl (some 107))))], [.inl 1, .inl (t - 1), .inr (.inr (.inl (some 112)))], (am_mm D (am_wp tK I Q) J ρ))) rfl ?_
          refine am_e_bastore (m := 64) rfl rfl (by omega) (by omega) (by omega) (by omega) ?_
          show am_E _ _ _ 292 [(7, .inl ((I 108 (i).toNat))), (6, .inl i), (5, .inl t), (4, .inl ((178 + (140 * (I 108 24))))), (3, .inl nn), (0, .inr (.inr (.inl (some 107))))] [] (am_mm D (am_up (am_wp tK I Q) 112 ((t - 1)).toNat 1) J ρ) _
          refine am_e_ss 3 (q := (143, [(6, .inl (i + 1)), (7, .inl ((I 108 (i).toNat))), (5, .inl t), (4, .inl ((178 + (140 * (I 108 24))))), (3, .inl nn), (0, .inr (.inr (.inl (some 107))))], [], (am_mm D (am_up (am_wp tK I Q) 112 ((t - 1)).toNat 1) J ρ))) rfl ?_
          have eT : t = sp_top stp (k + 1) := by
            rw [sp_top_s, hsk]
            (repeat' split) <;> omega
          have e1 : (am_up (am_wp tK I Q) 112 ((t - 1)).toNat 1) 112 = sp_row f stp r (k + 1) := by
            rw [show (am_up (am_wp tK I Q) 112 ((t - 1)).toNat 1) 112 = am_u1 (Q 112) ((t - 1)).toNat 1 from am_up_ro, sp_row_s, hsk, ← hq1, ← ht]
            unfold sp_test
            try rw [← hf _ (show (I 108 i.toNat % 8).toNat < 6 by omega)]
            (try rw [show t + (-1) - 1 = t - 1 - 1 by omega] at *)
            (try rw [show t + (-1) = t - 1 by omega] at *)
            (repeat' split) <;> first | (exfalso; omega) | rfl
          have e12 : (am_up (am_wp tK I Q) 112 ((t - 1)).toNat 1) 107 12 = sp_lkg f stp r (k + 1) := by
            show (Q 107 12) = _
            rw [sp_lkg_s, hsk, ← hq1]
            unfold sp_lkd
            (repeat' split) <;> omega
          have e13 : (am_up (am_wp tK I Q) 112 ((t - 1)).toNat 1) 107 13 = sp_rdg f stp r (k + 1) := by
            show (Q 107 13) = _
            rw [sp_rdg_s, hsk, ← hq1]
            unfold sp_rdd
            (repeat' split) <;> omega
          refine am_e_wp tK (am_k_up rfl (am_k_wp am_k_sub (am_k_id))) ?_
          exact am_less (lv := [(6, .inl ((i + 1))), (5, .inl t), (4, .inl ((178 + (140 * (I 108 24))))), (3, .inl nn), (0, .inr (.inr (.inl (some 107))))]) rfl (List.forall_mem_cons.mpr ⟨rfl, List.forall_mem_cons.mpr ⟨rfl, List.forall_mem_cons.mpr ⟨rfl, List.forall_mem_cons.mpr ⟨rfl, List.forall_mem_cons.mpr ⟨rfl, List.forall_mem_nil _⟩⟩⟩⟩⟩) (r_looks_l d (n := n) (k := k + 1) (f := f) (r := r) (stp := stp) hstp hnn hn c24 c38 hw (by omega) (by omega) eT hf hfr e1 e12 e13)
    · show am_E _ _ _ 166 [(7, .inl ((I 108 (i).toNat))), (6, .inl i), (5, .inl t), (4, .inl ((178 + (140 * (I 108 24))))), (3, .inl nn), (0, .inr (.inr (.inl (some 107))))] [] (am_mm D (am_wp tK I Q) J ρ) _
      obtain ⟨w5, w6, w7⟩ := w1 (by clear w1 w2 w3 w4 q2 q3 q4 q5 q7; omega)
      clear w1 w2 w3 w4 q2 q3 q4 q5
      have q7 := q7 (by omega) (by omega)
      refine am_e_ss 4 (q := (174, [(7, .inl ((I 108 (i).toNat))), (6, .inl i), (5, .inl t), (4, .inl ((178 + (140 * (I 108 24))))), (3, .inl nn), (0, .inr (.inr (.inl (some 107))))], [.inl 8, .inl ((I 108 (i).toNat)), .inr (.inr (.inl (some 111)))], (am_mm D (am_wp tK I Q) J ρ))) rfl ?_
      refine am_e_iremp rfl ⟨by omega, by omega⟩ ⟨by omega, by omega⟩ ?_
      show am_E _ _ _ 175 [(7, .inl ((I 108 (i).toNat))), (6, .inl i), (5, .inl t), (4, .inl ((178 + (140 * (I 108 24))))), (3, .inl nn), (0, .inr (.inr (.inl (some 107))))] [.inl (((I 108 (i).toNat) % 8)), .inr (.inr (.inl (some 111)))] (am_mm D (am_wp tK I Q) J ρ) _
      refine am_e_iaload (m := 6) rfl rfl (by omega) (by omega) (by omega) ?_
      show am_E _ _ _ 176 [(7, .inl ((I 108 (i).toNat))), (6, .inl i), (5, .inl t), (4, .inl ((178 + (140 * (I 108 24))))), (3, .inl nn), (0, .inr (.inr (.inl (some 107))))] [.inl ((I 111 (((I 108 (i).toNat) % 8)).toNat))] (am_mm D (am_wp tK I Q) J ρ) _
      refine am_e_ss 3 (q := (182, [(8, .inl ((I 111 (((I 108 (i).toNat) % 8)).toNat))), (7, .inl ((I 108 (i).toNat))), (6, .inl i), (5, .inl t), (4, .inl ((178 + (140 * (I 108 24))))), (3, .inl nn), (0, .inr (.inr (.inl (some 107))))], [.inl 8, .inl ((I 108 (i).toNat))], (am_mm D (am_wp tK I Q) J ρ))) rfl ?_
      refine am_e_idivp rfl ⟨by omega, by omega⟩ ⟨by omega, by omega⟩ ?_
      show am_E _ _ _ 183 [(8, .inl ((I 111 (((I 108 (i).toNat) % 8)).toNat))), (7, .inl ((I 108 (i).toNat))), (6, .inl i), (5, .inl t), (4, .inl ((178 + (140 * (I 108 24))))), (3, .inl nn), (0, .inr (.inr (.inl (some 107))))] [.inl (((I 108 (i).toNat) / 8))] (am_mm D (am_wp tK I Q) J ρ) _
      refine am_e_ss 1 (q := (184, [(8, .inl ((I 111 (((I 108 (i).toNat) % 8)).toNat))), (7, .inl ((I 108 (i).toNat))), (6, .inl i), (5, .inl t), (4, .inl ((178 + (140 * (I 108 24))))), (3, .inl nn), (0, .inr (.inr (.inl (some 107))))], [.inl 4, .inl (((I 108 (i).toNat) / 8))], (am_mm D (am_wp tK I Q) J ρ))) rfl ?_
      refine am_e_iremp rfl ⟨by omega, by omega⟩ ⟨by omega, by omega⟩ ?_
      show am_E _ _ _ 185 [(8, .inl ((I 111 (((I 108 (i).toNat) % 8)).toNat))), (7, .inl ((I 108 (i).toNat))), (6, .inl i), (5, .inl t), (4, .inl ((178 + (140 * (I 108 24))))), (3, .inl nn), (0, .inr (.inr (.inl (some 107))))] [.inl ((((I 108 (i).toNat) / 8) % 4))] (am_mm D (am_wp tK I Q) J ρ) _
      refine am_e_ss 3 (q := (191, [(9, .inl ((((I 108 (i).toNat) / 8) % 4))), (8, .inl ((I 111 (((I 108 (i).toNat) % 8)).toNat))), (7, .inl ((I 108 (i).toNat))), (6, .inl i), (5, .inl t), (4, .inl ((178 + (140 * (I 108 24))))), (3, .inl nn), (0, .inr (.inr (.inl (some 107))))], [.inl 32, .inl ((I 108 (i).toNat))], (am_mm D (am_wp tK I Q) J ρ))) rfl ?_
      refine am_e_idivp rfl ⟨by omega, by omega⟩ ⟨by omega, by omega⟩ ?_
      show am_E _ _ _ 192 [(9, .inl ((((I 108 (i).toNat) / 8) % 4))), (8, .inl ((I 111 (((I 108 (i).toNat) % 8)).toNat))), (7, .inl ((I 108 (i).toNat))), (6, .inl i), (5, .inl t), (4, .inl ((178 + (140 * (I 108 24))))), (3, .inl nn), (0, .inr (.inr (.inl (some 107))))] [.inl (((I 108 (i).toNat) / 32))] (am_mm D (am_wp tK I Q) J ρ) _
      refine am_e_ss 5 (q := (202, [(10, .inl (((I 108 (i).toNat) / 32))), (9, .inl ((((I 108 (i).toNat) / 8) % 4))), (8, .inl ((I 111 (((I 108 (i).toNat) % 8)).toNat))), (7, .inl ((I 108 (i).toNat))), (6, .inl i), (5, .inl t), (4, .inl ((178 + (140 * (I 108 24))))), (3, .inl nn), (0, .inr (.inr (.inl (some 107))))], [.inl ((((I 108 (i).toNat) / 8) % 4)), .inl t, .inr (.inr (.inl (some 112)))], (am_mm D (am_wp tK I Q) J ρ))) rfl ?_
      refine am_e_if2 rfl ⟨by omega, by omega⟩ (fun (h22 : ¬ (((I 108 (i).toNat) / 8) % 4) = 0) => ?_) (fun (h22 : ¬ (¬ (((I 108 (i).toNat) / 8) % 4) = 0)) => ?_)
      · show am_E _ _ _ 220 [(10, .inl (((I 108 (i).toNat) / 32))), (9, .inl ((((I 108 (i).toNat) / 8) % 4))), (8, .inl ((I 111 (((I 108 (i).toNat) % 8)).toNat))), (7, .inl ((I 108 (i).toNat))), (6, .inl i), (5, .inl t), (4, .inl ((178 + (140 * (I 108 24))))), (3, .inl nn), (0, .inr (.inr (.inl (some 107))))] [.inl t, .inr (.inr (.inl (some 112)))] (am_mm D (am_wp tK I Q) J ρ) _
        refine am_e_ss 2 (q := (223, [(10, .inl (((I 108 (i).toNat) / 32))), (9, .inl ((((I 108 (i).toNat) / 8) % 4))), (8, .inl ((I 111 (((I 108 (i).toNat) % 8)).toNat))), (7, .inl ((I 108 (i).toNat))), (6, .inl i), (5, .inl t), (4, .inl ((178 + (140 * (I 108 24))))), (3, .inl nn), (0, .inr (.inr (.inl (some 107))))], [.inl 1, .inl ((((I 108 (i).toNat) / 8) % 4)), .inl t, .inr (.inr (.inl (some 112)))], (am_mm D (am_wp tK I Q) J ρ))) rfl ?_
        refine am_e_icmp2 rfl ⟨by omega, by omega⟩ ⟨by omega, by omega⟩ (fun (h23 : ¬ (((I 108 (i).toNat) / 8) % 4) = 1) => ?_) (fun (h23 : ¬ (¬ (((I 108 (i).toNat) / 8) % 4) = 1)) => ?_)
        · show am_E _ _ _ 241 [(10, .inl (((I 108 (i).toNat) / 32))), (9, .inl ((((I 108 (i).toNat) / 8) % 4))), (8, .inl ((I 111 (((I 108 (i).toNat) % 8)).toNat))), (7, .inl ((I 108 (i).toNat))), (6, .inl i), (5, .inl t), (4, .inl ((178 + (140 * (I 108 24))))), (3, .inl nn), (0, .inr (.inr (.inl (some 107))))] [.inl t, .inr (.inr (.inl (some 112)))] (am_mm D (am_wp tK I Q) J ρ) _
          refine am_e_ss 2 (q := (245, [(10, .inl (((I 108 (i).toNat) / 32))), (9, .inl ((((I 108 (i).toNat) / 8) % 4))), (8, .inl ((I 111 (((I 108 (i).toNat) % 8)).toNat))), (7, .inl ((I 108 (i).toNat))), (6, .inl i), (5, .inl t), (4, .inl ((178 + (140 * (I 108 24))))), (3, .inl nn), (0, .inr (.inr (.inl (some 107))))], [.inl (((I 108 (i).toNat) / 32)), .inl ((I 111 (((I 108 (i).toNat) % 8)).toNat)), .inl t, .inr (.inr (.inl (some 112)))], (am_mm D (am_wp tK I Q) J ρ))) rfl ?_
          refine am_e_icmp2 rfl ⟨by omega, by omega⟩ ⟨by omega, by omega⟩ (fun (h24 : (I 111 (((I 108 (i).toNat) % 8)).toNat) ≤ ((I 108 (i).toNat) / 32)) => ?_) (fun (h24 : ¬ ((I 111 (((I 108 (i).toNat) % 8)).toNat) ≤ ((I 108 (i).toNat) / 32))) => ?_)
          · show am_E _ _ _ 252 [(10, .inl (((I 108 (i).toNat) / 32))), (9, .inl ((((I 108 (i).toNat) / 8) % 4))), (8, .inl ((I 111 (((I 108 (i).toNat) % 8)).toNat))), (7, .inl ((I 108 (i).toNat))), (6, .inl i), (5, .inl t), (4, .inl ((178 + (140 * (I 108 24))))), (3, .inl nn), (0, .inr (.inr (.inl (some 107))))] [.inl t, .inr (.inr (.inl (some 112)))] (am_mm D (am_wp tK I Q) J ρ) _
            refine am_e_ss 1 (q := (253, [(10, .inl (((I 108 (i).toNat) / 32))), (9, .inl ((((I 108 (i).toNat) / 8) % 4))), (8, .inl ((I 111 (((I 108 (i).toNat) % 8)).toNat))), (7, .inl ((I 108 (i).toNat))), (6, .inl i), (5, .inl t), (4, .inl ((178 + (140 * (I 108 24))))), (3, .inl nn), (0, .inr (.inr (.inl (some 107))))], [.inl 0, .inl t, .inr (.inr (.inl (some 112)))], (am_mm D (am_wp tK I Q) J ρ))) rfl ?_
            refine am_e_bastore (m := 64) rfl rfl (by omega) (by omega) (by omega) (by omega) ?_
            show am_E _ _ _ 254 [(10, .inl (((I 108 (i).toNat) / 32))), (9, .inl ((((I 108 (i).toNat) / 8) % 4))), (8, .inl ((I 111 (((I 108 (i).toNat) % 8)).toNat))), (7, .inl ((I 108 (i).toNat))), (6, .inl i), (5, .inl t), (4, .inl ((178 + (140 * (I 108 24))))), (3, .inl nn), (0, .inr (.inr (.inl (some 107))))] [] (am_mm D (am_up (am_wp tK I Q) 112 (t).toNat 0) J ρ) _
            refine am_e_ss 4 (q := (143, [(6, .inl (i + 1)), (5, .inl (t + 1)), (10, .inl (((I 108 (i).toNat) / 32))), (9, .inl ((((I 108 (i).toNat) / 8) % 4))), (8, .inl ((I 111 (((I 108 (i).toNat) % 8)).toNat))), (7, .inl ((I 108 (i).toNat))), (4, .inl ((178 + (140 * (I 108 24))))), (3, .inl nn), (0, .inr (.inr (.inl (some 107))))], [], (am_mm D (am_up (am_wp tK I Q) 112 (t).toNat 0) J ρ))) rfl ?_
            have eT : (t + 1) = sp_top stp (k + 1) := by
              rw [sp_top_s, hsk]
              (repeat' split) <;> omega
            have e1 : (am_up (am_wp tK I Q) 112 (t).toNat 0) 112 = sp_row f stp r (k + 1) := by
              rw [show (am_up (am_wp tK I Q) 112 (t).toNat 0) 112 = am_u1 (Q 112) (t).toNat 0 from am_up_ro, sp_row_s, hsk, ← hq1, ← ht]
              unfold sp_test
              try rw [← hf _ (show (I 108 i.toNat % 8).toNat < 6 by omega)]
              (try rw [show t + (-1) - 1 = t - 1 - 1 by omega] at *)
              (try rw [show t + (-1) = t - 1 by omega] at *)
              (repeat' split) <;> first | (exfalso; omega) | rfl
            have e12 : (am_up (am_wp tK I Q) 112 (t).toNat 0) 107 12 = sp_lkg f stp r (k + 1) := by
              show (Q 107 12) = _
              rw [sp_lkg_s, hsk, ← hq1]
              unfold sp_lkd
              (repeat' split) <;> omega
            have e13 : (am_up (am_wp tK I Q) 112 (t).toNat 0) 107 13 = sp_rdg f stp r (k + 1) := by
              show (Q 107 13) = _
              rw [sp_rdg_s, hsk, ← hq1]
              unfold sp_rdd
              (repeat' split) <;> omega
            refine am_e_wp tK (am_k_up rfl (am_k_wp am_k_sub (am_k_id))) ?_
            exact am_less (lv := [(6, .inl ((i + 1))), (5, .inl ((t + 1))), (4, .inl ((178 + (140 * (I 108 24))))), (3, .inl nn), (0, .inr (.inr (.inl (some 107))))]) rfl (List.forall_mem_cons.mpr ⟨rfl, List.forall_mem_cons.mpr ⟨rfl, List.forall_mem_cons.mpr ⟨rfl, List.forall_mem_cons.mpr ⟨rfl, List.forall_mem_cons.mpr ⟨rfl, List.forall_mem_nil _⟩⟩⟩⟩⟩) (r_looks_l d (n := n) (k := k + 1) (f := f) (r := r) (stp := stp) hstp hnn hn c24 c38 hw (by omega) (by omega) eT hf hfr e1 e12 e13)
          · show am_E _ _ _ 248 [(10, .inl (((I 108 (i).toNat) / 32))), (9, .inl ((((I 108 (i).toNat) / 8) % 4))), (8, .inl ((I 111 (((I 108 (i).toNat) % 8)).toNat))), (7, .inl ((I 108 (i).toNat))), (6, .inl i), (5, .inl t), (4, .inl ((178 + (140 * (I 108 24))))), (3, .inl nn), (0, .inr (.inr (.inl (some 107))))] [.inl t, .inr (.inr (.inl (some 112)))] (am_mm D (am_wp tK I Q) J ρ) _
            refine am_e_ss 2 (q := (253, [(10, .inl (((I 108 (i).toNat) / 32))), (9, .inl ((((I 108 (i).toNat) / 8) % 4))), (8, .inl ((I 111 (((I 108 (i).toNat) % 8)).toNat))), (7, .inl ((I 108 (i).toNat))), (6, .inl i), (5, .inl t), (4, .inl ((178 + (140 * (I 108 24))))), (3, .inl nn), (0, .inr (.inr (.inl (some 107))))], [.inl 1, .inl t, .inr (.inr (.inl (some 112)))], (am_mm D (am_wp tK I Q) J ρ))) rfl ?_
            refine am_e_bastore (m := 64) rfl rfl (by omega) (by omega) (by omega) (by omega) ?_
            show am_E _ _ _ 254 [(10, .inl (((I 108 (i).toNat) / 32))), (9, .inl ((((I 108 (i).toNat) / 8) % 4))), (8, .inl ((I 111 (((I 108 (i).toNat) % 8)).toNat))), (7, .inl ((I 108 (i).toNat))), (6, .inl i), (5, .inl t), (4, .inl ((178 + (140 * (I 108 24))))), (3, .inl nn), (0, .inr (.inr (.inl (some 107))))] [] (am_mm D (am_up (am_wp tK I Q) 112 (t).toNat 1) J ρ) _
            refine am_e_ss 4 (q := (143, [(6, .inl (i + 1)), (5, .inl (t + 1)), (10, .inl (((I 108 (i).toNat) / 32))), (9, .inl ((((I 108 (i).toNat) / 8) % 4))), (8, .inl ((I 111 (((I 108 (i).toNat) % 8)).toNat))), (7, .inl ((I 108 (i).toNat))), (4, .inl ((178 + (140 * (I 108 24))))), (3, .inl nn), (0, .inr (.inr (.inl (some 107))))], [], (am_mm D (am_up (am_wp tK I Q) 112 (t).toNat 1) J ρ))) rfl ?_
            have eT : (t + 1) = sp_top stp (k + 1) := by
              rw [sp_top_s, hsk]
              (repeat' split) <;> omega
            have e1 : (am_up (am_wp tK I Q) 112 (t).toNat 1) 112 = sp_row f stp r (k + 1) := by
              rw [show (am_up (am_wp tK I Q) 112 (t).toNat 1) 112 = am_u1 (Q 112) (t).toNat 1 from am_up_ro, sp_row_s, hsk, ← hq1, ← ht]
              unfold sp_test
              try rw [← hf _ (show (I 108 i.toNat % 8).toNat < 6 by omega)]
              (try rw [show t + (-1) - 1 = t - 1 - 1 by omega] at *)
              (try rw [show t + (-1) = t - 1 by omega] at *)
              (repeat' split) <;> first | (exfalso; omega) | rfl
            have e12 : (am_up (am_wp tK I Q) 112 (t).toNat 1) 107 12 = sp_lkg f stp r (k + 1) := by
              show (Q 107 12) = _
              rw [sp_lkg_s, hsk, ← hq1]
              unfold sp_lkd
              (repeat' split) <;> omega
            have e13 : (am_up (am_wp tK I Q) 112 (t).toNat 1) 107 13 = sp_rdg f stp r (k + 1) := by
              show (Q 107 13) = _
              rw [sp_rdg_s, hsk, ← hq1]
              unfold sp_rdd
              (repeat' split) <;> omega
            refine am_e_wp tK (am_k_up rfl (am_k_wp am_k_sub (am_k_id))) ?_
            exact am_less (lv := [(6, .inl ((i + 1))), (5, .inl ((t + 1))), (4, .inl ((178 + (140 * (I 108 24))))), (3, .inl nn), (0, .inr (.inr (.inl (some 107))))]) rfl (List.forall_mem_cons.mpr ⟨rfl, List.forall_mem_cons.mpr ⟨rfl, List.forall_mem_cons.mpr ⟨rfl, List.forall_mem_cons.mpr ⟨rfl, List.forall_mem_cons.mpr ⟨rfl, List.forall_mem_nil _⟩⟩⟩⟩⟩) (r_looks_l d (n := n) (k := k + 1) (f := f) (r := r) (stp := stp) hstp hnn hn c24 c38 hw (by omega) (by omega) eT hf hfr e1 e12 e13)
        · show am_E _ _ _ 226 [(10, .inl (((I 108 (i).toNat) / 32))), (9, .inl ((((I 108 (i).toNat) / 8) % 4))), (8, .inl ((I 111 (((I 108 (i).toNat) % 8)).toNat))), (7, .inl ((I 108 (i).toNat))), (6, .inl i), (5, .inl t), (4, .inl ((178 + (140 * (I 108 24))))), (3, .inl nn), (0, .inr (.inr (.inl (some 107))))] [.inl t, .inr (.inr (.inl (some 112)))] (am_mm D (am_wp tK I Q) J ρ) _
          refine am_e_ss 2 (q := (230, [(10, .inl (((I 108 (i).toNat) / 32))), (9, .inl ((((I 108 (i).toNat) / 8) % 4))), (8, .inl ((I 111 (((I 108 (i).toNat) % 8)).toNat))), (7, .inl ((I 108 (i).toNat))), (6, .inl i), (5, .inl t), (4, .inl ((178 + (140 * (I 108 24))))), (3, .inl nn), (0, .inr (.inr (.inl (some 107))))], [.inl (((I 108 (i).toNat) / 32)), .inl ((I 111 (((I 108 (i).toNat) % 8)).toNat)), .inl t, .inr (.inr (.inl (some 112)))], (am_mm D (am_wp tK I Q) J ρ))) rfl ?_
          refine am_e_icmp2 rfl ⟨by omega, by omega⟩ ⟨by omega, by omega⟩ (fun (h25 : ¬ (I 111 (((I 108 (i).toNat) % 8)).toNat) = ((I 108 (i).toNat) / 32)) => ?_) (fun (h25 : ¬ (¬ (I 111 (((I 108 (i).toNat) % 8)).toNat) = ((I 108 (i).toNat) / 32))) => ?_)
          · show am_E _ _ _ 237 [(10, .inl (((I 108 (i).toNat) / 32))), (9, .inl ((((I 108 (i).toNat) / 8) % 4))), (8, .inl ((I 111 (((I 108 (i).toNat) % 8)).toNat))), (7, .inl ((I 108 (i).toNat))), (6, .inl i), (5, .inl t), (4, .inl ((178 + (140 * (I 108 24))))), (3, .inl nn), (0, .inr (.inr (.inl (some 107))))] [.inl t, .inr (.inr (.inl (some 112)))] (am_mm D (am_wp tK I Q) J ρ) _
            refine am_e_ss 2 (q := (253, [(10, .inl (((I 108 (i).toNat) / 32))), (9, .inl ((((I 108 (i).toNat) / 8) % 4))), (8, .inl ((I 111 (((I 108 (i).toNat) % 8)).toNat))), (7, .inl ((I 108 (i).toNat))), (6, .inl i), (5, .inl t), (4, .inl ((178 + (140 * (I 108 24))))), (3, .inl nn), (0, .inr (.inr (.inl (some 107))))], [.inl 0, .inl t, .inr (.inr (.inl (some 112)))], (am_mm D (am_wp tK I Q) J ρ))) rfl ?_
            refine am_e_bastore (m := 64) rfl rfl (by omega) (by omega) (by omega) (by omega) ?_
            show am_E _ _ _ 254 [(10, .inl (((I 108 (i).toNat) / 32))), (9, .inl ((((I 108 (i).toNat) / 8) % 4))), (8, .inl ((I 111 (((I 108 (i).toNat) % 8)).toNat))), (7, .inl ((I 108 (i).toNat))), (6, .inl i), (5, .inl t), (4, .inl ((178 + (140 * (I 108 24))))), (3, .inl nn), (0, .inr (.inr (.inl (some 107))))] [] (am_mm D (am_up (am_wp tK I Q) 112 (t).toNat 0) J ρ) _
            refine am_e_ss 4 (q := (143, [(6, .inl (i + 1)), (5, .inl (t + 1)), (10, .inl (((I 108 (i).toNat) / 32))), (9, .inl ((((I 108 (i).toNat) / 8) % 4))), (8, .inl ((I 111 (((I 108 (i).toNat) % 8)).toNat))), (7, .inl ((I 108 (i).toNat))), (4, .inl ((178 + (140 * (I 108 24))))), (3, .inl nn), (0, .inr (.inr (.inl (some 107))))], [], (am_mm D (am_up (am_wp tK I Q) 112 (t).toNat 0) J ρ))) rfl ?_
            have eT : (t + 1) = sp_top stp (k + 1) := by
              rw [sp_top_s, hsk]
              (repeat' split) <;> omega
            have e1 : (am_up (am_wp tK I Q) 112 (t).toNat 0) 112 = sp_row f stp r (k + 1) := by
              rw [show (am_up (am_wp tK I Q) 112 (t).toNat 0) 112 = am_u1 (Q 112) (t).toNat 0 from am_up_ro, sp_row_s, hsk, ← hq1, ← ht]
              unfold sp_test
              try rw [← hf _ (show (I 108 i.toNat % 8).toNat < 6 by omega)]
              (try rw [show t + (-1) - 1 = t - 1 - 1 by omega] at *)
              (try rw [show t + (-1) = t - 1 by omega] at *)
              (repeat' split) <;> first | (exfalso; omega) | rfl
            have e12 : (am_up (am_wp tK I Q) 112 (t).toNat 0) 107 12 = sp_lkg f stp r (k + 1) := by
              show (Q 107 12) = _
              rw [sp_lkg_s, hsk, ← hq1]
              unfold sp_lkd
              (repeat' split) <;> omega
            have e13 : (am_up (am_wp tK I Q) 112 (t).toNat 0) 107 13 = sp_rdg f stp r (k + 1) := by
              show (Q 107 13) = _
              rw [sp_rdg_s, hsk, ← hq1]
              unfold sp_rdd
              (repeat' split) <;> omega
            refine am_e_wp tK (am_k_up rfl (am_k_wp am_k_sub (am_k_id))) ?_
            exact am_less (lv := [(6, .inl ((i + 1))), (5, .inl ((t + 1))), (4, .inl ((178 + (140 * (I 108 24))))), (3, .inl nn), (0, .inr (.inr (.inl (some 107))))]) rfl (List.forall_mem_cons.mpr ⟨rfl, List.forall_mem_cons.mpr ⟨rfl, List.forall_mem_cons.mpr ⟨rfl, List.forall_mem_cons.mpr ⟨rfl, List.forall_mem_cons.mpr ⟨rfl, List.forall_mem_nil _⟩⟩⟩⟩⟩) (r_looks_l d (n := n) (k := k + 1) (f := f) (r := r) (stp := stp) hstp hnn hn c24 c38 hw (by omega) (by omega) eT hf hfr e1 e12 e13)
          · show am_E _ _ _ 233 [(10, .inl (((I 108 (i).toNat) / 32))), (9, .inl ((((I 108 (i).toNat) / 8) % 4))), (8, .inl ((I 111 (((I 108 (i).toNat) % 8)).toNat))), (7, .inl ((I 108 (i).toNat))), (6, .inl i), (5, .inl t), (4, .inl ((178 + (140 * (I 108 24))))), (3, .inl nn), (0, .inr (.inr (.inl (some 107))))] [.inl t, .inr (.inr (.inl (some 112)))] (am_mm D (am_wp tK I Q) J ρ) _
            refine am_e_ss 2 (q := (253, [(10, .inl (((I 108 (i).toNat) / 32))), (9, .inl ((((I 108 (i).toNat) / 8) % 4))), (8, .inl ((I 111 (((I 108 (i).toNat) % 8)).toNat))), (7, .inl ((I 108 (i).toNat))), (6, .inl i), (5, .inl t), (4, .inl ((178 + (140 * (I 108 24))))), (3, .inl nn), (0, .inr (.inr (.inl (some 107))))], [.inl 1, .inl t, .inr (.inr (.inl (some 112)))], (am_mm D (am_wp tK I Q) J ρ))) rfl ?_
            refine am_e_bastore (m := 64) rfl rfl (by omega) (by omega) (by omega) (by omega) ?_
            show am_E _ _ _ 254 [(10, .inl (((I 108 (i).toNat) / 32))), (9, .inl ((((I 108 (i).toNat) / 8) % 4))), (8, .inl ((I 111 (((I 108 (i).toNat) % 8)).toNat))), (7, .inl ((I 108 (i).toNat))), (6, .inl i), (5, .inl t), (4, .inl ((178 + (140 * (I 108 24))))), (3, .inl nn), (0, .inr (.inr (.inl (some 107))))] [] (am_mm D (am_up (am_wp tK I Q) 112 (t).toNat 1) J ρ) _
            refine am_e_ss 4 (q := (143, [(6, .inl (i + 1)), (5, .inl (t + 1)), (10, .inl (((I 108 (i).toNat) / 32))), (9, .inl ((((I 108 (i).toNat) / 8) % 4))), (8, .inl ((I 111 (((I 108 (i).toNat) % 8)).toNat))), (7, .inl ((I 108 (i).toNat))), (4, .inl ((178 + (140 * (I 108 24))))), (3, .inl nn), (0, .inr (.inr (.inl (some 107))))], [], (am_mm D (am_up (am_wp tK I Q) 112 (t).toNat 1) J ρ))) rfl ?_
            have eT : (t + 1) = sp_top stp (k + 1) := by
              rw [sp_top_s, hsk]
              (repeat' split) <;> omega
            have e1 : (am_up (am_wp tK I Q) 112 (t).toNat 1) 112 = sp_row f stp r (k + 1) := by
              rw [show (am_up (am_wp tK I Q) 112 (t).toNat 1) 112 = am_u1 (Q 112) (t).toNat 1 from am_up_ro, sp_row_s, hsk, ← hq1, ← ht]
              unfold sp_test
              try rw [← hf _ (show (I 108 i.toNat % 8).toNat < 6 by omega)]
              (try rw [show t + (-1) - 1 = t - 1 - 1 by omega] at *)
              (try rw [show t + (-1) = t - 1 by omega] at *)
              (repeat' split) <;> first | (exfalso; omega) | rfl
            have e12 : (am_up (am_wp tK I Q) 112 (t).toNat 1) 107 12 = sp_lkg f stp r (k + 1) := by
              show (Q 107 12) = _
              rw [sp_lkg_s, hsk, ← hq1]
              unfold sp_lkd
              (repeat' split) <;> omega
            have e13 : (am_up (am_wp tK I Q) 112 (t).toNat 1) 107 13 = sp_rdg f stp r (k + 1) := by
              show (Q 107 13) = _
              rw [sp_rdg_s, hsk, ← hq1]
              unfold sp_rdd
              (repeat' split) <;> omega
            refine am_e_wp tK (am_k_up rfl (am_k_wp am_k_sub (am_k_id))) ?_
            exact am_less (lv := [(6, .inl ((i + 1))), (5, .inl ((t + 1))), (4, .inl ((178 + (140 * (I 108 24))))), (3, .inl nn), (0, .inr (.inr (.inl (some 107))))]) rfl (List.forall_mem_cons.mpr ⟨rfl, List.forall_mem_cons.mpr ⟨rfl, List.forall_mem_cons.mpr ⟨rfl, List.forall_mem_cons.mpr ⟨rfl, List.forall_mem_cons.mpr ⟨rfl, List.forall_mem_nil _⟩⟩⟩⟩⟩) (r_looks_l d (n := n) (k := k + 1) (f := f) (r := r) (stp := stp) hstp hnn hn c24 c38 hw (by omega) (by omega) eT hf hfr e1 e12 e13)
      · show am_E _ _ _ 205 [(10, .inl (((I 108 (i).toNat) / 32))), (9, .inl ((((I 108 (i).toNat) / 8) % 4))), (8, .inl ((I 111 (((I 108 (i).toNat) % 8)).toNat))), (7, .inl ((I 108 (i).toNat))), (6, .inl i), (5, .inl t), (4, .inl ((178 + (140 * (I 108 24))))), (3, .inl nn), (0, .inr (.inr (.inl (some 107))))] [.inl t, .inr (.inr (.inl (some 112)))] (am_mm D (am_wp tK I Q) J ρ) _
        refine am_e_ss 2 (q := (209, [(10, .inl (((I 108 (i).toNat) / 32))), (9, .inl ((((I 108 (i).toNat) / 8) % 4))), (8, .inl ((I 111 (((I 108 (i).toNat) % 8)).toNat))), (7, .inl ((I 108 (i).toNat))), (6, .inl i), (5, .inl t), (4, .inl ((178 + (140 * (I 108 24))))), (3, .inl nn), (0, .inr (.inr (.inl (some 107))))], [.inl (((I 108 (i).toNat) / 32)), .inl ((I 111 (((I 108 (i).toNat) % 8)).toNat)), .inl t, .inr (.inr (.inl (some 112)))], (am_mm D (am_wp tK I Q) J ρ))) rfl ?_
        refine am_e_icmp2 rfl ⟨by omega, by omega⟩ ⟨by omega, by omega⟩ (fun (h26 : ((I 108 (i).toNat) / 32) ≤ (I 111 (((I 108 (i).toNat) % 8)).toNat)) => ?_) (fun (h26 : ¬ (((I 108 (i).toNat) / 32) ≤ (I 111 (((I 108 (i).toNat) % 8)).toNat))) => ?_)
        · show am_E _ _ _ 216 [(10, .inl (((I 108 (i).toNat) / 32))), (9, .inl ((((I 108 (i).toNat) / 8) % 4))), (8, .inl ((I 111 (((I 108 (i).toNat) % 8)).toNat))), (7, .inl ((I 108 (i).toNat))), (6, .inl i), (5, .inl t), (4, .inl ((178 + (140 * (I 108 24))))), (3, .inl nn), (0, .inr (.inr (.inl (some 107))))] [.inl t, .inr (.inr (.inl (some 112)))] (am_mm D (am_wp tK I Q) J ρ) _
          refine am_e_ss 2 (q := (253, [(10, .inl (((I 108 (i).toNat) / 32))), (9, .inl ((((I 108 (i).toNat) / 8) % 4))), (8, .inl ((I 111 (((I 108 (i).toNat) % 8)).toNat))), (7, .inl ((I 108 (i).toNat))), (6, .inl i), (5, .inl t), (4, .inl ((178 + (140 * (I 108 24))))), (3, .inl nn), (0, .inr (.inr (.inl (some 107))))], [.inl 0, .inl t, .inr (.inr (.inl (some 112)))], (am_mm D (am_wp tK I Q) J ρ))) rfl ?_
          refine am_e_bastore (m := 64) rfl rfl (by omega) (by omega) (by omega) (by omega) ?_
          show am_E _ _ _ 254 [(10, .inl (((I 108 (i).toNat) / 32))), (9, .inl ((((I 108 (i).toNat) / 8) % 4))), (8, .inl ((I 111 (((I 108 (i).toNat) % 8)).toNat))), (7, .inl ((I 108 (i).toNat))), (6, .inl i), (5, .inl t), (4, .inl ((178 + (140 * (I 108 24))))), (3, .inl nn), (0, .inr (.inr (.inl (some 107))))] [] (am_mm D (am_up (am_wp tK I Q) 112 (t).toNat 0) J ρ) _
          refine am_e_ss 4 (q := (143, [(6, .inl (i + 1)), (5, .inl (t + 1)), (10, .inl (((I 108 (i).toNat) / 32))), (9, .inl ((((I 108 (i).toNat) / 8) % 4))), (8, .inl ((I 111 (((I 108 (i).toNat) % 8)).toNat))), (7, .inl ((I 108 (i).toNat))), (4, .inl ((178 + (140 * (I 108 24))))), (3, .inl nn), (0, .inr (.inr (.inl (some 107))))], [], (am_mm D (am_up (am_wp tK I Q) 112 (t).toNat 0) J ρ))) rfl ?_
          have eT : (t + 1) = sp_top stp (k + 1) := by
            rw [sp_top_s, hsk]
            (repeat' split) <;> omega
          have e1 : (am_up (am_wp tK I Q) 112 (t).toNat 0) 112 = sp_row f stp r (k + 1) := by
            rw [show (am_up (am_wp tK I Q) 112 (t).toNat 0) 112 = am_u1 (Q 112) (t).toNat 0 from am_up_ro, sp_row_s, hsk, ← hq1, ← ht]
            unfold sp_test
            try rw [← hf _ (show (I 108 i.toNat % 8).toNat < 6 by omega)]
            (try rw [show t + (-1) - 1 = t - 1 - 1 by omega] at *)
            (try rw [show t + (-1) = t - 1 by omega] at *)
            (repeat' split) <;> first | (exfalso; omega) | rfl
          have e12 : (am_up (am_wp tK I Q) 112 (t).toNat 0) 107 12 = sp_lkg f stp r (k + 1) := by
            show (Q 107 12) = _
            rw [sp_lkg_s, hsk, ← hq1]
            unfold sp_lkd
            (repeat' split) <;> omega
          have e13 : (am_up (am_wp tK I Q) 112 (t).toNat 0) 107 13 = sp_rdg f stp r (k + 1) := by
            show (Q 107 13) = _
            rw [sp_rdg_s, hsk, ← hq1]
            unfold sp_rdd
            (repeat' split) <;> omega
          refine am_e_wp tK (am_k_up rfl (am_k_wp am_k_sub (am_k_id))) ?_
          exact am_less (lv := [(6, .inl ((i + 1))), (5, .inl ((t + 1))), (4, .inl ((178 + (140 * (I 108 24))))), (3, .inl nn), (0, .inr (.inr (.inl (some 107))))]) rfl (List.forall_mem_cons.mpr ⟨rfl, List.forall_mem_cons.mpr ⟨rfl, List.forall_mem_cons.mpr ⟨rfl, List.forall_mem_cons.mpr ⟨rfl, List.forall_mem_cons.mpr ⟨rfl, List.forall_mem_nil _⟩⟩⟩⟩⟩) (r_looks_l d (n := n) (k := k + 1) (f := f) (r := r) (stp := stp) hstp hnn hn c24 c38 hw (by omega) (by omega) eT hf hfr e1 e12 e13)
        · show am_E _ _ _ 212 [(10, .inl (((I 108 (i).toNat) / 32))), (9, .inl ((((I 108 (i).toNat) / 8) % 4))), (8, .inl ((I 111 (((I 108 (i).toNat) % 8)).toNat))), (7, .inl ((I 108 (i).toNat))), (6, .inl i), (5, .inl t), (4, .inl ((178 + (140 * (I 108 24))))), (3, .inl nn), (0, .inr (.inr (.inl (some 107))))] [.inl t, .inr (.inr (.inl (some 112)))] (am_mm D (am_wp tK I Q) J ρ) _
          refine am_e_ss 2 (q := (253, [(10, .inl (((I 108 (i).toNat) / 32))), (9, .inl ((((I 108 (i).toNat) / 8) % 4))), (8, .inl ((I 111 (((I 108 (i).toNat) % 8)).toNat))), (7, .inl ((I 108 (i).toNat))), (6, .inl i), (5, .inl t), (4, .inl ((178 + (140 * (I 108 24))))), (3, .inl nn), (0, .inr (.inr (.inl (some 107))))], [.inl 1, .inl t, .inr (.inr (.inl (some 112)))], (am_mm D (am_wp tK I Q) J ρ))) rfl ?_
          refine am_e_bastore (m := 64) rfl rfl (by omega) (by omega) (by omega) (by omega) ?_
          show am_E _ _ _ 254 [(10, .inl (((I 108 (i).toNat) / 32))), (9, .inl ((((I 108 (i).toNat) / 8) % 4))), (8, .inl ((I 111 (((I 108 (i).toNat) % 8)).toNat))), (7, .inl ((I 108 (i).toNat))), (6, .inl i), (5, .inl t), (4, .inl ((178 + (140 * (I 108 24))))), (3, .inl nn), (0, .inr (.inr (.inl (some 107))))] [] (am_mm D (am_up (am_wp tK I Q) 112 (t).toNat 1) J ρ) _
          refine am_e_ss 4 (q := (143, [(6, .inl (i + 1)), (5, .inl (t + 1)), (10, .inl (((I 108 (i).toNat) / 32))), (9, .inl ((((I 108 (i).toNat) / 8) % 4))), (8, .inl ((I 111 (((I 108 (i).toNat) % 8)).toNat))), (7, .inl ((I 108 (i).toNat))), (4, .inl ((178 + (140 * (I 108 24))))), (3, .inl nn), (0, .inr (.inr (.inl (some 107))))], [], (am_mm D (am_up (am_wp tK I Q) 112 (t).toNat 1) J ρ))) rfl ?_
          have eT : (t + 1) = sp_top stp (k + 1) := by
            rw [sp_top_s, hsk]
            (repeat' split) <;> omega
          have e1 : (am_up (am_wp tK I Q) 112 (t).toNat 1) 112 = sp_row f stp r (k + 1) := by
            rw [show (am_up (am_wp tK I Q) 112 (t).toNat 1) 112 = am_u1 (Q 112) (t).toNat 1 from am_up_ro, sp_row_s, hsk, ← hq1, ← ht]
            unfold sp_test
            try rw [← hf _ (show (I 108 i.toNat % 8).toNat < 6 by omega)]
            (try rw [show t + (-1) - 1 = t - 1 - 1 by omega] at *)
            (try rw [show t + (-1) = t - 1 by omega] at *)
            (repeat' split) <;> first | (exfalso; omega) | rfl
          have e12 : (am_up (am_wp tK I Q) 112 (t).toNat 1) 107 12 = sp_lkg f stp r (k + 1) := by
            show (Q 107 12) = _
            rw [sp_lkg_s, hsk, ← hq1]
            unfold sp_lkd
            (repeat' split) <;> omega
          have e13 : (am_up (am_wp tK I Q) 112 (t).toNat 1) 107 13 = sp_rdg f stp r (k + 1) := by
            show (Q 107 13) = _
            rw [sp_rdg_s, hsk, ← hq1]
            unfold sp_rdd
            (repeat' split) <;> omega
          refine am_e_wp tK (am_k_up rfl (am_k_wp am_k_sub (am_k_id))) ?_
          exact am_less (lv := [(6, .inl ((i + 1))), (5, .inl ((t + 1))), (4, .inl ((178 + (140 * (I 108 24))))), (3, .inl nn), (0, .inr (.inr (.inl (some 107))))]) rfl (List.forall_mem_cons.mpr ⟨rfl, List.forall_mem_cons.mpr ⟨rfl, List.forall_mem_cons.mpr ⟨rfl, List.forall_mem_cons.mpr ⟨rfl, List.forall_mem_cons.mpr ⟨rfl, List.forall_mem_nil _⟩⟩⟩⟩⟩) (r_looks_l d (n := n) (k := k + 1) (f := f) (r := r) (stp := stp) hstp hnn hn c24 c38 hw (by omega) (by omega) eT hf hfr e1 e12 e13)
termination_by n - k
decreasing_by all_goals omega
