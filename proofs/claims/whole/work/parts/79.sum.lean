/-! THE CLASS: what clauses add -/
theorem ps_sum_app {f : Nat → Int} {w : Int} {A C : List ps_C} : ps_sum f w (A ++ C) = ps_sum f w A + ps_sum f w C := by
  induction A with
  | nil => show _ = 0 + _; rw [List.nil_append]; omega
  | cons x A ih =>
    show (if x.1 = w ∧ ps_hold f x.2.2 = true then x.2.1 else 0) + ps_sum f w (A ++ C) = (if x.1 = w ∧ ps_hold f x.2.2 = true then x.2.1 else 0) + ps_sum f w A + ps_sum f w C
    rw [ih]; omega
theorem ps_at {I : Nat → Nat → Int} {c : Nat} {cs : List ps_C} {i : Nat} (h : c_cs I c cs) (hi : i < cs.length) : ∃ x, x ∈ cs ∧ I (c + 1) i = x.1 ∧ I (c + 2) i = x.2.1 ∧ I (c + 3) i = (((ps_codes (cs.take i)).length + x.2.2.length : Nat) : Int) ∧ (0 < i → I (c + 3) (i - 1) = ((ps_codes (cs.take i)).length : Int)) ∧ (∀ j, j < x.2.2.length → I (c + 4) ((ps_codes (cs.take i)).length + j) = ps_tr (x.2.2.getD j 0)) ∧ (ps_codes (cs.take i)).length + x.2.2.length ≤ (ps_codes cs).length ∧ ∀ f w, ps_sum f w (cs.take (i + 1)) = ps_sum f w (cs.take i) + (if x.1 = w ∧ ps_hold f x.2.2 = true then x.2.1 else 0) := by
  obtain ⟨h1, h2, h3⟩ := h
  have hx : cs.getD i (0, 0, []) = cs[i] := by rw [List.getD_eq_getElem?_getD, List.getElem?_eq_getElem hi]; rfl
  have ht : cs.take (i + 1) = cs.take i ++ [cs[i]] := by rw [List.take_succ, List.getElem?_eq_getElem hi]; rfl
  have hc : ps_codes (cs.take (i + 1)) = ps_codes (cs.take i) ++ cs[i].2.2 := by
    rw [ht]; unfold ps_codes; rw [List.flatMap_append]; simp
  have hall : ps_codes cs = ps_codes (cs.take i) ++ (cs[i].2.2 ++ ps_codes (cs.drop (i + 1))) := by
    have e := List.take_append_drop (i + 1) cs
    have e2 : ps_codes cs = ps_codes (cs.take (i + 1)) ++ ps_codes (cs.drop (i + 1)) := by
      unfold ps_codes; rw [← List.flatMap_append, e]
    rw [e2, hc, List.append_assoc]
  have hw := h2 i hi
  rw [hx] at hw
  refine ⟨cs[i], List.getElem_mem hi, hw.1, hw.2.1, ?_, ?_, ?_, ?_, ?_⟩
  · rw [hw.2.2, hc, List.length_append]
  · intro h0
    have := (h2 (i - 1) (by omega)).2.2
    rw [show i - 1 + 1 = i by omega] at this
    exact this
  · intro j hj
    rw [h3 _ (by rw [hall, List.length_append, List.length_append]; omega), hall, ps_gr, ps_gl hj]
  · rw [hall, List.length_append, List.length_append]; omega
  · intro f w
    rw [ht, ps_sum_app]
    show _ + ((if cs[i].1 = w ∧ ps_hold f cs[i].2.2 = true then cs[i].2.1 else 0) + 0) = _
    omega
theorem c_holds {X : Nat × (Nat → Int)} {D : List (Nat × Nat)} {I J : Nat → Nat → Int} {ρ : Nat → Nat → Option Nat} (d : Nat) {c : Nat} {f : Nat → Int} (hclk0 : c_clk D ρ c) (hf : c_fct I f) {z to : Int} {L : List Int} {k : Nat} (hz : z = (k : Int)) (hL : ∀ i, i < L.length → I (c + 4) (k + i) = ps_tr (L.getD i 0)) (hto : to = ((k + L.length : Nat) : Int)) (hk100 : k + L.length ≤ 100) (hhk : ps_hk L 0) : am_E X (d + 1) 19 0 [(0, .inr (.inr (.inl (some c)))), (1, .inl z), (2, .inl to), (3, .inr (.inr (.inl (some 33))))] [] (am_mm D I J ρ) (fun r => r = (some (.inl ((am_bi (ps_hold f L = true)))), (am_mm D I J ρ))) := by
  refine am_e_ss 4 (q := (6, [(5, .inl z), (4, .inl 0), (0, .inr (.inr (.inl (some c)))), (1, .inl z), (2, .inl to), (3, .inr (.inr (.inl (some 33))))], [], (am_mm D I J ρ))) rfl ?_
  subst hz
  exact am_less (lv := [(5, .inl (k : Int)), (4, .inl 0), (3, .inr (.inr (.inl (some 33)))), (2, .inl to), (0, .inr (.inr (.inl (some c))))]) rfl (List.forall_mem_cons.mpr ⟨rfl, List.forall_mem_cons.mpr ⟨rfl, List.forall_mem_cons.mpr ⟨rfl, List.forall_mem_cons.mpr ⟨rfl, List.forall_mem_cons.mpr ⟨rfl, List.forall_mem_nil _⟩⟩⟩⟩⟩) (c_holds_l d (s := []) hclk0 hf hL hto hk100 hhk (by simp))
theorem c_sum_l {X : Nat × (Nat → Int)} {D : List (Nat × Nat)} {I J : Nat → Nat → Int} {ρ : Nat → Nat → Option Nat} (d : Nat) {c : Nat} {f : Nat → Int} (hclk0 : c_clk D ρ c) (hf : c_fct I f) {cs : List ps_C} (hcs : c_cs I c cs) (hwf : ps_wf cs) {w : Int} (hw02 : 0 ≤ w ∧ w ≤ 2) {i : Nat} {sm : Int} (hi : i ≤ cs.length) (hsm : sm = ps_sum f w (cs.take i)) : am_E X (d + 2) 18 5 [(4, .inl (i : Int)), (3, .inl sm), (2, .inr (.inr (.inl (some 33)))), (1, .inl w), (0, .inr (.inr (.inl (some c))))] [] (am_mm D I J ρ) (fun r => r = (some (.inl ((ps_sum f w cs))), (am_mm D I J ρ))) := by
  have hclk := hclk0
  obtain ⟨⟨hsc, hs1, hs2, hs3, hs4⟩, hr1, hr2, hr3, hr4⟩ := hclk
  have hc2 : I c 2 = (cs.length : Int) := hcs.1
  have hl10 := hwf.1
  refine am_e_ss 2 (q := (8, [(4, .inl (i : Int)), (3, .inl sm), (2, .inr (.inr (.inl (some 33)))), (1, .inl w), (0, .inr (.inr (.inl (some c))))], [.inr (.inr (.inl (some c))), .inl (i : Int)], (am_mm D I J ρ))) rfl ?_
  refine am_e_getfield (c := 1) (m := 10) (f := 2) rfl hsc rfl (by decide) (by decide) ?_
  show am_E _ _ _ 11 [(4, .inl (i : Int)), (3, .inl sm), (2, .inr (.inr (.inl (some 33)))), (1, .inl w), (0, .inr (.inr (.inl (some c))))] [.inl ((I c 2)), .inl (i : Int)] (am_mm D I J ρ) _
  refine am_e_icmp2 rfl ⟨by omega, by omega⟩ ⟨by omega, by omega⟩ (fun (hw1 : (I c 2) ≤ (i : Int)) => ?_) (fun (hw1 : ¬ ((I c 2) ≤ (i : Int))) => ?_)
  · show am_E _ _ _ 74 [(4, .inl (i : Int)), (3, .inl sm), (2, .inr (.inr (.inl (some 33)))), (1, .inl w), (0, .inr (.inr (.inl (some c))))] [] (am_mm D I J ρ) _
    refine am_e_ss 1 (q := (75, [(4, .inl (i : Int)), (3, .inl sm), (2, .inr (.inr (.inl (some 33)))), (1, .inl w), (0, .inr (.inr (.inl (some c))))], [.inl sm], (am_mm D I J ρ))) rfl ?_
    refine am_e_ireturn rfl rfl ?_
    rw [hsm, List.take_of_length_le (by omega)]
  · show am_E _ _ _ 14 [(4, .inl (i : Int)), (3, .inl sm), (2, .inr (.inr (.inl (some 33)))), (1, .inl w), (0, .inr (.inr (.inl (some c))))] [] (am_mm D I J ρ) _
    obtain ⟨x, hxm, x1, x2, x3, x4, x5, x6, x7⟩ := ps_at hcs (i := i) (by omega)
    have hxw := hwf.2.1 x hxm
    obtain ⟨xa, xb, xc, xd⟩ := hxw
    have hxb : ¬ x.1 = 3 → ps_bal x.2.2 := xd
    have hcl := hwf.2.2
    have hsb := ps_sum_b (f := f) (w := w) (cs := cs.take i) (fun y hy => hwf.2.1 y (List.mem_of_mem_take hy))
    have htl : (cs.take i).length ≤ 10 := by rw [List.length_take]; omega
    refine am_e_ss 1 (q := (15, [(4, .inl (i : Int)), (3, .inl sm), (2, .inr (.inr (.inl (some 33)))), (1, .inl w), (0, .inr (.inr (.inl (some c))))], [.inr (.inr (.inl (some c)))], (am_mm D I J ρ))) rfl ?_
    refine am_e_getfield (c := 1) (m := 10) (f := 4) rfl hsc rfl (by decide) (by decide) ?_
    rw [show am_gf (am_mm D I J ρ) 1 c 4 = .inr (.inr (.inl (some (c + 1)))) from (congrArg (fun x => (.inr (.inr (.inl x)) : am_V)) hr1)]
    show am_E _ _ _ 18 [(4, .inl (i : Int)), (3, .inl sm), (2, .inr (.inr (.inl (some 33)))), (1, .inl w), (0, .inr (.inr (.inl (some c))))] [.inr (.inr (.inl (some (c + 1))))] (am_mm D I J ρ) _
    refine am_e_ss 1 (q := (20, [(4, .inl (i : Int)), (3, .inl sm), (2, .inr (.inr (.inl (some 33)))), (1, .inl w), (0, .inr (.inr (.inl (some c))))], [.inl (i : Int), .inr (.inr (.inl (some (c + 1))))], (am_mm D I J ρ))) rfl ?_
    refine am_e_iaload (m := 10) rfl hs1 (by omega) (by omega) (by omega) ?_
    show am_E _ _ _ 21 [(4, .inl (i : Int)), (3, .inl sm), (2, .inr (.inr (.inl (some 33)))), (1, .inl w), (0, .inr (.inr (.inl (some c))))] [.inl ((I (c + 1) i))] (am_mm D I J ρ) _
    refine am_e_ss 1 (q := (22, [(4, .inl (i : Int)), (3, .inl sm), (2, .inr (.inr (.inl (some 33)))), (1, .inl w), (0, .inr (.inr (.inl (some c))))], [.inl w, .inl ((I (c + 1) i))], (am_mm D I J ρ))) rfl ?_
    refine am_e_icmp2 rfl ⟨by omega, by omega⟩ ⟨by omega, by omega⟩ (fun (hw2 : ¬ (I (c + 1) i) = w) => ?_) (fun (hw2 : ¬ (¬ (I (c + 1) i) = w)) => ?_)
    · show am_E _ _ _ 68 [(4, .inl (i : Int)), (3, .inl sm), (2, .inr (.inr (.inl (some 33)))), (1, .inl w), (0, .inr (.inr (.inl (some c))))] [] (am_mm D I J ρ) _
      refine am_e_ss 2 (q := (5, [(4, .inl ((i : Int) + 1)), (3, .inl sm), (2, .inr (.inr (.inl (some 33)))), (1, .inl w), (0, .inr (.inr (.inl (some c))))], [], (am_mm D I J ρ))) rfl ?_
      have e9 : sm = ps_sum f w (cs.take (i + 1)) := by
        rw [x7, ← hsm, if_neg ?_]
        · omega
        · intro h; first | (exact absurd h.2 (by assumption)) | omega
      exact am_less (lv := [(4, .inl ((i + 1) : Int)), (3, .inl sm), (2, .inr (.inr (.inl (some 33)))), (1, .inl w), (0, .inr (.inr (.inl (some c))))]) rfl (List.forall_mem_cons.mpr ⟨rfl, List.forall_mem_cons.mpr ⟨rfl, List.forall_mem_cons.mpr ⟨rfl, List.forall_mem_cons.mpr ⟨rfl, List.forall_mem_cons.mpr ⟨rfl, List.forall_mem_nil _⟩⟩⟩⟩⟩) (c_sum_l d (i := i + 1) (sm := sm) hclk0 hf hcs hwf hw02 (by omega) e9)
    · show am_E _ _ _ 25 [(4, .inl (i : Int)), (3, .inl sm), (2, .inr (.inr (.inl (some 33)))), (1, .inl w), (0, .inr (.inr (.inl (some c))))] [] (am_mm D I J ρ) _
      refine am_e_ss 2 (q := (28, [(4, .inl (i : Int)), (3, .inl sm), (2, .inr (.inr (.inl (some 33)))), (1, .inl w), (0, .inr (.inr (.inl (some c))))], [.inl (i : Int), .inr (.inr (.inl (some c)))], (am_mm D I J ρ))) rfl ?_
      refine am_e_if2 rfl ⟨by omega, by omega⟩ (fun (hw3 : ¬ (i : Int) = 0) => ?_) (fun (hw3 : ¬ (¬ (i : Int) = 0)) => ?_)
      · show am_E _ _ _ 35 [(4, .inl (i : Int)), (3, .inl sm), (2, .inr (.inr (.inl (some 33)))), (1, .inl w), (0, .inr (.inr (.inl (some c))))] [.inr (.inr (.inl (some c)))] (am_mm D I J ρ) _
        refine am_e_ss 1 (q := (36, [(4, .inl (i : Int)), (3, .inl sm), (2, .inr (.inr (.inl (some 33)))), (1, .inl w), (0, .inr (.inr (.inl (some c))))], [.inr (.inr (.inl (some c))), .inr (.inr (.inl (some c)))], (am_mm D I J ρ))) rfl ?_
        refine am_e_getfield (c := 1) (m := 10) (f := 6) rfl hsc rfl (by decide) (by decide) ?_
        rw [show am_gf (am_mm D I J ρ) 1 c 6 = .inr (.inr (.inl (some (c + 3)))) from (congrArg (fun x => (.inr (.inr (.inl x)) : am_V)) hr3)]
        show am_E _ _ _ 39 [(4, .inl (i : Int)), (3, .inl sm), (2, .inr (.inr (.inl (some 33)))), (1, .inl w), (0, .inr (.inr (.inl (some c))))] [.inr (.inr (.inl (some (c + 3)))), .inr (.inr (.inl (some c)))] (am_mm D I J ρ) _
        refine am_e_ss 3 (q := (43, [(4, .inl (i : Int)), (3, .inl sm), (2, .inr (.inr (.inl (some 33)))), (1, .inl w), (0, .inr (.inr (.inl (some c))))], [.inl ((i : Int) - 1), .inr (.inr (.inl (some (c + 3)))), .inr (.inr (.inl (some c)))], (am_mm D I J ρ))) rfl ?_
        refine am_e_iaload (m := 10) rfl hs3 (by omega) (by omega) (by omega) ?_
        show am_E _ _ _ 44 [(4, .inl (i : Int)), (3, .inl sm), (2, .inr (.inr (.inl (some 33)))), (1, .inl w), (0, .inr (.inr (.inl (some c))))] [.inl ((I (c + 3) (((i : Int) - 1)).toNat)), .inr (.inr (.inl (some c)))] (am_mm D I J ρ) _
        refine am_e_ss 1 (q := (45, [(4, .inl (i : Int)), (3, .inl sm), (2, .inr (.inr (.inl (some 33)))), (1, .inl w), (0, .inr (.inr (.inl (some c))))], [.inr (.inr (.inl (some c))), .inl ((I (c + 3) (((i : Int) - 1)).toNat)), .inr (.inr (.inl (some c)))], (am_mm D I J ρ))) rfl ?_
        refine am_e_getfield (c := 1) (m := 10) (f := 6) rfl hsc rfl (by decide) (by decide) ?_
        rw [show am_gf (am_mm D I J ρ) 1 c 6 = .inr (.inr (.inl (some (c + 3)))) from (congrArg (fun x => (.inr (.inr (.inl x)) : am_V)) hr3)]
        show am_E _ _ _ 48 [(4, .inl (i : Int)), (3, .inl sm), (2, .inr (.inr (.inl (some 33)))), (1, .inl w), (0, .inr (.inr (.inl (some c))))] [.inr (.inr (.inl (some (c + 3)))), .inl ((I (c + 3) (((i : Int) - 1)).toNat)), .inr (.inr (.inl (some c)))] (am_mm D I J ρ) _
        refine am_e_ss 1 (q := (50, [(4, .inl (i : Int)), (3, .inl sm), (2, .inr (.inr (.inl (some 33)))), (1, .inl w), (0, .inr (.inr (.inl (some c))))], [.inl (i : Int), .inr (.inr (.inl (some (c + 3)))), .inl ((I (c + 3) (((i : Int) - 1)).toNat)), .inr (.inr (.inl (some c)))], (am_mm D I J ρ))) rfl ?_
        refine am_e_iaload (m := 10) rfl hs3 (by omega) (by omega) (by omega) ?_
        show am_E _ _ _ 51 [(4, .inl (i : Int)), (3, .inl sm), (2, .inr (.inr (.inl (some 33)))), (1, .inl w), (0, .inr (.inr (.inl (some c))))] [.inl ((I (c + 3) i)), .inl ((I (c + 3) (((i : Int) - 1)).toNat)), .inr (.inr (.inl (some c)))] (am_mm D I J ρ) _
        refine am_e_ss 1 (q := (52, [(4, .inl (i : Int)), (3, .inl sm), (2, .inr (.inr (.inl (some 33)))), (1, .inl w), (0, .inr (.inr (.inl (some c))))], [.inr (.inr (.inl (some 33))), .inl ((I (c + 3) i)), .inl ((I (c + 3) (((i : Int) - 1)).toNat)), .inr (.inr (.inl (some c)))], (am_mm D I J ρ))) rfl ?_
        refine am_e_virtual (Q := fun r => r = (some (.inl ((am_bi (ps_hold f x.2.2 = true)))), (am_mm D I J ρ))) rfl rfl (Nat.le_of_ble_eq_true rfl) (am_kd_of hsc (by decide)) rfl (Nat.le_of_ble_eq_true rfl) (Nat.le_of_ble_eq_true rfl) (c_holds _ (L := x.2.2) (k := (ps_codes (cs.take i)).length) hclk0 hf (by rw [show ((i : Int) - 1).toNat = i - 1 by omega]; exact x4 (by omega)) x5 x3 (by omega) (hxb (by omega)).1) ?_
        rintro r rfl
        show am_E _ _ _ 55 [(4, .inl (i : Int)), (3, .inl sm), (2, .inr (.inr (.inl (some 33)))), (1, .inl w), (0, .inr (.inr (.inl (some c))))] [.inl ((am_bi (ps_hold f x.2.2 = true)))] (am_mm D I J ρ) _
        refine am_e_ifeq rfl (fun hw4 => ?_) (fun hw4 => ?_)
        · show am_E _ _ _ 68 [(4, .inl (i : Int)), (3, .inl sm), (2, .inr (.inr (.inl (some 33)))), (1, .inl w), (0, .inr (.inr (.inl (some c))))] [] (am_mm D I J ρ) _
          refine am_e_ss 2 (q := (5, [(4, .inl ((i : Int) + 1)), (3, .inl sm), (2, .inr (.inr (.inl (some 33)))), (1, .inl w), (0, .inr (.inr (.inl (some c))))], [], (am_mm D I J ρ))) rfl ?_
          have e9 : sm = ps_sum f w (cs.take (i + 1)) := by
            rw [x7, ← hsm, if_neg ?_]
            · omega
            · intro h; first | (exact absurd h.2 (by assumption)) | omega
          exact am_less (lv := [(4, .inl ((i + 1) : Int)), (3, .inl sm), (2, .inr (.inr (.inl (some 33)))), (1, .inl w), (0, .inr (.inr (.inl (some c))))]) rfl (List.forall_mem_cons.mpr ⟨rfl, List.forall_mem_cons.mpr ⟨rfl, List.forall_mem_cons.mpr ⟨rfl, List.forall_mem_cons.mpr ⟨rfl, List.forall_mem_cons.mpr ⟨rfl, List.forall_mem_nil _⟩⟩⟩⟩⟩) (c_sum_l d (i := i + 1) (sm := sm) hclk0 hf hcs hwf hw02 (by omega) e9)
        · show am_E _ _ _ 58 [(4, .inl (i : Int)), (3, .inl sm), (2, .inr (.inr (.inl (some 33)))), (1, .inl w), (0, .inr (.inr (.inl (some c))))] [] (am_mm D I J ρ) _
          refine am_e_ss 2 (q := (60, [(4, .inl (i : Int)), (3, .inl sm), (2, .inr (.inr (.inl (some 33)))), (1, .inl w), (0, .inr (.inr (.inl (some c))))], [.inr (.inr (.inl (some c))), .inl sm], (am_mm D I J ρ))) rfl ?_
          refine am_e_getfield (c := 1) (m := 10) (f := 5) rfl hsc rfl (by decide) (by decide) ?_
          rw [show am_gf (am_mm D I J ρ) 1 c 5 = .inr (.inr (.inl (some (c + 2)))) from (congrArg (fun x => (.inr (.inr (.inl x)) : am_V)) hr2)]
          show am_E _ _ _ 63 [(4, .inl (i : Int)), (3, .inl sm), (2, .inr (.inr (.inl (some 33)))), (1, .inl w), (0, .inr (.inr (.inl (some c))))] [.inr (.inr (.inl (some (c + 2)))), .inl sm] (am_mm D I J ρ) _
          refine am_e_ss 1 (q := (65, [(4, .inl (i : Int)), (3, .inl sm), (2, .inr (.inr (.inl (some 33)))), (1, .inl w), (0, .inr (.inr (.inl (some c))))], [.inl (i : Int), .inr (.inr (.inl (some (c + 2)))), .inl sm], (am_mm D I J ρ))) rfl ?_
          refine am_e_iaload (m := 10) rfl hs2 (by omega) (by omega) (by omega) ?_
          show am_E _ _ _ 66 [(4, .inl (i : Int)), (3, .inl sm), (2, .inr (.inr (.inl (some 33)))), (1, .inl w), (0, .inr (.inr (.inl (some c))))] [.inl ((I (c + 2) i)), .inl sm] (am_mm D I J ρ) _
          refine am_e_ss 4 (q := (5, [(4, .inl ((i : Int) + 1)), (3, .inl (sm + (I (c + 2) i))), (2, .inr (.inr (.inl (some 33)))), (1, .inl w), (0, .inr (.inr (.inl (some c))))], [], (am_mm D I J ρ))) rfl ?_
          have e9 : (sm + (I (c + 2) i)) = ps_sum f w (cs.take (i + 1)) := by
            rw [x7, ← hsm, if_pos ⟨by omega, by assumption⟩]
            omega
          exact am_less (lv := [(4, .inl ((i + 1) : Int)), (3, .inl ((sm + (I (c + 2) i)))), (2, .inr (.inr (.inl (some 33)))), (1, .inl w), (0, .inr (.inr (.inl (some c))))]) rfl (List.forall_mem_cons.mpr ⟨rfl, List.forall_mem_cons.mpr ⟨rfl, List.forall_mem_cons.mpr ⟨rfl, List.forall_mem_cons.mpr ⟨rfl, List.forall_mem_cons.mpr ⟨rfl, List.forall_mem_nil _⟩⟩⟩⟩⟩) (c_sum_l d (i := i + 1) (sm := (sm + (I (c + 2) i))) hclk0 hf hcs hwf hw02 (by omega) e9)
      · show am_E _ _ _ 31 [(4, .inl (i : Int)), (3, .inl sm), (2, .inr (.inr (.inl (some 33)))), (1, .inl w), (0, .inr (.inr (.inl (some c))))] [.inr (.inr (.inl (some c)))] (am_mm D I J ρ) _
        refine am_e_ss 3 (q := (45, [(4, .inl (i : Int)), (3, .inl sm), (2, .inr (.inr (.inl (some 33)))), (1, .inl w), (0, .inr (.inr (.inl (some c))))], [.inr (.inr (.inl (some c))), .inl 0, .inr (.inr (.inl (some c)))], (am_mm D I J ρ))) rfl ?_
        refine am_e_getfield (c := 1) (m := 10) (f := 6) rfl hsc rfl (by decide) (by decide) ?_
        rw [show am_gf (am_mm D I J ρ) 1 c 6 = .inr (.inr (.inl (some (c + 3)))) from (congrArg (fun x => (.inr (.inr (.inl x)) : am_V)) hr3)]
        show am_E _ _ _ 48 [(4, .inl (i : Int)), (3, .inl sm), (2, .inr (.inr (.inl (some 33)))), (1, .inl w), (0, .inr (.inr (.inl (some c))))] [.inr (.inr (.inl (some (c + 3)))), .inl 0, .inr (.inr (.inl (some c)))] (am_mm D I J ρ) _
        refine am_e_ss 1 (q := (50, [(4, .inl (i : Int)), (3, .inl sm), (2, .inr (.inr (.inl (some 33)))), (1, .inl w), (0, .inr (.inr (.inl (some c))))], [.inl (i : Int), .inr (.inr (.inl (some (c + 3)))), .inl 0, .inr (.inr (.inl (some c)))], (am_mm D I J ρ))) rfl ?_
        refine am_e_iaload (m := 10) rfl hs3 (by omega) (by omega) (by omega) ?_
        show am_E _ _ _ 51 [(4, .inl (i : Int)), (3, .inl sm), (2, .inr (.inr (.inl (some 33)))), (1, .inl w), (0, .inr (.inr (.inl (some c))))] [.inl ((I (c + 3) i)), .inl 0, .inr (.inr (.inl (some c)))] (am_mm D I J ρ) _
        refine am_e_ss 1 (q := (52, [(4, .inl (i : Int)), (3, .inl sm), (2, .inr (.inr (.inl (some 33)))), (1, .inl w), (0, .inr (.inr (.inl (some c))))], [.inr (.inr (.inl (some 33))), .inl ((I (c + 3) i)), .inl 0, .inr (.inr (.inl (some c)))], (am_mm D I J ρ))) rfl ?_
        refine am_e_virtual (Q := fun r => r = (some (.inl ((am_bi (ps_hold f x.2.2 = true)))), (am_mm D I J ρ))) rfl rfl (Nat.le_of_ble_eq_true rfl) (am_kd_of hsc (by decide)) rfl (Nat.le_of_ble_eq_true rfl) (Nat.le_of_ble_eq_true rfl) (c_holds _ (L := x.2.2) (k := (ps_codes (cs.take i)).length) hclk0 hf (by rw [show i = 0 by omega]; rfl) x5 x3 (by omega) (hxb (by omega)).1) ?_
        rintro r rfl
        show am_E _ _ _ 55 [(4, .inl (i : Int)), (3, .inl sm), (2, .inr (.inr (.inl (some 33)))), (1, .inl w), (0, .inr (.inr (.inl (some c))))] [.inl ((am_bi (ps_hold f x.2.2 = true)))] (am_mm D I J ρ) _
        refine am_e_ifeq rfl (fun hw5 => ?_) (fun hw5 => ?_)
        · show am_E _ _ _ 68 [(4, .inl (i : Int)), (3, .inl sm), (2, .inr (.inr (.inl (some 33)))), (1, .inl w), (0, .inr (.inr (.inl (some c))))] [] (am_mm D I J ρ) _
          refine am_e_ss 2 (q := (5, [(4, .inl ((i : Int) + 1)), (3, .inl sm), (2, .inr (.inr (.inl (some 33)))), (1, .inl w), (0, .inr (.inr (.inl (some c))))], [], (am_mm D I J ρ))) rfl ?_
          have e9 : sm = ps_sum f w (cs.take (i + 1)) := by
            rw [x7, ← hsm, if_neg ?_]
            · omega
            · intro h; first | (exact absurd h.2 (by assumption)) | omega
          exact am_less (lv := [(4, .inl ((i + 1) : Int)), (3, .inl sm), (2, .inr (.inr (.inl (some 33)))), (1, .inl w), (0, .inr (.inr (.inl (some c))))]) rfl (List.forall_mem_cons.mpr ⟨rfl, List.forall_mem_cons.mpr ⟨rfl, List.forall_mem_cons.mpr ⟨rfl, List.forall_mem_cons.mpr ⟨rfl, List.forall_mem_cons.mpr ⟨rfl, List.forall_mem_nil _⟩⟩⟩⟩⟩) (c_sum_l d (i := i + 1) (sm := sm) hclk0 hf hcs hwf hw02 (by omega) e9)
        · show am_E _ _ _ 58 [(4, .inl (i : Int)), (3, .inl sm), (2, .inr (.inr (.inl (some 33)))), (1, .inl w), (0, .inr (.inr (.inl (some c))))] [] (am_mm D I J ρ) _
          refine am_e_ss 2 (q := (60, [(4, .inl (i : Int)), (3, .inl sm), (2, .inr (.inr (.inl (some 33)))), (1, .inl w), (0, .inr (.inr (.inl (some c))))], [.inr (.inr (.inl (some c))), .inl sm], (am_mm D I J ρ))) rfl ?_
          refine am_e_getfield (c := 1) (m := 10) (f := 5) rfl hsc rfl (by decide) (by decide) ?_
          rw [show am_gf (am_mm D I J ρ) 1 c 5 = .inr (.inr (.inl (some (c + 2)))) from (congrArg (fun x => (.inr (.inr (.inl x)) : am_V)) hr2)]
          show am_E _ _ _ 63 [(4, .inl (i : Int)), (3, .inl sm), (2, .inr (.inr (.inl (some 33)))), (1, .inl w), (0, .inr (.inr (.inl (some c))))] [.inr (.inr (.inl (some (c + 2)))), .inl sm] (am_mm D I J ρ) _
          refine am_e_ss 1 (q := (65, [(4, .inl (i : Int)), (3, .inl sm), (2, .inr (.inr (.inl (some 33)))), (1, .inl w), (0, .inr (.inr (.inl (some c))))], [.inl (i : Int), .inr (.inr (.inl (some (c + 2)))), .inl sm], (am_mm D I J ρ))) rfl ?_
          refine am_e_iaload (m := 10) rfl hs2 (by omega) (by omega) (by omega) ?_
          show am_E _ _ _ 66 [(4, .inl (i : Int)), (3, .inl sm), (2, .inr (.inr (.inl (some 33)))), (1, .inl w), (0, .inr (.inr (.inl (some c))))] [.inl ((I (c + 2) i)), .inl sm] (am_mm D I J ρ) _
          refine am_e_ss 4 (q := (5, [(4, .inl ((i : Int) + 1)), (3, .inl (sm + (I (c + 2) i))), (2, .inr (.inr (.inl (some 33)))), (1, .inl w), (0, .inr (.inr (.inl (some c))))], [], (am_mm D I J ρ))) rfl ?_
          have e9 : (sm + (I (c + 2) i)) = ps_sum f w (cs.take (i + 1)) := by
            rw [x7, ← hsm, if_pos ⟨by omega, by assumption⟩]
            omega
          exact am_less (lv := [(4, .inl ((i + 1) : Int)), (3, .inl ((sm + (I (c + 2) i)))), (2, .inr (.inr (.inl (some 33)))), (1, .inl w), (0, .inr (.inr (.inl (some c))))]) rfl (List.forall_mem_cons.mpr ⟨rfl, List.forall_mem_cons.mpr ⟨rfl, List.forall_mem_cons.mpr ⟨rfl, List.forall_mem_cons.mpr ⟨rfl, List.forall_mem_cons.mpr ⟨rfl, List.forall_mem_nil _⟩⟩⟩⟩⟩) (c_sum_l d (i := i + 1) (sm := (sm + (I (c + 2) i))) hclk0 hf hcs hwf hw02 (by omega) e9)
termination_by cs.length - i
decreasing_by all_goals omega
theorem c_sum {X : Nat × (Nat → Int)} {D : List (Nat × Nat)} {I J : Nat → Nat → Int} {ρ : Nat → Nat → Option Nat} (d : Nat) {c : Nat} {f : Nat → Int} (hclk0 : c_clk D ρ c) (hf : c_fct I f) {cs : List ps_C} (hcs : c_cs I c cs) (hwf : ps_wf cs) {w : Int} (hw02 : 0 ≤ w ∧ w ≤ 2)  : am_E X (d + 2) 18 0 [(0, .inr (.inr (.inl (some c)))), (1, .inl w), (2, .inr (.inr (.inl (some 33))))] [] (am_mm D I J ρ) (fun r => r = (some (.inl ((ps_sum f w cs))), (am_mm D I J ρ))) := by
  refine am_e_ss 4 (q := (5, [(4, .inl 0), (3, .inl 0), (0, .inr (.inr (.inl (some c)))), (1, .inl w), (2, .inr (.inr (.inl (some 33))))], [], (am_mm D I J ρ))) rfl ?_
  exact am_less (lv := [(4, .inl (0 : Int)), (3, .inl 0), (2, .inr (.inr (.inl (some 33)))), (1, .inl w), (0, .inr (.inr (.inl (some c))))]) rfl (List.forall_mem_cons.mpr ⟨rfl, List.forall_mem_cons.mpr ⟨rfl, List.forall_mem_cons.mpr ⟨rfl, List.forall_mem_cons.mpr ⟨rfl, List.forall_mem_cons.mpr ⟨rfl, List.forall_mem_nil _⟩⟩⟩⟩⟩) (c_sum_l d (i := 0) (sm := 0) hclk0 hf hcs hwf hw02 (by omega) rfl)
