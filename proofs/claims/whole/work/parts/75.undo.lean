/-! THE CLASS: image, undo -/
def c_out (o c : Nat) : Prop := (1 ≤ c ∧ c < o + 1) ∨ c = 4 + o ∨ c = 5 + o ∨ (12 + o ≤ c ∧ c < 17 + o) ∨ c = 19 + o ∨ c = 26 + o ∨ 33 + o ≤ c
theorem uF34_out {c j : Nat} (h : c_out 34 c) : uF34 c j = false := by
  unfold c_out at h
  cases e : uF34 c j with
  | false => rfl
  | true =>
    exfalso
    unfold uF34 at e
    simp at e
    omega
theorem uF0_out {c j : Nat} (h : c_out 0 c) : uF0 c j = false := by
  unfold c_out at h
  cases e : uF0 c j with
  | false => rfl
  | true =>
    exfalso
    unfold uF0 at e
    simp at e
    omega
section
variable {D : List (Nat × Nat)} {I K : Nat → Nat → Int} {ρ ρ' : Nat → Nat → Option Nat} {S T U : Nat → Int} {B : Int} {o p : Nat}
theorem c_club_o {c : Nat} (ho : (o = 0 ∧ p = 34) ∨ (o = 34 ∧ p = 0)) (h : c_club D I ρ c S) (hk : ∀ c i, c_out o c → K c i = I c i) (hr : ∀ k j, k ≠ 4 + o → ¬ (k = 1 + o ∧ j = 5) → ρ' k j = ρ k j) : c_club D K ρ' c S := by
  obtain ⟨h1, h2, h3, cs, ⟨g1, g2, g3⟩, h5⟩ := h
  have hf : ∀ j, j < 5 → c_out o (c + j) := by
    intro j hj
    unfold c_out
    omega
  have k0 : ∀ i, K c i = I c i := fun i => hk c i (hf 0 (by omega))
  refine ⟨c_clk_cg h1 (fun j => hr c j (by omega) (by omega)), h2, (k0 0).trans h3, cs, ⟨(k0 2).trans g1, ?_, ?_⟩, h5⟩
  · intro i hi
    have := g2 i hi
    exact ⟨(hk _ i (hf 1 (by omega))).trans this.1, (hk _ i (hf 2 (by omega))).trans this.2.1, (hk _ i (hf 3 (by omega))).trans this.2.2⟩
  · intro k hk2
    exact (hk _ k (hf 4 (by omega))).trans (g3 k hk2)
theorem c_cpy_hall (ho : (o = 0 ∧ p = 34) ∨ (o = 34 ∧ p = 0)) (hok : r_ok S B) (h : c_hall D I ρ p S) (hc : c_cpy I K ρ ρ' o p) (hk : ∀ c i, c_out o c → K c i = I c i) : c_hall D K ρ' o S ∧ c_hall D K ρ' p S := by
  have h19 := r_ok_19 hok
  have hokx := hok
  obtain ⟨o0, oG, oH, oD, o19, o20, o21, o22, o23, o24, oK, oV, oP, oM, oS, oY, oHd, oT, oC, oN⟩ := hok
  obtain ⟨⟨a1, a2, a3, a4, a5⟩, ⟨b1, b2, b3, b4⟩, ⟨d1, d2⟩, e1, f1, g1, c, i1, i2⟩ := h
  obtain ⟨hcd, ⟨k1, k2, k3, k4, k5⟩, ⟨l1, l2, l3, l4⟩, ⟨n1, n2⟩, q1, hr⟩ := hc
  have hf : ∀ c, c_out o c → ∀ i, K c i = I c i := fun c hc i => hk c i hc
  have hcl := c_club_o ho i2 hk hr
  constructor
  · refine ⟨⟨k1.trans a1, k2.trans a2, k3.trans a3, k4.trans a4, k5.trans a5⟩, ⟨l1.trans b1, l2.trans b2, l3.trans b3, fun m hm => (l4 m (by omega)).trans (b4 m hm)⟩, ⟨fun i hi => (n1 i (by omega)).trans (d1 i hi), fun i hi => (n2 i (by omega)).trans (d2 i hi)⟩, ?_, ?_, ?_, c, q1.trans i1, hcl⟩
    · intro b hb
      obtain ⟨g1, _, _⟩ := hcd b (by omega)
      have h4 := e1 b hb
      have hx := hf (6 + p + b) (by unfold c_out; omega)
      exact ⟨(g1 0 (by omega)).trans ((hx 0).trans h4.1), (g1 1 (by omega)).trans ((hx 1).trans h4.2.1), (g1 2 (by omega)).trans ((hx 2).trans h4.2.2.1), (g1 3 (by omega)).trans ((hx 3).trans h4.2.2.2)⟩
    · intro m b hm hb
      obtain ⟨_, g2, _⟩ := hcd m (by omega)
      have h4 := f1 m b hm hb
      exact ⟨(g2 b (by omega)).1.trans ((hf (20 + p + m) (by unfold c_out; omega) b).trans h4.1), (g2 b (by omega)).2.trans ((hf (27 + p + m) (by unfold c_out; omega) b).trans h4.2)⟩
    · intro m hm
      obtain ⟨_, _, g3⟩ := hcd m (by omega)
      obtain ⟨k, j1, j2, j3, j4, j5, j6⟩ := g1 m hm
      have hx := hf k (by unfold c_out; omega)
      exact ⟨k, g3.trans ((hr _ _ (by omega) (by omega)).trans j1), j2, j3, (hx 0).trans j4, (hx 1).trans j5, (hx 2).trans j6⟩
  · refine ⟨⟨?_, ?_, ?_, ?_, ?_⟩, ⟨?_, ?_, ?_, ?_⟩, ⟨?_, ?_⟩, ?_, ?_, ?_, c, (hr _ _ (by omega) (by omega)).trans i1, hcl⟩
    · exact (hf _ (by unfold c_out; omega) _).trans a1
    · exact (hf _ (by unfold c_out; omega) _).trans a2
    · exact (hf _ (by unfold c_out; omega) _).trans a3
    · exact (hf _ (by unfold c_out; omega) _).trans a4
    · exact (hf _ (by unfold c_out; omega) _).trans a5
    · exact (hf _ (by unfold c_out; omega) _).trans b1
    · exact (hf _ (by unfold c_out; omega) _).trans b2
    · exact (hf _ (by unfold c_out; omega) _).trans b3
    · exact fun m hm => (hf _ (by unfold c_out; omega) _).trans (b4 m hm)
    · exact fun i hi => (hf _ (by unfold c_out; omega) _).trans (d1 i hi)
    · exact fun i hi => (hf _ (by unfold c_out; omega) _).trans (d2 i hi)
    · intro b hb
      have h4 := e1 b hb
      have hx := hf (6 + p + b) (by unfold c_out; omega)
      exact ⟨(hx 0).trans h4.1, (hx 1).trans h4.2.1, (hx 2).trans h4.2.2.1, (hx 3).trans h4.2.2.2⟩
    · intro m b hm hb
      have h4 := f1 m b hm hb
      exact ⟨(hf (20 + p + m) (by unfold c_out; omega) b).trans h4.1, (hf (27 + p + m) (by unfold c_out; omega) b).trans h4.2⟩
    · intro m hm
      obtain ⟨k, j1, j2, j3, j4, j5, j6⟩ := g1 m hm
      have hx := hf k (by unfold c_out; omega)
      exact ⟨k, (hr _ _ (by omega) (by omega)).trans j1, j2, j3, (hx 0).trans j4, (hx 1).trans j5, (hx 2).trans j6⟩
theorem c_rel_cpy {hi ran : Int} {row : Nat → Int} (ho : (o = 0 ∧ p = 34) ∨ (o = 34 ∧ p = 0)) (hok : r_ok U B) (h : c_rel D I ρ S T hi ran row) (hU : c_hall D I ρ p U) (hc : c_cpy I K ρ ρ' o p) (hk : ∀ c i, c_out o c → K c i = I c i) (h8 : K 0 8 = 1) : c_rel D K ρ' U U 1 ran row := by
  obtain ⟨g1, g2⟩ := c_cpy_hall ho hok hU hc hk
  obtain ⟨hcd, _, _, _, q1, hr⟩ := hc
  obtain ⟨_, _, ⟨h4, h5⟩, h6, c, s1, s2, s3, s4, s5⟩ := h
  have hse : ∀ a m, (a = 4 ∨ a = 38) → m < 6 → ρ' a m = ρ (4 + p) m := by
    intro a m ha hm
    have h1 : ρ' (4 + p) m = ρ (4 + p) m := hr _ _ (by omega) (by omega)
    by_cases e : a = 4 + p
    · rw [e, h1]
    · rw [show a = 4 + o by omega, (hcd m hm).2.2, h1]
  have hcl : ∀ e, (ρ' 1 5 = some e ∨ ρ' 35 5 = some e) → ρ (1 + p) 5 = some e := by
    intro e he
    have h1 : ρ' (1 + p) 5 = ρ (1 + p) 5 := hr _ _ (by omega) (by omega)
    rcases ho with ⟨rfl, rfl⟩ | ⟨rfl, rfl⟩
    · rcases he with he | he
      · exact q1.symm.trans he
      · exact h1.symm.trans he
    · rcases he with he | he
      · exact h1.symm.trans he
      · exact q1.symm.trans he
  have hpa : 4 + p = 4 ∨ 4 + p = 38 := by omega
  refine ⟨?_, ⟨h8, fun _ => ?_⟩, ⟨(hk 99 0 (by unfold c_out; omega)).trans h4, fun i hi hr2 => (hk 99 _ (by unfold c_out; omega)).trans (h5 i hi hr2)⟩, ?_, c, (hr 0 7 (by omega) (by omega)).trans s1, c_clk_cg s2 (fun j => hr c j (by omega) (by omega)), s3, ?_, ?_⟩
  · rcases ho with ⟨rfl, rfl⟩ | ⟨rfl, rfl⟩
    · exact g1
    · exact g2
  · rcases ho with ⟨rfl, rfl⟩ | ⟨rfl, rfl⟩
    · exact g2
    · exact g1
  · intro a m ha hm
    rw [hse a m ha hm]
    exact h6 _ m hpa hm
  · intro e he
    have := hcl e he
    rcases ho with ⟨rfl, rfl⟩ | ⟨rfl, rfl⟩
    · exact s4 e (Or.inr this)
    · exact s4 e (Or.inl this)
  · intro a m k ha hm hk2
    rw [hse a m ha hm] at hk2
    exact s5 _ m k hpa hm hk2
end
theorem c_image {X : Nat × (Nat → Int)} {D : List (Nat × Nat)} {I J : Nat → Nat → Int} {ρ : Nat → Nat → Option Nat} (d : Nat) {S T : Nat → Int} {B hi ran : Int} {row : Nat → Int} (hok : r_ok S B) (hokT : hi = 1 → r_ok T B) (hhi : hi = 0 ∨ hi = 1) (hrel0 : c_rel D I ρ S T hi ran row) : am_E X (d + 3) 119 0 [(0, .inr (.inr (.inl (some 0))))] [] (am_mm D I J ρ) (fun z => ∃ K ρ2, z = (some (.inl (S 19)), am_mm D K J ρ2) ∧ c_rel D K ρ2 S S 1 ran row ∧ ∀ c j, 107 ≤ c → c < 124 → K c j = I c j) := by
  obtain ⟨hh, ⟨h08, hh34⟩, htr, hst, hsp⟩ := hrel0
  have hrel : c_rel D I ρ S T hi ran row := ⟨hh, ⟨h08, hh34⟩, htr, hst, hsp⟩
  obtain ⟨c, hρc, hcl⟩ := hh.2.2.2.2.2.2
  refine am_e_ss 4 (q := (8, [(0, .inr (.inr (.inl (some 0))))], [.inr (.inr (.inl (some 1))), .inr (.inr (.inl (some 35)))], (am_mm D I J ρ))) rfl ?_
  refine am_e_virtual (Q := fun r => ∃ Q264 ρ264, r = (none, (am_mm D Q264 J ρ264)) ∧ (∀ c j, uF34 c j = false → Q264 c j = I c j) ∧ c_cpy I Q264 ρ ρ264 34 0) rfl rfl (Nat.le_of_ble_eq_true rfl) rfl rfl (Nat.le_of_ble_eq_true rfl) (Nat.le_of_ble_eq_true rfl) (c_ch34 _ (fun m hm => hst 4 m (by omega) hm) hρc) ?_
  rintro r ⟨Q264, ρ264, rfl, ⟨hoff, hcp⟩⟩
  show am_E _ _ _ 11 [(0, .inr (.inr (.inl (some 0))))] [] (am_mm D Q264 J ρ264) _
  refine am_e_ss 6 (q := (23, [(0, .inr (.inr (.inl (some 0))))], [.inl ((Q264 1 2))], (am_mm D (am_up Q264 0 8 1) J ρ264))) rfl ?_
  refine am_e_ireturn rfl rfl ?_
  have e9 : Q264 1 2 = S 19 := (hoff 1 2 rfl).trans hh.1.1
  rw [e9]
  refine ⟨_, _, rfl, c_rel_cpy (o := 34) (p := 0) (Or.inr ⟨rfl, rfl⟩) hok hrel hh ?_ (fun c i h => ?_) rfl, fun c j h1 h2 => (if_neg (by omega)).trans (hoff c j (uF34_out (by unfold c_out; omega)))⟩
  · obtain ⟨hcd, h1, h2, h3, h4, h5⟩ := hcp
    exact ⟨fun m hm => by
      obtain ⟨g1, g2, g3⟩ := hcd m hm
      exact ⟨fun j hj => (if_neg (by omega)).trans ((g1 j hj).trans (if_neg (by omega)).symm), fun j hj => ⟨(if_neg (by omega)).trans ((g2 j hj).1.trans (if_neg (by omega)).symm), (if_neg (by omega)).trans ((g2 j hj).2.trans (if_neg (by omega)).symm)⟩, g3⟩, h1, h2, h3, h4, h5⟩
  · exact (if_neg (by unfold c_out at h; omega)).trans (hoff c i (uF34_out h))
theorem c_undo {X : Nat × (Nat → Int)} {D : List (Nat × Nat)} {I J : Nat → Nat → Int} {ρ : Nat → Nat → Option Nat} (d : Nat) {S T : Nat → Int} {B hi ran : Int} {row : Nat → Int} (hok : r_ok S B) (hokT : hi = 1 → r_ok T B) (hhi : hi = 0 ∨ hi = 1) (hrel0 : c_rel D I ρ S T hi ran row) : am_E X (d + 3) 120 0 [(0, .inr (.inr (.inl (some 0))))] [] (am_mm D I J ρ) (fun z => ∃ K ρ2, z = (some (.inl (if hi = 1 then T 19 else -3)), am_mm D K J ρ2) ∧ c_rel D K ρ2 (if hi = 1 then T else S) T hi ran row ∧ (¬ hi = 1 → ρ2 = ρ) ∧ ∀ c j, 107 ≤ c → c < 124 → K c j = I c j) := by
  obtain ⟨hh, ⟨h08, hh34⟩, htr, hst, hsp⟩ := hrel0
  have hrel : c_rel D I ρ S T hi ran row := ⟨hh, ⟨h08, hh34⟩, htr, hst, hsp⟩
  refine am_e_ss 2 (q := (4, [(0, .inr (.inr (.inl (some 0))))], [.inl ((I 0 8))], (am_mm D I J ρ))) rfl ?_
  refine am_e_if2 rfl ⟨by omega, by omega⟩ (fun (hw1 : ¬ (I 0 8) = 0) => ?_) (fun (hw1 : ¬ (¬ (I 0 8) = 0)) => ?_)
  · show am_E _ _ _ 10 [(0, .inr (.inr (.inl (some 0))))] [] (am_mm D I J ρ) _
    obtain ⟨c, hρc, hcl⟩ := (hh34 (by omega)).2.2.2.2.2.2
    refine am_e_ss 4 (q := (18, [(0, .inr (.inr (.inl (some 0))))], [.inr (.inr (.inl (some 35))), .inr (.inr (.inl (some 1)))], (am_mm D I J ρ))) rfl ?_
    refine am_e_virtual (Q := fun r => ∃ Q265 ρ265, r = (none, (am_mm D Q265 J ρ265)) ∧ (∀ c j, uF0 c j = false → Q265 c j = I c j) ∧ c_cpy I Q265 ρ ρ265 0 34) rfl rfl (Nat.le_of_ble_eq_true rfl) rfl rfl (Nat.le_of_ble_eq_true rfl) (Nat.le_of_ble_eq_true rfl) (c_ch0 _ (fun m hm => hst 38 m (by omega) hm) hρc) ?_
    rintro r ⟨Q265, ρ265, rfl, ⟨hoff, hcp⟩⟩
    show am_E _ _ _ 21 [(0, .inr (.inr (.inl (some 0))))] [] (am_mm D Q265 J ρ265) _
    refine am_e_ss 3 (q := (28, [(0, .inr (.inr (.inl (some 0))))], [.inl ((Q265 1 2))], (am_mm D Q265 J ρ265))) rfl ?_
    refine am_e_ireturn rfl rfl ?_
    have hT := hrel.2.1.2 (by omega)
    have e9 : Q265 1 2 = T 19 := hcp.2.1.1.trans hT.1.1
    rw [if_pos (by omega), if_pos (by omega), e9]
    have h81 : Q265 0 8 = 1 := (hoff 0 8 rfl).trans (by omega)
    refine ⟨_, _, rfl, ?_, fun e => absurd (show hi = 1 by omega) e, fun c j h1 h2 => hoff c j (uF0_out (by unfold c_out; omega))⟩
    have := c_rel_cpy (o := 0) (p := 34) (Or.inl ⟨rfl, rfl⟩) (hokT (by omega)) hrel hT hcp (fun c i h => hoff c i (uF0_out h)) h81
    rw [show hi = 1 by omega]
    exact this
  · show am_E _ _ _ 7 [(0, .inr (.inr (.inl (some 0))))] [] (am_mm D I J ρ) _
    refine am_e_ss 1 (q := (9, [(0, .inr (.inr (.inl (some 0))))], [.inl (-3)], (am_mm D I J ρ))) rfl ?_
    refine am_e_ireturn rfl rfl ?_
    rw [if_neg (by omega), if_neg (by omega)]
    exact ⟨I, ρ, rfl, hrel, fun _ => rfl, fun _ _ _ _ => rfl⟩
