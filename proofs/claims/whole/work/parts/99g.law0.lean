/-! THE LAW: what holds between two calls -/
def r_pt (i : Nat) (v B : Int) : Prop := (i = 0 → 0 ≤ v ∧ v ≤ 200) ∧ (1 ≤ i ∧ i < 7 → -B ≤ v ∧ v ≤ B) ∧ (7 ≤ i ∧ i < 19 → v = 0 ∨ v = 1) ∧ (i = 19 → 0 ≤ v ∧ v ≤ 6) ∧ (i = 20 → 0 ≤ v ∧ v ≤ 6) ∧ (i = 21 → 0 ≤ v ∧ v ≤ 5) ∧ (i = 22 → 0 ≤ v ∧ v ≤ 6) ∧ (i = 23 → 0 ≤ v ∧ v ≤ 100) ∧ (i = 24 → -1 ≤ v ∧ v ≤ 4) ∧ (26 ≤ i ∧ i < 32 → 0 ≤ v ∧ v ≤ 6) ∧ (32 ≤ i ∧ i < 38 → 0 ≤ v ∧ v ≤ 9) ∧ (38 ≤ i ∧ i < 44 → 0 ≤ v ∧ v ≤ 99) ∧ (44 ≤ i ∧ i < 50 → 0 ≤ v ∧ v ≤ 9) ∧ (50 ≤ i ∧ i < 56 → 0 ≤ v ∧ v ≤ 3) ∧ (56 ≤ i ∧ i < 62 → 0 ≤ v ∧ v ≤ 5) ∧ (62 ≤ i ∧ i < 68 → 0 ≤ v ∧ v ≤ 12) ∧ (68 ≤ i ∧ i < 168 → 0 ≤ v ∧ v ≤ 127) ∧ (168 ≤ i ∧ i < 173 → 0 ≤ v ∧ v ≤ 99) ∧ (173 ≤ i ∧ i < 178 → 0 ≤ v ∧ v ≤ 140)
theorem r_ok_u1 {S : Nat → Int} {B v : Int} {i : Nat} (hok : r_ok S B) (hp : r_pt i v B) : r_ok (am_u1 S i v) B := by
  have key : ∀ j, (j = i ∧ am_u1 S i v j = v) ∨ am_u1 S i v j = S j := by
    intro j
    by_cases e : j = i
    · exact Or.inl ⟨e, by rw [e]; exact am_u1_at⟩
    · exact Or.inr (am_u1_ne e)
  obtain ⟨o0, oG, oH, oD, o19, o20, o21, o22, o23, o24, oK, oV, oP, oM, oS, oY, oHd, oT, oC, oN⟩ := hok
  refine ⟨?_, ?_, ?_, ?_, ?_, ?_, ?_, ?_, ?_, ?_, ?_, ?_, ?_, ?_, ?_, ?_, ?_, ?_, ?_, ?_⟩
  · rcases key (0) with ⟨e, h⟩ | h
    · rw [h]; exact hp.1 (by omega)
    · rw [h]; exact o0
  · intro m hm
    rcases key (1 + m) with ⟨e, h⟩ | h
    · rw [h]; exact hp.2.1 (by omega)
    · rw [h]; exact oG m hm
  · intro m hm
    rcases key (7 + m) with ⟨e, h⟩ | h
    · rw [h]; exact hp.2.2.1 (by omega)
    · rw [h]; exact oH m hm
  · intro m hm
    rcases key (13 + m) with ⟨e, h⟩ | h
    · rw [h]; exact hp.2.2.1 (by omega)
    · rw [h]; exact oD m hm
  · rcases key (19) with ⟨e, h⟩ | h
    · rw [h]; exact hp.2.2.2.1 (by omega)
    · rw [h]; exact o19
  · rcases key (20) with ⟨e, h⟩ | h
    · rw [h]; exact hp.2.2.2.2.1 (by omega)
    · rw [h]; exact o20
  · rcases key (21) with ⟨e, h⟩ | h
    · rw [h]; exact hp.2.2.2.2.2.1 (by omega)
    · rw [h]; exact o21
  · rcases key (22) with ⟨e, h⟩ | h
    · rw [h]; exact hp.2.2.2.2.2.2.1 (by omega)
    · rw [h]; exact o22
  · rcases key (23) with ⟨e, h⟩ | h
    · rw [h]; exact hp.2.2.2.2.2.2.2.1 (by omega)
    · rw [h]; exact o23
  · rcases key (24) with ⟨e, h⟩ | h
    · rw [h]; exact hp.2.2.2.2.2.2.2.2.1 (by omega)
    · rw [h]; exact o24
  · intro m hm
    rcases key (26 + m) with ⟨e, h⟩ | h
    · rw [h]; exact hp.2.2.2.2.2.2.2.2.2.1 (by omega)
    · rw [h]; exact oK m hm
  · intro m hm
    rcases key (32 + m) with ⟨e, h⟩ | h
    · rw [h]; exact hp.2.2.2.2.2.2.2.2.2.2.1 (by omega)
    · rw [h]; exact oV m hm
  · intro m hm
    rcases key (38 + m) with ⟨e, h⟩ | h
    · rw [h]; exact hp.2.2.2.2.2.2.2.2.2.2.2.1 (by omega)
    · rw [h]; exact oP m hm
  · intro m hm
    rcases key (44 + m) with ⟨e, h⟩ | h
    · rw [h]; exact hp.2.2.2.2.2.2.2.2.2.2.2.2.1 (by omega)
    · rw [h]; exact oM m hm
  · intro m hm
    rcases key (50 + m) with ⟨e, h⟩ | h
    · rw [h]; exact hp.2.2.2.2.2.2.2.2.2.2.2.2.2.1 (by omega)
    · rw [h]; exact oS m hm
  · intro m hm
    rcases key (56 + m) with ⟨e, h⟩ | h
    · rw [h]; exact hp.2.2.2.2.2.2.2.2.2.2.2.2.2.2.1 (by omega)
    · rw [h]; exact oY m hm
  · intro m hm
    rcases key (62 + m) with ⟨e, h⟩ | h
    · rw [h]; exact hp.2.2.2.2.2.2.2.2.2.2.2.2.2.2.2.1 (by omega)
    · rw [h]; exact oHd m hm
  · intro m hm
    rcases key (68 + m) with ⟨e, h⟩ | h
    · rw [h]; exact hp.2.2.2.2.2.2.2.2.2.2.2.2.2.2.2.2.1 (by omega)
    · rw [h]; exact oT m hm
  · intro m hm
    rcases key (168 + m) with ⟨e, h⟩ | h
    · rw [h]; exact hp.2.2.2.2.2.2.2.2.2.2.2.2.2.2.2.2.2.1 (by omega)
    · rw [h]; exact oC m hm
  · intro m hm
    rcases key (173 + m) with ⟨e, h⟩ | h
    · rw [h]; exact hp.2.2.2.2.2.2.2.2.2.2.2.2.2.2.2.2.2.2 (by omega)
    · rw [h]; exact oN m hm
/-- a state that a run may come to -/
def y_ok (S : Nat → Int) (B : Int) : Prop := r_ok S B ∧ sp_wfS S ∧ S 24 = S 21 - 1 ∧ S 0 ≤ 99
theorem y_mono {S : Nat → Int} {B B' : Int} (h : y_ok S B) (hb : B ≤ B') : y_ok S B' := ⟨r_ok_mono h.1 hb, h.2⟩
theorem y_u1 {S : Nat → Int} {B v : Int} {i : Nat} (h : y_ok S B) (hp : r_pt i v B) (h0 : i ≠ 0) (h21 : i ≠ 21) (h24 : i ≠ 24) (h168 : i < 168) : y_ok (am_u1 S i v) B := by
  obtain ⟨h1, h2, h3, h4⟩ := h
  refine ⟨r_ok_u1 h1 hp, sp_wfS_s2 (r_ok_24 h1) (fun j hj => am_u1_ne (by omega)) h2, ?_, ?_⟩
  · rw [am_u1_ne (by omega), am_u1_ne (by omega)]; exact h3
  · rw [am_u1_ne (by omega)]; exact h4
section
variable {S S' : Nat → Int} {B : Int}
theorem y_feed {v : Int} (h : y_ok S B) : y_ok (sp_feed S v).2 B := by
  obtain ⟨o0, oG, oH, oD, o19, o20, o21, o22, o23, o24, oK, oV, oP, oM, oS, oY, oHd, oT, oC, oN⟩ := h.1
  unfold sp_feed
  split
  · exact h
  · split
    · exact h
    · exact y_u1 (y_u1 h (by (unfold r_pt; refine ⟨fun _ => ?_, fun _ => ?_, fun _ => ?_, fun _ => ?_, fun _ => ?_, fun _ => ?_, fun _ => ?_, fun _ => ?_, fun _ => ?_, fun _ => ?_, fun _ => ?_, fun _ => ?_, fun _ => ?_, fun _ => ?_, fun _ => ?_, fun _ => ?_, fun _ => ?_, fun _ => ?_, fun _ => ?_⟩ <;> omega)) (by omega) (by omega) (by omega) (by omega)) (by (unfold r_pt; refine ⟨fun _ => ?_, fun _ => ?_, fun _ => ?_, fun _ => ?_, fun _ => ?_, fun _ => ?_, fun _ => ?_, fun _ => ?_, fun _ => ?_, fun _ => ?_, fun _ => ?_, fun _ => ?_, fun _ => ?_, fun _ => ?_, fun _ => ?_, fun _ => ?_, fun _ => ?_, fun _ => ?_, fun _ => ?_⟩ <;> omega)) (by omega) (by omega) (by omega) (by omega)
theorem y_hand {n : Int} (h : y_ok S B) : y_ok (sp_hand S n).2 B := by
  obtain ⟨o0, oG, oH, oD, o19, o20, o21, o22, o23, o24, oK, oV, oP, oM, oS, oY, oHd, oT, oC, oN⟩ := h.1
  unfold sp_hand
  split
  · exact y_u1 h (by (unfold r_pt; refine ⟨fun _ => ?_, fun _ => ?_, fun _ => ?_, fun _ => ?_, fun _ => ?_, fun _ => ?_, fun _ => ?_, fun _ => ?_, fun _ => ?_, fun _ => ?_, fun _ => ?_, fun _ => ?_, fun _ => ?_, fun _ => ?_, fun _ => ?_, fun _ => ?_, fun _ => ?_, fun _ => ?_, fun _ => ?_⟩ <;> omega)) (by omega) (by omega) (by omega) (by omega)
  · split
    · exact h
    · split
      · exact h
      · exact y_u1 (y_u1 h (by (unfold r_pt; refine ⟨fun _ => ?_, fun _ => ?_, fun _ => ?_, fun _ => ?_, fun _ => ?_, fun _ => ?_, fun _ => ?_, fun _ => ?_, fun _ => ?_, fun _ => ?_, fun _ => ?_, fun _ => ?_, fun _ => ?_, fun _ => ?_, fun _ => ?_, fun _ => ?_, fun _ => ?_, fun _ => ?_, fun _ => ?_⟩ <;> omega)) (by omega) (by omega) (by omega) (by omega)) (by (unfold r_pt; refine ⟨fun _ => ?_, fun _ => ?_, fun _ => ?_, fun _ => ?_, fun _ => ?_, fun _ => ?_, fun _ => ?_, fun _ => ?_, fun _ => ?_, fun _ => ?_, fun _ => ?_, fun _ => ?_, fun _ => ?_, fun _ => ?_, fun _ => ?_, fun _ => ?_, fun _ => ?_, fun _ => ?_, fun _ => ?_⟩ <;> omega)) (by omega) (by omega) (by omega) (by omega)
theorem y_had {b w : Int} (hw : w = 0 ∨ w = 1) (h : y_ok S B) : y_ok (sp_had S b w).2 B := by
  obtain ⟨o0, oG, oH, oD, o19, o20, o21, o22, o23, o24, oK, oV, oP, oM, oS, oY, oHd, oT, oC, oN⟩ := h.1
  unfold sp_had
  split
  · exact h
  · exact y_u1 h (by (unfold r_pt; refine ⟨fun _ => ?_, fun _ => ?_, fun _ => ?_, fun _ => ?_, fun _ => ?_, fun _ => ?_, fun _ => ?_, fun _ => ?_, fun _ => ?_, fun _ => ?_, fun _ => ?_, fun _ => ?_, fun _ => ?_, fun _ => ?_, fun _ => ?_, fun _ => ?_, fun _ => ?_, fun _ => ?_, fun _ => ?_⟩ <;> omega)) (by omega) (by omega) (by omega) (by omega)
theorem y_member {k v : Int} (h : y_ok S B) : y_ok (sp_member S k v).2 B := by
  have hB := r_ok_B h.1
  obtain ⟨o0, oG, oH, oD, o19, o20, o21, o22, o23, o24, oK, oV, oP, oM, oS, oY, oHd, oT, oC, oN⟩ := h.1
  unfold sp_member
  split
  · exact h
  · split
    · exact h
    · split
      · exact h
      · refine y_u1 (y_u1 (y_u1 (y_u1 (y_u1 h ?_ ?_ ?_ ?_ ?_) ?_ ?_ ?_ ?_ ?_) ?_ ?_ ?_ ?_ ?_) ?_ ?_ ?_ ?_ ?_) ?_ ?_ ?_ ?_ ?_ <;> first | omega | (unfold r_pt; refine ⟨fun _ => ?_, fun _ => ?_, fun _ => ?_, fun _ => ?_, fun _ => ?_, fun _ => ?_, fun _ => ?_, fun _ => ?_, fun _ => ?_, fun _ => ?_, fun _ => ?_, fun _ => ?_, fun _ => ?_, fun _ => ?_, fun _ => ?_, fun _ => ?_, fun _ => ?_, fun _ => ?_, fun _ => ?_⟩ <;> omega)
theorem y_book {p o s y : Int} (h : y_ok S B) : y_ok (sp_book S p o s y).2 B := by
  obtain ⟨o0, oG, oH, oD, o19, o20, o21, o22, o23, o24, oK, oV, oP, oM, oS, oY, oHd, oT, oC, oN⟩ := h.1
  unfold sp_book
  split
  · exact h
  · split
    · exact h
    · split
      · exact h
      · split
        · exact h
        · split
          · exact h
          · refine y_u1 (y_u1 (y_u1 (y_u1 (y_u1 (y_u1 h ?_ ?_ ?_ ?_ ?_) ?_ ?_ ?_ ?_ ?_) ?_ ?_ ?_ ?_ ?_) ?_ ?_ ?_ ?_ ?_) ?_ ?_ ?_ ?_ ?_) ?_ ?_ ?_ ?_ ?_ <;> first | omega | (unfold r_pt; refine ⟨fun _ => ?_, fun _ => ?_, fun _ => ?_, fun _ => ?_, fun _ => ?_, fun _ => ?_, fun _ => ?_, fun _ => ?_, fun _ => ?_, fun _ => ?_, fun _ => ?_, fun _ => ?_, fun _ => ?_, fun _ => ?_, fun _ => ?_, fun _ => ?_, fun _ => ?_, fun _ => ?_, fun _ => ?_⟩ <;> omega)
theorem y_go {b : Int} (h : y_ok S B) (hb : 0 ≤ b ∧ b < 6) (h0 : ¬ S 0 = 99) : y_ok (sp_go S b) (B + 80050) := by
  obtain ⟨h1, h2, h3, h4⟩ := h
  have ha := sp_go_al h1 hb
  refine ⟨sp_go_ok h1 h2 hb (by omega), sp_wfS_cg ha (r_ok_24 h1) h2, ?_, ?_⟩
  · rw [← ha 24 (by omega), ← ha 21 (by omega)]; exact h3
  · rw [sp_go_0]; omega
theorem y_month {b : Int} (h : y_ok S B) : y_ok (sp_month S b).2 (B + 80050) := by
  have h20 := h.1.2.2.2.2.2.1
  have hm := y_mono h (show B ≤ B + 80050 by omega)
  unfold sp_month
  split
  · exact hm
  · split
    · exact hm
    · exact y_go h (by omega) (by omega)
theorem y_by {way : Int} (h : y_ok S B) : y_ok (sp_by S way).2 (B + 80050) := by
  have h20 := h.1.2.2.2.2.2.1
  have hm := y_mono h (show B ≤ B + 80050 by omega)
  unfold sp_by
  split
  · exact hm
  · split
    · exact hm
    · have := sp_c0_b (way := way) h.1 (by omega)
      exact y_go h (by omega) (by omega)
theorem ps_rel_eq {cs : List ps_C} (h24 : -1 ≤ S 24 ∧ S 24 ≤ 4) (h : ∀ i, i < 878 → S' i = S i) (hr : ps_rel S cs) : ps_rel S' cs := by
  obtain ⟨h1, h2, h3⟩ := hr
  have hfl := ps_fl_le (cs := cs)
  have hw1 := h3.1
  have hw3 := h3.2.2
  have e24 := h 24 (by omega)
  refine ⟨?_, fun k hk => ?_, h3⟩
  · rw [← h1]
    unfold sp_many
    rw [e24]
    by_cases e : S 24 = -1
    · rw [if_pos e, if_pos e]
    · rw [if_neg e, if_neg e]; exact h _ (by omega)
  · rw [← h2 k hk]
    unfold sp_stp
    rw [e24]
    exact h _ (by omega)
theorem y_eq {cs : List ps_C} (h : ∀ i, i < 878 → S' i = S i) (hr : ps_rel S cs) (hy : y_ok S B) : y_ok S' B := by
  obtain ⟨h1, h2, h3, h4⟩ := hy
  have h24 := h1.2.2.2.2.2.2.2.2.2.1
  refine ⟨?_, ps_wfS (ps_rel_eq h24 h hr), ?_, ?_⟩
  · obtain ⟨o0, oG, oH, oD, o19, o20, o21, o22, o23, o24, oK, oV, oP, oM, oS, oY, oHd, oT, oC, oN⟩ := h1
    exact r_ok_sub ⟨o0, oG, oH, oD, o19, o20, o21, o22, o23, o24, oK, oV, oP, oM, oS, oY, oHd, oT, oC, oN⟩ (fun i a _ _ _ => h i (by omega)) (by rw [h 21 (by omega)]; exact o21) (by rw [h 23 (by omega)]; exact o23) (by rw [h 24 (by omega)]; exact o24) (fun c hc => by rw [h (168 + c) (by omega)]; exact oC c hc) (fun c hc => by rw [h (173 + c) (by omega)]; exact oN c hc)
  · rw [h 24 (by omega), h 21 (by omega)]; exact h3
  · rw [h 0 (by omega)]; exact h4
theorem sp_come_eq (h24 : -1 ≤ S 24 ∧ S 24 ≤ 4) (h : ∀ i, i < 878 → S' i = S i) : sp_come S' = sp_come S := by
  unfold sp_come
  rw [h 24 (by omega)]
  by_cases e : S 24 = -1
  · rw [if_pos e, if_pos e]
  · rw [if_neg e, if_neg e]; exact h _ (by omega)
theorem c_hall_eq {D : List (Nat × Nat)} {I : Nat → Nat → Int} {ρ : Nat → Nat → Option Nat} {o : Nat} (ho : o = 0 ∨ o = 34) (hok : r_ok S B) (hse : c_seats D ρ) (h : c_hall D I ρ o S) (he : ∀ i, i < 878 → S' i = S i) : c_hall D I ρ o S' := by
  have h24 := hok.2.2.2.2.2.2.2.2.2.1
  obtain ⟨cc, i1, i2, i3⟩ := h.2.2.2.2.2.2
  have hl := am_lt_at i2.1.2.2.2.2
  have g := c_hall_sp (E := []) (K := I) (ρ' := ρ) (S' := S') (c := 124 + D.length + 200) ho hok h (fun i a _ => he i (by omega)) (Or.inl (he 23 (by omega))) (fun cs => ps_rel_eq h24 he) (sp_come_eq h24 he) (by omega) (fun _ _ _ _ _ _ => rfl) (by rw [he 23 (by omega)]; exact h.1.2.2.2.1) (fun _ _ _ _ _ _ => rfl) (fun e hx => by have := Option.some.inj (i1.symm.trans hx); omega) (fun m k hm hx => by
    obtain ⟨k3, c0, g1, g2, g3⟩ := hse (4 + o) m (by omega) hm
    have := Option.some.inj (g1.symm.trans hx)
    have := am_lt_at g2
    omega)
  rw [List.append_nil] at g
  exact g
end
