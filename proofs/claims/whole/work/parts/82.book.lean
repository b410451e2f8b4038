/-! THE CLASS: a new book -/
def sp_bk (S : Nat → Int) (n : Nat) (p o s y : Int) : Nat → Int := am_u1 (am_u1 (am_u1 (am_u1 (am_u1 (am_u1 S (38 + n) p) (44 + n) o) (50 + n) s) (56 + n) y) (13 + n) 0) 20 ((n : Int) + 1)
theorem sp_bk_at {S : Nat → Int} {n : Nat} {p o s y : Int} (hn : n < 6) : sp_bk S n p o s y (38 + n) = p ∧ sp_bk S n p o s y (44 + n) = o ∧ sp_bk S n p o s y (50 + n) = s ∧ sp_bk S n p o s y (56 + n) = y ∧ sp_bk S n p o s y (13 + n) = 0 ∧ sp_bk S n p o s y 20 = (n : Int) + 1 ∧ ∀ i, (i ≠ 38 + n ∧ i ≠ 44 + n ∧ i ≠ 50 + n ∧ i ≠ 56 + n ∧ i ≠ 13 + n ∧ i ≠ 20) → sp_bk S n p o s y i = S i := by
  unfold sp_bk am_u1
  refine ⟨?_, ?_, ?_, ?_, ?_, ?_, ?_⟩
  · (repeat' split) <;> first | rfl | (exfalso; omega)
  · (repeat' split) <;> first | rfl | (exfalso; omega)
  · (repeat' split) <;> first | rfl | (exfalso; omega)
  · (repeat' split) <;> first | rfl | (exfalso; omega)
  · (repeat' split) <;> first | rfl | (exfalso; omega)
  · (repeat' split) <;> first | rfl | (exfalso; omega)
  · intro i hi
    (repeat' split) <;> first | rfl | (exfalso; omega)
theorem sp_bk_ok {S : Nat → Int} {B : Int} {n : Nat} {p o s y : Int} (hok : r_ok S B) (hn : n < 6) (hp : 0 ≤ p ∧ p ≤ 99) (ho : 0 ≤ o ∧ o ≤ 9) (hs : 0 ≤ s ∧ s ≤ 3) (hy : 0 ≤ y ∧ y ≤ 5) : r_ok (sp_bk S n p o s y) B := by
  obtain ⟨q1, q2, q3, q4, q5, q6, hO⟩ := sp_bk_at (S := S) (p := p) (o := o) (s := s) (y := y) hn
  obtain ⟨o0, oG, oH, oD, o19, o20, o21, o22, o23, o24, oK, oV, oP, oM, oS, oY, oHd, oT, oC, oN⟩ := hok
  refine ⟨by rw [hO 0 (by omega)]; exact o0, fun m hm => by rw [hO (1 + m) (by omega)]; exact oG m hm, fun m hm => by rw [hO (7 + m) (by omega)]; exact oH m hm, fun b hb => ?_, by rw [hO 19 (by omega)]; exact o19, by rw [q6]; omega, by rw [hO 21 (by omega)]; exact o21, by rw [hO 22 (by omega)]; exact o22, by rw [hO 23 (by omega)]; exact o23, by rw [hO 24 (by omega)]; exact o24, fun m hm => by rw [hO (26 + m) (by omega)]; exact oK m hm, fun m hm => by rw [hO (32 + m) (by omega)]; exact oV m hm, fun b hb => ?_, fun b hb => ?_, fun b hb => ?_, fun b hb => ?_, fun h hh => by rw [hO (62 + h) (by omega)]; exact oHd h hh, fun i hi => by rw [hO (68 + i) (by omega)]; exact oT i hi, fun c hc => by rw [hO (168 + c) (by omega)]; exact oC c hc, fun c hc => by rw [hO (173 + c) (by omega)]; exact oN c hc⟩
  · by_cases e : b = n
    · rw [e, q5]; exact Or.inl rfl
    · rw [hO (13 + b) (by omega)]; exact oD b hb
  · by_cases e : b = n
    · rw [e, q1]; exact hp
    · rw [hO (38 + b) (by omega)]; exact oP b hb
  · by_cases e : b = n
    · rw [e, q2]; exact ho
    · rw [hO (44 + b) (by omega)]; exact oM b hb
  · by_cases e : b = n
    · rw [e, q3]; exact hs
    · rw [hO (50 + b) (by omega)]; exact oS b hb
  · by_cases e : b = n
    · rw [e, q4]; exact hy
    · rw [hO (56 + b) (by omega)]; exact oY b hb
section
variable {S S' : Nat → Int}
theorem sp_s2 (h24 : -1 ≤ S 24) (h : ∀ i, (i = 24 ∨ 168 ≤ i) → S' i = S i) : sp_many S' = sp_many S ∧ sp_come S' = sp_come S ∧ (¬ S 24 = -1 → sp_stp S' = sp_stp S) := by
  have e24 := h 24 (Or.inl rfl)
  refine ⟨?_, ?_, fun e => ?_⟩
  · unfold sp_many
    rw [e24]
    by_cases e : S 24 = -1
    · rw [if_pos e, if_pos e]
    · rw [if_neg e, if_neg e, h _ (by omega)]
  · unfold sp_come
    rw [e24]
    by_cases e : S 24 = -1
    · rw [if_pos e, if_pos e]
    · rw [if_neg e, if_neg e, h _ (by omega)]
  · funext k
    unfold sp_stp
    rw [e24]
    exact h _ (by omega)
theorem ps_rel_s2 {cs : List ps_C} (h24 : -1 ≤ S 24) (h : ∀ i, (i = 24 ∨ 168 ≤ i) → S' i = S i) (hl : ps_rel S cs) : ps_rel S' cs := by
  obtain ⟨h1, h2, h3⟩ := hl
  obtain ⟨g1, g2, g3⟩ := sp_s2 h24 h
  refine ⟨by rw [g1]; exact h1, ?_, h3⟩
  by_cases e : S 24 = -1
  · intro k hk
    have : sp_many S = 0 := by unfold sp_many; rw [if_pos e]
    omega
  · rw [g3 e]; exact h2
theorem sp_wfS_s2 (h24 : -1 ≤ S 24) (h : ∀ i, (i = 24 ∨ 168 ≤ i) → S' i = S i) (hw : sp_wfS S) : sp_wfS S' := by
  obtain ⟨g1, g2, g3⟩ := sp_s2 h24 h
  unfold sp_wfS at *
  rw [g1]
  by_cases e : S 24 = -1
  · rw [show (sp_many S).toNat = 0 by unfold sp_many; rw [if_pos e]; rfl]
    exact fun k hk => by omega
  · rw [g3 e]; exact hw
end
/-- the hall behind a new book: M ahead of what is measured anew, K behind -/
theorem c_bk_hall {D : List (Nat × Nat)} {I M K : Nat → Nat → Int} {ρ : Nat → Nat → Option Nat} {S : Nat → Int} {B : Int} {n : Nat} {p o s y : Int} (hok : r_ok S B) (hn : S 20 = (n : Int)) (hn6 : n < 6) (hh : c_hall D I ρ 0 S) (hM : ∀ c j, ¬ (c = 2 ∧ j = 2) → c ≠ 6 + n → ¬ (c = 1 ∧ j = 4) → M c j = I c j) (hnew : M (6 + n) 0 = p ∧ M (6 + n) 1 = o ∧ M (6 + n) 2 = s ∧ M (6 + n) 3 = y) (h14 : M 1 4 = (n : Int) + 1) (h22 : M 2 2 = am_bits (fun x => if x = n then false else sp_dp S x) 6) : c_mdt D M ρ (sp_bk S n p o s y) ∧ ((∀ c j, c_lor c → K c j = M c j) → c_lo K 0 (sp_bk S n p o s y) → c_hall D K ρ 0 (sp_bk S n p o s y)) := by
  obtain ⟨q1, q2, q3, q4, q5, q6, hO⟩ := sp_bk_at (S := S) (p := p) (o := o) (s := s) (y := y) hn6
  have h24 := r_ok_24 hok
  have h19 := r_ok_19 hok
  obtain ⟨⟨a1, a2, a3, a4, a5⟩, ⟨b1, b2, b3, b4⟩, ⟨d1, d2⟩, e1, f1, g1, c, i1, ⟨i2, i3, i4, cs, i5, i6⟩⟩ := hh
  generalize hS : sp_bk S n p o s y = S' at *
  have h2 : ∀ i, (i = 24 ∨ 168 ≤ i) → S' i = S i := fun i hi => hO i (by omega)
  have hcl : c_clb D M ρ 1 S' := ⟨c, i1, i2, i3, by rw [(sp_s2 h24 h2).2.1]; exact (hM c 0 (by omega) (by omega) (by omega)).trans i4, cs, c_cs_cg i5 (fun j i hj => hM _ _ (by omega) (by omega) (by omega)), ps_rel_s2 h24 h2 i6⟩
  have hbk : ∀ b, b < (S' 20).toNat → M (6 + b) 0 = S' (38 + b) ∧ M (6 + b) 1 = S' (44 + b) ∧ M (6 + b) 2 = S' (50 + b) ∧ M (6 + b) 3 = S' (56 + b) := by
    intro b hb
    by_cases e : b = n
    · rw [e, q1, q2, q3, q4]; exact hnew
    · have h4 := e1 b (by omega)
      rw [hO (38 + b) (by omega), hO (44 + b) (by omega), hO (50 + b) (by omega), hO (56 + b) (by omega)]
      have hx : ∀ j, M (6 + b) j = I (6 + 0 + b) j := fun j => hM (6 + b) j (by omega) (by omega) (by omega)
      exact ⟨(hx 0).trans h4.1, (hx 1).trans h4.2.1, (hx 2).trans h4.2.2.1, (hx 3).trans h4.2.2.2⟩
  have hme : c_mems D M ρ 4 S' := by
    intro m hm
    rw [hO 19 (by omega)] at hm
    obtain ⟨k, j1, j2, j3, j4, j5, j6⟩ := g1 m hm
    have hx : ∀ j, M k j = I k j := fun j => hM k j (by omega) (by omega) (by omega)
    exact ⟨k, j1, j2, by rw [hO (26 + m) (by omega)]; exact j3, by rw [hO (26 + m) (by omega)]; exact (hx 0).trans j4, (hx 1).trans j5, by rw [hO (32 + m) (by omega)]; exact (hx 2).trans j6⟩
  have hmd : c_mdt D M ρ S' := ⟨by rw [hO 19 (by omega)]; exact (hM 1 2 (by omega) (by omega) (by omega)).trans a1, by rw [q6]; exact h14, hbk, hme, hcl⟩
  refine ⟨hmd, fun hK hlo => ?_⟩
  have hf : ∀ c, c_lor c → ∀ j, K c j = M c j := fun c hc j => hK c j hc
  have hKI : ∀ c j, c_lor c → ¬ (c = 2 ∧ j = 2) → c ≠ 6 + n → ¬ (c = 1 ∧ j = 4) → K c j = I c j := fun c j h0 h1 h2 h3 => (hK c j h0).trans (hM c j h1 h2 h3)
  have hl : ∀ c, c < 20 → c_lor c := fun c hc => by unfold c_lor; omega
  refine ⟨⟨?_, ?_, ?_, ?_, ?_⟩, ⟨?_, ?_, ?_, ?_⟩, ⟨?_, ?_⟩, ?_, hlo, ?_, ?_⟩
  · rw [hO 19 (by omega)]; exact (hKI 1 2 (hl _ (by omega)) (by omega) (by omega) (by omega)).trans a1
  · rw [q6]; exact (hf 1 (hl _ (by omega)) 4).trans h14
  · rw [hO 21 (by omega)]; exact (hKI 1 6 (hl _ (by omega)) (by omega) (by omega) (by omega)).trans a3
  · rw [hO 23 (by omega)]; exact (hKI 1 8 (hl _ (by omega)) (by omega) (by omega) (by omega)).trans a4
  · rw [hO 22 (by omega)]; exact (hKI 1 10 (hl _ (by omega)) (by omega) (by omega) (by omega)).trans a5
  · rw [hO 0 (by omega)]; exact (hKI 2 0 (hl _ (by omega)) (by omega) (by omega) (by omega)).trans b1
  · refine ((hKI 2 1 (hl _ (by omega)) (by omega) (by omega) (by omega)).trans b2).trans (am_bits_cg 6 (fun x hx => ?_))
    unfold sp_hp
    rw [hO 19 (by omega), hO (7 + x) (by omega)]
  · refine ((hf 2 (hl _ (by omega)) 2).trans h22).trans (am_bits_cg 6 (fun x hx => ?_))
    unfold sp_dp
    rw [q6]
    by_cases e : x = n
    · subst e; rw [if_pos rfl, q5]; simp
    · rw [if_neg e, hO (13 + x) (by omega), hn]
      by_cases e2 : x < n
      · rw [decide_eq_true (show x < ((n : Int)).toNat by omega), decide_eq_true (show x < ((n : Int) + 1).toNat by omega)]
      · rw [decide_eq_false (show ¬ x < ((n : Int)).toNat by omega), decide_eq_false (show ¬ x < ((n : Int) + 1).toNat by omega)]
  · intro m hm
    rw [hO 19 (by omega)] at hm
    rw [hO (1 + m) (by omega)]
    exact (hKI 3 m (hl _ (by omega)) (by omega) (by omega) (by omega)).trans (b4 m hm)
  · intro i hi
    rw [hO 23 (by omega)] at hi
    rw [hO (68 + i) (by omega)]
    exact (hKI 17 i (hl _ (by omega)) (by omega) (by omega) (by omega)).trans (d1 i hi)
  · intro i hi
    rw [hO 22 (by omega)] at hi
    rw [hO (62 + i) (by omega)]
    exact (hKI 18 i (hl _ (by omega)) (by omega) (by omega) (by omega)).trans (d2 i hi)
  · intro b hb
    have h4 := hbk b hb
    have hx : ∀ j, K (6 + 0 + b) j = M (6 + b) j := fun j => hf (6 + b) (by unfold c_lor; omega) j
    exact ⟨(hx 0).trans h4.1, (hx 1).trans h4.2.1, (hx 2).trans h4.2.2.1, (hx 3).trans h4.2.2.2⟩
  · intro m hm
    obtain ⟨k, j1, j2, j3, j4, j5, j6⟩ := hme m hm
    have hx := hf k (by unfold c_lor; omega)
    exact ⟨k, j1, j2, j3, (hx 0).trans j4, (hx 1).trans j5, (hx 2).trans j6⟩
  · obtain ⟨c, i1, i2, i3, i4, cs, i5, i6⟩ := hcl
    exact ⟨c, i1, i2, i3, (hf c (by unfold c_lor; omega) 0).trans i4, cs, c_cs_cg i5 (fun j i hj => hf _ (by unfold c_lor; omega) i), i6⟩
