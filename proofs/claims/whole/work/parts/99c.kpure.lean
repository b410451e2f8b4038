/-! WHAT A NEW CLUB IS: the state behind it -/
def sp_w1 (stp : Nat → Int) (k : Nat) : Prop := (-500 < stp k ∧ stp k < 3200) ∧ (0 ≤ stp k → stp k % 8 ≤ 5 ∧ 0 ≤ sp_top stp k ∧ sp_top stp k < 30) ∧ (stp k = -1 → 1 ≤ sp_top stp k ∧ sp_top stp k ≤ 30) ∧ (-10 < stp k → stp k < -1 → 2 ≤ sp_top stp k ∧ sp_top stp k ≤ 30) ∧ (stp k ≤ -10 → sp_top stp k = 1)
theorem ps_wblk {stp : Nat → Int} : ∀ (L : List Int) (k : Nat) (h : Int), ps_hk L h → sp_top stp k = h → (∀ i, i < L.length → stp (k + i) = L.getD i 0) → (∀ i, i < L.length → sp_w1 stp (k + i)) ∧ sp_top stp (k + L.length) = ps_ht L h := by
  intro L
  induction L with
  | nil => intro k h _ ht _; exact ⟨fun i hi => by simp at hi, ht⟩
  | cons c L ih =>
    intro k h hk ht hs
    obtain ⟨hv, hk2⟩ := hk
    have hc : stp k = c := hs 0 (by simp)
    have ht2 : sp_top stp (k + 1) = ps_nh c h := by
      show (if 0 ≤ stp k then sp_top stp k + 1 else if stp k = -1 then sp_top stp k else if -10 < stp k then sp_top stp k - 1 else 0) = _
      rw [hc, ht]
      unfold ps_nh
      by_cases e1 : 0 ≤ c
      · rw [if_pos e1, if_pos e1]
      · rw [if_neg e1, if_neg e1]
        by_cases e2 : c = -1
        · rw [if_pos e2, if_pos e2]
        · rw [if_neg e2, if_neg e2, if_pos (by omega)]
    obtain ⟨g1, g2⟩ := ih (k + 1) _ hk2 ht2 (fun i hi => by
      have := hs (i + 1) (by rw [List.length_cons]; omega)
      rw [show k + 1 + i = k + (i + 1) by omega]; exact this)
    refine ⟨fun i hi => ?_, ?_⟩
    · cases i with
      | zero =>
        show sp_w1 stp k
        unfold sp_w1
        rw [hc, ht]
        omega
      | succ i =>
        have := g1 i (by rw [List.length_cons] at hi; omega)
        rw [show k + (i + 1) = k + 1 + i by omega]; exact this
    · rw [List.length_cons, show k + (L.length + 1) = k + 1 + L.length by omega]; exact g2
theorem ps_wall {stp : Nat → Int} : ∀ (cs : List ps_C) (k : Nat), (∀ x ∈ cs, ps_clw x) → sp_top stp k = 0 → (∀ i, i < (ps_fl cs).length → stp (k + i) = (ps_fl cs).getD i 0) → ∀ i, i < (ps_fl cs).length → sp_w1 stp (k + i) := by
  intro cs
  induction cs with
  | nil => intro k _ _ _ i hi; simp [ps_fl] at hi
  | cons x cs ih =>
    intro k hw ht hs
    have hx := hw x (List.mem_cons_self ..)
    have hw2 : ∀ y ∈ cs, ps_clw y := fun y hy => hw y (List.mem_cons_of_mem _ hy)
    have ef : ps_fl (x :: cs) = (if x.1 = 3 then [] else x.2.2 ++ [ps_kd x.1 - x.2.1]) ++ ps_fl cs := by
      unfold ps_fl; rw [List.flatMap_cons]
    rw [ef] at hs ⊢
    by_cases e3 : x.1 = 3
    · rw [if_pos e3, List.nil_append] at hs ⊢
      exact ih k hw2 ht hs
    · rw [if_neg e3] at hs ⊢
      obtain ⟨x1, x2, x3, x4⟩ := hx
      obtain ⟨b1, b2⟩ := x4 e3
      obtain ⟨g1, g2⟩ := ps_wblk (stp := stp) x.2.2 k 0 b1 ht (fun i hi => by
        rw [hs i (by rw [List.length_append, List.length_append]; omega), ps_gl (by rw [List.length_append]; omega), ps_gl hi])
      rw [b2] at g2
      have hm : stp (k + x.2.2.length) = ps_kd x.1 - x.2.1 := by
        rw [hs x.2.2.length (by rw [List.length_append, List.length_append, List.length_singleton]; omega), ps_gl (by rw [List.length_append, List.length_singleton]; omega)]
        have := ps_gr (A := x.2.2) (C := [ps_kd x.1 - x.2.1]) (i := 0)
        exact this
      have hkd : -500 < ps_kd x.1 - x.2.1 ∧ ps_kd x.1 - x.2.1 ≤ -10 := by
        unfold ps_kd
        (repeat' split) <;> omega
      have ht2 : sp_top stp (k + x.2.2.length + 1) = 0 := by
        show (if 0 ≤ stp (k + x.2.2.length) then _ else if stp (k + x.2.2.length) = -1 then _ else if -10 < stp (k + x.2.2.length) then _ else 0) = 0
        rw [hm, if_neg (by omega), if_neg (by omega), if_neg (by omega)]
      have hl : (x.2.2 ++ [ps_kd x.1 - x.2.1]).length = x.2.2.length + 1 := by rw [List.length_append, List.length_singleton]
      intro i hi
      rw [List.length_append, hl] at hi
      by_cases c1 : i < x.2.2.length
      · exact g1 i c1
      · by_cases c2 : i = x.2.2.length
        · rw [c2]
          unfold sp_w1
          rw [hm, g2]
          omega
        · obtain ⟨j, hj⟩ : ∃ j, i = x.2.2.length + 1 + j := ⟨i - (x.2.2.length + 1), by omega⟩
          have := ih (k + x.2.2.length + 1) hw2 ht2 (fun i hi => by
            have e := hs (x.2.2.length + 1 + i) (by rw [List.length_append, hl]; omega)
            rw [show k + x.2.2.length + 1 + i = k + (x.2.2.length + 1 + i) by omega, e]
            have := ps_gr (A := x.2.2 ++ [ps_kd x.1 - x.2.1]) (C := ps_fl cs) (i := i)
            rw [hl] at this
            exact this) j (by omega)
          rw [hj, show k + (x.2.2.length + 1 + j) = k + x.2.2.length + 1 + j by omega]
          exact this
theorem ps_wfS {S : Nat → Int} {cs : List ps_C} (h : ps_rel S cs) : sp_wfS S := by
  obtain ⟨h1, h2, h3⟩ := h
  intro k hk
  rw [h1] at hk
  have := ps_wall (stp := sp_stp S) cs 0 h3.2.1 rfl (fun i hi => by rw [Nat.zero_add]; exact h2 i hi) k (by omega)
  rw [Nat.zero_add] at this
  exact this
/-- behind a FAULT -/
def sp_cF (S S' : Nat → Int) (a : Nat) : Prop := S' 23 = 0 ∧ (0 ≤ S' (168 + a) ∧ S' (168 + a) ≤ 99) ∧ (0 ≤ S' (173 + a) ∧ S' (173 + a) ≤ 100) ∧ ∀ i, (i ≠ 23 ∧ i ≠ 168 + a ∧ i ≠ 173 + a ∧ (i < 178 + 140 * a ∨ 318 + 140 * a ≤ i)) → S' i = S i
/-- behind a club that was read -/
def sp_cS (S S' : Nat → Int) (a : Nat) (cs : List ps_C) : Prop := S' 21 = (a : Int) + 1 ∧ S' 24 = (a : Int) ∧ S' 23 = 0 ∧ S' (168 + a) = pt_cm cs ∧ S' (173 + a) = ((ps_fl cs).length : Int) ∧ (∀ i, i < (ps_fl cs).length → S' (178 + 140 * a + i) = (ps_fl cs).getD i 0) ∧ ∀ i, (i ≠ 21 ∧ i ≠ 23 ∧ i ≠ 24 ∧ i ≠ 168 + a ∧ i ≠ 173 + a ∧ (i < 178 + 140 * a ∨ 318 + 140 * a ≤ i)) → S' i = S i
theorem r_ok_sub {S S' : Nat → Int} {B : Int} (hok : r_ok S B) (hlo : ∀ i, i < 168 → i ≠ 21 → i ≠ 23 → i ≠ 24 → S' i = S i) (h21 : 0 ≤ S' 21 ∧ S' 21 ≤ 5) (h23 : 0 ≤ S' 23 ∧ S' 23 ≤ 100) (h24 : -1 ≤ S' 24 ∧ S' 24 ≤ 4) (h168 : ∀ c, c < 5 → 0 ≤ S' (168 + c) ∧ S' (168 + c) ≤ 99) (h173 : ∀ c, c < 5 → 0 ≤ S' (173 + c) ∧ S' (173 + c) ≤ 140) : r_ok S' B := by
  obtain ⟨o0, oG, oH, oD, o19, o20, o21, o22, o23, o24, oK, oV, oP, oM, oS, oY, oHd, oT, oC, oN⟩ := hok
  have e : ∀ i, i < 168 → i ≠ 21 → i ≠ 23 → i ≠ 24 → S' i = S i := hlo
  exact ⟨by rw [e 0 (by omega) (by omega) (by omega) (by omega)]; exact o0, fun m hm => by rw [e (1 + m) (by omega) (by omega) (by omega) (by omega)]; exact oG m hm, fun m hm => by rw [e (7 + m) (by omega) (by omega) (by omega) (by omega)]; exact oH m hm, fun b hb => by rw [e (13 + b) (by omega) (by omega) (by omega) (by omega)]; exact oD b hb, by rw [e 19 (by omega) (by omega) (by omega) (by omega)]; exact o19, by rw [e 20 (by omega) (by omega) (by omega) (by omega)]; exact o20, h21, by rw [e 22 (by omega) (by omega) (by omega) (by omega)]; exact o22, h23, h24, fun m hm => by rw [e (26 + m) (by omega) (by omega) (by omega) (by omega)]; exact oK m hm, fun m hm => by rw [e (32 + m) (by omega) (by omega) (by omega) (by omega)]; exact oV m hm, fun b hb => by rw [e (38 + b) (by omega) (by omega) (by omega) (by omega)]; exact oP b hb, fun b hb => by rw [e (44 + b) (by omega) (by omega) (by omega) (by omega)]; exact oM b hb, fun b hb => by rw [e (50 + b) (by omega) (by omega) (by omega) (by omega)]; exact oS b hb, fun b hb => by rw [e (56 + b) (by omega) (by omega) (by omega) (by omega)]; exact oY b hb, fun h hh => by rw [e (62 + h) (by omega) (by omega) (by omega) (by omega)]; exact oHd h hh, fun i hi => by rw [e (68 + i) (by omega) (by omega) (by omega) (by omega)]; exact oT i hi, h168, h173⟩
theorem sp_cF_ok {S S' : Nat → Int} {B : Int} {a : Nat} (hok : r_ok S B) (ha : a < 5) (h : sp_cF S S' a) : r_ok S' B := by
  obtain ⟨h1, h2, h3, h4⟩ := h
  have hokx := hok
  obtain ⟨o0, oG, oH, oD, o19, o20, o21, o22, o23, o24, oK, oV, oP, oM, oS, oY, oHd, oT, oC, oN⟩ := hokx
  refine r_ok_sub hok (fun i a1 a2 a3 a4 => h4 i (by omega)) (by rw [h4 21 (by omega)]; exact o21) (by omega) (by rw [h4 24 (by omega)]; exact o24) (fun c hc => ?_) (fun c hc => ?_)
  · by_cases e : c = a
    · rw [e]; exact h2
    · rw [h4 (168 + c) (by omega)]; exact oC c hc
  · by_cases e : c = a
    · rw [e]; omega
    · rw [h4 (173 + c) (by omega)]; exact oN c hc
theorem pt_cm_b : ∀ {cs : List ps_C}, (∀ x ∈ cs, ps_clw x) → ∀ {w : Int}, 0 ≤ w ∧ w ≤ 99 → 0 ≤ cs.foldl (fun w x => if x.1 = 3 then x.2.1 else w) w ∧ cs.foldl (fun w x => if x.1 = 3 then x.2.1 else w) w ≤ 99 := by
  intro cs
  induction cs with
  | nil => intro _ w hw; exact hw
  | cons x cs ih =>
    intro h w hw
    refine ih (fun y hy => h y (List.mem_cons_of_mem _ hy)) ?_
    have hx := (h x (List.mem_cons_self ..)).2.1
    show 0 ≤ (if x.1 = 3 then x.2.1 else w) ∧ (if x.1 = 3 then x.2.1 else w) ≤ 99
    split
    · exact hx
    · exact hw
theorem ps_fl_le : ∀ {cs : List ps_C}, (ps_fl cs).length ≤ (ps_codes cs).length + cs.length := by
  intro cs
  induction cs with
  | nil => exact Nat.le_refl _
  | cons x cs ih =>
    have e1 : ps_fl (x :: cs) = (if x.1 = 3 then [] else x.2.2 ++ [ps_kd x.1 - x.2.1]) ++ ps_fl cs := by unfold ps_fl; rw [List.flatMap_cons]
    have e2 : ps_codes (x :: cs) = x.2.2 ++ ps_codes cs := by unfold ps_codes; rw [List.flatMap_cons]
    rw [e1, e2, List.length_append, List.length_append, List.length_cons]
    split
    · rw [List.length_nil]; omega
    · rw [List.length_append, List.length_singleton]; omega
theorem sp_cS_ok {S S' : Nat → Int} {B : Int} {a : Nat} {cs : List ps_C} (hok : r_ok S B) (ha : a < 5) (hw : ps_wf cs) (h : sp_cS S S' a cs) : r_ok S' B ∧ ps_rel S' cs ∧ sp_come S' = pt_cm cs := by
  obtain ⟨h1, h2, h3, h4, h5, h6, h7⟩ := h
  have hokx := hok
  obtain ⟨o0, oG, oH, oD, o19, o20, o21, o22, o23, o24, oK, oV, oP, oM, oS, oY, oHd, oT, oC, oN⟩ := hokx
  have hcm : 0 ≤ pt_cm cs ∧ pt_cm cs ≤ 99 := pt_cm_b hw.2.1 (by decide)
  have hfl := ps_fl_le (cs := cs)
  have hw1 := hw.1
  have hw3 := hw.2.2
  refine ⟨r_ok_sub hok (fun i a1 a2 a3 a4 => h7 i (by omega)) (by omega) (by omega) (by omega) (fun c hc => ?_) (fun c hc => ?_), ⟨?_, fun k hk => ?_, hw⟩, ?_⟩
  · by_cases e : c = a
    · rw [e, h4]; exact hcm
    · rw [h7 (168 + c) (by omega)]; exact oC c hc
  · by_cases e : c = a
    · rw [e, h5]; omega
    · rw [h7 (173 + c) (by omega)]; exact oN c hc
  · unfold sp_many
    rw [if_neg (by omega), h2, show (173 + (a : Int)).toNat = 173 + a by omega]; exact h5
  · unfold sp_stp
    rw [h2, show (178 + 140 * (a : Int) + (k : Int)).toNat = 178 + 140 * a + k by omega]; exact h6 k hk
  · unfold sp_come
    rw [if_neg (by omega), h2, show (168 + (a : Int)).toNat = 168 + a by omega]; exact h4
/-- the text of a state -/
def sp_tx (S : Nat → Int) : Nat → Int := fun i => if i < (S 23).toNat then S (68 + i) else -1
theorem sp_tx_ok {S : Nat → Int} {B : Int} (hok : r_ok S B) : (∀ i, i < (S 23).toNat → S (68 + i) = sp_tx S i) ∧ (∀ i, (S 23).toNat ≤ i → sp_tx S i = -1) ∧ ∀ i, -1 ≤ sp_tx S i ∧ sp_tx S i ≤ 127 := by
  obtain ⟨o0, oG, oH, oD, o19, o20, o21, o22, o23, o24, oK, oV, oP, oM, oS, oY, oHd, oT, oC, oN⟩ := hok
  refine ⟨fun i hi => (if_pos hi).symm, fun i hi => if_neg (by omega), fun i => ?_⟩
  unfold sp_tx
  by_cases e : i < (S 23).toNat
  · rw [if_pos e]; have := oT i (by omega); omega
  · rw [if_neg e]; omega
