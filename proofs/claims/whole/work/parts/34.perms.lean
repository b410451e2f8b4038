/-! CHOICES AS FUNCTIONS OF LISTS; ALL ROWS OF THE OPEN BOOKS -/
theorem am_cnt_ex {p : Nat → Bool} : ∀ n, ¬ am_cnt p n = 0 → ∃ x, x < n ∧ p x = true := by
  intro n
  induction n with
  | zero => intro h; exact absurd rfl h
  | succ n ih =>
    intro h
    by_cases e : p n = true
    · exact ⟨n, by omega, e⟩
    · have h2 : ¬ am_cnt p n = 0 := by
        intro h3
        apply h
        show am_cnt p n + (if p n then 1 else 0) = 0
        rw [if_neg e, h3]
        rfl
      obtain ⟨x, h1, h3⟩ := ih h2
      exact ⟨x, by omega, h3⟩
theorem sp_mbk_pos {S c : Nat → Int} {but : Int} : ∀ b, (∀ j, j < b → 0 ≤ c j) → ((sp_mbk S c but b).1 = -1 ∧ (sp_mbk S c but b).2 = -1 ∧ ∀ x : Nat, x < b → S (13 + x) = 0 → (x : Int) = but) ∨ 0 ≤ (sp_mbk S c but b).1 := by
  intro b
  induction b with
  | zero => intro _; exact Or.inl ⟨rfl, rfl, fun x hx => by omega⟩
  | succ b ih =>
    intro h
    have h2 := h b (by omega)
    unfold sp_mbk
    by_cases e : S (13 + b) = 0 ∧ ¬ (b : Int) = but ∧ (sp_mbk S c but b).2 < c b
    · rw [if_pos e]
      right
      show 0 ≤ (b : Int)
      omega
    · rw [if_neg e]
      rcases ih (fun j hj => h j (by omega)) with ⟨h3, h4, h5⟩ | h3
      · left
        refine ⟨h3, h4, ?_⟩
        intro x hx ho
        by_cases ex : x = b
        · subst ex
          by_cases ey : (x : Int) = but
          · exact ey
          · exact absurd ⟨ho, ey, by omega⟩ e
        · exact h5 x (by omega) ho
      · exact Or.inr h3
theorem sp_ops_ex {S : Nat → Int} (h : ¬ sp_ops S = 0) : ∃ x : Nat, x < (S 20).toNat ∧ S (13 + x) = 0 := by
  obtain ⟨x, h1, h2⟩ := am_cnt_ex _ h
  exact ⟨x, h1, of_decide_eq_true h2⟩
theorem sp_most_pos {S V Z : Nat → Int} {way : Int} (hvo : r_vo S V Z) (h : ¬ sp_ops S = 0) : 0 ≤ sp_most S V Z way (-1) := by
  obtain ⟨x, h1, h2⟩ := sp_ops_ex h
  rcases sp_mbk_pos (S := S) (c := fun b => sp_cof V Z b way (S 19).toNat) (but := -1) (S 20).toNat (fun j _ => (sp_cof_b (S 19).toNat (fun j hj => (hvo j hj).1)).1) with ⟨_, _, h3⟩ | h3
  · have := h3 x h1 h2
    omega
  · exact h3
/-- voices of open books -/
def r_vl (S : Nat → Int) (VL : Nat → List Nat) : Prop := ∀ m, m < (S 19).toNat → (VL m).length ≤ 6 ∧ ∀ x ∈ VL m, x < (S 20).toNat
theorem r_vl_vo {S V Z : Nat → Int} {VL : Nat → List Nat} {B : Int} (hok : r_ok S B) (hl : r_vl S VL) (h : r_rep (S 19).toNat V Z VL) : r_vo S V Z := by
  obtain ⟨o0, oG, oH, oD, o19, o20, o21, o22, o23, o24, oK, oV, oP, oM, oS, oY, oHd, oT, oC, oN⟩ := hok
  intro m hm
  obtain ⟨h1, h2⟩ := h m hm
  obtain ⟨h3, h4⟩ := hl m hm
  refine ⟨by omega, ?_⟩
  intro k hk
  rw [h2 k (VL m)[k] (List.getElem?_eq_getElem (by omega))]
  have := h4 (VL m)[k] (List.getElem_mem _)
  omega
theorem sp_vl_vl {S : Nat → Int} {t B : Int} (hok : r_ok S B) : r_vl S (sp_vl S t) := by
  intro m hm
  have h1 := sp_ops_b hok
  have h2 := sp_vl_len (S := S) (t := t) (m := m)
  exact ⟨by omega, fun x hx => (sp_vl_mem hx).1⟩
theorem sp_turnf_b {S : Nat → Int} {VL : Nat → List Nat} {B : Int} (hok : r_ok S B) (hl : r_vl S VL) (ho : ¬ sp_ops S = 0) : ∀ k m pl, k + m ≤ (S 19).toNat → 0 ≤ sp_turnf S (sp_Vr VL) (sp_Zr VL) (fun i => sp_hd S (i / 6)) k m pl ∧ sp_turnf S (sp_Vr VL) (sp_Zr VL) (fun i => sp_hd S (i / 6)) k m pl < S 20 := by
  have hrep := sp_rep_cn (n := (S 19).toNat) (VL := VL) (fun m hm => (hl m hm).1)
  have hvo := r_vl_vo hok hl hrep
  intro k
  induction k with
  | zero => intro m pl _; exact ⟨sp_most_pos hvo ho, (sp_most_b hok hvo).2⟩
  | succ k ih =>
    intro m pl hk
    unfold sp_turnf
    split
    · split
      · split
        · rename_i hz
          have hz : 0 < ((VL m).length : Int) := hz
          have h1 := (hrep m (by omega)).2 0 (VL m)[0] (List.getElem?_eq_getElem (by omega))
          rw [Nat.add_zero] at h1
          rw [h1]
          have := (hl m (by omega)).2 (VL m)[0] (List.getElem_mem _)
          obtain ⟨o0, oG, oH, oD, o19, o20, o21, o22, o23, o24, oK, oV, oP, oM, oS, oY, oHd, oT, oC, oN⟩ := hok
          omega
        · show 0 ≤ sp_hd S (6 * m / 6) ∧ sp_hd S (6 * m / 6) < S 20
          rw [show 6 * m / 6 = m by omega]
          unfold sp_hd
          have hne : (sp_ord S m).length ≠ 0 := by
            have := sp_ord_len (S := S) (m := m)
            omega
          cases hL : sp_ord S m with
          | nil => rw [hL] at hne; exact absurd rfl hne
          | cons a r =>
            have : a ∈ sp_ord S m := by rw [hL]; exact List.mem_cons_self
            have := (sp_ord_mem.mp this).1
            show 0 ≤ (a : Int) ∧ (a : Int) < S 20
            omega
      · exact ih _ _ (by omega)
    · exact ih _ _ (by omega)
theorem sp_pairf_b {S V Z : Nat → Int} {B : Int} (hok : r_ok S B) (hvo : r_vo S V Z) (ho : ¬ sp_ops S = 0) : ∀ k a, k + a ≤ (S 20).toNat → 0 ≤ sp_pairf S V Z k a ∧ sp_pairf S V Z k a < S 20 := by
  intro k
  induction k with
  | zero => intro a _; exact ⟨sp_most_pos hvo ho, (sp_most_b hok hvo).2⟩
  | succ k ih =>
    intro a hk
    unfold sp_pairf
    split
    · exact ih _ (by omega)
    · omega
theorem sp_cho_b {S : Nat → Int} {VL : Nat → List Nat} {B way : Int} (hok : r_ok S B) (hl : r_vl S VL) (ho : ¬ sp_ops S = 0) : 0 ≤ sp_cho S VL way ∧ sp_cho S VL way < S 20 := by
  have hrep := sp_rep_cn (n := (S 19).toNat) (VL := VL) (fun m hm => (hl m hm).1)
  have hvo := r_vl_vo hok hl hrep
  unfold sp_cho sp_choose
  rw [if_neg ho]
  split
  · unfold sp_rounds
    have h1 := sp_most_pos (way := 2) hvo ho
    have h2 := sp_most_b (way := 2) (but := -1) hok hvo
    have h3 := sp_most_b (way := 2) (but := sp_most S (sp_Vr VL) (sp_Zr VL) 2 (-1)) hok hvo
    split
    · omega
    · split <;> omega
  · split
    · exact sp_pairf_b hok hvo ho _ _ (by omega)
    · split
      · exact sp_turnf_b hok hl ho _ _ _ (by omega)
      · exact ⟨sp_most_pos hvo ho, (sp_most_b hok hvo).2⟩
/-! bits of a set of books -/
theorem am_bitk_of (p : Nat → Bool) : ∀ b, b < 6 → am_bitk (am_bits p 6) b = if p b then 1 else 0 := by
  intro b hb
  have h : b = 0 ∨ b = 1 ∨ b = 2 ∨ b = 3 ∨ b = 4 ∨ b = 5 := by omega
  simp only [am_bits]
  rcases h with rfl | rfl | rfl | rfl | rfl | rfl <;>
  · generalize p 0 = a; generalize p 1 = b; generalize p 2 = c; generalize p 3 = d; generalize p 4 = e; generalize p 5 = f
    revert a b c d e f
    decide +kernel
theorem am_bits_set (p : Nat → Bool) : ∀ b : Nat, b < 6 → (Int32.ofInt (am_bits p 6) ||| Int32.ofInt ((Int32.ofInt 1 <<< (Int32.ofInt (b : Int) &&& 31)).toInt)).toInt = am_bits (fun x => p x || x == b) 6 := by
  intro b hb
  have h : b = 0 ∨ b = 1 ∨ b = 2 ∨ b = 3 ∨ b = 4 ∨ b = 5 := by omega
  simp only [am_bits]
  rcases h with rfl | rfl | rfl | rfl | rfl | rfl <;>
  · generalize p 0 = a; generalize p 1 = b; generalize p 2 = c; generalize p 3 = d; generalize p 4 = e; generalize p 5 = f
    revert a b c d e f
    decide +kernel
theorem am_bits_cg {p q : Nat → Bool} : ∀ n, (∀ x, x < n → p x = q x) → am_bits p n = am_bits q n := by
  intro n
  induction n with
  | zero => intro _; rfl
  | succ n ih =>
    intro h
    unfold am_bits
    rw [ih (fun x hx => h x (by omega)), h n (by omega)]
/-! rows -/
/-- the open books that a row doesn't have yet, of the first n -/
def sp_lfk (S : Nat → Int) (p : List Nat) (n : Nat) : List Nat := (sp_obk S n).filter (fun x => !(p.contains x))
def sp_lft (S : Nat → Int) (p : List Nat) : List Nat := sp_lfk S p (S 20).toNat
/-- all rows that go on from p with n more -/
def sp_pl2 (S : Nat → Int) : Nat → List Nat → List (List Nat)
  | 0, p => [p]
  | n + 1, p => (sp_lft S p).flatMap (fun b => sp_pl2 S n (p ++ [b]))
theorem sp_obk_mem {S : Nat → Int} {x : Nat} : ∀ n, x ∈ sp_obk S n ↔ x < n ∧ S (13 + x) = 0 := by
  intro n
  induction n with
  | zero => simp [sp_obk]
  | succ n ih =>
    unfold sp_obk
    split
    · rename_i h
      rw [List.mem_append, ih, List.mem_singleton]
      constructor
      · rintro (e | e)
        · exact ⟨by omega, e.2⟩
        · subst e; exact ⟨by omega, h⟩
      · intro e
        by_cases e2 : x = n
        · exact Or.inr e2
        · exact Or.inl ⟨by omega, e.2⟩
    · rename_i h
      rw [ih]
      constructor
      · intro e; exact ⟨by omega, e.2⟩
      · intro e
        by_cases e2 : x = n
        · subst e2; exact absurd e.2 h
        · exact ⟨by omega, e.2⟩
theorem sp_obk_len {S : Nat → Int} : ∀ n, ((sp_obk S n).length : Int) = am_cnt (fun b => decide (S (13 + b) = 0)) n := by
  intro n
  induction n with
  | zero => rfl
  | succ n ih =>
    unfold sp_obk am_cnt
    by_cases h : S (13 + n) = 0
    · rw [if_pos h, List.length_append, List.length_singleton, ← ih]
      simp [h]
    · rw [if_neg h, ← ih]
      simp [h]
theorem sp_obk_pw {S : Nat → Int} : ∀ n, (sp_obk S n).Pairwise (· < ·) := by
  intro n
  induction n with
  | zero => exact List.Pairwise.nil
  | succ n ih =>
    unfold sp_obk
    split
    · rw [List.pairwise_append]
      refine ⟨ih, List.pairwise_singleton _ _, ?_⟩
      intro a ha b hb
      have := ((sp_obk_mem n).mp ha).1
      have : b = n := by simpa using hb
      omega
    · exact ih
theorem sp_lfk_s1 {S : Nat → Int} {p : List Nat} {b : Nat} (h : S (13 + b) = 0) (hp : ¬ b ∈ p) : sp_lfk S p (b + 1) = sp_lfk S p b ++ [b] := by
  unfold sp_lfk
  rw [show sp_obk S (b + 1) = sp_obk S b ++ [b] from if_pos h, List.filter_append]
  congr 1
  simp [hp]
theorem sp_lfk_s0 {S : Nat → Int} {p : List Nat} {b : Nat} (h : ¬ S (13 + b) = 0 ∨ b ∈ p) : sp_lfk S p (b + 1) = sp_lfk S p b := by
  unfold sp_lfk
  by_cases e : S (13 + b) = 0
  · rw [show sp_obk S (b + 1) = sp_obk S b ++ [b] from if_pos e, List.filter_append]
    have hp : b ∈ p := by
      rcases h with h | h
      · exact absurd e h
      · exact h
    simp [hp]
  · rw [show sp_obk S (b + 1) = sp_obk S b from if_neg e]
/-- a row tried: who could change it, what is gained -/
def sp_t1 (f : List Nat → Int) (lk : Int → Int) (is : Int) (s : Int × Int) (p : List Nat) : Int × Int :=
  if s.2 = -5 then ((if s.1 = 0 ∧ f p = is then 0 else 1), (if lk is < lk (f p) then f p else -5)) else s
theorem sp_t1_stop {f : List Nat → Int} {lk : Int → Int} {is : Int} : ∀ {l : List (List Nat)} {s : Int × Int}, ¬ s.2 = -5 → l.foldl (sp_t1 f lk is) s = s := by
  intro l
  induction l with
  | nil => intro s _; rfl
  | cons p l ih =>
    intro s hs
    rw [List.foldl_cons, show sp_t1 f lk is s p = s from if_neg hs]
    exact ih hs
def sp_set (VL : Nat → List Nat) (m : Nat) (p : List Nat) : Nat → List Nat := fun j => if j = m then p else VL j
