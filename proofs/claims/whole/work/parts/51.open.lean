/-! THE CLASS: open books, orders -/
theorem sp_obk_s1 {S : Nat → Int} {b : Nat} (h : S (13 + b) = 0) : sp_obk S (b + 1) = sp_obk S b ++ [b] := if_pos h
theorem sp_obk_s0 {S : Nat → Int} {b : Nat} (h : ¬ S (13 + b) = 0) : sp_obk S (b + 1) = sp_obk S b := if_neg h
theorem sp_obk_le {S : Nat → Int} : ∀ n, (sp_obk S n).length ≤ n := by
  intro n
  induction n with
  | zero => exact Nat.le_refl _
  | succ n ih =>
    unfold sp_obk
    split
    · rw [List.length_append, List.length_singleton]; omega
    · omega
/-- sorted by insertion -/
def sp_isrt (l : Nat → Int) (L : List Nat) : List Nat := L.foldl (fun r b => sp_ins l b r) []
theorem sp_isrt_s {l : Nat → Int} {L : List Nat} {b : Nat} : sp_isrt l (L ++ [b]) = sp_ins l b (sp_isrt l L) := by
  unfold sp_isrt
  rw [List.foldl_append]
  rfl
theorem sp_isrt_ord {S l : Nat → Int} : ∀ n, sp_srtk S l n = sp_isrt l (sp_obk S n) := by
  intro n
  induction n with
  | zero => rfl
  | succ n ih =>
    unfold sp_srtk sp_obk
    split
    · rw [ih, sp_isrt_s]
    · exact ih
theorem am_getD {L : List Nat} {j : Nat} (h : j < L.length) : L.getD j 0 = L[j] := by
  rw [List.getD_eq_getElem?_getD, List.getElem?_eq_getElem h]
  rfl
theorem sp_isrt_len {l : Nat → Int} : ∀ L : List Nat, (sp_isrt l L).length = L.length := by
  refine am_rev rfl ?_
  intro p b ih
  rw [sp_isrt_s, sp_ins_len, ih, List.length_append, List.length_singleton]
theorem sp_isrt_mem {l : Nat → Int} {x : Nat} : ∀ L : List Nat, x ∈ sp_isrt l L ↔ x ∈ L := by
  refine am_rev Iff.rfl ?_
  intro p b ih
  rw [sp_isrt_s, sp_ins_mem, ih, List.mem_append, List.mem_singleton]
  constructor
  · rintro (h | h)
    · exact Or.inr h
    · exact Or.inl h
  · rintro (h | h)
    · exact Or.inr h
    · exact Or.inl h
theorem sp_ins_at {l : Nat → Int} {b : Nat} : ∀ {A B : List Nat}, (∀ x ∈ A, l b ≤ l x) → (∀ x ∈ B, l x < l b) → sp_ins l b (A ++ B) = A ++ b :: B := by
  intro A
  induction A with
  | nil =>
    intro B _ hB
    cases B with
    | nil => rfl
    | cons c B => exact if_pos (hB c List.mem_cons_self)
  | cons c A ih =>
    intro B hA hB
    have := hA c List.mem_cons_self
    show (if l c < l b then b :: c :: (A ++ B) else c :: sp_ins l b (A ++ B)) = _
    rw [if_neg (by omega), ih (fun x hx => hA x (List.mem_cons_of_mem _ hx)) hB]
    rfl
theorem sp_ins_pw2 {l : Nat → Int} {b : Nat} : ∀ {r : List Nat}, r.Pairwise (fun x y => l y ≤ l x) → (sp_ins l b r).Pairwise (fun x y => l y ≤ l x) := by
  intro r
  induction r with
  | nil => intro _; exact List.pairwise_singleton _ _
  | cons c r ih =>
    intro h
    obtain ⟨h1, h2⟩ := List.pairwise_cons.mp h
    unfold sp_ins
    split
    · rename_i e
      refine List.pairwise_cons.mpr ⟨?_, h⟩
      intro x hx
      rcases List.mem_cons.mp hx with rfl | hx
      · omega
      · have := h1 x hx; omega
    · rename_i e
      refine List.pairwise_cons.mpr ⟨?_, ih h2⟩
      intro x hx
      rcases sp_ins_mem.mp hx with rfl | hx
      · omega
      · exact h1 x hx
theorem sp_isrt_pw {l : Nat → Int} : ∀ L : List Nat, (sp_isrt l L).Pairwise (fun x y => l y ≤ l x) := by
  refine am_rev List.Pairwise.nil ?_
  intro p b ih
  rw [sp_isrt_s]
  exact sp_ins_pw2 ih
theorem sp_ins_k {l : Nat → Int} {b k : Nat} {T : List Nat} (hpw : T.Pairwise (fun x y => l y ≤ l x)) (hk : k ≤ T.length) (h1 : k = 0 ∨ l b ≤ l (T.getD (k - 1) 0)) (h2 : ∀ j, k ≤ j → j < T.length → l (T.getD j 0) < l b) : sp_ins l b T = T.take k ++ b :: T.drop k := by
  have e := List.take_append_drop k T
  rw (occs := [1]) [← e]
  refine sp_ins_at ?_ ?_
  · intro x hx
    obtain ⟨j, hj, hx⟩ := List.mem_iff_getElem.mp hx
    rw [List.length_take] at hj
    rw [List.getElem_take] at hx
    rcases h1 with h1 | h1
    · omega
    · rw [am_getD (by omega)] at h1
      by_cases e2 : j = k - 1
      · subst e2; rw [← hx]; exact h1
      · have := List.pairwise_iff_getElem.mp hpw j (k - 1) (by omega) (by omega) (by omega)
        rw [hx] at this
        omega
  · intro x hx
    obtain ⟨j, hj, hx⟩ := List.mem_iff_getElem.mp hx
    rw [List.length_drop] at hj
    rw [List.getElem_drop] at hx
    have := h2 (k + j) (by omega) (by omega)
    rw [am_getD (by omega), hx] at this
    exact this
/-- the row behind an insertion -/
theorem am_rowl_ins {R : Nat → Int} {T : List Nat} {b k : Nat} (hk : k ≤ T.length) (h1 : ∀ j, j < k → R j = (T.getD j 0 : Int)) (h2 : ∀ j, k ≤ j → j < T.length → R (j + 1) = (T.getD j 0 : Int)) (hb : R k = (b : Int)) : am_rowl R 0 (T.take k ++ b :: T.drop k) := by
  intro j c hj
  rw [Nat.zero_add]
  rw [List.getElem?_append] at hj
  rw [List.length_take, Nat.min_eq_left hk] at hj
  split at hj
  · rename_i h
    rw [List.getElem?_take_of_lt h] at hj
    rw [h1 j h, List.getD_eq_getElem?_getD, hj]
    rfl
  · rename_i h
    by_cases e : j = k
    · subst e
      rw [Nat.sub_self, List.getElem?_cons_zero] at hj
      rw [hb]
      injection hj with hj
      rw [hj]
    · obtain ⟨i, hi⟩ : ∃ i, j - k = i + 1 := ⟨j - k - 1, by omega⟩
      rw [hi, List.getElem?_cons_succ, List.getElem?_drop] at hj
      have hl := am_get_lt hj
      have := h2 (k + i) (by omega) hl
      rw [List.getD_eq_getElem?_getD, hj] at this
      rw [show j = k + i + 1 by omega, this]
      rfl
theorem am_rowl_d {R : Nat → Int} {L : List Nat} (h : am_rowl R 0 L) {j : Nat} (hj : j < L.length) : R j = (L.getD j 0 : Int) := by
  have := h j _ (List.getElem?_eq_getElem hj)
  rw [Nat.zero_add] at this
  rw [this, am_getD hj]
def uO : Nat → Nat → Bool := fun c i => Nat.beq c 72 || (Nat.beq c 71 && (Nat.beq i 3))
theorem c_listOpen_2_l {X : Nat × (Nat → Int)} {D : List (Nat × Nat)} {I J : Nat → Nat → Int} {ρ : Nat → Nat → Option Nat} (d : Nat) {S : Nat → Int} {B : Int} (hok : r_ok S B) (h71 : ρ 71 1 = some 2) (h14 : I 1 4 = S 20) (hhd : I 2 2 = am_bits (sp_dp S) 6) {b : Nat} (hb : (b : Int) ≤ S 20) (hcnt : I 71 3 = ((sp_obk S b).length : Int)) (hrow : am_rowl (I 72) 0 (sp_obk S b)) : am_E X (d + 1) 67 7 [(1, .inl (b : Int)), (0, .inr (.inr (.inl (some 71))))] [] (am_mm D I J ρ) (fun q => ∃ Q, q = (none, am_mm D (am_wp uO I Q) J ρ) ∧ Q 71 3 = sp_ops S ∧ am_rowl (Q 72) 0 (sp_ob S)) := by
  have h20 := (r_ok_19 hok).2
  have hle := sp_obk_le (S := S) b
  refine am_e_ss 4 (q := (15, [(1, .inl (b : Int)), (0, .inr (.inr (.inl (some 71))))], [.inl ((I 1 4)), .inl (b : Int)], (am_mm D I J ρ))) rfl ?_
  refine am_e_icmp2 rfl ⟨by omega, by omega⟩ ⟨by omega, by omega⟩ (fun (h1 : (I 1 4) ≤ (b : Int)) => ?_) (fun (h1 : ¬ ((I 1 4) ≤ (b : Int))) => ?_)
  · show am_E _ _ _ 55 [(1, .inl (b : Int)), (0, .inr (.inr (.inl (some 71))))] [] (am_mm D I J ρ) _
    refine am_e_return rfl rfl ?_
    have eb : b = (S 20).toNat := by omega
    subst eb
    exact ⟨I, am_r_wp uO am_k_id, hcnt.trans (sp_obk_len _), hrow⟩
  · show am_E _ _ _ 18 [(1, .inl (b : Int)), (0, .inr (.inr (.inl (some 71))))] [] (am_mm D I J ρ) _
    refine am_e_ss 1 (q := (19, [(1, .inl (b : Int)), (0, .inr (.inr (.inl (some 71))))], [.inr (.inr (.inl (some 71)))], (am_mm D I J ρ))) rfl ?_
    refine am_e_getR (c := 10) (m := 14) (f := 1) (w := 2) rfl rfl rfl (by decide) (by decide) rfl rfl h71 ?_
    show am_E _ _ _ 22 [(1, .inl (b : Int)), (0, .inr (.inr (.inl (some 71))))] [.inr (.inr (.inl (some 2)))] (am_mm D I J ρ) _
    refine am_e_ss 1 (q := (23, [(1, .inl (b : Int)), (0, .inr (.inr (.inl (some 71))))], [.inl (b : Int), .inr (.inr (.inl (some 2)))], (am_mm D I J ρ))) rfl ?_
    refine am_e_virtual (Q := fun r => r = (some (.inl ((am_bi (sp_dp S b = true)))), (am_mm D I J ρ))) rfl rfl (Nat.le_of_ble_eq_true rfl) rfl rfl (Nat.le_of_ble_eq_true rfl) (Nat.le_of_ble_eq_true rfl) (c_isHad_2 _ (p := sp_dp S) hhd (by omega)) ?_
    rintro r rfl
    show am_E _ _ _ 26 [(1, .inl (b : Int)), (0, .inr (.inr (.inl (some 71))))] [.inl ((am_bi (sp_dp S b = true)))] (am_mm D I J ρ) _
    refine am_e_ifne rfl (fun h2 => ?_) (fun h2 => ?_)
    · show am_E _ _ _ 49 [(1, .inl (b : Int)), (0, .inr (.inr (.inl (some 71))))] [] (am_mm D I J ρ) _
      refine am_e_ss 2 (q := (7, [(1, .inl ((b : Int) + 1)), (0, .inr (.inr (.inl (some 71))))], [], (am_mm D I J ρ))) rfl ?_
      have ho : ¬ S (13 + b) = 0 := (sp_dp_t.mp (by assumption)).2
      rw [← sp_obk_s0 ho] at hcnt hrow
      refine (am_less (lv := [(1, .inl ((b + 1) : Int)), (0, .inr (.inr (.inl (some 71))))]) rfl (List.forall_mem_cons.mpr ⟨rfl, List.forall_mem_cons.mpr ⟨rfl, List.forall_mem_nil _⟩⟩) (c_listOpen_2_l (I := I) d (b := b + 1) hok h71 h14 hhd (by omega) hcnt hrow)).imp ?_
      rintro q ⟨Q9, rfl, h9⟩
      exact ⟨_, am_r_wp uO (am_k_wp am_k_sub (am_k_id)), h9⟩
    · show am_E _ _ _ 29 [(1, .inl (b : Int)), (0, .inr (.inr (.inl (some 71))))] [] (am_mm D I J ρ) _
      refine am_e_ss 5 (q := (38, [(1, .inl (b : Int)), (0, .inr (.inr (.inl (some 71))))], [.inl (b : Int), .inl ((I 71 3)), .inr (.inr (.inl (some 72)))], (am_mm D I J ρ))) rfl ?_
      refine am_e_iastore (m := 6) rfl rfl (by omega) (by omega) (by omega) ?_
      show am_E _ _ _ 39 [(1, .inl (b : Int)), (0, .inr (.inr (.inl (some 71))))] [] (am_mm D (am_up I 72 ((I 71 3)).toNat (b : Int)) J ρ) _
      refine am_e_ss 8 (q := (7, [(1, .inl ((b : Int) + 1)), (0, .inr (.inr (.inl (some 71))))], [], (am_mm D (am_up (am_up I 72 ((I 71 3)).toNat (b : Int)) 71 3 ((I 71 3) + 1)) J ρ))) rfl ?_
      have ho : S (13 + b) = 0 := by
        by_cases e : S (13 + b) = 0
        · exact e
        · exact absurd (sp_dp_t.mpr ⟨by omega, e⟩) (by assumption)
      have e3 : (am_up (am_up I 72 ((I 71 3)).toNat (b : Int)) 71 3 ((I 71 3) + 1)) 71 3 = ((sp_obk S (b + 1)).length : Int) := by
        rw [sp_obk_s1 ho, List.length_append, List.length_singleton]
        refine am_up_at2.trans ?_
        omega
      have e4 : am_rowl ((am_up (am_up I 72 ((I 71 3)).toNat (b : Int)) 71 3 ((I 71 3) + 1)) 72) 0 (sp_obk S (b + 1)) := by
        rw [sp_obk_s1 ho]
        refine am_rowl_snoc (am_rowl_cg hrow (fun i hi => (am_up_ne2 (by omega)).trans (am_up_ne2 (by omega)))) ?_
        rw [show 0 + (sp_obk S b).length = (I 71 3).toNat by omega]
        exact (am_up_ne2 (by omega)).trans am_up_at2
      refine (am_less (lv := [(1, .inl ((b + 1) : Int)), (0, .inr (.inr (.inl (some 71))))]) rfl (List.forall_mem_cons.mpr ⟨rfl, List.forall_mem_cons.mpr ⟨rfl, List.forall_mem_nil _⟩⟩) (c_listOpen_2_l (I := am_up (am_up I 72 ((I 71 3)).toNat (b : Int)) 71 3 ((I 71 3) + 1)) d (b := b + 1) hok h71 h14 hhd (by omega) e3 e4)).imp ?_
      rintro q ⟨Q9, rfl, h9⟩
      exact ⟨_, am_r_wp uO (am_k_wp am_k_sub (am_k_up rfl (am_k_up rfl (am_k_id)))), h9⟩
termination_by 7 - b
decreasing_by all_goals omega
theorem c_listOpen_2 {X : Nat × (Nat → Int)} {D : List (Nat × Nat)} {I J : Nat → Nat → Int} {ρ : Nat → Nat → Option Nat} (d : Nat) {S : Nat → Int} {B : Int} (hok : r_ok S B) (h71 : ρ 71 1 = some 2) (h14 : I 1 4 = S 20) (hhd : I 2 2 = am_bits (sp_dp S) 6)  : am_E X (d + 1) 67 0 [(0, .inr (.inr (.inl (some 71))))] [] (am_mm D I J ρ) (fun q => ∃ Q, q = (none, am_mm D (am_wp uO I Q) J ρ) ∧ Q 71 3 = sp_ops S ∧ am_rowl (Q 72) 0 (sp_ob S)) := by
  refine am_e_ss 5 (q := (7, [(1, .inl 0), (0, .inr (.inr (.inl (some 71))))], [], (am_mm D (am_up I 71 3 0) J ρ))) rfl ?_
  refine (am_less (lv := [(1, .inl (0 : Int)), (0, .inr (.inr (.inl (some 71))))]) rfl (List.forall_mem_cons.mpr ⟨rfl, List.forall_mem_cons.mpr ⟨rfl, List.forall_mem_nil _⟩⟩) (c_listOpen_2_l (I := am_up I 71 3 0) d (b := 0) hok h71 h14 hhd (by have := (r_ok_19 hok).2; omega) rfl am_rowl_nil)).imp ?_
  rintro q ⟨Q9, rfl, h9⟩
  exact ⟨_, am_r_wp uO (am_k_wp am_k_sub (am_k_up rfl (am_k_id))), h9⟩
theorem c_listOpen_69_l {X : Nat × (Nat → Int)} {D : List (Nat × Nat)} {I J : Nat → Nat → Int} {ρ : Nat → Nat → Option Nat} (d : Nat) {S : Nat → Int} {B : Int} (hok : r_ok S B) (h71 : ρ 71 1 = some 69) (h14 : I 1 4 = S 20) (hhd : I 69 2 = am_bits (sp_dp S) 6) {b : Nat} (hb : (b : Int) ≤ S 20) (hcnt : I 71 3 = ((sp_obk S b).length : Int)) (hrow : am_rowl (I 72) 0 (sp_obk S b)) : am_E X (d + 1) 67 7 [(1, .inl (b : Int)), (0, .inr (.inr (.inl (some 71))))] [] (am_mm D I J ρ) (fun q => ∃ Q, q = (none, am_mm D (am_wp uO I Q) J ρ) ∧ Q 71 3 = sp_ops S ∧ am_rowl (Q 72) 0 (sp_ob S)) := by
  have h20 := (r_ok_19 hok).2
  have hle := sp_obk_le (S := S) b
  refine am_e_ss 4 (q := (15, [(1, .inl (b : Int)), (0, .inr (.inr (.inl (some 71))))], [.inl ((I 1 4)), .inl (b : Int)], (am_mm D I J ρ))) rfl ?_
  refine am_e_icmp2 rfl ⟨by omega, by omega⟩ ⟨by omega, by omega⟩ (fun (h1 : (I 1 4) ≤ (b : Int)) => ?_) (fun (h1 : ¬ ((I 1 4) ≤ (b : Int))) => ?_)
  · show am_E _ _ _ 55 [(1, .inl (b : Int)), (0, .inr (.inr (.inl (some 71))))] [] (am_mm D I J ρ) _
    refine am_e_return rfl rfl ?_
    have eb : b = (S 20).toNat := by omega
    subst eb
    exact ⟨I, am_r_wp uO am_k_id, hcnt.trans (sp_obk_len _), hrow⟩
  · show am_E _ _ _ 18 [(1, .inl (b : Int)), (0, .inr (.inr (.inl (some 71))))] [] (am_mm D I J ρ) _
    refine am_e_ss 1 (q := (19, [(1, .inl (b : Int)), (0, .inr (.inr (.inl (some 71))))], [.inr (.inr (.inl (some 71)))], (am_mm D I J ρ))) rfl ?_
    refine am_e_getR (c := 10) (m := 14) (f := 1) (w := 69) rfl rfl rfl (by decide) (by decide) rfl rfl h71 ?_
    show am_E _ _ _ 22 [(1, .inl (b : Int)), (0, .inr (.inr (.inl (some 71))))] [.inr (.inr (.inl (some 69)))] (am_mm D I J ρ) _
    refine am_e_ss 1 (q := (23, [(1, .inl (b : Int)), (0, .inr (.inr (.inl (some 71))))], [.inl (b : Int), .inr (.inr (.inl (some 69)))], (am_mm D I J ρ))) rfl ?_
    refine am_e_virtual (Q := fun r => r = (some (.inl ((am_bi (sp_dp S b = true)))), (am_mm D I J ρ))) rfl rfl (Nat.le_of_ble_eq_true rfl) rfl rfl (Nat.le_of_ble_eq_true rfl) (Nat.le_of_ble_eq_true rfl) (c_isHad_69 _ (p := sp_dp S) hhd (by omega)) ?_
    rintro r rfl
    show am_E _ _ _ 26 [(1, .inl (b : Int)), (0, .inr (.inr (.inl (some 71))))] [.inl ((am_bi (sp_dp S b = true)))] (am_mm D I J ρ) _
    refine am_e_ifne rfl (fun h2 => ?_) (fun h2 => ?_)
    · show am_E _ _ _ 49 [(1, .inl (b : Int)), (0, .inr (.inr (.inl (some 71))))] [] (am_mm D I J ρ) _
      refine am_e_ss 2 (q := (7, [(1, .inl ((b : Int) + 1)), (0, .inr (.inr (.inl (some 71))))], [], (am_mm D I J ρ))) rfl ?_
      have ho : ¬ S (13 + b) = 0 := (sp_dp_t.mp (by assumption)).2
      rw [← sp_obk_s0 ho] at hcnt hrow
      refine (am_less (lv := [(1, .inl ((b + 1) : Int)), (0, .inr (.inr (.inl (some 71))))]) rfl (List.forall_mem_cons.mpr ⟨rfl, List.forall_mem_cons.mpr ⟨rfl, List.forall_mem_nil _⟩⟩) (c_listOpen_69_l (I := I) d (b := b + 1) hok h71 h14 hhd (by omega) hcnt hrow)).imp ?_
      rintro q ⟨Q9, rfl, h9⟩
      exact ⟨_, am_r_wp uO (am_k_wp am_k_sub (am_k_id)), h9⟩
    · show am_E _ _ _ 29 [(1, .inl (b : Int)), (0, .inr (.inr (.inl (some 71))))] [] (am_mm D I J ρ) _
      refine am_e_ss 5 (q := (38, [(1, .inl (b : Int)), (0, .inr (.inr (.inl (some 71))))], [.inl (b : Int), .inl ((I 71 3)), .inr (.inr (.inl (some 72)))], (am_mm D I J ρ))) rfl ?_
      refine am_e_iastore (m := 6) rfl rfl (by omega) (by omega) (by omega) ?_
      show am_E _ _ _ 39 [(1, .inl (b : Int)), (0, .inr (.inr (.inl (some 71))))] [] (am_mm D (am_up I 72 ((I 71 3)).toNat (b : Int)) J ρ) _
      refine am_e_ss 8 (q := (7, [(1, .inl ((b : Int) + 1)), (0, .inr (.inr (.inl (some 71))))], [], (am_mm D (am_up (am_up I 72 ((I 71 3)).toNat (b : Int)) 71 3 ((I 71 3) + 1)) J ρ))) rfl ?_
      have ho : S (13 + b) = 0 := by
        by_cases e : S (13 + b) = 0
        · exact e
        · exact absurd (sp_dp_t.mpr ⟨by omega, e⟩) (by assumption)
      have e3 : (am_up (am_up I 72 ((I 71 3)).toNat (b : Int)) 71 3 ((I 71 3) + 1)) 71 3 = ((sp_obk S (b + 1)).length : Int) := by
        rw [sp_obk_s1 ho, List.length_append, List.length_singleton]
        refine am_up_at2.trans ?_
        omega
      have e4 : am_rowl ((am_up (am_up I 72 ((I 71 3)).toNat (b : Int)) 71 3 ((I 71 3) + 1)) 72) 0 (sp_obk S (b + 1)) := by
        rw [sp_obk_s1 ho]
        refine am_rowl_snoc (am_rowl_cg hrow (fun i hi => (am_up_ne2 (by omega)).trans (am_up_ne2 (by omega)))) ?_
        rw [show 0 + (sp_obk S b).length = (I 71 3).toNat by omega]
        exact (am_up_ne2 (by omega)).trans am_up_at2
      refine (am_less (lv := [(1, .inl ((b + 1) : Int)), (0, .inr (.inr (.inl (some 71))))]) rfl (List.forall_mem_cons.mpr ⟨rfl, List.forall_mem_cons.mpr ⟨rfl, List.forall_mem_nil _⟩⟩) (c_listOpen_69_l (I := am_up (am_up I 72 ((I 71 3)).toNat (b : Int)) 71 3 ((I 71 3) + 1)) d (b := b + 1) hok h71 h14 hhd (by omega) e3 e4)).imp ?_
      rintro q ⟨Q9, rfl, h9⟩
      exact ⟨_, am_r_wp uO (am_k_wp am_k_sub (am_k_up rfl (am_k_up rfl (am_k_id)))), h9⟩
termination_by 7 - b
decreasing_by all_goals omega
theorem c_listOpen_69 {X : Nat × (Nat → Int)} {D : List (Nat × Nat)} {I J : Nat → Nat → Int} {ρ : Nat → Nat → Option Nat} (d : Nat) {S : Nat → Int} {B : Int} (hok : r_ok S B) (h71 : ρ 71 1 = some 69) (h14 : I 1 4 = S 20) (hhd : I 69 2 = am_bits (sp_dp S) 6)  : am_E X (d + 1) 67 0 [(0, .inr (.inr (.inl (some 71))))] [] (am_mm D I J ρ) (fun q => ∃ Q, q = (none, am_mm D (am_wp uO I Q) J ρ) ∧ Q 71 3 = sp_ops S ∧ am_rowl (Q 72) 0 (sp_ob S)) := by
  refine am_e_ss 5 (q := (7, [(1, .inl 0), (0, .inr (.inr (.inl (some 71))))], [], (am_mm D (am_up I 71 3 0) J ρ))) rfl ?_
  refine (am_less (lv := [(1, .inl (0 : Int)), (0, .inr (.inr (.inl (some 71))))]) rfl (List.forall_mem_cons.mpr ⟨rfl, List.forall_mem_cons.mpr ⟨rfl, List.forall_mem_nil _⟩⟩) (c_listOpen_69_l (I := am_up I 71 3 0) d (b := 0) hok h71 h14 hhd (by have := (r_ok_19 hok).2; omega) rfl am_rowl_nil)).imp ?_
  rintro q ⟨Q9, rfl, h9⟩
  exact ⟨_, am_r_wp uO (am_k_wp am_k_sub (am_k_up rfl (am_k_id))), h9⟩
