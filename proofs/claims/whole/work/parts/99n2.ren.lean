/-! OTHER NAMES FOR THE CELLS: a run does not depend on how the cells are called -/
def rn_t : List Nat := [0, 2, 3, 4, 5, 6, 7, 8, 9, 10, 11, 12, 13, 14, 15, 16, 17, 18, 19, 20, 21, 22, 23, 24, 25, 26, 27, 28, 29, 30, 31, 32, 33, 34, 35, 63, 64, 65, 66, 67, 68, 69, 70, 71, 72, 73, 74, 75, 76, 77, 78, 79, 80, 81, 82, 83, 84, 85, 86, 87, 88, 89, 90, 91, 92, 93, 94, 95, 96, 97, 98, 1, 36, 37, 38, 39, 40, 41, 42, 43, 44, 45, 46, 47, 48, 49, 50, 51, 52, 53, 54, 55, 56, 57, 58, 59, 60, 61, 62, 99, 100, 101, 102, 103, 104, 105, 106]
def rn_u : List Nat := [0, 71, 1, 2, 3, 4, 5, 6, 7, 8, 9, 10, 11, 12, 13, 14, 15, 16, 17, 18, 19, 20, 21, 22, 23, 24, 25, 26, 27, 28, 29, 30, 31, 32, 33, 34, 72, 73, 74, 75, 76, 77, 78, 79, 80, 81, 82, 83, 84, 85, 86, 87, 88, 89, 90, 91, 92, 93, 94, 95, 96, 97, 98, 35, 36, 37, 38, 39, 40, 41, 42, 43, 44, 45, 46, 47, 48, 49, 50, 51, 52, 53, 54, 55, 56, 57, 58, 59, 60, 61, 62, 63, 64, 65, 66, 67, 68, 69, 70, 99, 100, 101, 102, 103, 104, 105, 106]
/-- a cell's place in the order in which the cells are made, by its name -/
def rn_p (k : Nat) : Nat := if k < 107 then rn_t.getD k 0 else k
def rn_i (k : Nat) : Nat := if k < 107 then rn_u.getD k 0 else k
theorem rn_ge {k : Nat} (h : 107 ≤ k) : rn_p k = k := if_neg (by omega)
theorem rn_ige {k : Nat} (h : 107 ≤ k) : rn_i k = k := if_neg (by omega)
theorem rn_ip (k : Nat) : rn_i (rn_p k) = k := by
  by_cases h : k < 107
  · exact (by decide +kernel : ∀ k, k < 107 → rn_i (rn_p k) = k) k h
  · rw [rn_ge (by omega), rn_ige (by omega)]
theorem rn_pi (k : Nat) : rn_p (rn_i k) = k := by
  by_cases h : k < 107
  · exact (by decide +kernel : ∀ k, k < 107 → rn_p (rn_i k) = k) k h
  · rw [rn_ige (by omega), rn_ge (by omega)]
theorem rn_inj {a b : Nat} (h : rn_p a = rn_p b) : a = b := by rw [← rn_ip a, h, rn_ip]
def rn_a (v : Option Nat ⊕ Nat) : Option Nat ⊕ Nat := match v with
  | .inl o => .inl (o.map rn_p)
  | .inr e => .inr e
def rn_v (v : am_V) : am_V := match v with
  | .inl z => .inl z
  | .inr (.inl z) => .inr (.inl z)
  | .inr (.inr v) => .inr (.inr (rn_a v))
def rn_s (st : List am_V) : List am_V := st.map rn_v
def rn_l (lv : List (Nat × am_V)) : List (Nat × am_V) := lv.map (fun q => (q.1, rn_v q.2))
/-- N is M under the other names -/
def rn_M (M N : am_M) : Prop := N.1.length = M.1.length ∧ 107 ≤ M.1.length ∧ (∀ k, N.1[rn_p k]? = M.1[k]?) ∧ (∀ k j, N.2.1 (rn_p k) j = M.2.1 k j) ∧ (∀ k j, N.2.2.1 (rn_p k) j = M.2.2.1 k j) ∧ (∀ k j, N.2.2.2 (rn_p k) j = (M.2.2.2 k j).map rn_p) ∧ (N.1.map (fun q => q.2)).sum = (M.1.map (fun q => q.2)).sum
section
variable {M N : am_M}
theorem rn_M.len (h : rn_M M N) : N.1.length = M.1.length := h.1
theorem rn_M.big (h : rn_M M N) : 107 ≤ M.1.length := h.2.1
theorem rn_M.sh (h : rn_M M N) (k : Nat) : N.1[rn_p k]? = M.1[k]? := h.2.2.1 k
theorem rn_M.i (h : rn_M M N) (k j : Nat) : N.2.1 (rn_p k) j = M.2.1 k j := h.2.2.2.1 k j
theorem rn_M.j (h : rn_M M N) (k j : Nat) : N.2.2.1 (rn_p k) j = M.2.2.1 k j := h.2.2.2.2.1 k j
theorem rn_M.r (h : rn_M M N) (k j : Nat) : N.2.2.2 (rn_p k) j = (M.2.2.2 k j).map rn_p := h.2.2.2.2.2.1 k j
theorem rn_M.sz (h : rn_M M N) : (N.1.map (fun q => q.2)).sum = (M.1.map (fun q => q.2)).sum := h.2.2.2.2.2.2
end
theorem rn_cat {v : am_V} : am_cat (rn_v v) = am_cat v := by rcases v with z | z | v <;> rfl
theorem rn_cats {st : List am_V} : am_cats (rn_s st) = am_cats st := by
  induction st with
  | nil => rfl
  | cons v st ih =>
    show (am_cat (rn_v v) :: (rn_s st).map am_cat).sum = (am_cat v :: st.map am_cat).sum
    rw [List.sum_cons, List.sum_cons, rn_cat]
    exact congrArg (fun z => am_cat v + z) ih
theorem rn_len {st : List am_V} : (rn_s st).length = st.length := List.length_map _
theorem rn_drop {st : List am_V} {k : Nat} : (rn_s st).drop k = rn_s (st.drop k) := List.map_drop.symm
theorem rn_rev {st : List am_V} {k : Nat} : ((rn_s st).take k).reverse = rn_s (st.take k).reverse := by
  unfold rn_s
  rw [List.map_reverse, List.map_take]
theorem rn_look {lv : List (Nat × am_V)} {k : Nat} : (rn_l lv).lookup k = (lv.lookup k).map rn_v := by
  induction lv with
  | nil => rfl
  | cons q lv ih =>
    obtain ⟨a, v⟩ := q
    show List.lookup k ((a, rn_v v) :: rn_l lv) = _
    cases h : (k == a)
    · have e1 : List.lookup k ((a, rn_v v) :: rn_l lv) = (rn_l lv).lookup k := by simp only [List.lookup, h]
      have e2 : List.lookup k ((a, v) :: lv) = lv.lookup k := by simp only [List.lookup, h]
      rw [e1, e2, ih]
    · have e1 : List.lookup k ((a, rn_v v) :: rn_l lv) = some (rn_v v) := by simp only [List.lookup, h]
      have e2 : List.lookup k ((a, v) :: lv) = some v := by simp only [List.lookup, h]
      rw [e1, e2]; rfl
theorem rn_ldi {lv : List (Nat × am_V)} {k : Nat} : am_ldi (rn_l lv) k = am_ldi lv k := by
  unfold am_ldi
  rw [rn_look]
  cases lv.lookup k with
  | none => rfl
  | some v => rcases v with z | z | v <;> rfl
theorem rn_ldj {lv : List (Nat × am_V)} {k : Nat} : am_ldj (rn_l lv) k = am_ldj lv k := by
  unfold am_ldj
  rw [rn_look]
  cases lv.lookup k with
  | none => rfl
  | some v => rcases v with z | z | v <;> rfl
theorem rn_lda {lv : List (Nat × am_V)} {k : Nat} : am_lda (rn_l lv) k = (am_lda lv k).map rn_a := by
  unfold am_lda
  rw [rn_look]
  cases lv.lookup k with
  | none => rfl
  | some v => rcases v with z | z | v <;> rfl
theorem rn_filter {lv : List (Nat × am_V)} {p : Nat × am_V → Bool} (hp : ∀ q, p (q.1, rn_v q.2) = p q) : (rn_l lv).filter p = rn_l (lv.filter p) := by
  induction lv with
  | nil => rfl
  | cons q lv ih =>
    show List.filter p ((q.1, rn_v q.2) :: rn_l lv) = rn_l (List.filter p (q :: lv))
    rw [List.filter_cons, List.filter_cons, hp, ih]
    by_cases h : p q = true
    · rw [if_pos h, if_pos h]; rfl
    · rw [if_neg h, if_neg h]
theorem rn_st1 {lv : List (Nat × am_V)} {k : Nat} {v : am_V} : am_st1 (rn_l lv) k (rn_v v) = rn_l (am_st1 lv k v) := congrArg (List.cons (k, rn_v v)) (rn_filter (fun q => by simp only [rn_cat]))
theorem rn_st2 {lv : List (Nat × am_V)} {k : Nat} {v : am_V} : am_st2 (rn_l lv) k (rn_v v) = rn_l (am_st2 lv k v) := congrArg (List.cons (k, rn_v v)) (rn_filter (fun q => by simp only [rn_cat]))
theorem rn_args {vs : List am_V} : ∀ {k : Nat}, am_args k (rn_s vs) = rn_l (am_args k vs) := by
  induction vs with
  | nil => intro k; rfl
  | cons v vs ih =>
    intro k
    show (k, rn_v v) :: am_args (if am_cat (rn_v v) = 2 then k + 2 else k + 1) (rn_s vs) = (k, rn_v v) :: rn_l (am_args (if am_cat v = 2 then k + 2 else k + 1) vs)
    rw [rn_cat, ih]
section
variable {M N : am_M}
theorem rn_gf (h : rn_M M N) {c k f : Nat} : am_gf N c (rn_p k) f = rn_v (am_gf M c k f) := by
  unfold am_gf
  generalize am_ft c f = t
  rcases t with _ | _ | _ | _ | t
  · exact congrArg Sum.inl (h.i k f)
  · exact congrArg (fun z => Sum.inr (Sum.inl z)) (h.j k f)
  · exact congrArg (fun z => Sum.inr (Sum.inr (Sum.inl z))) (h.r k f)
  · exact congrArg Sum.inl (h.i k f)
  · exact congrArg (fun z => Sum.inr (Sum.inr (Sum.inl z))) (h.r k f)
theorem rn_lt (h : rn_M M N) {k : Nat} (hk : k < M.1.length) : rn_p k < N.1.length := by
  have e := h.sh k
  rw [List.getElem?_eq_getElem hk] at e
  exact (List.getElem?_eq_some_iff.mp e).1
theorem rn_app (h : rn_M M N) (L : List (Nat × Nat)) (k : Nat) : (N.1 ++ L)[rn_p k]? = (M.1 ++ L)[k]? := by
  have hb := h.big
  have hl := h.len
  by_cases hk : k < M.1.length
  · rw [List.getElem?_append_left (rn_lt h hk), List.getElem?_append_left hk, h.sh]
  · rw [rn_ge (by omega), List.getElem?_append_right (by omega), List.getElem?_append_right (by omega), hl]
theorem rn_top (h : rn_M M N) : rn_p M.1.length = N.1.length := by rw [rn_ge h.big, h.len]
theorem rn_rg (h : rn_M M N) {k a : Nat} : (N.1.length ≤ rn_p k ∧ rn_p k < N.1.length + 1 + a) ↔ (M.1.length ≤ k ∧ k < M.1.length + 1 + a) := by
  have hb := h.big
  have hl := h.len
  by_cases hk : k < M.1.length
  · have := rn_lt h hk
    constructor <;> intro g <;> omega
  · rw [rn_ge (by omega), hl]
theorem rn_eq (h : rn_M M N) {k : Nat} : rn_p k = N.1.length ↔ k = M.1.length := by
  have := rn_rg h (k := k) (a := 0)
  constructor <;> intro g <;> omega
theorem rn_upd {α : Type} {f g : Nat → Nat → α} {t : α → α} (h : ∀ k j, g (rn_p k) j = t (f k j)) {k j : Nat} {v : α} (k' j' : Nat) : am_up g (rn_p k) j (t v) (rn_p k') j' = t (am_up f k j v k' j') := by
  show (if rn_p k' = rn_p k ∧ j' = j then t v else g (rn_p k') j') = t (if k' = k ∧ j' = j then v else f k' j')
  by_cases e : k' = k ∧ j' = j
  · rw [if_pos e, if_pos ⟨by rw [e.1], e.2⟩]
  · rw [if_neg e, if_neg (fun g => e ⟨rn_inj g.1, g.2⟩)]
    exact h k' j'
theorem rn_pI (h : rn_M M N) {k j : Nat} {v : Int} : rn_M (am_pI M k j v) (am_pI N (rn_p k) j v) := ⟨h.1, h.2.1, h.2.2.1, rn_upd (f := M.2.1) (g := N.2.1) (t := fun z => z) h.i, h.2.2.2.2.1, h.2.2.2.2.2.1, h.2.2.2.2.2.2⟩
theorem rn_pJ (h : rn_M M N) {k j : Nat} {v : Int} : rn_M (am_pJ M k j v) (am_pJ N (rn_p k) j v) := ⟨h.1, h.2.1, h.2.2.1, h.2.2.2.1, rn_upd (f := M.2.2.1) (g := N.2.2.1) (t := fun z => z) h.j, h.2.2.2.2.2.1, h.2.2.2.2.2.2⟩
theorem rn_pR (h : rn_M M N) {k j : Nat} {v : Option Nat} : rn_M (am_pR M k j v) (am_pR N (rn_p k) j (v.map rn_p)) := ⟨h.1, h.2.1, h.2.2.1, h.2.2.2.1, h.2.2.2.2.1, rn_upd (f := M.2.2.2) (g := N.2.2.2) (t := fun z => z.map rn_p) h.r, h.2.2.2.2.2.2⟩
theorem rn_pf (h : rn_M M N) {c k f : Nat} {v : am_V} {M' : am_M} (hM : am_pf M c k f v = some M') : ∃ N', am_pf N c (rn_p k) f (rn_v v) = some N' ∧ rn_M M' N' := by
  unfold am_pf at hM ⊢
  generalize am_ft c f = t at hM ⊢
  rcases v with z | z | o | e
  · rcases t with _ | _ | _ | _ | t
    · cases (show some (am_pI M k f z) = some M' from hM)
      exact ⟨_, rfl, rn_pI h⟩
    · cases (show none = some M' from hM)
    · cases (show none = some M' from hM)
    · have hM : (if z = 0 ∨ z = 1 then some (am_pI M k f z) else none) = some M' := hM
      by_cases hz : z = 0 ∨ z = 1
      · rw [if_pos hz] at hM
        cases hM
        exact ⟨_, if_pos hz, rn_pI h⟩
      · rw [if_neg hz] at hM
        cases hM
    · cases (show none = some M' from hM)
  · rcases t with _ | _ | _ | _ | t <;> cases (show none = some M' from hM)
  · rcases t with _ | _ | _ | _ | t
    · cases (show none = some M' from hM)
    · cases (show none = some M' from hM)
    · cases (show some (am_pR M k f o) = some M' from hM)
      exact ⟨_, rfl, rn_pR h⟩
    · cases (show none = some M' from hM)
    · cases (show none = some M' from hM)
  · rcases t with _ | _ | _ | _ | t <;> cases (show none = some M' from hM)
theorem rn_nw (h : rn_M M N) {s : Nat × Nat} : rn_M (am_nw M s) (am_nw N s) := by
  have hb := h.big
  refine ⟨?_, ?_, rn_app h [s], ?_, ?_, ?_, ?_⟩
  · show (N.1 ++ [s]).length = (M.1 ++ [s]).length
    rw [List.length_append, List.length_append, h.len]
  · show 107 ≤ (M.1 ++ [s]).length
    rw [List.length_append]; omega
  · intro k j
    show (if rn_p k = N.1.length then 0 else N.2.1 (rn_p k) j) = (if k = M.1.length then 0 else M.2.1 k j)
    by_cases e : k = M.1.length
    · rw [if_pos e, if_pos ((rn_eq h).mpr e)]
    · rw [if_neg e, if_neg (fun g => e ((rn_eq h).mp g))]
      exact h.i k j
  · intro k j
    show (if rn_p k = N.1.length then 0 else N.2.2.1 (rn_p k) j) = (if k = M.1.length then 0 else M.2.2.1 k j)
    by_cases e : k = M.1.length
    · rw [if_pos e, if_pos ((rn_eq h).mpr e)]
    · rw [if_neg e, if_neg (fun g => e ((rn_eq h).mp g))]
      exact h.j k j
  · intro k j
    show (if rn_p k = N.1.length then none else N.2.2.2 (rn_p k) j) = (if k = M.1.length then none else M.2.2.2 k j).map rn_p
    by_cases e : k = M.1.length
    · rw [if_pos e, if_pos ((rn_eq h).mpr e)]; rfl
    · rw [if_neg e, if_neg (fun g => e ((rn_eq h).mp g))]
      exact h.r k j
  · show ((N.1 ++ [s]).map (fun q => q.2)).sum = ((M.1 ++ [s]).map (fun q => q.2)).sum
    rw [List.map_append, List.map_append, List.sum_append, List.sum_append, h.sz]
theorem rn_mna (h : rn_M M N) {a b : Nat} : rn_M (am_mna M a b) (am_mna N a b) := by
  have hb := h.big
  have hl := h.len
  refine ⟨?_, ?_, rn_app h ((23, a) :: List.replicate a (20, b)), ?_, ?_, ?_, ?_⟩
  · show (N.1 ++ (23, a) :: List.replicate a (20, b)).length = (M.1 ++ (23, a) :: List.replicate a (20, b)).length
    rw [List.length_append, List.length_append, hl]
  · show 107 ≤ (M.1 ++ (23, a) :: List.replicate a (20, b)).length
    rw [List.length_append]; omega
  · intro k j
    show (if N.1.length ≤ rn_p k ∧ rn_p k < N.1.length + 1 + a then 0 else N.2.1 (rn_p k) j) = (if M.1.length ≤ k ∧ k < M.1.length + 1 + a then 0 else M.2.1 k j)
    by_cases e : M.1.length ≤ k ∧ k < M.1.length + 1 + a
    · rw [if_pos e, if_pos ((rn_rg h).mpr e)]
    · rw [if_neg e, if_neg (fun g => e ((rn_rg h).mp g))]
      exact h.i k j
  · intro k j
    show (if N.1.length ≤ rn_p k ∧ rn_p k < N.1.length + 1 + a then 0 else N.2.2.1 (rn_p k) j) = (if M.1.length ≤ k ∧ k < M.1.length + 1 + a then 0 else M.2.2.1 k j)
    by_cases e : M.1.length ≤ k ∧ k < M.1.length + 1 + a
    · rw [if_pos e, if_pos ((rn_rg h).mpr e)]
    · rw [if_neg e, if_neg (fun g => e ((rn_rg h).mp g))]
      exact h.j k j
  · intro k j
    show (if N.1.length ≤ rn_p k ∧ rn_p k < N.1.length + 1 + a then (if rn_p k = N.1.length ∧ j < a then some (N.1.length + 1 + j) else none) else N.2.2.2 (rn_p k) j) = (if M.1.length ≤ k ∧ k < M.1.length + 1 + a then (if k = M.1.length ∧ j < a then some (M.1.length + 1 + j) else none) else M.2.2.2 k j).map rn_p
    by_cases e : M.1.length ≤ k ∧ k < M.1.length + 1 + a
    · rw [if_pos e, if_pos ((rn_rg h).mpr e)]
      by_cases e2 : k = M.1.length ∧ j < a
      · rw [if_pos e2, if_pos ⟨(rn_eq h).mpr e2.1, e2.2⟩]
        show some (N.1.length + 1 + j) = some (rn_p (M.1.length + 1 + j))
        rw [rn_ge (by omega), hl]
      · rw [if_neg e2, if_neg (fun g => e2 ⟨(rn_eq h).mp g.1, g.2⟩)]; rfl
    · rw [if_neg e, if_neg (fun g => e ((rn_rg h).mp g))]
      exact h.r k j
  · show ((N.1 ++ (23, a) :: List.replicate a (20, b)).map (fun q : Nat × Nat => q.2)).sum = ((M.1 ++ (23, a) :: List.replicate a (20, b)).map (fun q : Nat × Nat => q.2)).sum
    rw [List.map_append, List.map_append, List.sum_append, List.sum_append, h.sz]
theorem rn_kd (h : rn_M M N) {v : am_V} : am_kd N (rn_v v) = am_kd M v := by
  rcases v with z | z | o | e
  · rfl
  · rfl
  · rcases o with _ | k
    · rfl
    · show (match N.1[rn_p k]? with
        | some s => if s.1 < 13 then some s.1 else none
        | none => none) = (match M.1[k]? with
        | some s => if s.1 < 13 then some s.1 else none
        | none => none)
      rw [h.sh]
  · rfl
end
theorem rn_step {X : Nat × (Nat → Int)} {pc : Nat} {lv : List (Nat × am_V)} {st : List am_V} {M N : am_M} {i : Instr} {n x : Nat} {q : Nat × List (Nat × am_V) × List am_V × am_M} (hM : rn_M M N) (h : am_s X pc lv st M i n x = some q) : ∃ N2, am_s X pc (rn_l lv) (rn_s st) N i n x = some (q.1, rn_l q.2.1, rn_s q.2.2.1, N2) ∧ rn_M q.2.2.2 N2 := by
  cases i with
  | iconst v =>
    simp only [am_s] at h
    cases h
    exact ⟨N, rfl, hM⟩
  | bipush v =>
    simp only [am_s] at h
    cases h
    exact ⟨N, rfl, hM⟩
  | sipush v =>
    simp only [am_s] at h
    cases h
    exact ⟨N, rfl, hM⟩
  | lconst v =>
    simp only [am_s] at h
    cases h
    exact ⟨N, rfl, hM⟩
  | goto v =>
    simp only [am_s] at h
    cases h
    exact ⟨N, rfl, hM⟩
  | ldc v =>
    simp only [am_s] at h
    cases h
    exact ⟨N, rfl, hM⟩
  | ldc_w v =>
    simp only [am_s] at h
    cases h
    exact ⟨N, rfl, hM⟩
  | ldc2_w v =>
    simp only [am_s] at h
    cases h
    exact ⟨N, rfl, hM⟩
  | getstatic v =>
    rcases x with _ | x
    · cases (show some (pc + n, lv, .inl 1 :: st, M) = some q from h)
      exact ⟨N, rfl, hM⟩
    · cases (show some (pc + n, lv, .inr (.inr (.inr 1000)) :: st, M) = some q from h)
      exact ⟨N, rfl, hM⟩
  | iload_n k =>
    simp only [am_s] at h
    obtain ⟨v, hv, rfl⟩ := Option.map_eq_some_iff.mp h
    exact ⟨N, Option.map_eq_some_iff.mpr ⟨v, rn_ldi.trans hv, rfl⟩, hM⟩
  | iload k =>
    simp only [am_s] at h
    obtain ⟨v, hv, rfl⟩ := Option.map_eq_some_iff.mp h
    exact ⟨N, Option.map_eq_some_iff.mpr ⟨v, rn_ldi.trans hv, rfl⟩, hM⟩
  | lload_n k =>
    simp only [am_s] at h
    obtain ⟨v, hv, rfl⟩ := Option.map_eq_some_iff.mp h
    exact ⟨N, Option.map_eq_some_iff.mpr ⟨v, rn_ldj.trans hv, rfl⟩, hM⟩
  | lload k =>
    simp only [am_s] at h
    obtain ⟨v, hv, rfl⟩ := Option.map_eq_some_iff.mp h
    exact ⟨N, Option.map_eq_some_iff.mpr ⟨v, rn_ldj.trans hv, rfl⟩, hM⟩
  | aload_n k =>
    simp only [am_s] at h
    obtain ⟨v, hv, rfl⟩ := Option.map_eq_some_iff.mp h
    exact ⟨N, Option.map_eq_some_iff.mpr ⟨rn_a v, rn_lda.trans (congrArg (Option.map rn_a) hv), rfl⟩, hM⟩
  | aload k =>
    simp only [am_s] at h
    obtain ⟨v, hv, rfl⟩ := Option.map_eq_some_iff.mp h
    exact ⟨N, Option.map_eq_some_iff.mpr ⟨rn_a v, rn_lda.trans (congrArg (Option.map rn_a) hv), rfl⟩, hM⟩
  | iinc k v =>
    simp only [am_s] at h
    obtain ⟨z, hv, rfl⟩ := Option.map_eq_some_iff.mp h
    exact ⟨N, Option.map_eq_some_iff.mpr ⟨z, rn_ldi.trans hv, congrArg (fun L => (pc + n, L, rn_s st, N)) (rn_st1 (v := .inl (z + v)))⟩, hM⟩
  | istore_n k =>
    rcases st with _ | ⟨v0, st⟩
    · cases (show none = some q from h)
    rcases v0 with v0 | v0
    rotate_left
    · cases (show none = some q from h)
    cases (show some (pc + n, am_st1 lv k (.inl v0), st, M) = some q from h)
    exact ⟨N, congrArg (fun L => some (pc + n, L, rn_s st, N)) (rn_st1 (v := .inl v0)), hM⟩
  | istore k =>
    rcases st with _ | ⟨v0, st⟩
    · cases (show none = some q from h)
    rcases v0 with v0 | v0
    rotate_left
    · cases (show none = some q from h)
    cases (show some (pc + n, am_st1 lv k (.inl v0), st, M) = some q from h)
    exact ⟨N, congrArg (fun L => some (pc + n, L, rn_s st, N)) (rn_st1 (v := .inl v0)), hM⟩
  | lstore_n k =>
    rcases st with _ | ⟨v0, st⟩
    · cases (show none = some q from h)
    rcases v0 with v0 | v0 | v0
    · cases (show none = some q from h)
    rotate_left
    · cases (show none = some q from h)
    cases (show some (pc + n, am_st2 lv k (.inr (.inl v0)), st, M) = some q from h)
    exact ⟨N, congrArg (fun L => some (pc + n, L, rn_s st, N)) (rn_st2 (v := .inr (.inl v0))), hM⟩
  | lstore k =>
    rcases st with _ | ⟨v0, st⟩
    · cases (show none = some q from h)
    rcases v0 with v0 | v0 | v0
    · cases (show none = some q from h)
    rotate_left
    · cases (show none = some q from h)
    cases (show some (pc + n, am_st2 lv k (.inr (.inl v0)), st, M) = some q from h)
    exact ⟨N, congrArg (fun L => some (pc + n, L, rn_s st, N)) (rn_st2 (v := .inr (.inl v0))), hM⟩
  | astore_n k =>
    rcases st with _ | ⟨v0, st⟩
    · cases (show none = some q from h)
    rcases v0 with v0 | v0 | v0 | v0
    · cases (show none = some q from h)
    · cases (show none = some q from h)
    rotate_left
    · cases (show none = some q from h)
    rcases v0 with _ | v0
    · cases (show none = some q from h)
    cases (show some (pc + n, am_st1 lv k (.inr (.inr (.inl (some v0)))), st, M) = some q from h)
    exact ⟨N, congrArg (fun L => some (pc + n, L, rn_s st, N)) (rn_st1 (v := .inr (.inr (.inl (some v0))))), hM⟩
  | astore k =>
    rcases st with _ | ⟨v0, st⟩
    · cases (show none = some q from h)
    rcases v0 with v0 | v0 | v0 | v0
    · cases (show none = some q from h)
    · cases (show none = some q from h)
    rotate_left
    · cases (show none = some q from h)
    rcases v0 with _ | v0
    · cases (show none = some q from h)
    cases (show some (pc + n, am_st1 lv k (.inr (.inr (.inl (some v0)))), st, M) = some q from h)
    exact ⟨N, congrArg (fun L => some (pc + n, L, rn_s st, N)) (rn_st1 (v := .inr (.inr (.inl (some v0))))), hM⟩
  | ineg =>
    rcases st with _ | ⟨v0, st⟩
    · cases (show none = some q from h)
    rcases v0 with v0 | v0
    rotate_left
    · cases (show none = some q from h)
    simp only [am_s] at h
    cases h
    exact ⟨N, rfl, hM⟩
  | i2l =>
    rcases st with _ | ⟨v0, st⟩
    · cases (show none = some q from h)
    rcases v0 with v0 | v0
    rotate_left
    · cases (show none = some q from h)
    simp only [am_s] at h
    cases h
    exact ⟨N, rfl, hM⟩
  | i2c =>
    rcases st with _ | ⟨v0, st⟩
    · cases (show none = some q from h)
    rcases v0 with v0 | v0
    rotate_left
    · cases (show none = some q from h)
    simp only [am_s] at h
    cases h
    exact ⟨N, rfl, hM⟩
  | lcmp =>
    rcases st with _ | ⟨v0, st⟩
    · cases (show none = some q from h)
    rcases v0 with v0 | v0 | v0
    · cases (show none = some q from h)
    rotate_left
    · cases (show none = some q from h)
    rcases st with _ | ⟨v1, st⟩
    · cases (show none = some q from h)
    rcases v1 with v1 | v1 | v1
    · cases (show none = some q from h)
    rotate_left
    · cases (show none = some q from h)
    simp only [am_s] at h
    cases h
    exact ⟨N, rfl, hM⟩
  | dup =>
    rcases st with _ | ⟨v0, st⟩
    · cases (show none = some q from h)
    have h : (if am_cat v0 = 1 then some (pc + n, lv, v0 :: v0 :: st, M) else none) = some q := h
    by_cases hc : am_cat v0 = 1
    · rw [if_pos hc] at h
      cases h
      exact ⟨N, if_pos (rn_cat.trans hc), hM⟩
    · rw [if_neg hc] at h
      cases h
  | dup2 =>
    rcases st with _ | ⟨v0, st⟩
    · cases (show none = some q from h)
    rcases st with _ | ⟨v1, st⟩
    · cases (show none = some q from h)
    have h : (if am_cat v0 = 1 ∧ am_cat v1 = 1 then some (pc + n, lv, v0 :: v1 :: v0 :: v1 :: st, M) else none) = some q := h
    by_cases hc : am_cat v0 = 1 ∧ am_cat v1 = 1
    · rw [if_pos hc] at h
      cases h
      exact ⟨N, if_pos ⟨rn_cat.trans hc.1, rn_cat.trans hc.2⟩, hM⟩
    · rw [if_neg hc] at h
      cases h
  | pop =>
    rcases st with _ | ⟨v0, st⟩
    · cases (show none = some q from h)
    have h : (if am_cat v0 = 1 then some (pc + n, lv, st, M) else none) = some q := h
    by_cases hc : am_cat v0 = 1
    · rw [if_pos hc] at h
      cases h
      exact ⟨N, if_pos (rn_cat.trans hc), hM⟩
    · rw [if_neg hc] at h
      cases h
  | ifCond c o =>
    rcases st with _ | ⟨v0, st⟩
    · cases (show none = some q from h)
    rcases v0 with v0 | v0
    rotate_left
    · cases (show none = some q from h)
    have h : (if am_cd c (am_w v0) 0 = true then some (x, lv, st, M) else some (pc + n, lv, st, M)) = some q := h
    by_cases hc : am_cd c (am_w v0) 0 = true
    · rw [if_pos hc] at h
      cases h
      exact ⟨N, if_pos hc, hM⟩
    · rw [if_neg hc] at h
      cases h
      exact ⟨N, if_neg hc, hM⟩
  | if_icmp c o =>
    rcases st with _ | ⟨v0, st⟩
    · cases (show none = some q from h)
    rcases v0 with v0 | v0
    rotate_left
    · cases (show none = some q from h)
    rcases st with _ | ⟨v1, st⟩
    · cases (show none = some q from h)
    rcases v1 with v1 | v1
    rotate_left
    · cases (show none = some q from h)
    have h : (if am_cd c (am_w v1) (am_w v0) = true then some (x, lv, st, M) else some (pc + n, lv, st, M)) = some q := h
    by_cases hc : am_cd c (am_w v1) (am_w v0) = true
    · rw [if_pos hc] at h
      cases h
      exact ⟨N, if_pos hc, hM⟩
    · rw [if_neg hc] at h
      cases h
      exact ⟨N, if_neg hc, hM⟩
  | tableswitch dflt lo hi offs =>
    rcases st with _ | ⟨v0, st⟩
    · cases (show none = some q from h)
    rcases v0 with v0 | v0
    rotate_left
    · cases (show none = some q from h)
    have h : (if am_w v0 < lo ∨ hi < am_w v0 then some (((pc : Int) + dflt).toNat, lv, st, M) else match offs[(am_w v0 - lo).toNat]? with
      | some off => some (((pc : Int) + off).toNat, lv, st, M)
      | none => none) = some q := h
    by_cases hc : am_w v0 < lo ∨ hi < am_w v0
    · rw [if_pos hc] at h
      cases h
      exact ⟨N, if_pos hc, hM⟩
    · rw [if_neg hc] at h
      cases ho : offs[(am_w v0 - lo).toNat]? with
      | none => rw [ho] at h; cases h
      | some off =>
        rw [ho] at h
        cases h
        refine ⟨N, (if_neg hc).trans ?_, hM⟩
        first | (rw [ho]; done) | (rw [ho]; rfl)
  | lookupswitch dflt ps =>
    rcases st with _ | ⟨v0, st⟩
    · cases (show none = some q from h)
    rcases v0 with v0 | v0
    rotate_left
    · cases (show none = some q from h)
    simp only [am_s] at h
    cases h
    exact ⟨N, rfl, hM⟩
  | getfield w =>
    rcases st with _ | ⟨v0, st⟩
    · cases (show none = some q from h)
    rcases v0 with v0 | v0 | v0
    · cases (show none = some q from h)
    · cases (show none = some q from h)
    rcases v0 with v0 | e
    · rcases v0 with _ | v0
      · cases (show none = some q from h)
      simp only [am_s] at h
      split at h
      · rename_i s hs
        have hs2 := (hM.sh v0).trans hs
        split at h
        · rename_i f hf
          split at h
          · rename_i hc
            cases h
            refine ⟨N, ?_, hM⟩
            simp only [am_s, rn_s, List.map_cons, rn_v, rn_a, Option.map_some, hs2, hf, if_pos hc, rn_gf hM]
          · cases h
        · cases h
      · cases h
    · have h : (if e % 2 = 1 ∧ e < 21 then match am_F x 13 with
        | some 0 => some (pc + n, lv, .inr (.inr (.inr (e + 1))) :: st, M)
        | some 1 => some (pc + n, lv, .inl 0 :: st, M)
        | _ => none
        else none) = some q := h
      by_cases hc : e % 2 = 1 ∧ e < 21
      · rw [if_pos hc] at h
        cases hf : am_F x 13 with
        | none => rw [hf] at h; cases h
        | some f =>
          rw [hf] at h
          rcases f with _ | _ | f
          · cases (show some (pc + n, lv, .inr (.inr (.inr (e + 1))) :: st, M) = some q from h)
            refine ⟨N, (if_pos hc).trans ?_, hM⟩
            first | (rw [hf]; done) | (rw [hf]; rfl)
          · cases (show some (pc + n, lv, .inl 0 :: st, M) = some q from h)
            refine ⟨N, (if_pos hc).trans ?_, hM⟩
            first | (rw [hf]; done) | (rw [hf]; rfl)
          · cases (show none = some q from h)
      · rw [if_neg hc] at h
        cases h
  | putfield w =>
    rcases st with _ | ⟨v0, st⟩
    · cases (show none = some q from h)
    rcases st with _ | ⟨v1, st⟩
    · cases (show none = some q from h)
    rcases v1 with v1 | v1 | v1 | v1
    · cases (show none = some q from h)
    · cases (show none = some q from h)
    rotate_left
    · cases (show none = some q from h)
    rcases v1 with _ | v1
    · cases (show none = some q from h)
    simp only [am_s] at h
    split at h
    · rename_i s hs
      have hs2 := (hM.sh v1).trans hs
      split at h
      · rename_i f hf
        split at h
        · rename_i hc
          obtain ⟨M2, hM2, rfl⟩ := Option.map_eq_some_iff.mp h
          obtain ⟨N2, e2, hN2⟩ := rn_pf hM hM2
          refine ⟨N2, ?_, hN2⟩
          show am_s X pc (rn_l lv) (rn_v v0 :: .inr (.inr (.inl (some (rn_p v1)))) :: rn_s st) N (.putfield w) n x = _
          generalize rn_v v0 = u at e2 ⊢
          simp only [am_s, hs2, hf, if_pos hc, e2, Option.map_some]
        · cases h
      · cases h
    · cases h
  | arraylength =>
    rcases st with _ | ⟨v0, st⟩
    · cases (show none = some q from h)
    rcases v0 with v0 | v0 | v0
    · cases (show none = some q from h)
    · cases (show none = some q from h)
    rcases v0 with v0 | e
    · rcases v0 with _ | v0
      · cases (show none = some q from h)
      simp only [am_s] at h
      split at h
      · rename_i s hs
        have hs2 := (hM.sh v0).trans hs
        split at h
        · rename_i hc
          cases h
          refine ⟨N, ?_, hM⟩
          simp only [am_s, rn_s, List.map_cons, rn_v, rn_a, Option.map_some, hs2, if_pos hc]
        · cases h
      · cases h
    · have h : (if e = 0 then some (pc + n, lv, .inl X.1 :: st, M) else if e % 2 = 0 ∧ e < 22 then some (pc + n, lv, .inl (am_strs.getD (e / 2 - 1) []).length :: st, M) else none) = some q := h
      by_cases h0 : e = 0
      · rw [if_pos h0] at h
        cases h
        exact ⟨N, if_pos h0, hM⟩
      · rw [if_neg h0] at h
        by_cases hc : e % 2 = 0 ∧ e < 22
        · rw [if_pos hc] at h
          cases h
          exact ⟨N, (if_neg h0).trans (if_pos hc), hM⟩
        · rw [if_neg hc] at h
          cases h
  | iaload =>
    rcases st with _ | ⟨v0, st⟩
    · cases (show none = some q from h)
    rcases v0 with v0 | v0
    rotate_left
    · cases (show none = some q from h)
    rcases st with _ | ⟨v1, st⟩
    · cases (show none = some q from h)
    rcases v1 with v1 | v1 | v1
    · cases (show none = some q from h)
    · cases (show none = some q from h)
    rcases v1 with v1 | e
    · rcases v1 with _ | v1
      · cases (show none = some q from h)
      simp only [am_s] at h
      split at h
      · rename_i s hs
        have hs2 := (hM.sh v1).trans hs
        split at h
        · rename_i hc
          cases h
          refine ⟨N, ?_, hM⟩
          simp only [am_s, rn_s, List.map_cons, rn_v, rn_a, Option.map_some, hs2, if_pos hc, hM.i]
        · cases h
      · cases h
    · have h : (if e = 0 ∧ am_inb v0 X.1 = true then some (pc + n, lv, .inl (X.2 v0.toNat) :: st, M) else none) = some q := h
      by_cases hc : e = 0 ∧ am_inb v0 X.1 = true
      · rw [if_pos hc] at h
        cases h
        exact ⟨N, if_pos hc, hM⟩
      · rw [if_neg hc] at h
        cases h
  | baload =>
    rcases st with _ | ⟨v0, st⟩
    · cases (show none = some q from h)
    rcases v0 with v0 | v0
    rotate_left
    · cases (show none = some q from h)
    rcases st with _ | ⟨v1, st⟩
    · cases (show none = some q from h)
    rcases v1 with v1 | v1 | v1
    · cases (show none = some q from h)
    · cases (show none = some q from h)
    rcases v1 with v1 | e
    · rcases v1 with _ | v1
      · cases (show none = some q from h)
      simp only [am_s] at h
      split at h
      · rename_i s hs
        have hs2 := (hM.sh v1).trans hs
        split at h
        · rename_i hc
          cases h
          refine ⟨N, ?_, hM⟩
          simp only [am_s, rn_s, List.map_cons, rn_v, rn_a, Option.map_some, hs2, if_pos hc, hM.i]
        · cases h
      · cases h
    · have h : (if e % 2 = 0 ∧ 0 < e ∧ e < 22 ∧ am_inb v0 (am_strs.getD (e / 2 - 1) []).length = true then some (pc + n, lv, .inl ((am_strs.getD (e / 2 - 1) []).getD v0.toNat 0) :: st, M) else none) = some q := h
      by_cases hc : e % 2 = 0 ∧ 0 < e ∧ e < 22 ∧ am_inb v0 (am_strs.getD (e / 2 - 1) []).length = true
      · rw [if_pos hc] at h
        cases h
        exact ⟨N, if_pos hc, hM⟩
      · rw [if_neg hc] at h
        cases h
  | laload =>
    rcases st with _ | ⟨v0, st⟩
    · cases (show none = some q from h)
    rcases v0 with v0 | v0
    rotate_left
    · cases (show none = some q from h)
    rcases st with _ | ⟨v1, st⟩
    · cases (show none = some q from h)
    rcases v1 with v1 | v1 | v1
    · cases (show none = some q from h)
    · cases (show none = some q from h)
    rcases v1 with v1 | e
    · rcases v1 with _ | v1
      · cases (show none = some q from h)
      simp only [am_s] at h
      split at h
      · rename_i s hs
        have hs2 := (hM.sh v1).trans hs
        split at h
        · rename_i hc
          cases h
          refine ⟨N, ?_, hM⟩
          simp only [am_s, rn_s, List.map_cons, rn_v, rn_a, Option.map_some, hs2, if_pos hc, hM.j]
        · cases h
      · cases h
    · cases (show none = some q from h)
  | aaload =>
    rcases st with _ | ⟨v0, st⟩
    · cases (show none = some q from h)
    rcases v0 with v0 | v0
    rotate_left
    · cases (show none = some q from h)
    rcases st with _ | ⟨v1, st⟩
    · cases (show none = some q from h)
    rcases v1 with v1 | v1 | v1
    · cases (show none = some q from h)
    · cases (show none = some q from h)
    rcases v1 with v1 | e
    · rcases v1 with _ | v1
      · cases (show none = some q from h)
      simp only [am_s] at h
      split at h
      · rename_i s hs
        have hs2 := (hM.sh v1).trans hs
        split at h
        · rename_i hc
          cases h
          refine ⟨N, ?_, hM⟩
          simp only [am_s, rn_s, List.map_cons, rn_v, rn_a, Option.map_some, hs2, if_pos hc, hM.r]
        · cases h
      · cases h
    · cases (show none = some q from h)
  | iastore =>
    rcases st with _ | ⟨v0, st⟩
    · cases (show none = some q from h)
    rcases v0 with v0 | v0
    rotate_left
    · cases (show none = some q from h)
    rcases st with _ | ⟨v1, st⟩
    · cases (show none = some q from h)
    rcases v1 with v1 | v1
    rotate_left
    · cases (show none = some q from h)
    rcases st with _ | ⟨v2, st⟩
    · cases (show none = some q from h)
    rcases v2 with v2 | v2 | v2 | v2
    · cases (show none = some q from h)
    · cases (show none = some q from h)
    rotate_left
    · cases (show none = some q from h)
    rcases v2 with _ | v2
    · cases (show none = some q from h)
    simp only [am_s] at h
    split at h
    · rename_i s hs
      have hs2 := (hM.sh v2).trans hs
      split at h
      · rename_i hc
        cases h
        refine ⟨am_pI N (rn_p v2) v1.toNat v0, ?_, rn_pI hM⟩
        simp only [am_s, rn_s, List.map_cons, rn_v, rn_a, Option.map_some, hs2, if_pos hc]
      · cases h
    · cases h
  | bastore =>
    rcases st with _ | ⟨v0, st⟩
    · cases (show none = some q from h)
    rcases v0 with v0 | v0
    rotate_left
    · cases (show none = some q from h)
    rcases st with _ | ⟨v1, st⟩
    · cases (show none = some q from h)
    rcases v1 with v1 | v1
    rotate_left
    · cases (show none = some q from h)
    rcases st with _ | ⟨v2, st⟩
    · cases (show none = some q from h)
    rcases v2 with v2 | v2 | v2 | v2
    · cases (show none = some q from h)
    · cases (show none = some q from h)
    rotate_left
    · cases (show none = some q from h)
    rcases v2 with _ | v2
    · cases (show none = some q from h)
    simp only [am_s] at h
    split at h
    · rename_i s hs
      have hs2 := (hM.sh v2).trans hs
      split at h
      · rename_i hc
        cases h
        refine ⟨am_pI N (rn_p v2) v1.toNat v0, ?_, rn_pI hM⟩
        simp only [am_s, rn_s, List.map_cons, rn_v, rn_a, Option.map_some, hs2, if_pos hc]
      · cases h
    · cases h
  | lastore =>
    rcases st with _ | ⟨v0, st⟩
    · cases (show none = some q from h)
    rcases v0 with v0 | v0 | v0
    · cases (show none = some q from h)
    rotate_left
    · cases (show none = some q from h)
    rcases st with _ | ⟨v1, st⟩
    · cases (show none = some q from h)
    rcases v1 with v1 | v1
    rotate_left
    · cases (show none = some q from h)
    rcases st with _ | ⟨v2, st⟩
    · cases (show none = some q from h)
    rcases v2 with v2 | v2 | v2 | v2
    · cases (show none = some q from h)
    · cases (show none = some q from h)
    rotate_left
    · cases (show none = some q from h)
    rcases v2 with _ | v2
    · cases (show none = some q from h)
    simp only [am_s] at h
    split at h
    · rename_i s hs
      have hs2 := (hM.sh v2).trans hs
      split at h
      · rename_i hc
        cases h
        refine ⟨am_pJ N (rn_p v2) v1.toNat v0, ?_, rn_pJ hM⟩
        simp only [am_s, rn_s, List.map_cons, rn_v, rn_a, Option.map_some, hs2, if_pos hc]
      · cases h
    · cases h
  | aastore =>
    rcases st with _ | ⟨v0, st⟩
    · cases (show none = some q from h)
    rcases v0 with v0 | v0 | v0 | v0
    · cases (show none = some q from h)
    · cases (show none = some q from h)
    rotate_left
    · cases (show none = some q from h)
    rcases v0 with _ | v0
    · cases (show none = some q from h)
    rcases st with _ | ⟨v1, st⟩
    · cases (show none = some q from h)
    rcases v1 with v1 | v1
    rotate_left
    · cases (show none = some q from h)
    rcases st with _ | ⟨v2, st⟩
    · cases (show none = some q from h)
    rcases v2 with v2 | v2 | v2 | v2
    · cases (show none = some q from h)
    · cases (show none = some q from h)
    rotate_left
    · cases (show none = some q from h)
    rcases v2 with _ | v2
    · cases (show none = some q from h)
    simp only [am_s] at h
    split at h
    · rename_i s sv hs hv
      have hs2 := (hM.sh v2).trans hs
      have hv2 := (hM.sh v0).trans hv
      split at h
      · rename_i hc
        cases h
        refine ⟨am_pR N (rn_p v2) v1.toNat (some (rn_p v0)), ?_, rn_pR (v := some v0) hM⟩
        simp only [am_s, rn_s, List.map_cons, rn_v, rn_a, Option.map_some, hs2, hv2, if_pos hc]
      · cases h
    · cases h
  | new w =>
    have h : (if x < 13 then some (pc + n, lv, .inr (.inr (.inl (some M.1.length))) :: st, am_nw M (x, am_nf x)) else none) = some q := h
    by_cases hc : x < 13
    · rw [if_pos hc] at h
      cases h
      exact ⟨_, (if_pos hc).trans (congrArg (fun k => some (pc + n, rn_l lv, (.inr (.inr (.inl (some k))) : am_V) :: rn_s st, am_nw N (x, am_nf x))) (rn_top hM).symm), rn_nw hM⟩
    · rw [if_neg hc] at h
      cases h
  | newarray t =>
    rcases st with _ | ⟨v0, st⟩
    · cases (show none = some q from h)
    rcases v0 with v0 | v0
    rotate_left
    · cases (show none = some q from h)
    have e0 : am_s X pc (rn_l lv) (rn_s (.inl v0 :: st)) N (.newarray t) n x = am_s X pc (rn_l lv) (.inl v0 :: rn_s st) N (.newarray t) n x := rfl
    rw [e0]
    simp only [am_s] at h ⊢
    split at h
    · rename_i hc
      rw [if_pos hc]
      split at h
      · cases h
        exact ⟨_, congrArg (fun k => some (pc + n, rn_l lv, (.inr (.inr (.inl (some k))) : am_V) :: rn_s st, am_nw N (20, v0.toNat))) (rn_top hM).symm, rn_nw hM⟩
      · cases h
        exact ⟨_, congrArg (fun k => some (pc + n, rn_l lv, (.inr (.inr (.inl (some k))) : am_V) :: rn_s st, am_nw N (21, v0.toNat))) (rn_top hM).symm, rn_nw hM⟩
      · cases h
        exact ⟨_, congrArg (fun k => some (pc + n, rn_l lv, (.inr (.inr (.inl (some k))) : am_V) :: rn_s st, am_nw N (22, v0.toNat))) (rn_top hM).symm, rn_nw hM⟩
      · cases h
    · cases h
  | anewarray w =>
    rcases st with _ | ⟨v0, st⟩
    · cases (show none = some q from h)
    rcases v0 with v0 | v0
    rotate_left
    · cases (show none = some q from h)
    have h : (if 0 ≤ v0 ∧ v0 ≤ 10000 then some (pc + n, lv, .inr (.inr (.inl (some M.1.length))) :: st, am_nw M (24, v0.toNat)) else none) = some q := h
    by_cases hc : 0 ≤ v0 ∧ v0 ≤ 10000
    · rw [if_pos hc] at h
      cases h
      exact ⟨_, (if_pos hc).trans (congrArg (fun k => some (pc + n, rn_l lv, (.inr (.inr (.inl (some k))) : am_V) :: rn_s st, am_nw N (24, v0.toNat))) (rn_top hM).symm), rn_nw hM⟩
    · rw [if_neg hc] at h
      cases h
  | multianewarray w u =>
    rcases st with _ | ⟨v0, st⟩
    · cases (show none = some q from h)
    rcases v0 with v0 | v0
    rotate_left
    · cases (show none = some q from h)
    rcases st with _ | ⟨v1, st⟩
    · cases (show none = some q from h)
    rcases v1 with v1 | v1
    rotate_left
    · cases (show none = some q from h)
    have h : (if 0 ≤ v0 ∧ v0 ≤ 10000 ∧ 0 ≤ v1 ∧ v1 ≤ 10000 then some (pc + n, lv, .inr (.inr (.inl (some M.1.length))) :: st, am_mna M v1.toNat v0.toNat) else none) = some q := h
    by_cases hc : 0 ≤ v0 ∧ v0 ≤ 10000 ∧ 0 ≤ v1 ∧ v1 ≤ 10000
    · rw [if_pos hc] at h
      cases h
      exact ⟨_, (if_pos hc).trans (congrArg (fun k => some (pc + n, rn_l lv, (.inr (.inr (.inl (some k))) : am_V) :: rn_s st, am_mna N v1.toNat v0.toNat)) (rn_top hM).symm), rn_mna hM⟩
    · rw [if_neg hc] at h
      cases h
  | instanceof w =>
    rcases st with _ | ⟨v0, st⟩
    · cases (show none = some q from h)
    rcases v0 with v0 | v0 | v0 | v0
    · cases (show none = some q from h)
    · cases (show none = some q from h)
    rotate_left
    · cases (show none = some q from h)
    rcases v0 with _ | v0
    · cases (show none = some q from h)
    simp only [am_s] at h
    split at h
    · rename_i s hs
      have hs2 := (hM.sh v0).trans hs
      split at h
      · rename_i hc
        obtain ⟨b, hb, rfl⟩ := Option.map_eq_some_iff.mp h
        refine ⟨N, ?_, hM⟩
        simp only [am_s, rn_s, List.map_cons, rn_v, rn_a, Option.map_some, hs2, if_pos hc, hb]
      · cases h
    · cases h
  | iadd =>
    rcases st with _ | ⟨v0, st⟩
    · cases (show none = some q from h)
    rcases v0 with v0 | v0
    rotate_left
    · cases (show none = some q from h)
    rcases st with _ | ⟨v1, st⟩
    · cases (show none = some q from h)
    rcases v1 with v1 | v1
    rotate_left
    · cases (show none = some q from h)
    simp only [am_s, am_op, am_opj] at h
    obtain ⟨v, hv, rfl⟩ := Option.map_eq_some_iff.mp h
    first
    | exact ⟨N, Option.map_eq_some_iff.mpr ⟨v, hv, rfl⟩, hM⟩
    | (cases hv; exact ⟨N, rfl, hM⟩)
  | isub =>
    rcases st with _ | ⟨v0, st⟩
    · cases (show none = some q from h)
    rcases v0 with v0 | v0
    rotate_left
    · cases (show none = some q from h)
    rcases st with _ | ⟨v1, st⟩
    · cases (show none = some q from h)
    rcases v1 with v1 | v1
    rotate_left
    · cases (show none = some q from h)
    simp only [am_s, am_op, am_opj] at h
    obtain ⟨v, hv, rfl⟩ := Option.map_eq_some_iff.mp h
    first
    | exact ⟨N, Option.map_eq_some_iff.mpr ⟨v, hv, rfl⟩, hM⟩
    | (cases hv; exact ⟨N, rfl, hM⟩)
  | imul =>
    rcases st with _ | ⟨v0, st⟩
    · cases (show none = some q from h)
    rcases v0 with v0 | v0
    rotate_left
    · cases (show none = some q from h)
    rcases st with _ | ⟨v1, st⟩
    · cases (show none = some q from h)
    rcases v1 with v1 | v1
    rotate_left
    · cases (show none = some q from h)
    simp only [am_s, am_op, am_opj] at h
    obtain ⟨v, hv, rfl⟩ := Option.map_eq_some_iff.mp h
    first
    | exact ⟨N, Option.map_eq_some_iff.mpr ⟨v, hv, rfl⟩, hM⟩
    | (cases hv; exact ⟨N, rfl, hM⟩)
  | iand =>
    rcases st with _ | ⟨v0, st⟩
    · cases (show none = some q from h)
    rcases v0 with v0 | v0
    rotate_left
    · cases (show none = some q from h)
    rcases st with _ | ⟨v1, st⟩
    · cases (show none = some q from h)
    rcases v1 with v1 | v1
    rotate_left
    · cases (show none = some q from h)
    simp only [am_s, am_op, am_opj] at h
    obtain ⟨v, hv, rfl⟩ := Option.map_eq_some_iff.mp h
    first
    | exact ⟨N, Option.map_eq_some_iff.mpr ⟨v, hv, rfl⟩, hM⟩
    | (cases hv; exact ⟨N, rfl, hM⟩)
  | ior =>
    rcases st with _ | ⟨v0, st⟩
    · cases (show none = some q from h)
    rcases v0 with v0 | v0
    rotate_left
    · cases (show none = some q from h)
    rcases st with _ | ⟨v1, st⟩
    · cases (show none = some q from h)
    rcases v1 with v1 | v1
    rotate_left
    · cases (show none = some q from h)
    simp only [am_s, am_op, am_opj] at h
    obtain ⟨v, hv, rfl⟩ := Option.map_eq_some_iff.mp h
    first
    | exact ⟨N, Option.map_eq_some_iff.mpr ⟨v, hv, rfl⟩, hM⟩
    | (cases hv; exact ⟨N, rfl, hM⟩)
  | ixor =>
    rcases st with _ | ⟨v0, st⟩
    · cases (show none = some q from h)
    rcases v0 with v0 | v0
    rotate_left
    · cases (show none = some q from h)
    rcases st with _ | ⟨v1, st⟩
    · cases (show none = some q from h)
    rcases v1 with v1 | v1
    rotate_left
    · cases (show none = some q from h)
    simp only [am_s, am_op, am_opj] at h
    obtain ⟨v, hv, rfl⟩ := Option.map_eq_some_iff.mp h
    first
    | exact ⟨N, Option.map_eq_some_iff.mpr ⟨v, hv, rfl⟩, hM⟩
    | (cases hv; exact ⟨N, rfl, hM⟩)
  | ishl =>
    rcases st with _ | ⟨v0, st⟩
    · cases (show none = some q from h)
    rcases v0 with v0 | v0
    rotate_left
    · cases (show none = some q from h)
    rcases st with _ | ⟨v1, st⟩
    · cases (show none = some q from h)
    rcases v1 with v1 | v1
    rotate_left
    · cases (show none = some q from h)
    simp only [am_s, am_op, am_opj] at h
    obtain ⟨v, hv, rfl⟩ := Option.map_eq_some_iff.mp h
    first
    | exact ⟨N, Option.map_eq_some_iff.mpr ⟨v, hv, rfl⟩, hM⟩
    | (cases hv; exact ⟨N, rfl, hM⟩)
  | ishr =>
    rcases st with _ | ⟨v0, st⟩
    · cases (show none = some q from h)
    rcases v0 with v0 | v0
    rotate_left
    · cases (show none = some q from h)
    rcases st with _ | ⟨v1, st⟩
    · cases (show none = some q from h)
    rcases v1 with v1 | v1
    rotate_left
    · cases (show none = some q from h)
    simp only [am_s, am_op, am_opj] at h
    obtain ⟨v, hv, rfl⟩ := Option.map_eq_some_iff.mp h
    first
    | exact ⟨N, Option.map_eq_some_iff.mpr ⟨v, hv, rfl⟩, hM⟩
    | (cases hv; exact ⟨N, rfl, hM⟩)
  | iushr =>
    rcases st with _ | ⟨v0, st⟩
    · cases (show none = some q from h)
    rcases v0 with v0 | v0
    rotate_left
    · cases (show none = some q from h)
    rcases st with _ | ⟨v1, st⟩
    · cases (show none = some q from h)
    rcases v1 with v1 | v1
    rotate_left
    · cases (show none = some q from h)
    simp only [am_s, am_op, am_opj] at h
    obtain ⟨v, hv, rfl⟩ := Option.map_eq_some_iff.mp h
    first
    | exact ⟨N, Option.map_eq_some_iff.mpr ⟨v, hv, rfl⟩, hM⟩
    | (cases hv; exact ⟨N, rfl, hM⟩)
  | idiv =>
    rcases st with _ | ⟨v0, st⟩
    · cases (show none = some q from h)
    rcases v0 with v0 | v0
    rotate_left
    · cases (show none = some q from h)
    rcases st with _ | ⟨v1, st⟩
    · cases (show none = some q from h)
    rcases v1 with v1 | v1
    rotate_left
    · cases (show none = some q from h)
    simp only [am_s, am_op, am_opj] at h
    obtain ⟨v, hv, rfl⟩ := Option.map_eq_some_iff.mp h
    first
    | exact ⟨N, Option.map_eq_some_iff.mpr ⟨v, hv, rfl⟩, hM⟩
    | (cases hv; exact ⟨N, rfl, hM⟩)
  | irem =>
    rcases st with _ | ⟨v0, st⟩
    · cases (show none = some q from h)
    rcases v0 with v0 | v0
    rotate_left
    · cases (show none = some q from h)
    rcases st with _ | ⟨v1, st⟩
    · cases (show none = some q from h)
    rcases v1 with v1 | v1
    rotate_left
    · cases (show none = some q from h)
    simp only [am_s, am_op, am_opj] at h
    obtain ⟨v, hv, rfl⟩ := Option.map_eq_some_iff.mp h
    first
    | exact ⟨N, Option.map_eq_some_iff.mpr ⟨v, hv, rfl⟩, hM⟩
    | (cases hv; exact ⟨N, rfl, hM⟩)
  | ladd =>
    rcases st with _ | ⟨v0, st⟩
    · cases (show none = some q from h)
    rcases v0 with v0 | v0 | v0
    · cases (show none = some q from h)
    rotate_left
    · cases (show none = some q from h)
    rcases st with _ | ⟨v1, st⟩
    · cases (show none = some q from h)
    rcases v1 with v1 | v1 | v1
    · cases (show none = some q from h)
    rotate_left
    · cases (show none = some q from h)
    simp only [am_s, am_op, am_opj] at h
    obtain ⟨v, hv, rfl⟩ := Option.map_eq_some_iff.mp h
    first
    | exact ⟨N, Option.map_eq_some_iff.mpr ⟨v, hv, rfl⟩, hM⟩
    | (cases hv; exact ⟨N, rfl, hM⟩)
  | lmul =>
    rcases st with _ | ⟨v0, st⟩
    · cases (show none = some q from h)
    rcases v0 with v0 | v0 | v0
    · cases (show none = some q from h)
    rotate_left
    · cases (show none = some q from h)
    rcases st with _ | ⟨v1, st⟩
    · cases (show none = some q from h)
    rcases v1 with v1 | v1 | v1
    · cases (show none = some q from h)
    rotate_left
    · cases (show none = some q from h)
    simp only [am_s, am_op, am_opj] at h
    obtain ⟨v, hv, rfl⟩ := Option.map_eq_some_iff.mp h
    first
    | exact ⟨N, Option.map_eq_some_iff.mpr ⟨v, hv, rfl⟩, hM⟩
    | (cases hv; exact ⟨N, rfl, hM⟩)
  | ldiv =>
    rcases st with _ | ⟨v0, st⟩
    · cases (show none = some q from h)
    rcases v0 with v0 | v0 | v0
    · cases (show none = some q from h)
    rotate_left
    · cases (show none = some q from h)
    rcases st with _ | ⟨v1, st⟩
    · cases (show none = some q from h)
    rcases v1 with v1 | v1 | v1
    · cases (show none = some q from h)
    rotate_left
    · cases (show none = some q from h)
    simp only [am_s, am_op, am_opj] at h
    obtain ⟨v, hv, rfl⟩ := Option.map_eq_some_iff.mp h
    first
    | exact ⟨N, Option.map_eq_some_iff.mpr ⟨v, hv, rfl⟩, hM⟩
    | (cases hv; exact ⟨N, rfl, hM⟩)
  | lrem =>
    rcases st with _ | ⟨v0, st⟩
    · cases (show none = some q from h)
    rcases v0 with v0 | v0 | v0
    · cases (show none = some q from h)
    rotate_left
    · cases (show none = some q from h)
    rcases st with _ | ⟨v1, st⟩
    · cases (show none = some q from h)
    rcases v1 with v1 | v1 | v1
    · cases (show none = some q from h)
    rotate_left
    · cases (show none = some q from h)
    simp only [am_s, am_op, am_opj] at h
    obtain ⟨v, hv, rfl⟩ := Option.map_eq_some_iff.mp h
    first
    | exact ⟨N, Option.map_eq_some_iff.mpr ⟨v, hv, rfl⟩, hM⟩
    | (cases hv; exact ⟨N, rfl, hM⟩)
  | _ => cases (show none = some q from h)
theorem rn_cp {M N : am_M} {st : List am_V} {q : List am_V × am_M} (hM : rn_M M N) (h : am_cp M st = some q) : ∃ N2, am_cp N (rn_s st) = some (rn_s q.1, N2) ∧ rn_M q.2 N2 := by
  rcases st with _ | ⟨v0, st⟩
  · cases (show none = some q from h)
  rcases v0 with v0 | v0
  rotate_left
  · cases (show none = some q from h)
  rcases st with _ | ⟨v1, st⟩
  · cases (show none = some q from h)
  rcases v1 with v1 | v1
  rotate_left
  · cases (show none = some q from h)
  rcases st with _ | ⟨v2, st⟩
  · cases (show none = some q from h)
  rcases v2 with v2 | v2 | v2 | v2
  · cases (show none = some q from h)
  · cases (show none = some q from h)
  rotate_left
  · cases (show none = some q from h)
  rcases v2 with _ | v2
  · cases (show none = some q from h)
  rcases st with _ | ⟨v3, st⟩
  · cases (show none = some q from h)
  rcases v3 with v3 | v3
  rotate_left
  · cases (show none = some q from h)
  rcases st with _ | ⟨v4, st⟩
  · cases (show none = some q from h)
  rcases v4 with v4 | v4 | v4 | v4
  · cases (show none = some q from h)
  · cases (show none = some q from h)
  rotate_left
  · cases (show none = some q from h)
  rcases v4 with _ | v4
  · cases (show none = some q from h)
  simp only [am_cp] at h
  split at h
  · rename_i s t hs ht
    have hs2 := (hM.sh v2).trans hs
    have ht2 := (hM.sh v4).trans ht
    split at h
    · rename_i hc
      cases h
      have hc2 : am_cats (List.map rn_v st) = am_cats st := rn_cats
      refine ⟨(N.1, (fun c i => if c = rn_p v2 ∧ (v1.toNat ≤ i ∧ i < v1.toNat + v0.toNat) then N.2.1 (rn_p v4) (v3.toNat + (i - v1.toNat)) else N.2.1 c i), N.2.2.1, N.2.2.2), ?_, hM.1, hM.2.1, hM.2.2.1, ?_, hM.2.2.2.2.1, hM.2.2.2.2.2.1, hM.2.2.2.2.2.2⟩
      · simp only [am_cp, rn_s, List.map_cons, rn_v, rn_a, Option.map_some, hs2, ht2, hc2, if_pos hc]
      · intro k j
        show (if rn_p k = rn_p v2 ∧ (v1.toNat ≤ j ∧ j < v1.toNat + v0.toNat) then N.2.1 (rn_p v4) (v3.toNat + (j - v1.toNat)) else N.2.1 (rn_p k) j) = (if k = v2 ∧ (v1.toNat ≤ j ∧ j < v1.toNat + v0.toNat) then M.2.1 v4 (v3.toNat + (j - v1.toNat)) else M.2.1 k j)
        by_cases e : k = v2 ∧ (v1.toNat ≤ j ∧ j < v1.toNat + v0.toNat)
        · rw [if_pos e, if_pos ⟨by rw [e.1], e.2⟩]
          exact hM.i v4 _
        · rw [if_neg e, if_neg (fun g => e ⟨rn_inj g.1, g.2⟩)]
          exact hM.i k j
    · cases h
  · cases h
theorem rn_rok {mid : Nat} {v : Option am_V} : am_rok mid (v.map rn_v) = am_rok mid v := by
  rcases v with _ | v
  · rfl
  rcases v with z | z | v
  · rfl
  · rfl
  · show am_rok mid (some (.inr (.inr (rn_a v)))) = am_rok mid (some (.inr (.inr v)))
    unfold am_rok
    generalize am_r mid = t
    rcases t with _ | t
    · rfl
    · cases t <;> rfl
theorem rn_ret {mid : Nat} {v : Option am_V} {M N : am_M} {r : am_R} (hM : rn_M M N) (h : am_ret mid v M = some r) : ∃ N2, am_ret mid (v.map rn_v) N = some (r.1.map rn_v, N2) ∧ rn_M r.2 N2 := by
  unfold am_ret at h ⊢
  split at h
  · rename_i hc
    cases h
    exact ⟨N, if_pos (rn_rok.trans hc), hM⟩
  · cases h
def rn_K (K : am_K) : Prop := ∀ d mid pc lv st M N r, rn_M M N → K d mid pc lv st M = some r → ∃ N2, K d mid pc (rn_l lv) (rn_s st) N = some (r.1.map rn_v, N2) ∧ rn_M r.2 N2
theorem rn_call {K : am_K} (hK : rn_K K) {d mid pc : Nat} {lv : List (Nat × am_V)} {rest : List am_V} {M N : am_M} {t : Nat} {as : List am_V} {r : am_R} (hM : rn_M M N) (h : am_call K d mid pc lv rest M t as = some r) : ∃ N2, am_call K d mid pc (rn_l lv) (rn_s rest) N t (rn_s as) = some (r.1.map rn_v, N2) ∧ rn_M r.2 N2 := by
  cases d with
  | zero => cases (show none = some r from h)
  | succ d =>
    have h : (if am_cats rest ≤ 8 ∧ am_cats as ≤ am_l t then match K d t 0 (am_args 0 as) [] M with
      | some r => K (d + 1) mid pc lv (r.1.toList ++ rest) r.2
      | none => none else none) = some r := h
    by_cases hc : am_cats rest ≤ 8 ∧ am_cats as ≤ am_l t
    · rw [if_pos hc] at h
      cases h1 : K d t 0 (am_args 0 as) [] M with
      | none => rw [h1] at h; cases h
      | some r1 =>
        rw [h1] at h
        have h : K (d + 1) mid pc lv (r1.1.toList ++ rest) r1.2 = some r := h
        obtain ⟨N1, e1, hM1⟩ := hK _ _ _ _ _ _ _ _ hM h1
        obtain ⟨N2, e2, hM2⟩ := hK _ _ _ _ _ _ _ _ hM1 h
        refine ⟨N2, ?_, hM2⟩
        show (if am_cats (rn_s rest) ≤ 8 ∧ am_cats (rn_s as) ≤ am_l t then match K d t 0 (am_args 0 (rn_s as)) [] N with
          | some r => K (d + 1) mid pc (rn_l lv) (r.1.toList ++ rn_s rest) r.2
          | none => none else none) = _
        have e1 : K d t 0 (rn_l (am_args 0 as)) [] N = some (r1.1.map rn_v, N1) := e1
        have e3 : (r1.1.map rn_v).toList ++ rn_s rest = rn_s (r1.1.toList ++ rest) := by
          unfold rn_s
          rw [List.map_append]
          cases r1.1 <;> rfl
        rw [rn_cats, rn_cats, if_pos hc, rn_args, e1]
        show K (d + 1) mid pc (rn_l lv) ((r1.1.map rn_v).toList ++ rn_s rest) N1 = _
        rw [e3]
        exact e2
    · rw [if_neg hc] at h
      cases h
theorem rn_x {X : Nat × (Nat → Int)} {K : am_K} (hK : rn_K K) {d mid pc : Nat} {lv : List (Nat × am_V)} {st : List am_V} {M N : am_M} {i : Instr} {n x : Nat} {r : am_R} (hM : rn_M M N) (h : am_x X K d mid pc lv st M i n x = some r) : ∃ N2, am_x X K d mid pc (rn_l lv) (rn_s st) N i n x = some (r.1.map rn_v, N2) ∧ rn_M r.2 N2 := by
  cases i with
  | ireturn =>
    rcases st with _ | ⟨v, st⟩
    · cases (show none = some r from h)
    rcases v with z | v
    · rcases st with _ | ⟨w, st⟩
      · exact rn_ret (v := some (.inl z)) hM h
      · cases (show none = some r from h)
    · cases (show none = some r from h)
  | lreturn =>
    rcases st with _ | ⟨v, st⟩
    · cases (show none = some r from h)
    rcases v with z | z | v
    · cases (show none = some r from h)
    · rcases st with _ | ⟨w, st⟩
      · exact rn_ret (v := some (.inr (.inl z))) hM h
      · cases (show none = some r from h)
    · cases (show none = some r from h)
  | areturn =>
    rcases st with _ | ⟨v, st⟩
    · cases (show none = some r from h)
    rcases v with z | z | v
    · cases (show none = some r from h)
    · cases (show none = some r from h)
    · rcases st with _ | ⟨w, st⟩
      · exact rn_ret (v := some (.inr (.inr v))) hM h
      · cases (show none = some r from h)
  | return_ =>
    rcases st with _ | ⟨v, st⟩
    · exact rn_ret (v := none) hM h
    · cases (show none = some r from h)
  | invokestatic v =>
    simp only [am_x] at h ⊢
    split at h
    · rename_i t ht
      split at h
      · rename_i hc
        obtain ⟨N2, e, hN⟩ := rn_call hK hM h
        refine ⟨N2, ?_, hN⟩
        rw [if_pos (by rw [rn_len]; exact hc), rn_drop, rn_rev]
        exact e
      · cases h
    · rename_i ht
      split at h
      · rename_i h5
        rcases d with _ | d
        · cases h
        · have h : (match am_cp M st with
            | some q => K (d + 1) mid (pc + n) lv q.1 q.2
            | none => none) = some r := h
          cases hq : am_cp M st with
          | none => rw [hq] at h; cases h
          | some q =>
            rw [hq] at h
            obtain ⟨N1, e1, hM1⟩ := rn_cp hM hq
            obtain ⟨N2, e2, hM2⟩ := hK _ _ _ _ _ _ _ _ hM1 h
            refine ⟨N2, ?_, hM2⟩
            simp only [ht, h5, e1]
            exact e2
      · cases h
  | invokespecial w =>
    simp only [am_x] at h ⊢
    split at h
    · rename_i v rest hd
      have hd2 : (rn_s st).drop (am_N x) = rn_v v :: rn_s rest := by rw [rn_drop, hd]; rfl
      split at h
      · rename_i c hk
        have hk2 := (rn_kd hM (v := v)).trans hk
        split at h
        · rename_i t ht
          by_cases ho : t = am_oi
          · rw [if_pos ho] at h
            rcases d with _ | d
            · cases h
            · have h : (if am_cats rest ≤ 8 ∧ am_N x = 0 then K (d + 1) mid (pc + n) lv rest M else none) = some r := h
              by_cases hc : am_cats rest ≤ 8 ∧ am_N x = 0
              · rw [if_pos hc] at h
                obtain ⟨N2, e2, hM2⟩ := hK _ _ _ _ _ _ _ _ hM h
                refine ⟨N2, ?_, hM2⟩
                simp only [hd2, hk2, ht]
                rw [if_pos ho, if_pos (by rw [rn_cats]; exact hc)]
                exact e2
              · rw [if_neg hc] at h
                cases h
          · rw [if_neg ho] at h
            by_cases hc : am_N x ≤ st.length
            · rw [if_pos hc] at h
              obtain ⟨N2, e2, hM2⟩ := rn_call hK hM h
              refine ⟨N2, ?_, hM2⟩
              simp only [hd2, hk2, ht]
              rw [if_neg ho, if_pos (by rw [rn_len]; exact hc), rn_rev]
              exact e2
            · rw [if_neg hc] at h
              cases h
        · cases h
      · cases h
    · cases h
  | invokevirtual w =>
    simp only [am_x] at h ⊢
    split at h
    · rename_i v rest hd
      have hd2 : (rn_s st).drop (am_N x) = rn_v v :: rn_s rest := by rw [rn_drop, hd]; rfl
      split at h
      · rename_i c hk
        have hk2 := (rn_kd hM (v := v)).trans hk
        split at h
        · rename_i t ht
          by_cases hc : am_N x ≤ st.length
          · rw [if_pos hc] at h
            obtain ⟨N2, e2, hM2⟩ := rn_call hK hM h
            refine ⟨N2, ?_, hM2⟩
            simp only [hd2, hk2, ht]
            rw [if_pos (by rw [rn_len]; exact hc), rn_rev]
            exact e2
          · rw [if_neg hc] at h
            cases h
        · cases h
      · cases h
    · cases h
  | _ =>
    simp only [am_x] at h ⊢
    split at h
    · rename_i q hq
      obtain ⟨N1, e1, hM1⟩ := rn_step hM hq
      obtain ⟨N2, e2, hM2⟩ := hK _ _ _ _ _ _ _ _ hM1 h
      refine ⟨N2, ?_, hM2⟩
      rw [e1]
      exact e2
    · cases h
theorem rn_run (X : Nat × (Nat → Int)) : ∀ n, rn_K (am_run X n) := by
  intro n
  induction n with
  | zero => intro d mid pc lv st M N r _ h; cases h
  | succ n ih =>
    intro d mid pc lv st M N r hM h
    have h : am_step X (am_run X n) d mid pc lv st M = some r := h
    show ∃ N2, am_step X (am_run X n) d mid pc (rn_l lv) (rn_s st) N = some (r.1.map rn_v, N2) ∧ rn_M r.2 N2
    unfold am_step at h ⊢
    cases hq : am_ins mid pc with
    | none => rw [hq] at h; cases h
    | some q =>
      rw [hq] at h
      exact rn_x ih hM h
theorem rn_E {X : Nat × (Nat → Int)} {d mid pc : Nat} {lv : List (Nat × am_V)} {st : List am_V} {M N : am_M} {P : am_R → Prop} (hM : rn_M M N) (h : am_E X d mid pc lv st M P) : am_E X d mid pc (rn_l lv) (rn_s st) N (fun r => ∃ r0, P r0 ∧ r.1 = r0.1.map rn_v ∧ rn_M r0.2 r.2) := by
  obtain ⟨n, r, h1, h2⟩ := h
  obtain ⟨N2, e, hN⟩ := rn_run X n _ _ _ _ _ _ _ _ hM h1
  exact ⟨n, _, e, r, h2, rfl, hN⟩
