/-! THE START: a run that never looks at the script -/
def am_ok (i : Instr) (st : List am_V) : Bool := match i, st with
  | .arraylength, .inr (.inr (.inr 0)) :: _ => false
  | .iaload, .inl _ :: .inr (.inr (.inr 0)) :: _ => false
  | _, _ => true
def am_X0 : Nat × (Nat → Int) := (0, fun _ => 0)
theorem am_s_X {X : Nat × (Nat → Int)} {pc : Nat} {lv : List (Nat × am_V)} {st : List am_V} {M : am_M} {i : Instr} {n x : Nat} (h : am_ok i st = true) : am_s X pc lv st M i n x = am_s am_X0 pc lv st M i n x := by
  cases i with
  | arraylength =>
    rcases st with _ | ⟨v, st⟩
    · rfl
    · rcases v with v | v | v | e
      · rfl
      · rfl
      · cases v <;> rfl
      · cases e with
        | zero => cases h
        | succ e => rfl
  | iaload =>
    rcases st with _ | ⟨v, st⟩
    · rfl
    · rcases v with v | v
      · rcases st with _ | ⟨w, st⟩
        · rfl
        · rcases w with w | w | w | e
          · rfl
          · rfl
          · cases w <;> rfl
          · cases e with
            | zero => cases h
            | succ e =>
              show (if e + 1 = 0 ∧ am_inb v X.1 = true then some (pc + n, lv, .inl (X.2 v.toNat) :: st, M) else none) = (if e + 1 = 0 ∧ am_inb v am_X0.1 = true then some (pc + n, lv, .inl (am_X0.2 v.toNat) :: st, M) else none)
              rw [if_neg (by omega), if_neg (by omega)]
      · rfl
  | _ => rfl
theorem am_x_X {X : Nat × (Nat → Int)} {K : am_K} {d mid pc : Nat} {lv : List (Nat × am_V)} {st : List am_V} {M : am_M} {i : Instr} {n x : Nat} (h : am_ok i st = true) : am_x X K d mid pc lv st M i n x = am_x am_X0 K d mid pc lv st M i n x := by
  have e := am_s_X (X := X) (pc := pc) (lv := lv) (M := M) (n := n) (x := x) h
  cases i with
  | ireturn => rfl
  | lreturn => rfl
  | areturn => rfl
  | return_ => rfl
  | invokestatic v => rfl
  | invokespecial v => rfl
  | invokevirtual v => rfl
  | _ => simp only [am_x]; rw [e]
def am_step' (K : am_K) : am_K := fun d mid pc lv st M => match am_ins mid pc with
  | some q => if am_ok q.1 st = true then am_x am_X0 K d mid pc lv st M q.1 q.2.1 q.2.2 else none
  | none => none
def am_run' : Nat → am_K := fun n => Nat.rec (fun _ _ _ _ _ _ => none) (fun _ K => am_step' K) n
theorem am_run_free (X : Nat × (Nat → Int)) : ∀ n, am_KL (am_run' n) (am_run X n) := by
  intro n
  induction n with
  | zero => intro d mid pc lv st M r h; cases h
  | succ n ih =>
    intro d mid pc lv st M r h
    have h : am_step' (am_run' n) d mid pc lv st M = some r := h
    show am_step X (am_run X n) d mid pc lv st M = some r
    unfold am_step' at h
    unfold am_step
    split at h
    · rename_i q hq
      rw [hq]
      split at h
      · rename_i hk
        show am_x X (am_run X n) d mid pc lv st M q.1 q.2.1 q.2.2 = some r
        rw [am_x_X hk]
        exact am_x_mono ih h
      · cases h
    · cases h
/-- no reference lies beyond a cell's end -/
def am_P (M : am_M) : Prop := ∀ k i, (∀ s, M.1[k]? = some s → s.2 ≤ i) → M.2.2.2 k i = none
theorem am_P_pR {M : am_M} {k i : Nat} {v : Option Nat} {s : Nat × Nat} (hP : am_P M) (hs : M.1[k]? = some s) (hi : i < s.2) : am_P (am_pR M k i v) := by
  intro k' i' h
  show (if k' = k ∧ i' = i then v else M.2.2.2 k' i') = none
  by_cases e : k' = k ∧ i' = i
  · exfalso
    have h2 : s.2 ≤ i' := h s (by rw [e.1]; exact hs)
    omega
  · rw [if_neg e]
    exact hP k' i' h
theorem am_P_nw {M : am_M} {s : Nat × Nat} (hP : am_P M) : am_P (am_nw M s) := by
  intro k i h
  show (if k = M.1.length then none else M.2.2.2 k i) = none
  by_cases e : k = M.1.length
  · rw [if_pos e]
  · rw [if_neg e]
    refine hP k i (fun s' hs' => h s' ?_)
    show (M.1 ++ [s])[k]? = some s'
    rw [List.getElem?_append_left (List.getElem?_eq_some_iff.mp hs').1]
    exact hs'
theorem am_P_mna {M : am_M} {a b : Nat} (hP : am_P M) : am_P (am_mna M a b) := by
  intro k i h
  show (if M.1.length ≤ k ∧ k < M.1.length + 1 + a then (if k = M.1.length ∧ i < a then some (M.1.length + 1 + i) else none) else M.2.2.2 k i) = none
  by_cases e : M.1.length ≤ k ∧ k < M.1.length + 1 + a
  · rw [if_pos e]
    by_cases e2 : k = M.1.length ∧ i < a
    · exfalso
      have h2 : a ≤ i := h (23, a) (by
        show (M.1 ++ (23, a) :: List.replicate a (20, b))[k]? = some (23, a)
        rw [List.getElem?_append_right (by omega), show k - M.1.length = 0 by omega]
        rfl)
      omega
    · rw [if_neg e2]
  · rw [if_neg e]
    refine hP k i (fun s' hs' => h s' ?_)
    show (M.1 ++ (23, a) :: List.replicate a (20, b))[k]? = some s'
    rw [List.getElem?_append_left (List.getElem?_eq_some_iff.mp hs').1]
    exact hs'
theorem am_inb_lt {j : Int} {n : Nat} (h : am_inb j n = true) : j.toNat < n := by
  unfold am_inb at h
  simp at h
  omega
theorem am_s_P {X : Nat × (Nat → Int)} {pc : Nat} {lv : List (Nat × am_V)} {st : List am_V} {M : am_M} {i : Instr} {n x : Nat} {q : Nat × List (Nat × am_V) × List am_V × am_M} (h : am_s X pc lv st M i n x = some q) (hP : am_P M) : am_P q.2.2.2 := by
  cases i with
  | putfield v =>
    simp only [am_s] at h
    (repeat' split at h) <;> first | cases h | skip
    obtain ⟨M', hM, rfl⟩ := Option.map_eq_some_iff.mp h
    unfold am_pf at hM
    (repeat' split at hM) <;> first | (cases hM; done) | skip
    · cases hM; exact hP
    · cases hM; exact hP
    · cases hM; exact am_P_pR hP (by assumption) (And.right (by assumption))
  | aastore =>
    simp only [am_s] at h
    (repeat' split at h) <;> first | (cases h; done) | skip
    rename_i hs hv hc
    cases h
    exact am_P_pR hP hs (am_inb_lt hc.2.1)
  | new v =>
    simp only [am_s] at h
    split at h
    · cases h; exact am_P_nw hP
    · cases h
  | newarray t =>
    simp only [am_s] at h
    (repeat' split at h) <;> first | (cases h; done) | (cases h; exact am_P_nw hP)
  | anewarray v =>
    simp only [am_s] at h
    (repeat' split at h) <;> first | (cases h; done) | (cases h; exact am_P_nw hP)
  | multianewarray v w =>
    simp only [am_s] at h
    (repeat' split at h) <;> first | (cases h; done) | (cases h; exact am_P_mna hP)
  | _ =>
    simp only [am_s, am_op, am_opj] at h
    first
    | (cases h; exact hP)
    | ((repeat' split at h) <;> first | (cases h; done) | (cases h; exact hP) | (obtain ⟨v, hv, rfl⟩ := Option.map_eq_some_iff.mp h; exact hP))
    | (obtain ⟨v, hv, rfl⟩ := Option.map_eq_some_iff.mp h; exact hP)
theorem am_cp_P {M : am_M} {st : List am_V} {q : List am_V × am_M} (h : am_cp M st = some q) (hP : am_P M) : am_P q.2 := by
  unfold am_cp at h
  (repeat' split at h) <;> first | (cases h; done) | (cases h; exact hP)
def am_KP (K : am_K) : Prop := ∀ d mid pc lv st M r, am_P M → K d mid pc lv st M = some r → am_P r.2
theorem am_call_P {K : am_K} (hK : am_KP K) {d mid pc : Nat} {lv : List (Nat × am_V)} {rest : List am_V} {M : am_M} {t : Nat} {as : List am_V} {r : am_R} (hP : am_P M) (h : am_call K d mid pc lv rest M t as = some r) : am_P r.2 := by
  unfold am_call at h
  split at h
  · cases h
  · split at h
    · split at h
      · rename_i r1 h1
        exact hK _ _ _ _ _ _ _ (hK _ _ _ _ _ _ _ hP h1) h
      · cases h
    · cases h
theorem am_ret_P {mid : Nat} {v : Option am_V} {M : am_M} {r : am_R} (hP : am_P M) (h : am_ret mid v M = some r) : am_P r.2 := by
  unfold am_ret at h
  split at h
  · cases h; exact hP
  · cases h
theorem am_x_P {X : Nat × (Nat → Int)} {K : am_K} (hK : am_KP K) {d mid pc : Nat} {lv : List (Nat × am_V)} {st : List am_V} {M : am_M} {i : Instr} {n x : Nat} {r : am_R} (hP : am_P M) (h : am_x X K d mid pc lv st M i n x = some r) : am_P r.2 := by
  cases i with
  | ireturn =>
    simp only [am_x] at h
    (repeat' split at h) <;> first | (cases h; done) | exact am_ret_P hP h
  | lreturn =>
    simp only [am_x] at h
    (repeat' split at h) <;> first | (cases h; done) | exact am_ret_P hP h
  | areturn =>
    simp only [am_x] at h
    (repeat' split at h) <;> first | (cases h; done) | exact am_ret_P hP h
  | return_ =>
    simp only [am_x] at h
    (repeat' split at h) <;> first | (cases h; done) | exact am_ret_P hP h
  | invokestatic v =>
    simp only [am_x] at h
    (repeat' split at h) <;> first | (cases h; done) | exact am_call_P hK hP h | exact hK _ _ _ _ _ _ _ (am_cp_P (by assumption) hP) h
  | invokespecial v =>
    simp only [am_x] at h
    (repeat' split at h) <;> first | (cases h; done) | exact am_call_P hK hP h | exact hK _ _ _ _ _ _ _ hP h
  | invokevirtual v =>
    simp only [am_x] at h
    (repeat' split at h) <;> first | (cases h; done) | exact am_call_P hK hP h
  | _ =>
    simp only [am_x] at h
    split at h
    · exact hK _ _ _ _ _ _ _ (am_s_P (by assumption) hP) h
    · cases h
theorem am_run_P (X : Nat × (Nat → Int)) : ∀ n, am_KP (am_run X n) := by
  intro n
  induction n with
  | zero => intro d mid pc lv st M r _ h; cases h
  | succ n ih =>
    intro d mid pc lv st M r hP h
    have h : am_step X (am_run X n) d mid pc lv st M = some r := h
    unfold am_step at h
    split at h
    · exact am_x_P ih hP h
    · cases h
