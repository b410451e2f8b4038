/-! CLAUSES: whether they hold, what they add -/
def ps_t (f : Nat → Int) (c : Int) : Bool := !decide (sp_test (f (c % 8).toNat) (c / 8 % 4) (c / 32) = 0)
def ps_nt : List Bool → List Bool
  | a :: s => (!a) :: s
  | [] => []
def ps_jn (c : Int) : List Bool → List Bool
  | a :: b :: s => (if c = -2 then b && a else b || a) :: s
  | _ => []
def ps_st (f : Nat → Int) (s : List Bool) (c : Int) : List Bool := if 0 ≤ c then ps_t f c :: s else if c = -1 then ps_nt s else ps_jn c s
def ps_ev (f : Nat → Int) (L : List Int) (s : List Bool) : List Bool := L.foldl (ps_st f) s
def ps_hold (f : Nat → Int) (L : List Int) : Bool := (ps_ev f L []).headD false
def ps_pv : List Bool → Nat
  | [] => 0
  | a :: s => (if a = true then 1 else 0) + 2 * ps_pv s
def ps_sum (f : Nat → Int) (w : Int) : List ps_C → Int
  | [] => 0
  | x :: cs => (if x.1 = w ∧ ps_hold f x.2.2 = true then x.2.1 else 0) + ps_sum f w cs
theorem ps_pv_lt : ∀ s : List Bool, ps_pv s < 2 ^ s.length := by
  intro s
  induction s with
  | nil => show 0 < 1; omega
  | cons a s ih =>
    show (if a = true then 1 else 0) + 2 * ps_pv s < 2 ^ (s.length + 1)
    rw [Nat.pow_succ]
    split <;> omega
def ps_ok1 (c h : Int) : Prop := (0 ≤ c ∧ c < 3200 ∧ c % 8 ≤ 5 ∧ c / 8 % 4 ≤ 2 ∧ 0 ≤ h ∧ h < 30) ∨ (c = -1 ∧ 1 ≤ h ∧ h ≤ 30) ∨ ((c = -2 ∨ c = -3) ∧ 2 ≤ h ∧ h ≤ 30)
theorem ps_len_1 {s : List Bool} (h : 1 ≤ (s.length : Int)) : ∃ a s', s = a :: s' := by
  cases s with
  | nil => simp at h
  | cons a s => exact ⟨a, s, rfl⟩
theorem ps_len_2 {s : List Bool} (h : 2 ≤ (s.length : Int)) : ∃ a b s', s = a :: b :: s' := by
  obtain ⟨a, s', rfl⟩ := ps_len_1 (s := s) (by omega)
  obtain ⟨b, s'', rfl⟩ := ps_len_1 (s := s') (by rw [List.length_cons] at h; omega)
  exact ⟨a, b, s'', rfl⟩
theorem ps_st_len {f : Nat → Int} {s : List Bool} {c : Int} (h : ps_ok1 c s.length) : ((ps_st f s c).length : Int) = ps_nh c s.length := by
  unfold ps_st ps_nh
  rcases h with h | h | h
  · rw [if_pos h.1, if_pos h.1, List.length_cons]; omega
  · rw [if_neg (by omega), if_pos h.1, if_neg (by omega), if_pos h.1]
    obtain ⟨a, s', rfl⟩ := ps_len_1 h.2.1
    rfl
  · rw [if_neg (by omega), if_neg (by omega), if_neg (by omega), if_neg (by omega)]
    obtain ⟨a, b, s', rfl⟩ := ps_len_2 h.2.1
    show ((s'.length + 1 : Nat) : Int) = ((s'.length + 1 + 1 : Nat) : Int) - 1
    omega
/-- a row of truths holds a stack -/
def ps_rw (row : Nat → Int) : List Bool → Prop
  | [] => True
  | a :: s => row s.length = (if a = true then 1 else 0) ∧ ps_rw row s
theorem ps_rw_u {row : Nat → Int} {n : Nat} {v : Int} : ∀ {s : List Bool}, s.length ≤ n → ps_rw row s → ps_rw (am_u1 row n v) s := by
  intro s
  induction s with
  | nil => intro _ _; exact True.intro
  | cons a s ih =>
    intro h hr
    rw [List.length_cons] at h
    exact ⟨(am_u1_ne (by omega)).trans hr.1, ih (by omega) hr.2⟩
section
variable {f stp r : Nat → Int}
theorem ps_one {k : Nat} {s : List Bool} (h : ps_ok1 (stp k) s.length) (ht : sp_top stp k = (s.length : Int)) (hr : ps_rw (sp_row f stp r k) s) : sp_top stp (k + 1) = ((ps_st f s (stp k)).length : Int) ∧ ps_rw (sp_row f stp r (k + 1)) (ps_st f s (stp k)) ∧ sp_lkg f stp r (k + 1) = sp_lkg f stp r k ∧ sp_rdg f stp r (k + 1) = sp_rdg f stp r k := by
  refine ⟨?_, ?_, ?_, ?_⟩
  · rw [ps_st_len h, sp_top_s, ht]
    unfold ps_nh
    rcases h with h | h | h
    · rw [if_pos h.1, if_pos h.1]
    · rw [if_neg (by omega), if_pos h.1, if_neg (by omega), if_pos h.1]
    · rw [if_neg (by omega), if_neg (by omega), if_pos (by omega), if_neg (by omega), if_neg (by omega)]
  · rcases h with h | h | h
    · have eS : ps_st f s (stp k) = ps_t f (stp k) :: s := if_pos h.1
      have eR : sp_row f stp r (k + 1) = am_u1 (sp_row f stp r k) s.length (sp_test (f (stp k % 8).toNat) (stp k / 8 % 4) (stp k / 32)) := by
        rw [sp_row_s, if_pos (c := 0 ≤ stp k) h.1, ht, show ((s.length : Int)).toNat = s.length by omega]
      rw [eS, eR]
      refine ⟨am_u1_at.trans ?_, ps_rw_u (Nat.le_refl _) hr⟩
      unfold ps_t
      rcases sp_test_01 (f (stp k % 8).toNat) (stp k / 8 % 4) (stp k / 32) with e | e <;> rw [e] <;> rfl
    · obtain ⟨a, s', rfl⟩ := ps_len_1 h.2.1
      have eS : ps_st f (a :: s') (stp k) = (!a) :: s' := by unfold ps_st; rw [if_neg (by omega), if_pos h.1]; rfl
      have hT : (((a :: s').length : Nat) - 1 : Int).toNat = s'.length := by rw [List.length_cons]; omega
      have eR : sp_row f stp r (k + 1) = am_u1 (sp_row f stp r k) s'.length (if sp_row f stp r k s'.length = 0 then 1 else 0) := by
        rw [sp_row_s, if_neg (c := 0 ≤ stp k) (by omega), if_pos (c := stp k = -1) h.1, ht, hT]
      rw [eS, eR]
      refine ⟨am_u1_at.trans ?_, ps_rw_u (Nat.le_refl _) hr.2⟩
      rw [hr.1]
      cases a <;> rfl
    · obtain ⟨a, b, s', rfl⟩ := ps_len_2 h.2.1
      have eS : ps_st f (a :: b :: s') (stp k) = (if stp k = -2 then b && a else b || a) :: s' := by unfold ps_st; rw [if_neg (by omega), if_neg (by omega)]; rfl
      have hT : (((a :: b :: s').length : Nat) - 1 - 1 : Int).toNat = s'.length := by rw [List.length_cons, List.length_cons]; omega
      have hT1 : (((a :: b :: s').length : Nat) - 1 : Int).toNat = (b :: s').length := by rw [List.length_cons, List.length_cons]; omega
      have eR := sp_row_s (f := f) (stp := stp) (r := r) (k := k)
      rw [if_neg (c := 0 ≤ stp k) (by omega), if_neg (c := stp k = -1) (by omega), if_pos (c := -10 < stp k) (by omega), ht, hT, hT1, hr.1, hr.2.1] at eR
      rw [eS, eR]
      refine ⟨am_u1_at.trans ?_, ps_rw_u (Nat.le_refl _) hr.2.2⟩
      rcases h.1 with e | e
      · rw [if_pos (c := stp k = -2) e, if_pos (c := stp k = -2) e]; cases a <;> cases b <;> rfl
      · rw [if_neg (c := stp k = -2) (by omega), if_neg (c := stp k = -2) (by omega)]; cases a <;> cases b <;> rfl
  · rw [sp_lkg_s, if_neg (by rcases h with h | h | h <;> omega), Int.add_zero]
  · rw [sp_rdg_s, if_neg (by rcases h with h | h | h <;> omega), Int.add_zero]
theorem ps_blk : ∀ (L : List Int) (k : Nat) (s : List Bool), ps_hk L s.length → sp_top stp k = (s.length : Int) → ps_rw (sp_row f stp r k) s → (∀ i, i < L.length → stp (k + i) = L.getD i 0) → sp_top stp (k + L.length) = ((ps_ev f L s).length : Int) ∧ ((ps_ev f L s).length : Int) = ps_ht L s.length ∧ ps_rw (sp_row f stp r (k + L.length)) (ps_ev f L s) ∧ sp_lkg f stp r (k + L.length) = sp_lkg f stp r k ∧ sp_rdg f stp r (k + L.length) = sp_rdg f stp r k := by
  intro L
  induction L with
  | nil => intro k s _ ht hr _; exact ⟨ht, rfl, hr, rfl, rfl⟩
  | cons c L ih =>
    intro k s hk ht hr hs
    have e0 : stp k = c := hs 0 (by simp)
    obtain ⟨h1, h2⟩ := hk
    have h1 : ps_ok1 (stp k) s.length := by rw [e0]; exact h1
    obtain ⟨g1, g2, g3, g4⟩ := ps_one (f := f) (r := r) h1 ht hr
    have hl := ps_st_len (f := f) h1
    rw [e0] at g1 g2 hl
    rw [← hl] at h2
    obtain ⟨j1, j2, j3, j4, j5⟩ := ih (k + 1) (ps_st f s c) h2 g1 g2 (fun i hi => by
      have := hs (i + 1) (by rw [List.length_cons]; omega)
      rw [show k + 1 + i = k + (i + 1) by omega]
      exact this)
    rw [show k + (c :: L).length = k + 1 + L.length by rw [List.length_cons]; omega]
    refine ⟨j1, ?_, j3, j4.trans g3, j5.trans g4⟩
    rw [hl] at j2
    exact j2
theorem ps_gl {A C : List Int} {i : Nat} (h : i < A.length) : (A ++ C).getD i 0 = A.getD i 0 := by
  rw [List.getD_eq_getElem?_getD, List.getD_eq_getElem?_getD, List.getElem?_append_left h]
theorem ps_gr {A C : List Int} {i : Nat} : (A ++ C).getD (A.length + i) 0 = C.getD i 0 := by
  rw [List.getD_eq_getElem?_getD, List.getD_eq_getElem?_getD, List.getElem?_append_right (by omega), Nat.add_sub_cancel_left]
theorem ps_len1 {s : List Bool} (h : (s.length : Int) = 1) : ∃ a, s = [a] := by
  obtain ⟨a, s', rfl⟩ := ps_len_1 (s := s) (by omega)
  cases s' with
  | nil => exact ⟨a, rfl⟩
  | cons b s => rw [List.length_cons, List.length_cons] at h; omega
def ps_clw (x : ps_C) : Prop := (0 ≤ x.1 ∧ x.1 ≤ 3) ∧ (0 ≤ x.2.1 ∧ x.2.1 ≤ 99) ∧ (x.1 = 3 → x.2.2 = []) ∧ (¬ x.1 = 3 → ps_bal x.2.2)
theorem ps_all : ∀ (cs : List ps_C) (k : Nat), (∀ x ∈ cs, ps_clw x) → sp_top stp k = 0 → (∀ i, i < (ps_fl cs).length → stp (k + i) = (ps_fl cs).getD i 0) → sp_top stp (k + (ps_fl cs).length) = 0 ∧ sp_lkg f stp r (k + (ps_fl cs).length) = sp_lkg f stp r k + ps_sum f 0 cs - ps_sum f 1 cs ∧ sp_rdg f stp r (k + (ps_fl cs).length) = sp_rdg f stp r k + ps_sum f 2 cs := by
  intro cs
  induction cs with
  | nil => intro k _ ht _; exact ⟨ht, by show sp_lkg f stp r k = sp_lkg f stp r k + 0 - 0; omega, by show sp_rdg f stp r k = sp_rdg f stp r k + 0; omega⟩
  | cons x cs ih =>
    intro k hw ht hs
    have hx := hw x List.mem_cons_self
    have hw2 : ∀ y ∈ cs, ps_clw y := fun y hy => hw y (List.mem_cons_of_mem _ hy)
    obtain ⟨h1, h2, h3, h4⟩ := hx
    have s0 : ∀ w, ps_sum f w (x :: cs) = (if x.1 = w ∧ ps_hold f x.2.2 = true then x.2.1 else 0) + ps_sum f w cs := fun _ => rfl
    by_cases e : x.1 = 3
    · have ef : ps_fl (x :: cs) = ps_fl cs := by unfold ps_fl; rw [List.flatMap_cons, if_pos e, List.nil_append]
      rw [ef] at hs ⊢
      rw [s0, s0, s0, if_neg (by omega), if_neg (by omega), if_neg (by omega), Int.zero_add, Int.zero_add, Int.zero_add]
      exact ih k hw2 ht hs
    · have hb := h4 e
      have ef : ps_fl (x :: cs) = x.2.2 ++ ((ps_kd x.1 - x.2.1) :: ps_fl cs) := by unfold ps_fl; rw [List.flatMap_cons, if_neg e, List.append_assoc]; rfl
      rw [ef] at hs ⊢
      rw [List.length_append, List.length_cons] at hs ⊢
      obtain ⟨j1, j2, j3, j4, j5⟩ := ps_blk (f := f) (r := r) x.2.2 k [] hb.1 ht True.intro (fun i hi => by rw [hs i (by omega)]; exact ps_gl hi)
      have j2b : ((ps_ev f x.2.2 []).length : Int) = 1 := j2.trans hb.2
      obtain ⟨t, ht2⟩ := ps_len1 j2b
      rw [j2b] at j1
      rw [ht2] at j3
      have j3 : sp_row f stp r (k + x.2.2.length) 0 = (if t = true then 1 else 0) := j3.1
      have hh : ps_hold f x.2.2 = t := by unfold ps_hold; rw [ht2]; rfl
      have hend : stp (k + x.2.2.length) = ps_kd x.1 - x.2.1 := by
        have := hs (x.2.2.length + 0) (by omega)
        rw [ps_gr] at this
        rw [← Nat.add_assoc, Nat.add_zero] at this
        exact this
      have hkd : (x.1 = 0 ∧ ps_kd x.1 = -10) ∨ (x.1 = 1 ∧ ps_kd x.1 = -200) ∨ (x.1 = 2 ∧ ps_kd x.1 = -400) := by
        unfold ps_kd
        (repeat' split) <;> omega
      have le : stp (k + x.2.2.length) ≤ -10 := by rw [hend]; omega
      have t1 : sp_top stp (k + x.2.2.length + 1) = 0 := by rw [sp_top_s, if_neg (by omega), if_neg (by omega), if_neg (by omega)]
      obtain ⟨i1, i2, i3⟩ := ih (k + x.2.2.length + 1) hw2 t1 (fun i hi => by
        have := hs (x.2.2.length + (i + 1)) (by omega)
        rw [ps_gr] at this
        rw [show k + x.2.2.length + 1 + i = k + (x.2.2.length + (i + 1)) by omega]
        exact this)
      rw [show k + (x.2.2.length + ((ps_fl cs).length + 1)) = k + x.2.2.length + 1 + (ps_fl cs).length by omega]
      refine ⟨i1, ?_, ?_⟩
      · rw [i2, sp_lkg_s, if_pos le, j4, j3, hend, s0, s0, hh]
        unfold sp_lkd
        cases t
        · rw [if_pos (by rfl), if_neg (fun h => absurd h.2 (by decide)), if_neg (fun h => absurd h.2 (by decide))]; omega
        · rw [if_neg (by decide)]
          rcases hkd with ⟨a, b⟩ | ⟨a, b⟩ | ⟨a, b⟩
          · rw [if_neg (by omega), if_neg (by omega), if_pos ⟨a, rfl⟩, if_neg (fun h => by omega)]; omega
          · rw [if_neg (by omega), if_pos (by omega), if_neg (fun h => by omega), if_pos ⟨a, rfl⟩]; omega
          · rw [if_pos (by omega), if_neg (fun h => by omega), if_neg (fun h => by omega)]; omega
      · rw [i3, sp_rdg_s, if_pos le, j5, j3, hend, s0, hh]
        unfold sp_rdd
        cases t
        · rw [if_pos (by rfl), if_neg (fun h => absurd h.2 (by decide))]; omega
        · rw [if_neg (by decide)]
          rcases hkd with ⟨a, b⟩ | ⟨a, b⟩ | ⟨a, b⟩
          · rw [if_neg (by omega), if_neg (fun h => by omega)]; omega
          · rw [if_neg (by omega), if_neg (fun h => by omega)]; omega
          · rw [if_pos (by omega), if_pos ⟨a, rfl⟩]; omega
end
theorem ps_lk {S : Nat → Int} {cs : List ps_C} {m b : Int} (h : ps_rel S cs) : sp_lk S m b = ps_sum (sp_fa S m b) 0 cs - ps_sum (sp_fa S m b) 1 cs ∧ sp_rd' S m b = ps_sum (sp_fa S m b) 2 cs := by
  obtain ⟨h1, h2, h3⟩ := h
  have := ps_all (f := sp_fa S m b) (stp := sp_stp S) (r := fun _ => 0) cs 0 h3.2.1 rfl (fun i hi => by rw [Nat.zero_add]; exact h2 i hi)
  rw [Nat.zero_add] at this
  obtain ⟨_, a1, a2⟩ := this
  unfold sp_lk sp_rd' sp_liking sp_reading
  rw [h1, show (((ps_fl cs).length : Nat) : Int).toNat = (ps_fl cs).length by omega, a1, a2]
  exact ⟨by show 0 + _ - _ = _; omega, by show 0 + _ = _; omega⟩
theorem ps_sum_b {f : Nat → Int} {w : Int} : ∀ {cs : List ps_C}, (∀ x ∈ cs, ps_clw x) → 0 ≤ ps_sum f w cs ∧ ps_sum f w cs ≤ 99 * (cs.length : Int) := by
  intro cs
  induction cs with
  | nil => intro _; exact ⟨Int.le_refl _, by simp [ps_sum]⟩
  | cons x cs ih =>
    intro h
    have h1 := ih (fun y hy => h y (List.mem_cons_of_mem _ hy))
    have h2 := (h x List.mem_cons_self).2.1
    have e : ps_sum f w (x :: cs) = (if x.1 = w ∧ ps_hold f x.2.2 = true then x.2.1 else 0) + ps_sum f w cs := rfl
    rw [e, List.length_cons]
    split <;> omega
