/-! ORDERS AS LISTS -/
def am_rowl (R : Nat → Int) (o : Nat) (L : List Nat) : Prop := ∀ k b : Nat, L[k]? = some b → R (o + k) = (b : Int)
theorem am_rowl_nil {R : Nat → Int} {o : Nat} : am_rowl R o [] := fun k b h => by simp at h
theorem am_rowl_snoc {R : Nat → Int} {o : Nat} {A : List Nat} {b : Nat} (h : am_rowl R o A) (hb : R (o + A.length) = (b : Int)) : am_rowl R o (A ++ [b]) := by
  intro k c hk
  rw [List.getElem?_append] at hk
  split at hk
  · exact h k c hk
  · rename_i hn
    have h0 : k - A.length = 0 := by
      by_cases e : k - A.length = 0
      · exact e
      · rw [List.getElem?_eq_none (by simp; omega)] at hk
        cases hk
    rw [h0] at hk
    have : b = c := by simpa using hk
    rw [← this, ← hb, show k = A.length by omega]
theorem am_rowl_cg {R R' : Nat → Int} {o : Nat} {L : List Nat} (h : am_rowl R o L) (he : ∀ k, k < L.length → R' (o + k) = R (o + k)) : am_rowl R' o L := by
  intro k b hk
  have hl : k < L.length := by
    by_cases e : k < L.length
    · exact e
    · rw [List.getElem?_eq_none (by omega)] at hk
      cases hk
  rw [he k hl]
  exact h k b hk
theorem am_get_lt {L : List Nat} {k b : Nat} (hk : L[k]? = some b) : k < L.length := by
  by_cases e : k < L.length
  · exact e
  · rw [List.getElem?_eq_none (by omega)] at hk
    cases hk
def sp_bef (l : Nat → Int) (c b : Nat) : Bool := decide (l b < l c) || (decide (l c = l b) && decide (c < b))
theorem sp_bef_iff {l : Nat → Int} {c b : Nat} : sp_bef l c b = true ↔ l b < l c ∨ (l c = l b ∧ c < b) := by
  unfold sp_bef
  simp
def sp_ins (l : Nat → Int) (b : Nat) : List Nat → List Nat
  | [] => [b]
  | c :: r => if l c < l b then b :: c :: r else c :: sp_ins l b r
/-- the open books among the first n -/
def sp_obk (S : Nat → Int) : Nat → List Nat
  | 0 => []
  | b + 1 => if S (13 + b) = 0 then sp_obk S b ++ [b] else sp_obk S b
/-- these, in the order of l -/
def sp_srtk (S l : Nat → Int) : Nat → List Nat
  | 0 => []
  | b + 1 => if S (13 + b) = 0 then sp_ins l b (sp_srtk S l b) else sp_srtk S l b
def sp_ob (S : Nat → Int) : List Nat := sp_obk S (S 20).toNat
def sp_ord (S : Nat → Int) (m : Nat) : List Nat := sp_srtk S (fun b => sp_like S m b) (S 20).toNat
def sp_ops (S : Nat → Int) : Int := am_cnt (fun b => decide (S (13 + b) = 0)) (S 20).toNat
theorem sp_ins_mem {l : Nat → Int} {b x : Nat} : ∀ {r : List Nat}, x ∈ sp_ins l b r ↔ x = b ∨ x ∈ r := by
  intro r
  induction r with
  | nil => simp [sp_ins]
  | cons c r ih =>
    unfold sp_ins
    split
    · simp
    · rw [List.mem_cons, ih, List.mem_cons]
      constructor
      · rintro (h | h | h)
        · exact Or.inr (Or.inl h)
        · exact Or.inl h
        · exact Or.inr (Or.inr h)
      · rintro (h | h | h)
        · exact Or.inr (Or.inl h)
        · exact Or.inl h
        · exact Or.inr (Or.inr h)
theorem sp_ins_cnt {l : Nat → Int} {b : Nat} {p : Nat → Bool} : ∀ {r : List Nat}, (sp_ins l b r).countP p = r.countP p + (if p b then 1 else 0) := by
  intro r
  induction r with
  | nil => simp [sp_ins, List.countP_cons]
  | cons c r ih =>
    unfold sp_ins
    split
    · rw [List.countP_cons]
    · rw [List.countP_cons, ih, List.countP_cons]
      omega
theorem sp_ins_len {l : Nat → Int} {b : Nat} : ∀ {r : List Nat}, (sp_ins l b r).length = r.length + 1 := by
  intro r
  induction r with
  | nil => rfl
  | cons c r ih =>
    unfold sp_ins
    split
    · rfl
    · rw [List.length_cons, ih, List.length_cons]
theorem sp_ins_pw {l : Nat → Int} {b : Nat} : ∀ {r : List Nat}, r.Pairwise (fun c d => sp_bef l c d = true) → (∀ c ∈ r, c < b) → (sp_ins l b r).Pairwise (fun c d => sp_bef l c d = true) := by
  intro r
  induction r with
  | nil => intro _ _; unfold sp_ins; exact List.pairwise_singleton _ _
  | cons c r ih =>
    intro hp hb
    rw [List.pairwise_cons] at hp
    unfold sp_ins
    split
    · rename_i hc
      rw [List.pairwise_cons]
      refine ⟨?_, List.pairwise_cons.mpr hp⟩
      intro x hx
      rw [sp_bef_iff]
      rcases List.mem_cons.mp hx with e | e
      · subst e
        exact Or.inl hc
      · have := sp_bef_iff.mp (hp.1 x e)
        omega
    · rename_i hc
      rw [List.pairwise_cons]
      refine ⟨?_, ih hp.2 (fun x hx => hb x (List.mem_cons_of_mem _ hx))⟩
      intro x hx
      rcases sp_ins_mem.mp hx with e | e
      · subst e
        rw [sp_bef_iff]
        have := hb c List.mem_cons_self
        omega
      · exact hp.1 x e
theorem sp_srtk_mem {S l : Nat → Int} {x : Nat} : ∀ n, x ∈ sp_srtk S l n ↔ x < n ∧ S (13 + x) = 0 := by
  intro n
  induction n with
  | zero => simp [sp_srtk]
  | succ n ih =>
    unfold sp_srtk
    split
    · rename_i h
      rw [sp_ins_mem, ih]
      constructor
      · rintro (e | e)
        · subst e; exact ⟨by omega, h⟩
        · exact ⟨by omega, e.2⟩
      · intro e
        by_cases e2 : x = n
        · exact Or.inl e2
        · exact Or.inr ⟨by omega, e.2⟩
    · rename_i h
      rw [ih]
      constructor
      · intro e; exact ⟨by omega, e.2⟩
      · intro e
        by_cases e2 : x = n
        · subst e2; exact absurd e.2 h
        · exact ⟨by omega, e.2⟩
theorem sp_srtk_pw {S l : Nat → Int} : ∀ n, (sp_srtk S l n).Pairwise (fun c d => sp_bef l c d = true) := by
  intro n
  induction n with
  | zero => exact List.Pairwise.nil
  | succ n ih =>
    unfold sp_srtk
    split
    · exact sp_ins_pw ih (fun c hc => ((sp_srtk_mem n).mp hc).1)
    · exact ih
theorem sp_srtk_cnt {S l : Nat → Int} {p : Nat → Bool} : ∀ n, ((sp_srtk S l n).countP p : Int) = am_cnt (fun b => decide (S (13 + b) = 0) && p b) n := by
  intro n
  induction n with
  | zero => rfl
  | succ n ih =>
    unfold sp_srtk am_cnt
    by_cases h : S (13 + n) = 0
    · rw [if_pos h, sp_ins_cnt, ← ih]
      simp only [h, decide_true, Bool.true_and]
      split <;> simp
    · rw [if_neg h, ← ih]
      simp [h]
theorem sp_srtk_len {S l : Nat → Int} : ∀ n, ((sp_srtk S l n).length : Int) = am_cnt (fun b => decide (S (13 + b) = 0)) n := by
  intro n
  induction n with
  | zero => rfl
  | succ n ih =>
    unfold sp_srtk am_cnt
    by_cases h : S (13 + n) = 0
    · rw [if_pos h, sp_ins_len, ← ih]
      simp [h]
    · rw [if_neg h, ← ih]
      simp [h]
theorem sp_pw_pos {l : Nat → Int} : ∀ {L : List Nat} {k b : Nat}, L.Pairwise (fun c d => sp_bef l c d = true) → L[k]? = some b → L.countP (fun c => sp_bef l c b) = k := by
  intro L
  induction L with
  | nil => intro k b _ h; simp at h
  | cons a L ih =>
    intro k b hp hk
    rw [List.pairwise_cons] at hp
    cases k with
    | zero =>
      have e : a = b := by simpa using hk
      subst e
      rw [List.countP_cons]
      have h0 : L.countP (fun c => sp_bef l c a) = 0 := by
        rw [List.countP_eq_zero]
        intro x hx h
        have h1 := sp_bef_iff.mp (hp.1 x hx)
        have h2 := sp_bef_iff.mp h
        omega
      rw [h0, if_neg]
      intro h
      have := sp_bef_iff.mp h
      omega
    | succ k =>
      have hk : L[k]? = some b := by simpa using hk
      have hm : b ∈ L := List.mem_of_getElem? hk
      rw [List.countP_cons, ih hp.2 hk, if_pos (hp.1 b hm)]
/-- where a book stands -/
def sp_plc (S l : Nat → Int) (n b : Nat) : Int := am_cnt (fun c => decide (S (13 + c) = 0) && sp_bef l c b) n
theorem sp_plc_pos {S l : Nat → Int} {n k b : Nat} (h : (sp_srtk S l n)[k]? = some b) : sp_plc S l n b = (k : Int) := by
  unfold sp_plc
  rw [← sp_srtk_cnt, sp_pw_pos (sp_srtk_pw n) h]
theorem sp_plc_ex {S l : Nat → Int} {n b : Nat} (hb : b < n) (ho : S (13 + b) = 0) : ∃ k : Nat, (sp_srtk S l n)[k]? = some b ∧ sp_plc S l n b = (k : Int) := by
  obtain ⟨k, hk⟩ := List.mem_iff_getElem?.mp ((sp_srtk_mem (l := l) n).mpr ⟨hb, ho⟩)
  exact ⟨k, hk, sp_plc_pos hk⟩
theorem sp_plc_inj {S l : Nat → Int} {n b b' : Nat} (hb : b < n) (ho : S (13 + b) = 0) (hb' : b' < n) (ho' : S (13 + b') = 0) (h : sp_plc S l n b = sp_plc S l n b') : b = b' := by
  obtain ⟨k, hk, e⟩ := sp_plc_ex (l := l) hb ho
  obtain ⟨k', hk', e'⟩ := sp_plc_ex (l := l) hb' ho'
  have : k = k' := by omega
  subst this
  rw [hk] at hk'
  simpa using hk'
theorem sp_plc_lt {S l : Nat → Int} {n b : Nat} (hb : b < n) (ho : S (13 + b) = 0) : 0 ≤ sp_plc S l n b ∧ sp_plc S l n b < (n : Int) := by
  obtain ⟨k, hk, e⟩ := sp_plc_ex (l := l) hb ho
  have h1 := am_get_lt hk
  have h2 := sp_srtk_len (S := S) (l := l) n
  have h3 := am_cnt_b (fun b => decide (S (13 + b) = 0)) n
  omega
theorem sp_srtk_row {S l R : Nat → Int} {n o : Nat} (h : ∀ b, b < n → S (13 + b) = 0 → R (o + (sp_plc S l n b).toNat) = (b : Int)) : am_rowl R o (sp_srtk S l n) := by
  intro k b hk
  have hm := (sp_srtk_mem n).mp (List.mem_of_getElem? hk)
  have := h b hm.1 hm.2
  rw [sp_plc_pos hk] at this
  simpa using this
theorem sp_srtk_nd {S l : Nat → Int} (n : Nat) : (sp_srtk S l n).Nodup := by
  refine (sp_srtk_pw n).imp ?_
  intro a b h e
  subst e
  have := sp_bef_iff.mp h
  omega
theorem sp_ord_len {S : Nat → Int} {m : Nat} : ((sp_ord S m).length : Int) = sp_ops S := sp_srtk_len _
theorem sp_ord_mem {S : Nat → Int} {m x : Nat} : x ∈ sp_ord S m ↔ x < (S 20).toNat ∧ S (13 + x) = 0 := sp_srtk_mem _
theorem sp_ord_nd {S : Nat → Int} {m : Nat} : (sp_ord S m).Nodup := sp_srtk_nd _
theorem sp_ops_b {S : Nat → Int} {B : Int} (hok : r_ok S B) : 0 ≤ sp_ops S ∧ sp_ops S ≤ 6 := by
  obtain ⟨o0, oG, oH, oD, o19, o20, o21, o22, o23, o24, oK, oV, oP, oM, oS, oY, oHd, oT, oC, oN⟩ := hok
  have := am_cnt_b (fun b => decide (S (13 + b) = 0)) (S 20).toNat
  unfold sp_ops
  omega
/-! what is said -/
/-- a row with one book put last -/
def sp_sayl (L : List Nat) (last : Int) : List Nat := L.filter (fun b : Nat => decide (¬ (b : Int) = last)) ++ (if (L.filter (fun b : Nat => decide (¬ (b : Int) = last))).length < L.length then [last.toNat] else [])
theorem sp_flt_len {L : List Nat} {last : Int} (hn : L.Nodup) : (L.filter (fun b : Nat => decide (¬ (b : Int) = last))).length = L.length ∨ (L.filter (fun b : Nat => decide (¬ (b : Int) = last))).length + 1 = L.length := by
  induction L with
  | nil => exact Or.inl rfl
  | cons a L ih =>
    rw [List.nodup_cons] at hn
    rw [List.filter_cons]
    by_cases e : (a : Int) = last
    · right
      have h1 : L.filter (fun b : Nat => decide (¬ (b : Int) = last)) = L := by
        rw [List.filter_eq_self]
        intro x hx
        simp only [decide_eq_true_eq]
        intro e2
        have : x = a := by omega
        subst this
        exact hn.1 hx
      rw [if_neg (by simp [e]), h1, List.length_cons]
    · rw [if_pos (by simp [e]), List.length_cons, List.length_cons]
      have := ih hn.2
      omega
theorem sp_sayl_len {L : List Nat} {last : Int} (hn : L.Nodup) : (sp_sayl L last).length = L.length := by
  have := sp_flt_len (last := last) hn
  unfold sp_sayl
  rw [List.length_append]
  split
  · rw [List.length_singleton]; omega
  · rw [List.length_nil]; omega
theorem sp_sayl_mem {L : List Nat} {last : Int} {x : Nat} (hx : x ∈ sp_sayl L last) : x ∈ L := by
  induction L with
  | nil => simp [sp_sayl] at hx
  | cons a L ih =>
    unfold sp_sayl at hx ih
    rw [List.mem_append] at hx ih
    rcases hx with hx | hx
    · exact (List.mem_filter.mp hx).1
    · split at hx
      · rename_i hlt
        have e : x = last.toNat := by simpa using hx
        by_cases e2 : (a : Int) = last
        · rw [e, ← e2]; simp
        · rw [List.filter_cons, if_pos (by simp [e2]), List.length_cons, List.length_cons] at hlt
          refine List.mem_cons_of_mem _ (ih (Or.inr ?_))
          rw [if_pos (by omega), e]
          simp
      · simp at hx
/-- the first of the most firsts -/
def sp_fc (S h : Nat → Int) (b : Nat) : Nat → Int
  | 0 => 0
  | m + 1 => sp_fc S h b m + (if S (7 + m) = 0 ∧ h m = (b : Int) then 1 else 0)
def sp_fmk (S h : Nat → Int) : Nat → Int × Int
  | 0 => (-1, -1)
  | b + 1 => if S (13 + b) = 0 ∧ (sp_fmk S h b).2 < sp_fc S h b (S 19).toNat then ((b : Int), sp_fc S h b (S 19).toNat) else sp_fmk S h b
def sp_fom (S h : Nat → Int) : Int := (sp_fmk S h (S 20).toNat).1
def sp_hd (S : Nat → Int) (m : Nat) : Int := ((sp_ord S m).headD 0 : Nat)
def sp_first (S : Nat → Int) : Int := sp_fom S (sp_hd S)
theorem sp_fc_cg {S h h' : Nat → Int} {b : Nat} : ∀ n, (∀ m, m < n → h m = h' m) → sp_fc S h b n = sp_fc S h' b n := by
  intro n
  induction n with
  | zero => intro _; rfl
  | succ n ih =>
    intro he
    unfold sp_fc
    rw [ih (fun m hm => he m (by omega)), he n (by omega)]
theorem sp_fom_cg {S h h' : Nat → Int} (he : ∀ m, m < (S 19).toNat → h m = h' m) : sp_fom S h = sp_fom S h' := by
  have : ∀ n, sp_fmk S h n = sp_fmk S h' n := by
    intro n
    induction n with
    | zero => rfl
    | succ n ih =>
      unfold sp_fmk
      rw [ih, sp_fc_cg _ he]
  unfold sp_fom
  rw [this]
theorem sp_fc_b {S h : Nat → Int} {b : Nat} : ∀ n : Nat, 0 ≤ sp_fc S h b n ∧ sp_fc S h b n ≤ (n : Int) := by
  intro n
  induction n with
  | zero => exact ⟨Int.le_refl _, Int.le_refl _⟩
  | succ n ih =>
    show 0 ≤ sp_fc S h b n + _ ∧ sp_fc S h b n + _ ≤ _
    split <;> omega
theorem sp_fmk_b {S h : Nat → Int} : ∀ n : Nat, (-1 ≤ (sp_fmk S h n).1 ∧ (sp_fmk S h n).1 < (n : Int)) ∧ (-1 ≤ (sp_fmk S h n).2 ∧ (sp_fmk S h n).2 ≤ ((S 19).toNat : Int)) := by
  intro n
  induction n with
  | zero => exact ⟨⟨Int.le_refl _, by show (-1 : Int) < 0; omega⟩, ⟨Int.le_refl _, by show (-1 : Int) ≤ _; omega⟩⟩
  | succ n ih =>
    have := sp_fc_b (S := S) (h := h) (b := n) (S 19).toNat
    unfold sp_fmk
    split
    · refine ⟨⟨?_, ?_⟩, ⟨?_, ?_⟩⟩ <;> simp only <;> omega
    · refine ⟨⟨?_, ?_⟩, ⟨?_, ?_⟩⟩ <;> omega
/-- what a member says -/
def sp_says (S : Nat → Int) (m : Nat) : List Nat :=
  if sp_ops S = 0 then [] else if ¬ S (7 + m) = 0 then [] else if S (26 + m) = 6 ∧ S 0 % (S (32 + m) + 2) = 0 then []
  else if S (26 + m) = 4 ∧ ¬ S (32 + m) = (m : Int) ∧ (0 ≤ S (32 + m) ∧ S (32 + m) ≤ S 19 - 1) ∧ S (7 + S (32 + m)).toNat = 0 then sp_sayl (sp_ord S (S (32 + m)).toNat) (-1)
  else if S (26 + m) = 1 ∨ S (26 + m) = 4 then sp_sayl (sp_ord S m) (if sp_hd S m = sp_first S then -1 else sp_first S)
  else sp_sayl (sp_ord S m) (if S (26 + m) = 5 ∧ (0 ≤ S (32 + m) ∧ S (32 + m) ≤ S 20 - 1) ∧ S (13 + S (32 + m)).toNat = 0 then S (32 + m) else -1)
theorem sp_says_len {S : Nat → Int} {m : Nat} : ((sp_says S m).length : Int) = 0 ∨ ((sp_says S m).length : Int) = sp_ops S := by
  unfold sp_says
  (repeat' split) <;> first | (left; rfl) | (right; rw [sp_sayl_len sp_ord_nd]; exact sp_ord_len)
theorem sp_says_mem {S : Nat → Int} {m x : Nat} (hx : x ∈ sp_says S m) : x < (S 20).toNat ∧ S (13 + x) = 0 := by
  unfold sp_says at hx
  (repeat' split at hx) <;> first | (simp at hx; done) | exact sp_ord_mem.mp (sp_sayl_mem hx)
/-- the voices: what all say, or the true orders of those here -/
def sp_vl (S : Nat → Int) (t : Int) (m : Nat) : List Nat := if t = 0 then sp_says S m else if S (7 + m) = 0 then sp_ord S m else []
theorem sp_vl_len {S : Nat → Int} {t : Int} {m : Nat} : ((sp_vl S t m).length : Int) = 0 ∨ ((sp_vl S t m).length : Int) = sp_ops S := by
  unfold sp_vl
  (repeat' split)
  · exact sp_says_len
  · right; exact sp_ord_len
  · left; rfl
theorem sp_vl_mem {S : Nat → Int} {t : Int} {m x : Nat} (hx : x ∈ sp_vl S t m) : x < (S 20).toNat ∧ S (13 + x) = 0 := by
  unfold sp_vl at hx
  (repeat' split at hx)
  · exact sp_says_mem hx
  · exact sp_ord_mem.mp hx
  · simp at hx
/-- rows that hold lists -/
def r_rep (n : Nat) (V Z : Nat → Int) (VL : Nat → List Nat) : Prop := ∀ m, m < n → Z m = ((VL m).length : Int) ∧ am_rowl V (6 * m) (VL m)
def sp_Vr (VL : Nat → List Nat) (i : Nat) : Int := (((VL (i / 6)).getD (i % 6) 0 : Nat) : Int)
def sp_Zr (VL : Nat → List Nat) (m : Nat) : Int := ((VL m).length : Int)
def sp_plf : List Nat → Int → Nat → Int
  | [], _, _ => 6
  | c :: r, b, k => if (c : Int) = b then (k : Int) else sp_plf r b (k + 1)
/-- the place of a book in a list, 6 if it isn't there -/
def sp_pl (L : List Nat) (b : Int) : Int := sp_plf L b 0
theorem sp_pinf_l {V : Nat → Int} {m : Nat} {b : Int} {L : List Nat} (h : am_rowl V (6 * m) L) : ∀ n k, n + k = L.length → sp_pinf V m b n k = sp_plf (L.drop k) b k := by
  intro n
  induction n with
  | zero => intro k hk; rw [List.drop_eq_nil_of_le (by omega)]; rfl
  | succ n ih =>
    intro k hk
    rw [List.drop_eq_getElem_cons (show k < L.length by omega)]
    unfold sp_pinf sp_plf
    rw [h k L[k] (List.getElem?_eq_getElem (by omega)), ih (k + 1) (by omega)]
theorem sp_pin_l {V Z : Nat → Int} {m : Nat} {b : Int} {L : List Nat} (hz : Z m = (L.length : Int)) (h : am_rowl V (6 * m) L) : sp_pin V Z m b = sp_pl L b := by
  unfold sp_pin sp_pl
  rw [sp_pinf_l h _ 0 (by omega), List.drop_zero]
theorem sp_rep_cn {n : Nat} {VL : Nat → List Nat} (h : ∀ m, m < n → (VL m).length ≤ 6) : r_rep n (sp_Vr VL) (sp_Zr VL) VL := by
  intro m hm
  refine ⟨rfl, ?_⟩
  intro k b hk
  have h1 := am_get_lt hk
  have h2 := h m hm
  unfold sp_Vr
  rw [show (6 * m + k) / 6 = m by omega, show (6 * m + k) % 6 = k by omega, List.getD_eq_getElem?_getD, hk]
  rfl
section
variable {S V Z V' Z' : Nat → Int} {VL : Nat → List Nat} {n : Nat}
theorem sp_sc_cg {b way : Int} {m : Nat} (h : r_rep n V Z VL) (h' : r_rep n V' Z' VL) (hm : m < n) : sp_sc V Z b way m = sp_sc V' Z' b way m := by
  unfold sp_sc
  rw [sp_pin_l (h m hm).1 (h m hm).2, sp_pin_l (h' m hm).1 (h' m hm).2, (h m hm).1, (h' m hm).1]
theorem sp_cof_cg {b way : Int} (h : r_rep n V Z VL) (h' : r_rep n V' Z' VL) : ∀ m, m ≤ n → sp_cof V Z b way m = sp_cof V' Z' b way m := by
  intro m
  induction m with
  | zero => intro _; rfl
  | succ m ih =>
    intro hm
    unfold sp_cof
    rw [ih (by omega), sp_sc_cg h h' (by omega)]
theorem sp_most_cg {way but : Int} (h : r_rep (S 19).toNat V Z VL) (h' : r_rep (S 19).toNat V' Z' VL) : sp_most S V Z way but = sp_most S V' Z' way but := by
  unfold sp_most
  rw [show (fun b : Nat => sp_cof V Z b way (S 19).toNat) = fun b : Nat => sp_cof V' Z' b way (S 19).toNat from funext fun b => sp_cof_cg h h' _ (Nat.le_refl _)]
theorem sp_ahk_cg {a b : Int} (h : r_rep n V Z VL) (h' : r_rep n V' Z' VL) : ∀ m, m ≤ n → sp_ahk V Z a b m = sp_ahk V' Z' a b m := by
  intro m
  induction m with
  | zero => intro _; rfl
  | succ m ih =>
    intro hm
    unfold sp_ahk
    rw [ih (by omega), sp_pin_l (h m hm).1 (h m hm).2, sp_pin_l (h' m hm).1 (h' m hm).2, sp_pin_l (h m hm).1 (h m hm).2, sp_pin_l (h' m hm).1 (h' m hm).2, (h m hm).1, (h' m hm).1]
theorem sp_ahead_cg {a b : Int} (h : r_rep (S 19).toNat V Z VL) (h' : r_rep (S 19).toNat V' Z' VL) : sp_ahead S V Z a b = sp_ahead S V' Z' a b := sp_ahk_cg h h' _ (Nat.le_refl _)
theorem sp_rounds_cg (h : r_rep (S 19).toNat V Z VL) (h' : r_rep (S 19).toNat V' Z' VL) : sp_rounds S V Z = sp_rounds S V' Z' := by
  unfold sp_rounds
  rw [sp_most_cg h h', sp_most_cg h h', sp_ahead_cg h h']
theorem sp_beats_cg {a : Nat} (h : r_rep (S 19).toNat V Z VL) (h' : r_rep (S 19).toNat V' Z' VL) : ∀ b, sp_beats S V Z a b = sp_beats S V' Z' a b := by
  intro b
  induction b with
  | zero => rfl
  | succ b ih =>
    unfold sp_beats
    rw [ih, sp_ahead_cg h h']
theorem sp_pairf_cg (h : r_rep (S 19).toNat V Z VL) (h' : r_rep (S 19).toNat V' Z' VL) : ∀ k a, sp_pairf S V Z k a = sp_pairf S V' Z' k a := by
  intro k
  induction k with
  | zero => intro a; exact sp_most_cg h h'
  | succ k ih =>
    intro a
    unfold sp_pairf
    rw [ih, sp_beats_cg h h']
theorem sp_turnf_cg {O O' : Nat → Int} (hO : ∀ m, m < (S 19).toNat → O (6 * m) = O' (6 * m)) (h : r_rep (S 19).toNat V Z VL) (h' : r_rep (S 19).toNat V' Z' VL) : ∀ k m pl, k + m ≤ (S 19).toNat → sp_turnf S V Z O k m pl = sp_turnf S V' Z' O' k m pl := by
  intro k
  induction k with
  | zero => intro m pl _; exact sp_most_cg h h'
  | succ k ih =>
    intro m pl hk
    unfold sp_turnf
    rw [ih _ _ (by omega), ih _ _ (by omega), hO m (by omega), (h m (by omega)).1, (h' m (by omega)).1]
    by_cases e : 0 < ((VL m).length : Int)
    · have h1 := (h m (by omega)).2 0 (VL m)[0] (List.getElem?_eq_getElem (by omega))
      have h2 := (h' m (by omega)).2 0 (VL m)[0] (List.getElem?_eq_getElem (by omega))
      rw [Nat.add_zero] at h1 h2
      rw [h1, h2]
    · rw [if_neg e, if_neg e]
end
/-- the choice, as a function of lists -/
def sp_cho (S : Nat → Int) (VL : Nat → List Nat) (way : Int) : Int := sp_choose S (sp_Vr VL) (sp_Zr VL) (fun i => sp_hd S (i / 6)) (sp_ops S) way
theorem sp_cho_of {S V Z O : Nat → Int} {VL : Nat → List Nat} {way : Int} (hl : ∀ m, m < (S 19).toNat → (VL m).length ≤ 6) (h : r_rep (S 19).toNat V Z VL) (hO : ∀ m, m < (S 19).toNat → am_rowl O (6 * m) (sp_ord S m)) : sp_choose S V Z O (sp_ops S) way = sp_cho S VL way := by
  have h' := sp_rep_cn (VL := VL) hl
  unfold sp_cho sp_choose
  by_cases e : sp_ops S = 0
  · rw [if_pos e, if_pos e]
  · rw [if_neg e, if_neg e, sp_rounds_cg h h', sp_most_cg h h']
    unfold sp_pairs sp_turns
    rw [sp_pairf_cg h h', sp_turnf_cg (O' := fun i => sp_hd S (i / 6)) ?_ h h' _ _ _ (by omega)]
    intro m hm
    show O (6 * m) = sp_hd S (6 * m / 6)
    rw [show 6 * m / 6 = m by omega]
    unfold sp_hd
    have hne : (sp_ord S m).length ≠ 0 := by
      have := sp_ord_len (S := S) (m := m)
      omega
    cases hL : sp_ord S m with
    | nil => rw [hL] at hne; exact absurd rfl hne
    | cons a r =>
      have := hO m hm 0 a (by rw [hL]; rfl)
      rw [Nat.add_zero] at this
      exact this
