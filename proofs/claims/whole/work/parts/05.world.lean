/-! THE SMALL MACHINE AND THE MACHINE: how numbered cells lie in the heap -/
abbrev am_G : Type := va_G × (Nat → ClassId) × (Nat → Option Nat)
def am_tb : List Cond := lw_tbl.filter goodWord
def am_tr (G : am_G) (a : Nat → Nat) (v : am_V) : Value := match v with
  | .inl z => .int (Int32.ofInt z)
  | .inr (.inl z) => .long (Int64.ofInt z)
  | .inr (.inr (.inl r)) => va_rf (r.map a)
  | .inr (.inr (.inr e)) => va_rf (G.2.2 e)
def am_sv (G : am_G) (a : Nat → Nat) (st : List am_V) : List Value := st.map (am_tr G a)
def am_lv (G : am_G) (a : Nat → Nat) (lv : List (Nat × am_V)) : List (Nat × Value) := lv.map (fun q => (q.1, am_tr G a q.2))
def am_ce (G : am_G) (a : Nat → Nat) (M : am_M) (k : Nat) (s : Nat × Nat) : va_E :=
  if s.1 = 20 then .inl (G.2.1 0, s.2, .inl (fun i => Int32.ofInt (M.2.1 k i)))
  else if s.1 = 21 then .inl (G.2.1 1, s.2, .inr (.inl (fun i => Int64.ofInt (M.2.2.1 k i))))
  else if s.1 = 22 then .inl (G.2.1 2, s.2, .inl (fun i => Int32.ofInt (M.2.1 k i)))
  else if s.1 = 23 then .inl (G.2.1 3, s.2, .inr (.inr (.inr (.inr (fun i => (M.2.2.2 k i).map a)))))
  else if s.1 = 24 then .inl (G.2.1 4, s.2, .inr (.inr (.inr (.inr (fun i => (M.2.2.2 k i).map a)))))
  else .inr (s.1, (List.range s.2).map (fun i => am_tr G a (am_gf M s.1 k i)))
def am_ws (G : am_G) (a : Nat → Nat) (M : am_M) : va_W := M.1.mapIdx (fun k s => (a k, am_ce G a M k s))
def am_tys (G : am_G) : List (ClassId × FieldType) := [(G.2.1 0, .int), (G.2.1 1, .long), (G.2.1 2, .boolean), (G.2.1 3, .array .int), (G.2.1 4, .object "ClubReads$Member")]
def am_sz (M : am_M) : Nat := (M.1.map (fun q => q.2)).sum
def am_wfv (n : Nat) (v : am_V) : Prop := ∀ r, v = .inr (.inr (.inl (some r))) → r < n
def am_wfs (n : Nat) (st : List am_V) : Prop := ∀ v ∈ st, am_wfv n v
def am_wfl (n : Nat) (lv : List (Nat × am_V)) : Prop := ∀ q ∈ lv, am_wfv n q.2
def am_wf (M : am_M) : Prop := ∀ k i r, M.2.2.2 k i = some r → r < M.1.length
def am_ag (n : Nat) (a a' : Nat → Nat) : Prop := ∀ i, i < n → a' i = a i
theorem am_tr_cat (G : am_G) (a : Nat → Nat) (v : am_V) : (am_tr G a v).category = am_cat v := by
  rcases v with z | z | r | e
  · rfl
  · rfl
  · cases r <;> rfl
  · show (va_rf (G.2.2 e)).category = 1
    cases G.2.2 e <;> rfl
theorem am_tr_ag {G : am_G} {a a' : Nat → Nat} {n : Nat} {v : am_V} (h : am_ag n a a') (hv : am_wfv n v) : am_tr G a' v = am_tr G a v := by
  rcases v with z | z | r | e
  · rfl
  · rfl
  · cases r with
    | none => rfl
    | some r => show va_rf (some (a' r)) = va_rf (some (a r)); rw [h r (hv r rfl)]
  · rfl
theorem am_sv_ag {G : am_G} {a a' : Nat → Nat} {n : Nat} {st : List am_V} (h : am_ag n a a') (hv : am_wfs n st) : am_sv G a' st = am_sv G a st := List.map_congr_left fun v hm => am_tr_ag h (hv v hm)
theorem am_lv_ag {G : am_G} {a a' : Nat → Nat} {n : Nat} {lv : List (Nat × am_V)} (h : am_ag n a a') (hv : am_wfl n lv) : am_lv G a' lv = am_lv G a lv := List.map_congr_left fun q hm => by rw [am_tr_ag h (hv q hm)]
theorem am_lv_st1 (G : am_G) (a : Nat → Nat) (lv : List (Nat × am_V)) (i : Nat) (v : am_V) : (i, am_tr G a v) :: (am_lv G a lv).filter (fun q => !(q.1 == i) && !(q.1 + 1 == i && q.2.category == 2)) = am_lv G a (am_st1 lv i v) := by
  unfold am_st1 am_lv
  rw [List.map_cons, List.filter_map]
  congr 2
  apply List.filter_congr
  intro q _
  simp only [Function.comp, am_tr_cat]
theorem am_lv_st2 (G : am_G) (a : Nat → Nat) (lv : List (Nat × am_V)) (i : Nat) (v : am_V) : (i, am_tr G a v) :: (am_lv G a lv).filter (fun q => !(q.1 == i) && (!(q.1 == i + 1) && !(q.1 + 1 == i && q.2.category == 2))) = am_lv G a (am_st2 lv i v) := by
  unfold am_st2 am_lv
  rw [List.map_cons, List.filter_map]
  congr 2
  apply List.filter_congr
  intro q _
  simp only [Function.comp, am_tr_cat]
theorem am_lv_args (G : am_G) (a : Nat → Nat) (as : List am_V) (i : Nat) : am_lv G a (am_args i as) = lv_args i (am_sv G a as) := by
  induction as generalizing i with
  | nil => rfl
  | cons v vs ih =>
    show (i, am_tr G a v) :: am_lv G a (am_args _ vs) = (i, am_tr G a v) :: lv_args _ (am_sv G a vs)
    rw [ih, am_tr_cat]
theorem am_wf_st1 {n : Nat} {lv : List (Nat × am_V)} {i : Nat} {v : am_V} (h : am_wfl n lv) (hv : am_wfv n v) : am_wfl n (am_st1 lv i v) := by
  intro q hq
  rcases List.mem_cons.mp hq with rfl | hq
  · exact hv
  · exact h q (List.mem_filter.mp hq).1
theorem am_wf_st2 {n : Nat} {lv : List (Nat × am_V)} {i : Nat} {v : am_V} (h : am_wfl n lv) (hv : am_wfv n v) : am_wfl n (am_st2 lv i v) := by
  intro q hq
  rcases List.mem_cons.mp hq with rfl | hq
  · exact hv
  · exact h q (List.mem_filter.mp hq).1
theorem am_wf_args {n : Nat} {as : List am_V} (h : am_wfs n as) (i : Nat) : am_wfl n (am_args i as) := by
  induction as generalizing i with
  | nil => intro q hq; cases hq
  | cons v vs ih =>
    intro q hq
    rcases List.mem_cons.mp hq with rfl | hq
    · exact h _ List.mem_cons_self
    · exact ih (fun w hw => h w (List.mem_cons_of_mem _ hw)) _ q hq
theorem am_look {lv : List (Nat × am_V)} {i : Nat} {v : am_V} (h : lv.lookup i = some v) : (i, v) ∈ lv := by
  induction lv with
  | nil => cases h
  | cons q l ih =>
    obtain ⟨j, w⟩ := q
    rw [List.lookup_cons] at h
    by_cases e : i = j
    · subst e
      simp at h
      subst h
      exact List.mem_cons_self
    · have : (i == j) = false := by simpa using e
      rw [this] at h
      exact List.mem_cons_of_mem _ (ih h)
theorem am_at {G : am_G} {a : Nat → Nat} {ls : Array Slot} {nL : Nat} {lv : List (Nat × am_V)} {i : Nat} {v : am_V} (h : lv_has ls nL (am_lv G a lv)) (hl : lv.lookup i = some v) : ls[i]? = some (.val (am_tr G a v)) :=
  h.2.2 (i, am_tr G a v) (List.mem_map.mpr ⟨(i, v), am_look hl, rfl⟩)
theorem am_lt_of_at {G : am_G} {a : Nat → Nat} {ls : Array Slot} {nL : Nat} {lv : List (Nat × am_V)} {i : Nat} {v : am_V} (h : lv_has ls nL (am_lv G a lv)) (hl : lv.lookup i = some v) : i < nL := by
  rw [← h.1]; exact lv_lt (am_at h hl)
theorem am_ldi_look {lv : List (Nat × am_V)} {i : Nat} {v : Int} (h : am_ldi lv i = some v) : lv.lookup i = some (.inl v) := by
  unfold am_ldi at h
  split at h
  · rename_i w hw; cases h; exact hw
  · cases h
theorem am_ldj_look {lv : List (Nat × am_V)} {i : Nat} {v : Int} (h : am_ldj lv i = some v) : lv.lookup i = some (.inr (.inl v)) := by
  unfold am_ldj at h
  split at h
  · rename_i w hw; cases h; exact hw
  · cases h
theorem am_lda_look {lv : List (Nat × am_V)} {i : Nat} {v : Option Nat ⊕ Nat} (h : am_lda lv i = some v) : lv.lookup i = some (.inr (.inr v)) := by
  unfold am_lda at h
  split at h
  · rename_i w hw; cases h; exact hw
  · cases h
/-- a reference is null or an address -/
theorem am_tr_ref (G : am_G) (a : Nat → Nat) (v : Option Nat ⊕ Nat) : am_tr G a (.inr (.inr v)) = .null ∨ ∃ x, am_tr G a (.inr (.inr v)) = .ref x := by
  rcases v with r | e
  · cases r with
    | none => exact Or.inl rfl
    | some r => exact Or.inr ⟨a r, rfl⟩
  · show va_rf (G.2.2 e) = _ ∨ ∃ x, va_rf (G.2.2 e) = _
    cases G.2.2 e with
    | none => exact Or.inl rfl
    | some x => exact Or.inr ⟨x, rfl⟩
theorem am_ws_get {G : am_G} {a : Nat → Nat} {M : am_M} {k : Nat} {s : Nat × Nat} (h : M.1[k]? = some s) : (am_ws G a M)[k]? = some (a k, am_ce G a M k s) := by
  unfold am_ws
  rw [List.getElem?_mapIdx, h]
  rfl
theorem am_ce_congr {G : am_G} {a : Nat → Nat} {M M' : am_M} {k : Nat} (h1 : M'.2.1 k = M.2.1 k) (h2 : M'.2.2.1 k = M.2.2.1 k) (h3 : M'.2.2.2 k = M.2.2.2 k) (s : Nat × Nat) : am_ce G a M' k s = am_ce G a M k s := by
  have e : ∀ i, am_gf M' s.1 k i = am_gf M s.1 k i := fun i => by unfold am_gf; rw [h1, h2, h3]
  unfold am_ce
  simp only [h1, h2, h3, e]
theorem am_ws_set {G : am_G} {a : Nat → Nat} {M M' : am_M} {k : Nat} {s : Nat × Nat} (h1 : M'.1 = M.1) (hs : M.1[k]? = some s) (hoff : ∀ q, q ≠ k → M'.2.1 q = M.2.1 q ∧ M'.2.2.1 q = M.2.2.1 q ∧ M'.2.2.2 q = M.2.2.2 q) {z : va_E} (hz : z = am_ce G a M' k s) : (am_ws G a M).set k (a k, z) = am_ws G a M' := by
  subst hz
  apply List.ext_getElem?
  intro q
  unfold am_ws
  rw [List.getElem?_set, List.getElem?_mapIdx, List.getElem?_mapIdx, List.length_mapIdx, h1]
  by_cases e : k = q
  · subst e
    rw [if_pos rfl, if_pos (List.getElem?_eq_some_iff.mp hs).1, hs]
    rfl
  · rw [if_neg e]
    obtain ⟨o1, o2, o3⟩ := hoff q (fun h => e h.symm)
    cases M.1[q]? with
    | none => rfl
    | some s' => simp only [Option.map_some, am_ce_congr o1 o2 o3]
theorem am_up_ne {α : Type} {f : Nat → Nat → α} {k i q : Nat} {v : α} (h : q ≠ k) : am_up f k i v q = f q := by
  funext j
  unfold am_up
  rw [if_neg (fun e => h e.1)]
theorem am_up_row {α : Type} {f : Nat → Nat → α} {k i j : Nat} {v : α} : am_up f k i v k j = if j = i then v else f k j := by
  unfold am_up
  by_cases e : j = i
  · rw [if_pos ⟨rfl, e⟩, if_pos e]
  · rw [if_neg (fun q => e q.2), if_neg e]
theorem am_z_ne {α : Type} {f : Nat → Nat → α} {k q : Nat} {v : α} (h : q ≠ k) : am_z f k v q = f q := by
  funext j
  unfold am_z
  rw [if_neg h]
theorem am_ce_ag {G : am_G} {a a' : Nat → Nat} {M : am_M} (hw : am_wf M) (h : am_ag M.1.length a a') (k : Nat) (s : Nat × Nat) : am_ce G a' M k s = am_ce G a M k s := by
  have e1 : ∀ i, (M.2.2.2 k i).map a' = (M.2.2.2 k i).map a := fun i => by
    cases hr : M.2.2.2 k i with
    | none => rfl
    | some r => simp only [Option.map_some]; rw [h r (hw k i r hr)]
  have e2 : ∀ i, am_tr G a' (am_gf M s.1 k i) = am_tr G a (am_gf M s.1 k i) := fun i => by
    apply am_tr_ag h
    intro r hr
    unfold am_gf at hr
    split at hr
    · cases hr
    · cases hr
    · cases hr
    · have hr2 : M.2.2.2 k i = some r := by injection hr with h1; injection h1 with h2; injection h2
      exact hw k i r hr2
  unfold am_ce
  simp only [e1, e2]
theorem am_ws_ag {G : am_G} {a a' : Nat → Nat} {M : am_M} (hw : am_wf M) (h : am_ag M.1.length a a') : am_ws G a' M = am_ws G a M := by
  apply List.ext_getElem?
  intro q
  unfold am_ws
  rw [List.getElem?_mapIdx, List.getElem?_mapIdx]
  cases hq : M.1[q]? with
  | none => rfl
  | some s =>
    simp only [Option.map_some, am_ce_ag hw h]
    rw [h q (List.getElem?_eq_some_iff.mp hq).1]
