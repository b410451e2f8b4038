/-! RUNS OF THE SMALL MACHINE, told without fuel -/
def am_KL (K K' : am_K) : Prop := ∀ d mid pc lv st M r, K d mid pc lv st M = some r → K' d mid pc lv st M = some r
theorem am_call_mono {K K' : am_K} (h : am_KL K K') {d mid pc : Nat} {lv : List (Nat × am_V)} {rest : List am_V} {M : am_M} {t : Nat} {as : List am_V} {r : am_R} (hc : am_call K d mid pc lv rest M t as = some r) : am_call K' d mid pc lv rest M t as = some r := by
  unfold am_call at hc ⊢
  split at hc
  · cases hc
  · rename_i d'
    split at hc
    · rename_i hg
      rw [if_pos hg]
      split at hc
      · rename_i r1 h1
        rw [h _ _ _ _ _ _ _ h1]
        exact h _ _ _ _ _ _ _ hc
      · cases hc
    · cases hc
theorem am_x_mono {X : Nat × (Nat → Int)} {K K' : am_K} (h : am_KL K K') {d mid pc : Nat} {lv : List (Nat × am_V)} {st : List am_V} {M : am_M} {i : Instr} {n x : Nat} {r : am_R} (hc : am_x X K d mid pc lv st M i n x = some r) : am_x X K' d mid pc lv st M i n x = some r := by
  cases i with
  | ireturn => exact hc
  | lreturn => exact hc
  | areturn => exact hc
  | return_ => exact hc
  | invokestatic v =>
    simp only [am_x] at hc ⊢
    split at hc
    · rename_i t ht
      split at hc
      · rename_i hl
        rw [if_pos hl]
        exact am_call_mono h hc
      · cases hc
    · split at hc
      · rename_i h5
        split at hc
        · cases hc
        · rename_i d'
          split at hc
          · exact h _ _ _ _ _ _ _ hc
          · cases hc
      · cases hc
  | invokespecial v =>
    simp only [am_x] at hc ⊢
    split at hc
    · rename_i w rest hd
      split at hc
      · rename_i k hk
        split at hc
        · rename_i t ht
          split at hc
          · rename_i hoi
            rw [if_pos hoi]
            split at hc
            · cases hc
            · split at hc
              · rename_i hg
                rw [if_pos hg]
                exact h _ _ _ _ _ _ _ hc
              · cases hc
          · rename_i hoi
            rw [if_neg hoi]
            split at hc
            · rename_i hl
              rw [if_pos hl]
              exact am_call_mono h hc
            · cases hc
        · cases hc
      · cases hc
    · cases hc
  | invokevirtual v =>
    simp only [am_x] at hc ⊢
    split at hc
    · rename_i w rest hd
      split at hc
      · rename_i k hk
        split at hc
        · rename_i t ht
          split at hc
          · rename_i hl
            rw [if_pos hl]
            exact am_call_mono h hc
          · cases hc
        · cases hc
      · cases hc
    · cases hc
  | _ =>
    simp only [am_x] at hc ⊢
    split at hc
    · exact h _ _ _ _ _ _ _ hc
    · cases hc
theorem am_step_mono {X : Nat × (Nat → Int)} {K K' : am_K} (h : am_KL K K') : am_KL (am_step X K) (am_step X K') := by
  intro d mid pc lv st M r hc
  unfold am_step at hc ⊢
  split at hc
  · exact am_x_mono h hc
  · cases hc
theorem am_run_one (X : Nat × (Nat → Int)) : ∀ n, am_KL (am_run X n) (am_run X (n + 1)) := by
  intro n
  induction n with
  | zero => intro d mid pc lv st M r h; cases h
  | succ n ih => exact am_step_mono ih
theorem am_run_mono (X : Nat × (Nat → Int)) {n m : Nat} (h : n ≤ m) : am_KL (am_run X n) (am_run X m) := by
  obtain ⟨k, rfl⟩ := Nat.exists_eq_add_of_le h
  clear h
  induction k with
  | zero => exact fun _ _ _ _ _ _ _ h => h
  | succ k ih => exact fun d mid pc lv st M r h => am_run_one X (n + k) d mid pc lv st M r (ih d mid pc lv st M r h)
/-- it ends, and so -/
def am_E (X : Nat × (Nat → Int)) (d mid pc : Nat) (lv : List (Nat × am_V)) (st : List am_V) (M : am_M) (P : am_R → Prop) : Prop := ∃ n r, am_run X n d mid pc lv st M = some r ∧ P r
section
variable {X : Nat × (Nat → Int)} {d mid pc n x : Nat} {lv : List (Nat × am_V)} {st : List am_V} {M : am_M} {P : am_R → Prop}
theorem am_E.imp {Q : am_R → Prop} (h : am_E X d mid pc lv st M P) (hpq : ∀ r, P r → Q r) : am_E X d mid pc lv st M Q := by
  obtain ⟨k, r, h1, h2⟩ := h
  exact ⟨k, r, h1, hpq r h2⟩
theorem am_e_x {i : Instr} {r : am_R} {k : Nat} (hi : am_ins mid pc = some (i, n, x)) (hx : am_x X (am_run X k) d mid pc lv st M i n x = some r) (hp : P r) : am_E X d mid pc lv st M P := by
  refine ⟨k + 1, r, ?_, hp⟩
  rw [am_run_succ]
  unfold am_step
  rw [hi]
  exact hx
/-- one instruction that makes one step -/
theorem am_e_s {i : Instr} {q : Nat × List (Nat × am_V) × List am_V × am_M} (hi : am_ins mid pc = some (i, n, x)) (hs : am_s X pc lv st M i n x = some q) (h : am_E X d mid q.1 q.2.1 q.2.2.1 q.2.2.2 P) : am_E X d mid pc lv st M P := by
  obtain ⟨k, r, h1, h2⟩ := h
  refine am_e_x hi (k := k) (r := r) ?_ h2
  cases i with
  | ireturn => cases hs
  | lreturn => cases hs
  | areturn => cases hs
  | return_ => cases hs
  | invokestatic v => cases hs
  | invokespecial v => cases hs
  | invokevirtual v => cases hs
  | _ =>
    simp only [am_x]
    rw [hs]
    exact h1
/-- several of them -/
def am_ss (X : Nat × (Nat → Int)) (mid : Nat) : Nat → Nat × List (Nat × am_V) × List am_V × am_M → Option (Nat × List (Nat × am_V) × List am_V × am_M) := fun k => Nat.rec (fun q => some q) (fun _ f q => match am_ins mid q.1 with
  | some i => match am_s X q.1 q.2.1 q.2.2.1 q.2.2.2 i.1 i.2.1 i.2.2 with
    | some q' => f q'
    | none => none
  | none => none) k
theorem am_e_ss (k : Nat) {q : Nat × List (Nat × am_V) × List am_V × am_M} (hs : am_ss X mid k (pc, lv, st, M) = some q) (h : am_E X d mid q.1 q.2.1 q.2.2.1 q.2.2.2 P) : am_E X d mid pc lv st M P := by
  induction k generalizing pc lv st M with
  | zero =>
    have hs : some (pc, lv, st, M) = some q := hs
    cases hs
    exact h
  | succ k ih =>
    have hs : (match am_ins mid pc with
      | some i => match am_s X pc lv st M i.1 i.2.1 i.2.2 with
        | some q' => am_ss X mid k q'
        | none => none
      | none => none) = some q := hs
    split at hs
    · rename_i i hi
      split at hs
      · rename_i q' hq
        exact am_e_s (i := i.1) (n := i.2.1) (x := i.2.2) hi hq (ih hs)
      · cases hs
    · cases hs
/-- returns -/
theorem am_e_ireturn {v : Int} (hi : am_ins mid pc = some (.ireturn, n, x)) (hr : am_rok mid (some (.inl v)) = true) (h : P (some (.inl v), M)) : am_E X d mid pc lv [.inl v] M P :=
  am_e_x hi (k := 0) (r := (some (.inl v), M)) (by simp only [am_x, am_ret]; rw [if_pos hr]) h
theorem am_e_lreturn {v : Int} (hi : am_ins mid pc = some (.lreturn, n, x)) (hr : am_rok mid (some (.inr (.inl v))) = true) (h : P (some (.inr (.inl v)), M)) : am_E X d mid pc lv [.inr (.inl v)] M P :=
  am_e_x hi (k := 0) (r := (some (.inr (.inl v)), M)) (by simp only [am_x, am_ret]; rw [if_pos hr]) h
theorem am_e_areturn {v : Option Nat ⊕ Nat} (hi : am_ins mid pc = some (.areturn, n, x)) (hr : am_rok mid (some (.inr (.inr v))) = true) (h : P (some (.inr (.inr v)), M)) : am_E X d mid pc lv [.inr (.inr v)] M P :=
  am_e_x hi (k := 0) (r := (some (.inr (.inr v)), M)) (by simp only [am_x, am_ret]; rw [if_pos hr]) h
theorem am_e_return (hi : am_ins mid pc = some (.return_, n, x)) (hr : am_rok mid none = true) (h : P (none, M)) : am_E X d mid pc lv [] M P :=
  am_e_x hi (k := 0) (r := (none, M)) (by simp only [am_x, am_ret]; rw [if_pos hr]) h
/-- branches -/
def am_cp2 (c : ClassFile.Cond) (a b : Int) : Prop := match c with
  | .eq => a = b
  | .ne => ¬ a = b
  | .lt => a < b
  | .ge => b ≤ a
  | .gt => b < a
  | .le => a ≤ b
theorem am_cp2_iff {c : ClassFile.Cond} {a b : Int} : am_cd c a b = true ↔ am_cp2 c a b := by
  cases c <;> exact decide_eq_true_iff
theorem am_e_if {c : ClassFile.Cond} {off : Int} {z : Int} (hi : am_ins mid pc = some (.ifCond c off, n, x)) (ht : am_cp2 c (am_w z) 0 → am_E X d mid x lv st M P) (hf : ¬ am_cp2 c (am_w z) 0 → am_E X d mid (pc + n) lv st M P) : am_E X d mid pc lv (.inl z :: st) M P := by
  by_cases h : am_cp2 c (am_w z) 0
  · exact am_e_s hi (q := (x, lv, st, M)) (by simp only [am_s]; rw [if_pos (am_cp2_iff.mpr h)]) (ht h)
  · exact am_e_s hi (q := (pc + n, lv, st, M)) (by simp only [am_s]; rw [if_neg (fun q => h (am_cp2_iff.mp q))]) (hf h)
theorem am_e_icmp {c : ClassFile.Cond} {off : Int} {z y : Int} (hi : am_ins mid pc = some (.if_icmp c off, n, x)) (ht : am_cp2 c (am_w z) (am_w y) → am_E X d mid x lv st M P) (hf : ¬ am_cp2 c (am_w z) (am_w y) → am_E X d mid (pc + n) lv st M P) : am_E X d mid pc lv (.inl y :: .inl z :: st) M P := by
  by_cases h : am_cp2 c (am_w z) (am_w y)
  · exact am_e_s hi (q := (x, lv, st, M)) (by simp only [am_s]; rw [if_pos (am_cp2_iff.mpr h)]) (ht h)
  · exact am_e_s hi (q := (pc + n, lv, st, M)) (by simp only [am_s]; rw [if_neg (fun q => h (am_cp2_iff.mp q))]) (hf h)
/-- rows of a memory -/
theorem am_inb_of {j : Int} {n : Nat} (h0 : 0 ≤ j) (h1 : j < n) (h2 : j < 10000) : am_inb j n = true := by
  unfold am_inb
  simp [h0, h1, h2]
theorem am_e_iaload {j : Int} {k m : Nat} (hi : am_ins mid pc = some (.iaload, n, x)) (hs : M.1[k]? = some (20, m)) (h0 : 0 ≤ j) (h1 : j < m) (h2 : j < 10000) (h : am_E X d mid (pc + n) lv (.inl (M.2.1 k j.toNat) :: st) M P) : am_E X d mid pc lv (.inl j :: .inr (.inr (.inl (some k))) :: st) M P :=
  am_e_s hi (q := (pc + n, lv, .inl (M.2.1 k j.toNat) :: st, M)) (by simp only [am_s]; rw [hs]; exact if_pos ⟨rfl, am_inb_of h0 h1 h2⟩) h
theorem am_e_baload {j : Int} {k m : Nat} (hi : am_ins mid pc = some (.baload, n, x)) (hs : M.1[k]? = some (22, m)) (h0 : 0 ≤ j) (h1 : j < m) (h2 : j < 10000) (h : am_E X d mid (pc + n) lv (.inl (M.2.1 k j.toNat) :: st) M P) : am_E X d mid pc lv (.inl j :: .inr (.inr (.inl (some k))) :: st) M P :=
  am_e_s hi (q := (pc + n, lv, .inl (M.2.1 k j.toNat) :: st, M)) (by simp only [am_s]; rw [hs]; exact if_pos ⟨rfl, am_inb_of h0 h1 h2⟩) h
theorem am_e_laload {j : Int} {k m : Nat} (hi : am_ins mid pc = some (.laload, n, x)) (hs : M.1[k]? = some (21, m)) (h0 : 0 ≤ j) (h1 : j < m) (h2 : j < 10000) (h : am_E X d mid (pc + n) lv (.inr (.inl (M.2.2.1 k j.toNat)) :: st) M P) : am_E X d mid pc lv (.inl j :: .inr (.inr (.inl (some k))) :: st) M P :=
  am_e_s hi (q := (pc + n, lv, .inr (.inl (M.2.2.1 k j.toNat)) :: st, M)) (by simp only [am_s]; rw [hs]; exact if_pos ⟨rfl, am_inb_of h0 h1 h2⟩) h
theorem am_e_aaload {j : Int} {k m c : Nat} (hi : am_ins mid pc = some (.aaload, n, x)) (hs : M.1[k]? = some (c, m)) (hc : c = 23 ∨ c = 24) (h0 : 0 ≤ j) (h1 : j < m) (h2 : j < 10000) (h : am_E X d mid (pc + n) lv (.inr (.inr (.inl (M.2.2.2 k j.toNat))) :: st) M P) : am_E X d mid pc lv (.inl j :: .inr (.inr (.inl (some k))) :: st) M P :=
  am_e_s hi (q := (pc + n, lv, .inr (.inr (.inl (M.2.2.2 k j.toNat))) :: st, M)) (by simp only [am_s]; rw [hs]; exact if_pos ⟨hc, am_inb_of h0 h1 h2⟩) h
theorem am_e_iastore {j v : Int} {k m : Nat} (hi : am_ins mid pc = some (.iastore, n, x)) (hs : M.1[k]? = some (20, m)) (h0 : 0 ≤ j) (h1 : j < m) (h2 : j < 10000) (h : am_E X d mid (pc + n) lv st (am_pI M k j.toNat v) P) : am_E X d mid pc lv (.inl v :: .inl j :: .inr (.inr (.inl (some k))) :: st) M P :=
  am_e_s hi (q := (pc + n, lv, st, am_pI M k j.toNat v)) (by simp only [am_s]; rw [hs]; exact if_pos ⟨rfl, am_inb_of h0 h1 h2⟩) h
theorem am_e_bastore {j v : Int} {k m : Nat} (hi : am_ins mid pc = some (.bastore, n, x)) (hs : M.1[k]? = some (22, m)) (h0 : 0 ≤ j) (h1 : j < m) (h2 : j < 10000) (hv : v = 0 ∨ v = 1) (h : am_E X d mid (pc + n) lv st (am_pI M k j.toNat v) P) : am_E X d mid pc lv (.inl v :: .inl j :: .inr (.inr (.inl (some k))) :: st) M P :=
  am_e_s hi (q := (pc + n, lv, st, am_pI M k j.toNat v)) (by simp only [am_s]; rw [hs]; exact if_pos ⟨rfl, am_inb_of h0 h1 h2, hv⟩) h
theorem am_e_lastore {j v : Int} {k m : Nat} (hi : am_ins mid pc = some (.lastore, n, x)) (hs : M.1[k]? = some (21, m)) (h0 : 0 ≤ j) (h1 : j < m) (h2 : j < 10000) (h : am_E X d mid (pc + n) lv st (am_pJ M k j.toNat v) P) : am_E X d mid pc lv (.inr (.inl v) :: .inl j :: .inr (.inr (.inl (some k))) :: st) M P :=
  am_e_s hi (q := (pc + n, lv, st, am_pJ M k j.toNat v)) (by simp only [am_s]; rw [hs]; exact if_pos ⟨rfl, am_inb_of h0 h1 h2⟩) h
theorem am_e_aastore {j : Int} {k m v : Nat} {sv : Nat × Nat} (hi : am_ins mid pc = some (.aastore, n, x)) (hs : M.1[k]? = some (24, m)) (hv : M.1[v]? = some sv) (hm : am_mem sv.1 = true) (h0 : 0 ≤ j) (h1 : j < m) (h2 : j < 10000) (h : am_E X d mid (pc + n) lv st (am_pR M k j.toNat (some v)) P) : am_E X d mid pc lv (.inr (.inr (.inl (some v))) :: .inl j :: .inr (.inr (.inl (some k))) :: st) M P :=
  am_e_s hi (q := (pc + n, lv, st, am_pR M k j.toNat (some v))) (by simp only [am_s]; rw [hs, hv]; exact if_pos ⟨rfl, am_inb_of h0 h1 h2, hm⟩) h
/-- fields of a cell whose kind is known -/
theorem am_e_getfield {v k c m f : Nat} (hi : am_ins mid pc = some (.getfield v, n, x)) (hs : M.1[k]? = some (c, m)) (hf : am_F x c = some f) (hc : c < 13) (hm : f < m) (h : am_E X d mid (pc + n) lv (am_gf M c k f :: st) M P) : am_E X d mid pc lv (.inr (.inr (.inl (some k))) :: st) M P :=
  am_e_s hi (q := (pc + n, lv, am_gf M c k f :: st, M)) (by simp only [am_s]; rw [hs]; dsimp only; rw [hf]; exact if_pos ⟨hc, hm⟩) h
theorem am_e_putfield {v k c m f : Nat} {w : am_V} {M' : am_M} (hi : am_ins mid pc = some (.putfield v, n, x)) (hs : M.1[k]? = some (c, m)) (hf : am_F x c = some f) (hc : c < 13) (hm : f < m) (hp : am_pf M c k f w = some M') (h : am_E X d mid (pc + n) lv st M' P) : am_E X d mid pc lv (w :: .inr (.inr (.inl (some k))) :: st) M P :=
  am_e_s hi (q := (pc + n, lv, st, M')) (by simp only [am_s]; rw [hs]; dsimp only; rw [hf]; dsimp only; rw [if_pos ⟨hc, hm⟩, hp]; rfl) h
theorem am_e_arraylength {k c m : Nat} (hi : am_ins mid pc = some (.arraylength, n, x)) (hs : M.1[k]? = some (c, m)) (hc : 20 ≤ c ∧ c < 25) (h : am_E X d mid (pc + n) lv (.inl m :: st) M P) : am_E X d mid pc lv (.inr (.inr (.inl (some k))) :: st) M P :=
  am_e_s hi (q := (pc + n, lv, .inl m :: st, M)) (by simp only [am_s]; rw [hs]; exact if_pos hc) h
theorem am_e_instanceof {v k c m : Nat} {b : Bool} (hi : am_ins mid pc = some (.instanceof v, n, x)) (hs : M.1[k]? = some (c, m)) (hm : am_mem c = true) (hb : am_io x c = some b) (h : am_E X d mid (pc + n) lv (.inl (if b then 1 else 0) :: st) M P) : am_E X d mid pc lv (.inr (.inr (.inl (some k))) :: st) M P :=
  am_e_s hi (q := (pc + n, lv, .inl (if b then 1 else 0) :: st, M)) (by simp only [am_s]; rw [hs]; dsimp only; rw [if_pos hm, hb]; rfl) h
/-- division -/
theorem am_e_idiv {z y : Int} (hi : am_ins mid pc = some (.idiv, n, x)) (hy : am_w y ≠ 0) (h : am_E X d mid (pc + n) lv (.inl (Int32.ofInt z / Int32.ofInt y).toInt :: st) M P) : am_E X d mid pc lv (.inl y :: .inl z :: st) M P := by
  have hy2 : ¬ Int32.ofInt y = 0 := fun e => hy (by unfold am_w; rw [e]; decide)
  exact am_e_s hi (q := (pc + n, lv, .inl (Int32.ofInt z / Int32.ofInt y).toInt :: st, M)) (by simp only [am_s, am_op]; rw [if_neg hy2]; rfl) h
theorem am_e_irem {z y : Int} (hi : am_ins mid pc = some (.irem, n, x)) (hy : am_w y ≠ 0) (h : am_E X d mid (pc + n) lv (.inl (Int32.ofInt z - Int32.ofInt z / Int32.ofInt y * Int32.ofInt y).toInt :: st) M P) : am_E X d mid pc lv (.inl y :: .inl z :: st) M P := by
  have hy2 : ¬ Int32.ofInt y = 0 := fun e => hy (by unfold am_w; rw [e]; decide)
  exact am_e_s hi (q := (pc + n, lv, .inl (Int32.ofInt z - Int32.ofInt z / Int32.ofInt y * Int32.ofInt y).toInt :: st, M)) (by simp only [am_s, am_op]; rw [if_neg hy2]; rfl) h
/-- calls -/
theorem am_e_virtual {v c t : Nat} {w : am_V} {rest : List am_V} {Q : am_R → Prop} (hi : am_ins mid pc = some (.invokevirtual v, n, x)) (hd : st.drop (am_N x) = w :: rest) (hl : am_N x ≤ st.length) (hk : am_kd M w = some c) (ht : am_T x c = some t) (hr : am_cats rest ≤ 8) (ha : am_cats (w :: (st.take (am_N x)).reverse) ≤ am_l t)
    (h1 : am_E X d t 0 (am_args 0 (w :: (st.take (am_N x)).reverse)) [] M Q) (h2 : ∀ r, Q r → am_E X (d + 1) mid (pc + n) lv (r.1.toList ++ rest) r.2 P) : am_E X (d + 1) mid pc lv st M P := by
  obtain ⟨k1, r1, e1, q1⟩ := h1
  obtain ⟨k2, r2, e2, q2⟩ := h2 r1 q1
  refine am_e_x hi (k := max k1 k2) (r := r2) ?_ q2
  simp only [am_x]
  rw [hd]
  dsimp only
  rw [hk]
  dsimp only
  rw [ht]
  dsimp only
  rw [if_pos hl]
  unfold am_call
  dsimp only
  rw [if_pos ⟨hr, ha⟩, am_run_mono X (Nat.le_max_left k1 k2) _ _ _ _ _ _ _ e1]
  exact am_run_mono X (Nat.le_max_right k1 k2) _ _ _ _ _ _ _ e2
theorem am_e_special {v c t : Nat} {w : am_V} {rest : List am_V} {Q : am_R → Prop} (hi : am_ins mid pc = some (.invokespecial v, n, x)) (hd : st.drop (am_N x) = w :: rest) (hl : am_N x ≤ st.length) (hk : am_kd M w = some c) (ht : am_T x 0 = some t) (hoi : ¬ t = am_oi) (hr : am_cats rest ≤ 8) (ha : am_cats (w :: (st.take (am_N x)).reverse) ≤ am_l t)
    (h1 : am_E X d t 0 (am_args 0 (w :: (st.take (am_N x)).reverse)) [] M Q) (h2 : ∀ r, Q r → am_E X (d + 1) mid (pc + n) lv (r.1.toList ++ rest) r.2 P) : am_E X (d + 1) mid pc lv st M P := by
  obtain ⟨k1, r1, e1, q1⟩ := h1
  obtain ⟨k2, r2, e2, q2⟩ := h2 r1 q1
  refine am_e_x hi (k := max k1 k2) (r := r2) ?_ q2
  simp only [am_x]
  rw [hd]
  dsimp only
  rw [hk]
  dsimp only
  rw [ht]
  dsimp only
  rw [if_neg hoi, if_pos hl]
  unfold am_call
  dsimp only
  rw [if_pos ⟨hr, ha⟩, am_run_mono X (Nat.le_max_left k1 k2) _ _ _ _ _ _ _ e1]
  exact am_run_mono X (Nat.le_max_right k1 k2) _ _ _ _ _ _ _ e2
theorem am_e_oinit {v c : Nat} {w : am_V} {rest : List am_V} (hi : am_ins mid pc = some (.invokespecial v, n, x)) (hn : am_N x = 0) (hk : am_kd M w = some c) (ht : am_T x 0 = some am_oi) (hr : am_cats rest ≤ 8) (h : am_E X (d + 1) mid (pc + n) lv rest M P) : am_E X (d + 1) mid pc lv (w :: rest) M P := by
  obtain ⟨k2, r2, e2, q2⟩ := h
  refine am_e_x hi (k := k2) (r := r2) ?_ q2
  simp only [am_x]
  rw [hn]
  dsimp only [List.drop]
  rw [hk]
  dsimp only
  rw [ht]
  dsimp only
  rw [if_pos rfl, if_pos ⟨hr, rfl⟩]
  exact e2
theorem am_e_static {v t : Nat} {Q : am_R → Prop} (hi : am_ins mid pc = some (.invokestatic v, n, x)) (hl : am_N x ≤ st.length) (ht : am_T x 0 = some t) (hr : am_cats (st.drop (am_N x)) ≤ 8) (ha : am_cats (st.take (am_N x)).reverse ≤ am_l t)
    (h1 : am_E X d t 0 (am_args 0 (st.take (am_N x)).reverse) [] M Q) (h2 : ∀ r, Q r → am_E X (d + 1) mid (pc + n) lv (r.1.toList ++ st.drop (am_N x)) r.2 P) : am_E X (d + 1) mid pc lv st M P := by
  obtain ⟨k1, r1, e1, q1⟩ := h1
  obtain ⟨k2, r2, e2, q2⟩ := h2 r1 q1
  refine am_e_x hi (k := max k1 k2) (r := r2) ?_ q2
  simp only [am_x]
  rw [ht]
  dsimp only
  rw [if_pos hl]
  unfold am_call
  dsimp only
  rw [if_pos ⟨hr, ha⟩, am_run_mono X (Nat.le_max_left k1 k2) _ _ _ _ _ _ _ e1]
  exact am_run_mono X (Nat.le_max_right k1 k2) _ _ _ _ _ _ _ e2
theorem am_e_copy {v : Nat} {q : List am_V × am_M} (hi : am_ins mid pc = some (.invokestatic v, n, x)) (ht : am_T x 0 = none) (hn : am_N x = 5) (hc : am_cp M st = some q) (h : am_E X (d + 1) mid (pc + n) lv q.1 q.2 P) : am_E X (d + 1) mid pc lv st M P := by
  obtain ⟨k2, r2, e2, q2⟩ := h
  refine am_e_x hi (k := k2) (r := r2) ?_ q2
  simp only [am_x]
  rw [ht]
  try dsimp only
  rw [hn]
  try dsimp only
  rw [hc]
  exact e2
end
/-- whole numbers of the machine's size -/
theorem am_w_id {z : Int} (h0 : -2147483648 ≤ z) (h1 : z < 2147483648) : am_w z = z := Int32.toInt_ofInt_of_le (by omega) (by omega)
/-! more locals do no harm -/
def am_inc (lv lv' : List (Nat × am_V)) : Prop := (lv.map (fun q => q.1)).Nodup ∧ ∀ q ∈ lv, lv'.lookup q.1 = some q.2
theorem am_lookf {l : List (Nat × am_V)} {f : Nat × am_V → Bool} {i : Nat} {v : am_V} (h : l.lookup i = some v) (hf : f (i, v) = true) : (l.filter f).lookup i = some v := by
  induction l with
  | nil => cases h
  | cons q l ih =>
    obtain ⟨j, w⟩ := q
    rw [List.lookup_cons] at h
    by_cases e : i = j
    · subst e
      simp at h
      subst h
      rw [List.filter_cons, if_pos hf, List.lookup_cons]
      simp
    · have e2 : (i == j) = false := by simpa using e
      rw [e2] at h
      rw [List.filter_cons]
      split
      · rw [List.lookup_cons, e2]
        exact ih h
      · exact ih h
theorem am_look_of {lv : List (Nat × am_V)} (hn : (lv.map (fun q => q.1)).Nodup) {q : Nat × am_V} (hq : q ∈ lv) : lv.lookup q.1 = some q.2 := by
  induction lv with
  | nil => cases hq
  | cons z l ih =>
    obtain ⟨j, w⟩ := z
    rw [List.map_cons, List.nodup_cons] at hn
    rcases List.mem_cons.mp hq with rfl | hq
    · rw [List.lookup_cons]
      simp
    · rw [List.lookup_cons]
      have e : (q.1 == j) = false := by
        have : q.1 ≠ j := fun e => hn.1 (by rw [← e]; exact List.mem_map.mpr ⟨q, hq, rfl⟩)
        simpa using this
      rw [e]
      exact ih hn.2 hq
theorem am_inc.look {lv lv' : List (Nat × am_V)} (h : am_inc lv lv') {i : Nat} {v : am_V} (hv : lv.lookup i = some v) : lv'.lookup i = some v := h.2 (i, v) (am_look hv)
theorem am_inc.ldi {lv lv' : List (Nat × am_V)} (h : am_inc lv lv') {i : Nat} {v : Int} (hv : am_ldi lv i = some v) : am_ldi lv' i = some v := by
  unfold am_ldi
  rw [h.look (am_ldi_look hv)]
theorem am_inc.ldj {lv lv' : List (Nat × am_V)} (h : am_inc lv lv') {i : Nat} {v : Int} (hv : am_ldj lv i = some v) : am_ldj lv' i = some v := by
  unfold am_ldj
  rw [h.look (am_ldj_look hv)]
theorem am_inc.lda {lv lv' : List (Nat × am_V)} (h : am_inc lv lv') {i : Nat} {v : Option Nat ⊕ Nat} (hv : am_lda lv i = some v) : am_lda lv' i = some v := by
  unfold am_lda
  rw [h.look (am_lda_look hv)]
theorem am_nodupf {l : List (Nat × am_V)} {f : Nat × am_V → Bool} (h : (l.map (fun q => q.1)).Nodup) : ((l.filter f).map (fun q => q.1)).Nodup := List.Nodup.sublist (List.Sublist.map _ List.filter_sublist) h
theorem am_inc.st1 {lv lv' : List (Nat × am_V)} (h : am_inc lv lv') (i : Nat) (v : am_V) : am_inc (am_st1 lv i v) (am_st1 lv' i v) := by
  unfold am_st1
  refine ⟨?_, fun q hq => ?_⟩
  · rw [List.map_cons, List.nodup_cons]
    refine ⟨fun hm => ?_, am_nodupf h.1⟩
    obtain ⟨q, hq, e⟩ := List.mem_map.mp hm
    have := (List.mem_filter.mp hq).2
    simp only [Bool.and_eq_true, Bool.not_eq_true', beq_eq_false_iff_ne] at this
    exact this.1 e
  · rcases List.mem_cons.mp hq with rfl | hq
    · rw [List.lookup_cons]
      simp
    · obtain ⟨h1, h2⟩ := List.mem_filter.mp hq
      have hne : q.1 ≠ i := by
        simp only [Bool.and_eq_true, Bool.not_eq_true', beq_eq_false_iff_ne] at h2
        exact h2.1
      have e : (q.1 == i) = false := by simpa using hne
      rw [List.lookup_cons, e]
      exact am_lookf (h.2 q h1) h2
theorem am_inc.st2 {lv lv' : List (Nat × am_V)} (h : am_inc lv lv') (i : Nat) (v : am_V) : am_inc (am_st2 lv i v) (am_st2 lv' i v) := by
  unfold am_st2
  refine ⟨?_, fun q hq => ?_⟩
  · rw [List.map_cons, List.nodup_cons]
    refine ⟨fun hm => ?_, am_nodupf h.1⟩
    obtain ⟨q, hq, e⟩ := List.mem_map.mp hm
    have := (List.mem_filter.mp hq).2
    simp only [Bool.and_eq_true, Bool.not_eq_true', beq_eq_false_iff_ne] at this
    exact this.1 e
  · rcases List.mem_cons.mp hq with rfl | hq
    · rw [List.lookup_cons]
      simp
    · obtain ⟨h1, h2⟩ := List.mem_filter.mp hq
      have hne : q.1 ≠ i := by
        simp only [Bool.and_eq_true, Bool.not_eq_true', beq_eq_false_iff_ne] at h2
        exact h2.1
      have e : (q.1 == i) = false := by simpa using hne
      rw [List.lookup_cons, e]
      exact am_lookf (h.2 q h1) h2
theorem am_s_inc {X : Nat × (Nat → Int)} {pc n x : Nat} {lv lv' : List (Nat × am_V)} {st : List am_V} {M : am_M} {i : Instr} {q : Nat × List (Nat × am_V) × List am_V × am_M} (h : am_inc lv lv') (hs : am_s X pc lv st M i n x = some q) : ∃ lv1, am_s X pc lv' st M i n x = some (q.1, lv1, q.2.2.1, q.2.2.2) ∧ am_inc q.2.1 lv1 := by
  have key : ∀ (f : List (Nat × am_V) → Option (Nat × List (Nat × am_V) × List am_V × am_M)), (∀ lv, am_s X pc lv st M i n x = f lv) → (f lv = some q → ∃ lv1, f lv' = some (q.1, lv1, q.2.2.1, q.2.2.2) ∧ am_inc q.2.1 lv1) → ∃ lv1, am_s X pc lv' st M i n x = some (q.1, lv1, q.2.2.1, q.2.2.2) ∧ am_inc q.2.1 lv1 := by
    intro f hf hk
    rw [hf]
    rw [hf] at hs
    exact hk hs
  cases i with
  | iload_n k =>
    obtain ⟨z, hz, rfl⟩ := Option.map_eq_some_iff.mp (show (am_ldi lv k).map _ = some q from hs)
    exact ⟨lv', by show (am_ldi lv' k).map _ = _; rw [h.ldi hz]; rfl, h⟩
  | iload k =>
    obtain ⟨z, hz, rfl⟩ := Option.map_eq_some_iff.mp (show (am_ldi lv k).map _ = some q from hs)
    exact ⟨lv', by show (am_ldi lv' k).map _ = _; rw [h.ldi hz]; rfl, h⟩
  | lload_n k =>
    obtain ⟨z, hz, rfl⟩ := Option.map_eq_some_iff.mp (show (am_ldj lv k).map _ = some q from hs)
    exact ⟨lv', by show (am_ldj lv' k).map _ = _; rw [h.ldj hz]; rfl, h⟩
  | lload k =>
    obtain ⟨z, hz, rfl⟩ := Option.map_eq_some_iff.mp (show (am_ldj lv k).map _ = some q from hs)
    exact ⟨lv', by show (am_ldj lv' k).map _ = _; rw [h.ldj hz]; rfl, h⟩
  | aload_n k =>
    obtain ⟨z, hz, rfl⟩ := Option.map_eq_some_iff.mp (show (am_lda lv k).map _ = some q from hs)
    exact ⟨lv', by show (am_lda lv' k).map _ = _; rw [h.lda hz]; rfl, h⟩
  | aload k =>
    obtain ⟨z, hz, rfl⟩ := Option.map_eq_some_iff.mp (show (am_lda lv k).map _ = some q from hs)
    exact ⟨lv', by show (am_lda lv' k).map _ = _; rw [h.lda hz]; rfl, h⟩
  | iinc k v =>
    obtain ⟨z, hz, rfl⟩ := Option.map_eq_some_iff.mp (show (am_ldi lv k).map _ = some q from hs)
    exact ⟨am_st1 lv' k (.inl (z + v)), by show (am_ldi lv' k).map _ = _; rw [h.ldi hz]; rfl, h.st1 _ _⟩
  | istore_n k =>
    simp only [am_s] at hs ⊢
    split at hs
    · cases hs
      exact ⟨_, rfl, h.st1 _ _⟩
    · cases hs
  | istore k =>
    simp only [am_s] at hs ⊢
    split at hs
    · cases hs
      exact ⟨_, rfl, h.st1 _ _⟩
    · cases hs
  | astore_n k =>
    simp only [am_s] at hs ⊢
    split at hs
    · cases hs
      exact ⟨_, rfl, h.st1 _ _⟩
    · cases hs
  | astore k =>
    simp only [am_s] at hs ⊢
    split at hs
    · cases hs
      exact ⟨_, rfl, h.st1 _ _⟩
    · cases hs
  | lstore_n k =>
    simp only [am_s] at hs ⊢
    split at hs
    · cases hs
      exact ⟨_, rfl, h.st2 _ _⟩
    · cases hs
  | lstore k =>
    simp only [am_s] at hs ⊢
    split at hs
    · cases hs
      exact ⟨_, rfl, h.st2 _ _⟩
    · cases hs
  | tableswitch dflt lo hi offs =>
    simp only [am_s] at hs ⊢
    split at hs
    · split at hs
      · rename_i hc
        cases hs
        exact ⟨lv', if_pos hc, h⟩
      · rename_i hc
        split at hs
        · rename_i off ho
          cases hs
          refine ⟨lv', ?_, h⟩
          rw [if_neg hc]
        · cases hs
    · cases hs
  | _ =>
    simp only [am_s, am_op, am_opj] at hs ⊢
    first
      | (cases hs; done)
      | (cases hs; exact ⟨lv', rfl, h⟩)
      | (repeat' (split at hs)) <;> first | (cases hs; done) | (cases hs; exact ⟨lv', rfl, h⟩) | (obtain ⟨z, hz, rfl⟩ := Option.map_eq_some_iff.mp hs; exact ⟨lv', by simp_all, h⟩) | (cases hs; exact ⟨lv', by simp_all, h⟩)
theorem am_run_inc {X : Nat × (Nat → Int)} : ∀ (k : Nat) {d mid pc : Nat} {lv lv' : List (Nat × am_V)} {st : List am_V} {M : am_M} {r : am_R}, am_inc lv lv' → am_run X k d mid pc lv st M = some r → am_run X k d mid pc lv' st M = some r := by
  intro k
  induction k with
  | zero => intro d mid pc lv lv' st M r h hr; cases hr
  | succ k ih =>
    intro d mid pc lv lv' st M r h hr
    rw [am_run_succ] at hr ⊢
    unfold am_step at hr ⊢
    split at hr
    · rename_i q hq
      obtain ⟨i, n, x⟩ := q
      dsimp only at hr ⊢
      have hcall : ∀ {rest : List am_V} {t : Nat} {as : List am_V}, am_call (am_run X k) d mid (pc + n) lv rest M t as = some r → am_call (am_run X k) d mid (pc + n) lv' rest M t as = some r := by
        intro rest t as hc
        unfold am_call at hc ⊢
        split at hc
        · cases hc
        · split at hc
          · rename_i hg
            rw [if_pos hg]
            split at hc
            · exact ih h hc
            · cases hc
          · cases hc
      cases i with
      | ireturn => exact hr
      | lreturn => exact hr
      | areturn => exact hr
      | return_ => exact hr
      | invokestatic v =>
        simp only [am_x] at hr ⊢
        split at hr
        · split at hr
          · rename_i hl
            rw [if_pos hl]
            exact hcall hr
          · cases hr
        · split at hr
          · split at hr
            · cases hr
            · split at hr
              · exact ih h hr
              · cases hr
          · cases hr
      | invokespecial v =>
        simp only [am_x] at hr ⊢
        split at hr
        · split at hr
          · split at hr
            · split at hr
              · rename_i hoi
                rw [if_pos hoi]
                split at hr
                · cases hr
                · split at hr
                  · rename_i hg
                    rw [if_pos hg]
                    exact ih h hr
                  · cases hr
              · rename_i hoi
                rw [if_neg hoi]
                split at hr
                · rename_i hl
                  rw [if_pos hl]
                  exact hcall hr
                · cases hr
            · cases hr
          · cases hr
        · cases hr
      | invokevirtual v =>
        simp only [am_x] at hr ⊢
        split at hr
        · split at hr
          · split at hr
            · split at hr
              · rename_i hl
                rw [if_pos hl]
                exact hcall hr
              · cases hr
            · cases hr
          · cases hr
        · cases hr
      | _ =>
        simp only [am_x] at hr ⊢
        split at hr
        · rename_i q' hs
          obtain ⟨lv1, e1, h1⟩ := am_s_inc h hs
          rw [e1]
          exact ih h1 hr
        · cases hr
    · cases hr
/-- fewer locals, in any order -/
theorem am_E.less {X : Nat × (Nat → Int)} {d mid pc : Nat} {lv lv' : List (Nat × am_V)} {st : List am_V} {M : am_M} {P : am_R → Prop} (hn : (lv.map (fun q => q.1)).Nodup) (hs : ∀ q ∈ lv, lv'.lookup q.1 = some q.2) (h : am_E X d mid pc lv st M P) : am_E X d mid pc lv' st M P := by
  obtain ⟨k, r, h1, h2⟩ := h
  exact ⟨k, r, am_run_inc k ⟨hn, hs⟩ h1, h2⟩
