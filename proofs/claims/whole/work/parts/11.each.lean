/-! every instruction of the tables' that makes one step -/
def am_inT (w : Cond) : Bool := decide (w ∈ lw_tbl) && goodWord w
theorem am_inT_tb {w : Cond} (h : am_inT w = true) : w ∈ am_tb := by
  unfold am_inT at h
  simp only [Bool.and_eq_true, decide_eq_true_eq] at h
  exact List.mem_filter.mpr h
/-- a word at its place among the launch's -/
def am_inI (i : Nat) (w : Cond) : Bool := decide (lw_tbl[i]? = some w) && goodWord w
theorem am_inI_tb {i : Nat} {w : Cond} (h : am_inI i w = true) : w ∈ am_tb := by
  unfold am_inI at h
  simp only [Bool.and_eq_true, decide_eq_true_eq] at h
  exact List.mem_filter.mpr ⟨List.mem_of_getElem? h.1, h.2⟩
def am_gi (t : List (Nat × List Nat)) (c k : Nat) : Nat := ((t.lookup c).getD []).getD k 0
def am_flok (x : Nat) (q : String × Nat × String × List (Nat × Nat)) : Bool := q.2.2.2.all (fun z => if z.1 < 13 then match vwCl[z.1]? with
    | some r => decide (z.2 < r.2.2) && (am_inI (am_gi (am_fix.getD x []) z.1 0) (.fieldLink q.1 q.2.1 q.2.2.1 (r.2.1 z.2).2.1 (r.2.1 z.2).2.2.1) && (decide (q.2.2.1 = (r.2.1 z.2).1) || am_inI (am_gi (am_fix.getD x []) z.1 1) (.sameField q.2.2.1 (r.2.1 z.2).1 (r.2.1 z.2).2.1 (r.2.1 z.2).2.2.1)))
    | none => false
  else (decide (z.2 = 0) && am_inI (am_gi (am_fix.getD x []) z.1 0) (.fieldLink q.1 q.2.1 "java/lang/String" "value" "[B")) || (decide (z.2 = 1) && am_inI (am_gi (am_fix.getD x []) z.1 0) (.fieldLink q.1 q.2.1 "java/lang/String" "coder" "B")))
def am_FLs : Prop := ∀ (x : Nat) (q : String × Nat × String × List (Nat × Nat)), am_fl[x]? = some q → am_flok x q = true
def am_flk (own : String) (v x : Nat) : Bool := match am_fl[x]? with
  | some q => decide (q.1 = own) && decide (q.2.1 = v)
  | none => false
def am_ffk (mid x : Nat) : Bool := match am_fl[x]? with
  | some q => q.2.2.2.all (fun z => match vwCl[z.1]? with
    | some r => !(r.2.1 z.2).2.2.2 || ((am_y mid).name == "<init>" && decide ((r.2.1 z.2).1 = (am_y mid).cls))
    | none => true)
  | none => true
theorem am_lookm {α : Type} {l : List (Nat × α)} {i : Nat} {v : α} (h : l.lookup i = some v) : (i, v) ∈ l := by
  induction l with
  | nil => cases h
  | cons q l ih =>
    obtain ⟨j, w⟩ := q
    rw [List.lookup_cons] at h
    by_cases e : i = j
    · subst e
      simp at h
      subst h
      exact List.mem_cons_self
    · have : (i == j) = false := by simpa using e
      rw [this] at h
      exact List.mem_cons_of_mem _ (ih h)
theorem am_F_mem {x c f : Nat} (h : am_F x c = some f) : ∃ q, am_fl[x]? = some q ∧ (c, f) ∈ q.2.2.2 := by
  unfold am_F at h
  split at h
  · rename_i q hq
    exact ⟨q, hq, am_lookm h⟩
  · cases h
theorem am_FO_of (hFL : am_FLs) {own : String} {v x : Nat} (h : am_flk own v x = true) : am_FO own v x := by
  intro c f hf hc r hr
  obtain ⟨q, hq, hm⟩ := am_F_mem hf
  unfold am_flk at h
  rw [hq] at h
  simp only [Bool.and_eq_true, decide_eq_true_eq] at h
  obtain ⟨rfl, rfl⟩ := h
  have h1 := List.all_eq_true.mp (hFL x q hq) (c, f) hm
  rw [if_pos hc] at h1
  dsimp only at h1
  rw [hr] at h1
  simp only [Bool.and_eq_true, Bool.or_eq_true, decide_eq_true_eq] at h1
  refine ⟨h1.1, q.2.2.1, am_inI_tb h1.2.1, ?_⟩
  rcases h1.2.2 with e | e
  · exact Or.inl e
  · exact Or.inr (am_inI_tb e)
theorem am_FS_of (hFL : am_FLs) {own : String} {v x : Nat} (h : am_flk own v x = true) : ∀ f, am_F x 13 = some f → (f = 0 ∧ Cond.fieldLink own v "java/lang/String" "value" "[B" ∈ am_tb) ∨ (f = 1 ∧ Cond.fieldLink own v "java/lang/String" "coder" "B" ∈ am_tb) := by
  intro f hf
  obtain ⟨q, hq, hm⟩ := am_F_mem hf
  unfold am_flk at h
  rw [hq] at h
  simp only [Bool.and_eq_true, decide_eq_true_eq] at h
  obtain ⟨rfl, rfl⟩ := h
  have h1 := List.all_eq_true.mp (hFL x q hq) (13, f) hm
  rw [if_neg (by omega)] at h1
  simp only [Bool.and_eq_true, Bool.or_eq_true, decide_eq_true_eq] at h1
  rcases h1 with ⟨h1, h2⟩ | ⟨h1, h2⟩
  · exact Or.inl ⟨h1, am_inI_tb h2⟩
  · exact Or.inr ⟨h1, am_inI_tb h2⟩
theorem am_FF_of {mid x : Nat} (h : am_ffk mid x = true) : am_FF mid x := by
  intro c f hf hc r hr
  obtain ⟨q, hq, hm⟩ := am_F_mem hf
  unfold am_ffk at h
  rw [hq] at h
  have h1 := List.all_eq_true.mp h (c, f) hm
  dsimp only at h1
  rw [hr] at h1
  have h1 : (!(r.2.1 f).2.2.2 || ((am_y mid).name == "<init>" && decide ((r.2.1 f).1 = (am_y mid).cls))) = true := h1
  cases hb : (r.2.1 f).2.2.2 with
  | false => exact Or.inl rfl
  | true =>
    rw [hb] at h1
    simp only [Bool.not_true, Bool.false_or, Bool.and_eq_true, beq_iff_eq, decide_eq_true_eq] at h1
    exact Or.inr ⟨rfl, h1.1, h1.2⟩
/-- what an entry of the tables must be -/
def am_ck (mid pc : Nat) (i : Instr) (n x : Nat) : Bool := match i with
  | .bipush v => decide (n = 2) && decide ((Int8.ofInt v).toInt32 = Int32.ofInt v)
  | .sipush v => decide (n = 3) && decide ((Int16.ofInt v).toInt32 = Int32.ofInt v)
  | .lconst v => decide (n = 1) && decide (Int64.ofNat (v : Nat) = Int64.ofInt ((v : Nat) : Int))
  | .iload _ => decide (n = 2)
  | .lload _ => decide (n = 2)
  | .aload _ => decide (n = 2)
  | .istore_n v => decide (n = 1) && decide ((v : Nat) < am_l mid)
  | .astore_n v => decide (n = 1) && decide ((v : Nat) < am_l mid)
  | .lstore_n v => decide (n = 1) && decide ((v : Nat) + 1 < am_l mid)
  | .istore v => decide (n = 2) && decide (v < am_l mid)
  | .astore v => decide (n = 2) && decide (v < am_l mid)
  | .lstore v => decide (n = 2) && decide (v + 1 < am_l mid)
  | .iinc _ _ => decide (n = 3)
  | .goto off => decide (n = 3) && decide ((pc : Int) + off = (x : Int))
  | .ifCond _ off => decide (n = 3) && decide ((pc : Int) + off = (x : Int))
  | .if_icmp _ off => decide (n = 3) && decide ((pc : Int) + off = (x : Int))
  | .tableswitch dflt _ _ offs => decide (0 ≤ (pc : Int) + dflt) && offs.toList.all (fun o => decide (0 ≤ (pc : Int) + o))
  | .lookupswitch dflt ps => decide (0 ≤ (pc : Int) + dflt) && (ps.toList.all (fun o => decide (0 ≤ (pc : Int) + o.2)) && (ps.toList.zip (ps.toList.drop 1)).all (fun (a, next) => a.1 < next.1))
  | .ldc v => decide (n = 2) && (List.range 10).any (fun j => decide (x = 1 + 2 * j) && decide (((am_y mid).cls, v, j) ∈ am_srs))
  | .ldc_w v => decide (n = 3) && am_inT (.constant (am_y mid).cls v (Int32.ofInt x))
  | .ldc2_w v => decide (n = 3) && am_inT (.constantLong (am_y mid).cls v (Int64.ofInt (am_lcs.getD x 0)))
  | .getstatic v => decide (n = 3) && ((decide (x = 0) && am_inT (.fieldLink (am_y mid).cls v "java/lang/String" "COMPACT_STRINGS" "Z")) || (decide (x = 1) && am_inT (.fieldLink (am_y mid).cls v "jdk/internal/util/Preconditions" "SIOOBE_FORMATTER" "Ljava/util/function/BiFunction;")))
  | .getfield v => decide (n = 3) && am_flk (am_y mid).cls v x
  | .putfield v => decide (n = 3) && (am_flk (am_y mid).cls v x && am_ffk mid x)
  | .new v => decide (n = 3) && am_inT (.classLink (am_y mid).cls v (am_cn x))
  | .newarray _ => decide (n = 2)
  | .anewarray v => decide (n = 3) && am_inT (.classLink (am_y mid).cls v RX4)
  | .multianewarray v d => decide (n = 4) && (decide (d = 2) && am_inT (.classLink (am_y mid).cls v ("[" ++ (FieldType.array .int).toString)))
  | .instanceof v => decide (n = 3) && ((decide (x = 5) || (decide (x = 6) || decide (x = 8))) && am_inT (.classLink (am_y mid).cls v (am_cn x)))
  | .invokevirtual _ => decide (n = 3)
  | .invokestatic _ => decide (n = 3)
  | .invokespecial _ => decide (n = 3)
  | _ => decide (n = 1)
theorem am_lookup_off {pc : Nat} {ps : List (Int × Int)} {dflt : Int} (h0 : 0 ≤ (pc : Int) + dflt) (h1 : ps.all (fun o => decide (0 ≤ (pc : Int) + o.2)) = true) (z : Int) : 0 ≤ (pc : Int) + Op.lookupswitch.offset ps dflt z := by
  induction ps with
  | nil => exact h0
  | cons a r ih =>
    obtain ⟨a, o⟩ := a
    rw [List.all_cons, Bool.and_eq_true, decide_eq_true_eq] at h1
    show 0 ≤ (pc : Int) + (if a = z then o else Op.lookupswitch.offset r dflt z)
    split
    · exact h1.1
    · exact ih h1.2
section
variable {l : Launch} {G : am_G} {X : Nat × (Nat → Int)} {mid pc n x : Nat} {lv : List (Nat × am_V)} {st : List am_V} {M : am_M} {q : Nat × List (Nat × am_V) × List am_V × am_M}
/-- one step of one instruction -/
theorem am_s_ok (hCO : am_COs) (hFL : am_FLs) (hac : ∀ t : FieldType, t = .int ∨ t = .long ∨ t = .boolean → Cond.arrayClass t ∈ am_tb) {i : Instr} (hd : decode (am_b mid) pc = .ok (i, n)) (hck : am_ck mid pc i n x = true) (h : am_s X pc lv st M i n x = some q) : am_Stp l G X mid pc lv st M q.1 q.2.1 q.2.2.1 q.2.2.2 := by
  cases i with
  | iconst v =>
    simp only [am_ck, Bool.and_eq_true, Bool.or_eq_true, decide_eq_true_eq] at hck
    subst hck
    exact am_k_iconst hd h
  | iload_n v =>
    simp only [am_ck, Bool.and_eq_true, Bool.or_eq_true, decide_eq_true_eq] at hck
    subst hck
    exact am_k_iload_n hd h
  | lload_n v =>
    simp only [am_ck, Bool.and_eq_true, Bool.or_eq_true, decide_eq_true_eq] at hck
    subst hck
    exact am_k_lload_n hd h
  | aload_n v =>
    simp only [am_ck, Bool.and_eq_true, Bool.or_eq_true, decide_eq_true_eq] at hck
    subst hck
    exact am_k_aload_n hd h
  | ineg =>
    simp only [am_ck, Bool.and_eq_true, Bool.or_eq_true, decide_eq_true_eq] at hck
    subst hck
    exact am_k_ineg hd h
  | i2l =>
    simp only [am_ck, Bool.and_eq_true, Bool.or_eq_true, decide_eq_true_eq] at hck
    subst hck
    exact am_k_i2l hd h
  | i2c =>
    simp only [am_ck, Bool.and_eq_true, Bool.or_eq_true, decide_eq_true_eq] at hck
    subst hck
    exact am_k_i2c hd h
  | lcmp =>
    simp only [am_ck, Bool.and_eq_true, Bool.or_eq_true, decide_eq_true_eq] at hck
    subst hck
    exact am_k_lcmp hd h
  | dup =>
    simp only [am_ck, Bool.and_eq_true, Bool.or_eq_true, decide_eq_true_eq] at hck
    subst hck
    exact am_k_dup hd h
  | dup2 =>
    simp only [am_ck, Bool.and_eq_true, Bool.or_eq_true, decide_eq_true_eq] at hck
    subst hck
    exact am_k_dup2 hd h
  | pop =>
    simp only [am_ck, Bool.and_eq_true, Bool.or_eq_true, decide_eq_true_eq] at hck
    subst hck
    exact am_k_pop hd h
  | arraylength =>
    simp only [am_ck, Bool.and_eq_true, Bool.or_eq_true, decide_eq_true_eq] at hck
    subst hck
    exact am_k_arraylength hd h
  | iaload =>
    simp only [am_ck, Bool.and_eq_true, Bool.or_eq_true, decide_eq_true_eq] at hck
    subst hck
    exact am_k_iaload hd h
  | baload =>
    simp only [am_ck, Bool.and_eq_true, Bool.or_eq_true, decide_eq_true_eq] at hck
    subst hck
    exact am_k_baload hd h
  | laload =>
    simp only [am_ck, Bool.and_eq_true, Bool.or_eq_true, decide_eq_true_eq] at hck
    subst hck
    exact am_k_laload hd h
  | aaload =>
    simp only [am_ck, Bool.and_eq_true, Bool.or_eq_true, decide_eq_true_eq] at hck
    subst hck
    exact am_k_aaload hd h
  | iastore =>
    simp only [am_ck, Bool.and_eq_true, Bool.or_eq_true, decide_eq_true_eq] at hck
    subst hck
    exact am_k_iastore hd h
  | bastore =>
    simp only [am_ck, Bool.and_eq_true, Bool.or_eq_true, decide_eq_true_eq] at hck
    subst hck
    exact am_k_bastore hd h
  | lastore =>
    simp only [am_ck, Bool.and_eq_true, Bool.or_eq_true, decide_eq_true_eq] at hck
    subst hck
    exact am_k_lastore hd h
  | iadd =>
    simp only [am_ck, Bool.and_eq_true, Bool.or_eq_true, decide_eq_true_eq] at hck
    subst hck
    exact am_k_iadd hd h
  | isub =>
    simp only [am_ck, Bool.and_eq_true, Bool.or_eq_true, decide_eq_true_eq] at hck
    subst hck
    exact am_k_isub hd h
  | imul =>
    simp only [am_ck, Bool.and_eq_true, Bool.or_eq_true, decide_eq_true_eq] at hck
    subst hck
    exact am_k_imul hd h
  | iand =>
    simp only [am_ck, Bool.and_eq_true, Bool.or_eq_true, decide_eq_true_eq] at hck
    subst hck
    exact am_k_iand hd h
  | ior =>
    simp only [am_ck, Bool.and_eq_true, Bool.or_eq_true, decide_eq_true_eq] at hck
    subst hck
    exact am_k_ior hd h
  | ixor =>
    simp only [am_ck, Bool.and_eq_true, Bool.or_eq_true, decide_eq_true_eq] at hck
    subst hck
    exact am_k_ixor hd h
  | ishl =>
    simp only [am_ck, Bool.and_eq_true, Bool.or_eq_true, decide_eq_true_eq] at hck
    subst hck
    exact am_k_ishl hd h
  | ishr =>
    simp only [am_ck, Bool.and_eq_true, Bool.or_eq_true, decide_eq_true_eq] at hck
    subst hck
    exact am_k_ishr hd h
  | iushr =>
    simp only [am_ck, Bool.and_eq_true, Bool.or_eq_true, decide_eq_true_eq] at hck
    subst hck
    exact am_k_iushr hd h
  | idiv =>
    simp only [am_ck, Bool.and_eq_true, Bool.or_eq_true, decide_eq_true_eq] at hck
    subst hck
    exact am_k_idiv hd h
  | irem =>
    simp only [am_ck, Bool.and_eq_true, Bool.or_eq_true, decide_eq_true_eq] at hck
    subst hck
    exact am_k_irem hd h
  | ladd =>
    simp only [am_ck, Bool.and_eq_true, Bool.or_eq_true, decide_eq_true_eq] at hck
    subst hck
    exact am_k_ladd hd h
  | lmul =>
    simp only [am_ck, Bool.and_eq_true, Bool.or_eq_true, decide_eq_true_eq] at hck
    subst hck
    exact am_k_lmul hd h
  | ldiv =>
    simp only [am_ck, Bool.and_eq_true, Bool.or_eq_true, decide_eq_true_eq] at hck
    subst hck
    exact am_k_ldiv hd h
  | lrem =>
    simp only [am_ck, Bool.and_eq_true, Bool.or_eq_true, decide_eq_true_eq] at hck
    subst hck
    exact am_k_lrem hd h
  | aastore =>
    simp only [am_ck, Bool.and_eq_true, Bool.or_eq_true, decide_eq_true_eq] at hck
    subst hck
    exact am_k_aastore hd hCO h
  | iload v =>
    simp only [am_ck, Bool.and_eq_true, Bool.or_eq_true, decide_eq_true_eq] at hck
    subst hck
    exact am_k_iload hd h
  | lload v =>
    simp only [am_ck, Bool.and_eq_true, Bool.or_eq_true, decide_eq_true_eq] at hck
    subst hck
    exact am_k_lload hd h
  | aload v =>
    simp only [am_ck, Bool.and_eq_true, Bool.or_eq_true, decide_eq_true_eq] at hck
    subst hck
    exact am_k_aload hd h
  | bipush v =>
    simp only [am_ck, Bool.and_eq_true, Bool.or_eq_true, decide_eq_true_eq] at hck
    obtain ⟨rfl, h1⟩ := hck
    exact am_k_bipush hd h1 h
  | sipush v =>
    simp only [am_ck, Bool.and_eq_true, Bool.or_eq_true, decide_eq_true_eq] at hck
    obtain ⟨rfl, h1⟩ := hck
    exact am_k_sipush hd h1 h
  | lconst v =>
    simp only [am_ck, Bool.and_eq_true, Bool.or_eq_true, decide_eq_true_eq] at hck
    obtain ⟨rfl, h1⟩ := hck
    exact am_k_lconst hd h1 h
  | istore_n v =>
    simp only [am_ck, Bool.and_eq_true, Bool.or_eq_true, decide_eq_true_eq] at hck
    obtain ⟨rfl, h1⟩ := hck
    exact am_k_istore_n hd h1 h
  | astore_n v =>
    simp only [am_ck, Bool.and_eq_true, Bool.or_eq_true, decide_eq_true_eq] at hck
    obtain ⟨rfl, h1⟩ := hck
    exact am_k_astore_n hd h1 h
  | lstore_n v =>
    simp only [am_ck, Bool.and_eq_true, Bool.or_eq_true, decide_eq_true_eq] at hck
    obtain ⟨rfl, h1⟩ := hck
    exact am_k_lstore_n hd h1 h
  | istore v =>
    simp only [am_ck, Bool.and_eq_true, Bool.or_eq_true, decide_eq_true_eq] at hck
    obtain ⟨rfl, h1⟩ := hck
    exact am_k_istore hd h1 h
  | astore v =>
    simp only [am_ck, Bool.and_eq_true, Bool.or_eq_true, decide_eq_true_eq] at hck
    obtain ⟨rfl, h1⟩ := hck
    exact am_k_astore hd h1 h
  | lstore v =>
    simp only [am_ck, Bool.and_eq_true, Bool.or_eq_true, decide_eq_true_eq] at hck
    obtain ⟨rfl, h1⟩ := hck
    exact am_k_lstore hd h1 h
  | goto v =>
    simp only [am_ck, Bool.and_eq_true, Bool.or_eq_true, decide_eq_true_eq] at hck
    obtain ⟨rfl, h1⟩ := hck
    exact am_k_goto hd h1 h
  | iinc v w =>
    simp only [am_ck, Bool.and_eq_true, Bool.or_eq_true, decide_eq_true_eq] at hck
    subst hck
    exact am_k_iinc hd h
  | ifCond c off =>
    simp only [am_ck, Bool.and_eq_true, Bool.or_eq_true, decide_eq_true_eq] at hck
    obtain ⟨rfl, h1⟩ := hck
    cases c with
    | eq => exact am_k_if_eq hd h1 h
    | ne => exact am_k_if_ne hd h1 h
    | lt => exact am_k_if_lt hd h1 h
    | ge => exact am_k_if_ge hd h1 h
    | gt => exact am_k_if_gt hd h1 h
    | le => exact am_k_if_le hd h1 h
  | if_icmp c off =>
    simp only [am_ck, Bool.and_eq_true, Bool.or_eq_true, decide_eq_true_eq] at hck
    obtain ⟨rfl, h1⟩ := hck
    cases c with
    | eq => exact am_k_icmp_eq hd h1 h
    | ne => exact am_k_icmp_ne hd h1 h
    | lt => exact am_k_icmp_lt hd h1 h
    | ge => exact am_k_icmp_ge hd h1 h
    | gt => exact am_k_icmp_gt hd h1 h
    | le => exact am_k_icmp_le hd h1 h
  | tableswitch dflt lo hi offs =>
    simp only [am_ck, Bool.and_eq_true, Bool.or_eq_true, decide_eq_true_eq] at hck
    exact am_k_tableswitch hd hck.1 (fun o ho => by have := List.all_eq_true.mp hck.2 o ho; simpa using this) h
  | lookupswitch dflt ps =>
    simp only [am_ck, Bool.and_eq_true, Bool.or_eq_true, decide_eq_true_eq] at hck
    exact am_k_lookupswitch hd hck.2.2 (am_lookup_off hck.1 hck.2.1) h
  | ldc v =>
    simp only [am_ck, Bool.and_eq_true, Bool.or_eq_true, decide_eq_true_eq] at hck
    obtain ⟨rfl, h1⟩ := hck
    obtain ⟨j, hj, hj2⟩ := List.any_eq_true.mp h1
    simp only [Bool.and_eq_true, decide_eq_true_eq] at hj2
    exact am_k_ldc hd ⟨j, List.mem_range.mp hj, hj2.1, hj2.2⟩ h
  | ldc_w v =>
    simp only [am_ck, Bool.and_eq_true, Bool.or_eq_true, decide_eq_true_eq] at hck
    obtain ⟨rfl, h1⟩ := hck
    exact am_k_ldc_w hd (am_inT_tb h1) h
  | ldc2_w v =>
    simp only [am_ck, Bool.and_eq_true, Bool.or_eq_true, decide_eq_true_eq] at hck
    obtain ⟨rfl, h1⟩ := hck
    exact am_k_ldc2_w hd (am_inT_tb h1) h
  | getstatic v =>
    simp only [am_ck, Bool.and_eq_true, Bool.or_eq_true, decide_eq_true_eq] at hck
    obtain ⟨rfl, h1⟩ := hck
    exact am_k_getstatic hd (h1.imp (fun z => ⟨z.1, am_inT_tb z.2⟩) (fun z => ⟨z.1, am_inT_tb z.2⟩)) h
  | getfield v =>
    simp only [am_ck, Bool.and_eq_true, Bool.or_eq_true, decide_eq_true_eq] at hck
    obtain ⟨rfl, h1⟩ := hck
    exact am_k_getfield hd hCO (am_FO_of hFL h1) (am_FS_of hFL h1) h
  | putfield v =>
    simp only [am_ck, Bool.and_eq_true, Bool.or_eq_true, decide_eq_true_eq] at hck
    obtain ⟨rfl, h1, h2⟩ := hck
    exact am_k_putfield hd hCO (am_FO_of hFL h1) (am_FF_of h2) h
  | new v =>
    simp only [am_ck, Bool.and_eq_true, Bool.or_eq_true, decide_eq_true_eq] at hck
    obtain ⟨rfl, h1⟩ := hck
    exact am_k_new hd hCO (am_inT_tb h1) h
  | newarray v =>
    simp only [am_ck, Bool.and_eq_true, Bool.or_eq_true, decide_eq_true_eq] at hck
    subst hck
    exact am_k_newarray hd hac h
  | anewarray v =>
    simp only [am_ck, Bool.and_eq_true, Bool.or_eq_true, decide_eq_true_eq] at hck
    obtain ⟨rfl, h1⟩ := hck
    exact am_k_anewarray hd (am_inT_tb h1) h
  | multianewarray v d =>
    simp only [am_ck, Bool.and_eq_true, Bool.or_eq_true, decide_eq_true_eq] at hck
    obtain ⟨rfl, rfl, h1⟩ := hck
    exact am_k_mna hd (am_inT_tb h1) (hac .int (Or.inl rfl)) h
  | instanceof v =>
    simp only [am_ck, Bool.and_eq_true, Bool.or_eq_true, decide_eq_true_eq] at hck
    obtain ⟨rfl, h0, h1⟩ := hck
    exact am_k_instanceof hd hCO h0 (am_inT_tb h1) h
  | _ => exact absurd h (by simp only [am_s, am_op, am_opj]; exact fun q => by cases q)
end
