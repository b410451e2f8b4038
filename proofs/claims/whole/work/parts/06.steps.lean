/-! one step of the small machine is one step of the machine -/
def am_kin : List Nat := [0, 2, 4, 5, 6, 8, 9]
def am_cn (c : Nat) : String := (vwCl.getD c (RX0, TX0, 0)).1
def am_sl : List Nat := am_strs.map List.length
def am_sb : List (List Int32) := am_strs.map (fun t => t.map Int32.ofInt)
/-- what holds of the launch and of what lies outside, at a method's entry -/
def am_Ex (G : am_G) (X : Nat × (Nat → Int)) (A : Nat → Prop) (s : State) : Prop :=
  (∀ w ∈ am_nests, va_Nw w s) ∧ (∀ c ∈ am_kin, c ≠ 4 → va_Nw (.castable (am_cn c) RX4) s) ∧ (∀ x ∈ [5, 6, 8], ∀ c ∈ am_kin, c ≠ x → match am_io x c with
    | some true => va_Nw (.castable (am_cn c) (am_cn x)) s
    | _ => va_Nc (am_cn c) (am_cn x) s) ∧ va_AO RX4 s ∧ va_AOA .int s ∧
  (∃ adK adV : Nat → Nat, vk_S 10 am_sl am_sb adK adV A s s.heap ∧ (∀ j, j < 10 → G.2.2 (1 + 2 * j) = some (adK j) ∧ G.2.2 (2 + 2 * j) = some (adV j)) ∧ ∀ q ∈ am_srs, ∃ tx, vk_R q.1 q.2.1 tx (adK q.2.2) s) ∧
  (∃ b : Nat, G.2.2 0 = some b ∧ va_T .int b X.1 (fun j => .int (Int32.ofInt (X.2 j))) A s s.heap) ∧
  va_Z "java/lang/String" "COMPACT_STRINGS" "Z" (.int 1) A s s.heap ∧ va_Z "jdk/internal/util/Preconditions" "SIOOBE_FORMATTER" "Ljava/util/function/BiFunction;" (va_rf (G.2.2 1000)) A s s.heap
/-- a method stands at its code -/
def am_Cx (G : am_G) (X : Nat × (Nat → Int)) (p : Program) (s : State) (m : MethodId) (args : Array Value) (meth : Method) (c : Code) (mid : Nat) (A : Nat → Prop) : Prop :=
  p.tables.exec = Jvm.exec ∧ c.code = am_b mid ∧ c.maxLocals = am_l mid ∧ s.vm.findClass (am_y mid).cls = some m.cls ∧ (∀ w ∈ am_tb, w.before args s = true) ∧ va_K G.1 vwCl (am_tys G) s ∧ ((am_y mid).name = "<init>" → meth.name = "<init>") ∧ (∀ q : Nat, s.heap.size ≤ q → A q) ∧ am_Ex G X A s
/-- the cells lie in the heap -/
def am_Wd (G : am_G) (a : Nat → Nat) (M : am_M) (A : Nat → Prop) (s : State) (H : Heap) (locs : List Loc) : Prop :=
  va_P G.1 vwCl (am_ws G a M) H ∧ va_D A (am_ws G a M) ∧ va_S A s.heap H locs
def am_Stp (l : Launch) (G : am_G) (X : Nat × (Nat → Int)) (mid pc : Nat) (lv : List (Nat × am_V)) (st : List am_V) (M : am_M) (pc' : Nat) (lv' : List (Nat × am_V)) (st' : List am_V) (M' : am_M) : Prop :=
  (M.1.length ≤ M'.1.length ∧ am_sz M ≤ am_sz M') ∧
  (am_wf M → am_wfl M.1.length lv → am_wfs M.1.length st → am_wf M' ∧ am_wfl M'.1.length lv' ∧ am_wfs M'.1.length st') ∧
  ∀ (p : Program) (e : Env) (R : Room) (s : State) (m : MethodId) (args : Array Value) (below : List Frame) (meth : Method) (c : Code) (A : Nat → Prop) (Q : State → Prop) (a : Nat → Nat) (ls : Array Slot) (H : Heap) (locs : List Loc) (cells slots : Nat),
    am_Cx G X p s m args meth c mid A → lv_has ls (am_l mid) (am_lv G a lv) → am_wf M → am_wfl M.1.length lv → am_wfs M.1.length st → am_Wd G a M A s H locs →
    cells + (M'.1.length - M.1.length) ≤ R.cells → slots + (am_sz M' - am_sz M) ≤ R.slots →
    (∀ (a' : Nat → Nat) (ls' : Array Slot) (H' : Heap) (locs' : List Loc), am_ag M.1.length a a' → lv_has ls' (am_l mid) (am_lv G a' lv') → am_Wd G a' M' A s H' locs' →
      W p l e R s m args below meth c H' locs' (cells + (M'.1.length - M.1.length)) (slots + (am_sz M' - am_sz M)) Q (F0 m pc' ls' (am_sv G a' st'))) →
    W p l e R s m args below meth c H locs cells slots Q (F0 m pc ls (am_sv G a st))
theorem am_wfs_tl {n : Nat} {v : am_V} {st : List am_V} (h : am_wfs n (v :: st)) : am_wfs n st := fun w hw => h w (List.mem_cons_of_mem _ hw)
theorem am_wfs_hd {n : Nat} {v : am_V} {st : List am_V} (h : am_wfs n (v :: st)) : am_wfv n v := h v List.mem_cons_self
theorem am_wfs_cons {n : Nat} {v : am_V} {st : List am_V} (hv : am_wfv n v) (h : am_wfs n st) : am_wfs n (v :: st) := fun w hw => by
  rcases List.mem_cons.mp hw with rfl | hw
  · exact hv
  · exact h w hw
theorem am_wfv_i (n : Nat) (z : Int) : am_wfv n (.inl z) := fun _ h => by cases h
theorem am_wfv_j (n : Nat) (z : Int) : am_wfv n (.inr (.inl z)) := fun _ h => by cases h
theorem am_wfv_e (n : Nat) (z : Nat) : am_wfv n (.inr (.inr (.inr z))) := fun _ h => by cases h
theorem am_wfv_r {n : Nat} {r : Option Nat} (h : ∀ k, r = some k → k < n) : am_wfv n (.inr (.inr (.inl r))) := fun k hk => h k (by injection hk with h1; injection h1 with h2; injection h2)
theorem am_ag_rf (n : Nat) (a : Nat → Nat) : am_ag n a a := fun _ _ => rfl
section
variable {l : Launch} {G : am_G} {X : Nat × (Nat → Int)} {mid pc pc' : Nat} {lv lv' : List (Nat × am_V)} {st st' : List am_V} {M M' : am_M}
theorem am_Stp.loc (hw : am_wfl M.1.length lv → am_wfs M.1.length st → am_wfl M.1.length lv' ∧ am_wfs M.1.length st')
    (hr : ∀ (p : Program) (e : Env) (R : Room) (s : State) (m : MethodId) (args : Array Value) (below : List Frame) (meth : Method) (c : Code) (A : Nat → Prop) (Q : State → Prop) (a : Nat → Nat) (ls : Array Slot) (H : Heap) (locs : List Loc) (cells slots : Nat),
      am_Cx G X p s m args meth c mid A → lv_has ls (am_l mid) (am_lv G a lv) → am_Wd G a M A s H locs →
      (∀ ls' : Array Slot, lv_has ls' (am_l mid) (am_lv G a lv') → W p l e R s m args below meth c H locs cells slots Q (F0 m pc' ls' (am_sv G a st'))) →
      W p l e R s m args below meth c H locs cells slots Q (F0 m pc ls (am_sv G a st))) : am_Stp l G X mid pc lv st M pc' lv' st' M := by
  refine ⟨⟨Nat.le_refl _, Nat.le_refl _⟩, fun w1 w2 w3 => ⟨w1, hw w2 w3⟩, ?_⟩
  intro p e R s m args below meth c A Q a ls H locs cells slots C hl w1 w2 w3 hW _ _ k
  rw [Nat.sub_self, Nat.sub_self] at k
  exact hr p e R s m args below meth c A Q a ls H locs cells slots C hl hW (fun ls' hl' => k a ls' H locs (am_ag_rf _ _) hl' hW)
theorem am_Stp.pure (hw : am_wfl M.1.length lv → am_wfs M.1.length st → am_wfs M.1.length st')
    (hr : ∀ (p : Program) (e : Env) (R : Room) (s : State) (m : MethodId) (args : Array Value) (below : List Frame) (meth : Method) (c : Code) (A : Nat → Prop) (Q : State → Prop) (a : Nat → Nat) (ls : Array Slot) (H : Heap) (locs : List Loc) (cells slots : Nat),
      am_Cx G X p s m args meth c mid A → lv_has ls (am_l mid) (am_lv G a lv) → am_Wd G a M A s H locs →
      W p l e R s m args below meth c H locs cells slots Q (F0 m pc' ls (am_sv G a st')) →
      W p l e R s m args below meth c H locs cells slots Q (F0 m pc ls (am_sv G a st))) : am_Stp l G X mid pc lv st M pc' lv st' M :=
  am_Stp.loc (fun w2 w3 => ⟨w2, hw w2 w3⟩) (fun p e R s m args below meth c A Q a ls H locs cells slots C hl hW k => hr p e R s m args below meth c A Q a ls H locs cells slots C hl hW (k ls hl))
/-- as pure, with what is known of the memory -/
theorem am_Stp.pureW (hw : am_wf M → am_wfl M.1.length lv → am_wfs M.1.length st → am_wfs M.1.length st')
    (hr : ∀ (p : Program) (e : Env) (R : Room) (s : State) (m : MethodId) (args : Array Value) (below : List Frame) (meth : Method) (c : Code) (A : Nat → Prop) (Q : State → Prop) (a : Nat → Nat) (ls : Array Slot) (H : Heap) (locs : List Loc) (cells slots : Nat),
      am_Cx G X p s m args meth c mid A → lv_has ls (am_l mid) (am_lv G a lv) → am_Wd G a M A s H locs →
      W p l e R s m args below meth c H locs cells slots Q (F0 m pc' ls (am_sv G a st')) →
      W p l e R s m args below meth c H locs cells slots Q (F0 m pc ls (am_sv G a st))) : am_Stp l G X mid pc lv st M pc' lv st' M := by
  refine ⟨⟨Nat.le_refl _, Nat.le_refl _⟩, fun w1 w2 w3 => ⟨w1, w2, hw w1 w2 w3⟩, ?_⟩
  intro p e R s m args below meth c A Q a ls H locs cells slots C hl w1 w2 w3 hW _ _ k
  rw [Nat.sub_self, Nat.sub_self] at k
  exact hr p e R s m args below meth c A Q a ls H locs cells slots C hl hW (k a ls H locs (am_ag_rf _ _) hl hW)
/-- a cell is written -/
theorem am_Stp.put (h1 : M'.1 = M.1) (hw : am_wf M → am_wfs M.1.length st → am_wf M' ∧ am_wfs M.1.length st')
    (hr : ∀ (p : Program) (e : Env) (R : Room) (s : State) (m : MethodId) (args : Array Value) (below : List Frame) (meth : Method) (c : Code) (A : Nat → Prop) (Q : State → Prop) (a : Nat → Nat) (ls : Array Slot) (H : Heap) (locs : List Loc) (cells slots : Nat),
      am_Cx G X p s m args meth c mid A → lv_has ls (am_l mid) (am_lv G a lv) → am_wfs M.1.length st → am_Wd G a M A s H locs →
      (∀ (H' : Heap) (locs' : List Loc), am_Wd G a M' A s H' locs' → W p l e R s m args below meth c H' locs' cells slots Q (F0 m pc' ls (am_sv G a st'))) →
      W p l e R s m args below meth c H locs cells slots Q (F0 m pc ls (am_sv G a st))) : am_Stp l G X mid pc lv st M pc' lv st' M' := by
  have hz : am_sz M' = am_sz M := by unfold am_sz; rw [h1]
  refine ⟨⟨by rw [h1]; exact Nat.le_refl _, by rw [hz]; exact Nat.le_refl _⟩, fun w1 w2 w3 => ?_, ?_⟩
  · rw [h1]
    exact ⟨(hw w1 w3).1, w2, (hw w1 w3).2⟩
  intro p e R s m args below meth c A Q a ls H locs cells slots C hl w1 w2 w3 hW _ _ k
  rw [hz, h1, Nat.sub_self, Nat.sub_self] at k
  exact hr p e R s m args below meth c A Q a ls H locs cells slots C hl w3 hW (fun H' locs' hW' => k a ls H' locs' (am_ag_rf _ _) hl hW')
end

section
variable {l : Launch} {G : am_G} {X : Nat × (Nat → Int)} {mid pc n x : Nat} {lv : List (Nat × am_V)} {st : List am_V} {M : am_M} {q : Nat × List (Nat × am_V) × List am_V × am_M}

theorem am_k_iconst {v : Int} (hd : decode (am_b mid) pc = .ok (.iconst v, 1)) (h : am_s X pc lv st M (.iconst v) 1 x = some q) : am_Stp l G X mid pc lv st M q.1 q.2.1 q.2.2.1 q.2.2.2 := by
  cases h
  exact am_Stp.pure (fun _ w => am_wfs_cons (am_wfv_i _ _) w) (fun p e R s m args below meth c A Q a ls H locs cells slots C hl hW k => lv_iconst C.1 C.2.1 hd rfl k)
theorem am_k_bipush {v : Int} (hd : decode (am_b mid) pc = .ok (.bipush v, 2)) (hv : (Int8.ofInt v).toInt32 = Int32.ofInt v) (h : am_s X pc lv st M (.bipush v) 2 x = some q) : am_Stp l G X mid pc lv st M q.1 q.2.1 q.2.2.1 q.2.2.2 := by
  cases h
  exact am_Stp.pure (fun _ w => am_wfs_cons (am_wfv_i _ _) w) (fun p e R s m args below meth c A Q a ls H locs cells slots C hl hW k => lv_bipush C.1 C.2.1 hd hv k)
theorem am_k_sipush {v : Int} (hd : decode (am_b mid) pc = .ok (.sipush v, 3)) (hv : (Int16.ofInt v).toInt32 = Int32.ofInt v) (h : am_s X pc lv st M (.sipush v) 3 x = some q) : am_Stp l G X mid pc lv st M q.1 q.2.1 q.2.2.1 q.2.2.2 := by
  cases h
  exact am_Stp.pure (fun _ w => am_wfs_cons (am_wfv_i _ _) w) (fun p e R s m args below meth c A Q a ls H locs cells slots C hl hW k => lv_sipush C.1 C.2.1 hd hv k)
theorem am_k_lconst {v : Fin 2} (hd : decode (am_b mid) pc = .ok (.lconst v, 1)) (hv : Int64.ofNat (v : Nat) = Int64.ofInt ((v : Nat) : Int)) (h : am_s X pc lv st M (.lconst v) 1 x = some q) : am_Stp l G X mid pc lv st M q.1 q.2.1 q.2.2.1 q.2.2.2 := by
  cases h
  exact am_Stp.pure (fun _ w => am_wfs_cons (am_wfv_j _ _) w) (fun p e R s m args below meth c A Q a ls H locs cells slots C hl hW k => lv_lconst C.1 C.2.1 hd hv k)
theorem am_k_iload_n {v : Fin 4} (hd : decode (am_b mid) pc = .ok (.iload_n v, 1)) (h : am_s X pc lv st M (.iload_n v) 1 x = some q) : am_Stp l G X mid pc lv st M q.1 q.2.1 q.2.2.1 q.2.2.2 := by
  obtain ⟨z, hz, rfl⟩ := Option.map_eq_some_iff.mp (show (am_ldi lv v).map _ = some q from h)
  exact am_Stp.pure (fun _ w => am_wfs_cons (am_wfv_i _ _) w) (fun p e R s m args below meth c A Q a ls H locs cells slots C hl hW k => lv_iload_n C.1 C.2.1 hd rfl (am_at hl (am_ldi_look hz)) k)
theorem am_k_iload {v : Nat} (hd : decode (am_b mid) pc = .ok (.iload v, 2)) (h : am_s X pc lv st M (.iload v) 2 x = some q) : am_Stp l G X mid pc lv st M q.1 q.2.1 q.2.2.1 q.2.2.2 := by
  obtain ⟨z, hz, rfl⟩ := Option.map_eq_some_iff.mp (show (am_ldi lv v).map _ = some q from h)
  exact am_Stp.pure (fun _ w => am_wfs_cons (am_wfv_i _ _) w) (fun p e R s m args below meth c A Q a ls H locs cells slots C hl hW k => lv_iload C.1 C.2.1 hd (am_at hl (am_ldi_look hz)) k)
theorem am_k_lload_n {v : Fin 4} (hd : decode (am_b mid) pc = .ok (.lload_n v, 1)) (h : am_s X pc lv st M (.lload_n v) 1 x = some q) : am_Stp l G X mid pc lv st M q.1 q.2.1 q.2.2.1 q.2.2.2 := by
  obtain ⟨z, hz, rfl⟩ := Option.map_eq_some_iff.mp (show (am_ldj lv v).map _ = some q from h)
  exact am_Stp.pure (fun _ w => am_wfs_cons (am_wfv_j _ _) w) (fun p e R s m args below meth c A Q a ls H locs cells slots C hl hW k => lv_lload_n C.1 C.2.1 hd rfl (am_at hl (am_ldj_look hz)) k)
theorem am_k_lload {v : Nat} (hd : decode (am_b mid) pc = .ok (.lload v, 2)) (h : am_s X pc lv st M (.lload v) 2 x = some q) : am_Stp l G X mid pc lv st M q.1 q.2.1 q.2.2.1 q.2.2.2 := by
  obtain ⟨z, hz, rfl⟩ := Option.map_eq_some_iff.mp (show (am_ldj lv v).map _ = some q from h)
  exact am_Stp.pure (fun _ w => am_wfs_cons (am_wfv_j _ _) w) (fun p e R s m args below meth c A Q a ls H locs cells slots C hl hW k => lv_lload C.1 C.2.1 hd (am_at hl (am_ldj_look hz)) k)
theorem am_k_aload_n {v : Fin 4} (hd : decode (am_b mid) pc = .ok (.aload_n v, 1)) (h : am_s X pc lv st M (.aload_n v) 1 x = some q) : am_Stp l G X mid pc lv st M q.1 q.2.1 q.2.2.1 q.2.2.2 := by
  obtain ⟨z, hz, rfl⟩ := Option.map_eq_some_iff.mp (show (am_lda lv v).map _ = some q from h)
  refine am_Stp.pure (fun w2 w => am_wfs_cons (w2 _ (am_look (am_lda_look hz))) w) (fun p e R s m args below meth c A Q a ls H locs cells slots C hl hW k => ?_)
  have ha := am_at hl (am_lda_look hz)
  have k : W p l e R s m args below meth c H locs cells slots Q (F0 m (pc + 1) ls (am_tr G a (.inr (.inr z)) :: am_sv G a st)) := k
  rcases am_tr_ref G a z with e0 | ⟨x0, e0⟩
  · rw [e0] at ha k
    exact lv_aload_nN C.1 C.2.1 hd rfl ha k
  · rw [e0] at ha k
    exact lv_aload_n C.1 C.2.1 hd rfl ha k
theorem am_k_aload {v : Nat} (hd : decode (am_b mid) pc = .ok (.aload v, 2)) (h : am_s X pc lv st M (.aload v) 2 x = some q) : am_Stp l G X mid pc lv st M q.1 q.2.1 q.2.2.1 q.2.2.2 := by
  obtain ⟨z, hz, rfl⟩ := Option.map_eq_some_iff.mp (show (am_lda lv v).map _ = some q from h)
  refine am_Stp.pure (fun w2 w => am_wfs_cons (w2 _ (am_look (am_lda_look hz))) w) (fun p e R s m args below meth c A Q a ls H locs cells slots C hl hW k => ?_)
  have ha := am_at hl (am_lda_look hz)
  have k : W p l e R s m args below meth c H locs cells slots Q (F0 m (pc + 2) ls (am_tr G a (.inr (.inr z)) :: am_sv G a st)) := k
  rcases am_tr_ref G a z with e0 | ⟨x0, e0⟩
  · rw [e0] at ha k
    exact lv_aloadN C.1 C.2.1 hd ha k
  · rw [e0] at ha k
    exact lv_aload C.1 C.2.1 hd ha k
theorem am_k_istore_n {v : Fin 4} (hd : decode (am_b mid) pc = .ok (.istore_n v, 1)) (hn : (v : Nat) < am_l mid) (h : am_s X pc lv st M (.istore_n v) 1 x = some q) : am_Stp l G X mid pc lv st M q.1 q.2.1 q.2.2.1 q.2.2.2 := by
  simp only [am_s] at h
  split at h
  · rename_i z st'
    cases h
    exact am_Stp.loc (fun w2 w => ⟨am_wf_st1 w2 (am_wfs_hd w), am_wfs_tl w⟩) (fun p e R s m args below meth c A Q a ls H locs cells slots C hl hW k => lv_istore_n C.1 C.2.1 hd rfl hl hn (am_lv_st1 G a lv _ (.inl z)) k)
  · cases h
theorem am_k_istore {v : Nat} (hd : decode (am_b mid) pc = .ok (.istore v, 2)) (hn : v < am_l mid) (h : am_s X pc lv st M (.istore v) 2 x = some q) : am_Stp l G X mid pc lv st M q.1 q.2.1 q.2.2.1 q.2.2.2 := by
  simp only [am_s] at h
  split at h
  · rename_i z st'
    cases h
    exact am_Stp.loc (fun w2 w => ⟨am_wf_st1 w2 (am_wfs_hd w), am_wfs_tl w⟩) (fun p e R s m args below meth c A Q a ls H locs cells slots C hl hW k => lv_istore C.1 C.2.1 hd hl hn (am_lv_st1 G a lv _ (.inl z)) k)
  · cases h
theorem am_k_lstore_n {v : Fin 4} (hd : decode (am_b mid) pc = .ok (.lstore_n v, 1)) (hn : (v : Nat) + 1 < am_l mid) (h : am_s X pc lv st M (.lstore_n v) 1 x = some q) : am_Stp l G X mid pc lv st M q.1 q.2.1 q.2.2.1 q.2.2.2 := by
  simp only [am_s] at h
  split at h
  · rename_i z st'
    cases h
    exact am_Stp.loc (fun w2 w => ⟨am_wf_st2 w2 (am_wfs_hd w), am_wfs_tl w⟩) (fun p e R s m args below meth c A Q a ls H locs cells slots C hl hW k => lv_lstore_n C.1 C.2.1 hd rfl hl hn (am_lv_st2 G a lv _ (.inr (.inl z))) k)
  · cases h
theorem am_k_lstore {v : Nat} (hd : decode (am_b mid) pc = .ok (.lstore v, 2)) (hn : v + 1 < am_l mid) (h : am_s X pc lv st M (.lstore v) 2 x = some q) : am_Stp l G X mid pc lv st M q.1 q.2.1 q.2.2.1 q.2.2.2 := by
  simp only [am_s] at h
  split at h
  · rename_i z st'
    cases h
    exact am_Stp.loc (fun w2 w => ⟨am_wf_st2 w2 (am_wfs_hd w), am_wfs_tl w⟩) (fun p e R s m args below meth c A Q a ls H locs cells slots C hl hW k => lv_lstore C.1 C.2.1 hd hl hn (am_lv_st2 G a lv _ (.inr (.inl z))) k)
  · cases h
theorem am_k_astore_n {v : Fin 4} (hd : decode (am_b mid) pc = .ok (.astore_n v, 1)) (hn : (v : Nat) < am_l mid) (h : am_s X pc lv st M (.astore_n v) 1 x = some q) : am_Stp l G X mid pc lv st M q.1 q.2.1 q.2.2.1 q.2.2.2 := by
  simp only [am_s] at h
  split at h
  · rename_i z st'
    cases h
    exact am_Stp.loc (fun w2 w => ⟨am_wf_st1 w2 (am_wfs_hd w), am_wfs_tl w⟩) (fun p e R s m args below meth c A Q a ls H locs cells slots C hl hW k => lv_astore_n C.1 C.2.1 hd rfl hl hn (am_lv_st1 G a lv _ (.inr (.inr (.inl (some z))))) k)
  · cases h
theorem am_k_astore {v : Nat} (hd : decode (am_b mid) pc = .ok (.astore v, 2)) (hn : v < am_l mid) (h : am_s X pc lv st M (.astore v) 2 x = some q) : am_Stp l G X mid pc lv st M q.1 q.2.1 q.2.2.1 q.2.2.2 := by
  simp only [am_s] at h
  split at h
  · rename_i z st'
    cases h
    exact am_Stp.loc (fun w2 w => ⟨am_wf_st1 w2 (am_wfs_hd w), am_wfs_tl w⟩) (fun p e R s m args below meth c A Q a ls H locs cells slots C hl hW k => lv_astore C.1 C.2.1 hd hl hn (am_lv_st1 G a lv _ (.inr (.inr (.inl (some z))))) k)
  · cases h
theorem am_k_iinc {v : Nat} {z0 : Int} (hd : decode (am_b mid) pc = .ok (.iinc v z0, 3)) (h : am_s X pc lv st M (.iinc v z0) 3 x = some q) : am_Stp l G X mid pc lv st M q.1 q.2.1 q.2.2.1 q.2.2.2 := by
  obtain ⟨z, hz, rfl⟩ := Option.map_eq_some_iff.mp (show (am_ldi lv v).map _ = some q from h)
  refine am_Stp.loc (fun w2 w => ⟨am_wf_st1 w2 (am_wfv_i _ _), w⟩) (fun p e R s m args below meth c A Q a ls H locs cells slots C hl hW k => ?_)
  obtain ⟨j, hj⟩ := List.getElem?_of_mem (List.mem_map.mpr ⟨_, am_look (am_ldi_look hz), rfl⟩ : (v, am_tr G a (.inl z)) ∈ am_lv G a lv)
  exact lv_iinc (k := j) C.1 C.2.1 hd hl hj (Int32.ofInt_add z z0).symm (am_lt_of_at hl (am_ldi_look hz)) (am_lv_st1 G a lv _ (.inl (z + z0))) k
theorem am_k_ineg (hd : decode (am_b mid) pc = .ok (.ineg, 1)) (h : am_s X pc lv st M (.ineg) 1 x = some q) : am_Stp l G X mid pc lv st M q.1 q.2.1 q.2.2.1 q.2.2.2 := by
  simp only [am_s] at h
  split at h
  · rename_i z st'
    cases h
    exact am_Stp.pure (fun _ w => am_wfs_cons (am_wfv_i _ _) (am_wfs_tl w)) (fun p e R s m args below meth c A Q a ls H locs cells slots C hl hW k => lv_ineg C.1 C.2.1 hd (by rw [← Int32.ofInt_neg]; exact k))
  · cases h
theorem am_k_i2l (hd : decode (am_b mid) pc = .ok (.i2l, 1)) (h : am_s X pc lv st M (.i2l) 1 x = some q) : am_Stp l G X mid pc lv st M q.1 q.2.1 q.2.2.1 q.2.2.2 := by
  simp only [am_s] at h
  split at h
  · rename_i z st'
    cases h
    exact am_Stp.pure (fun _ w => am_wfs_cons (am_wfv_j _ _) (am_wfs_tl w)) (fun p e R s m args below meth c A Q a ls H locs cells slots C hl hW k => lv_i2l C.1 C.2.1 hd (Int64.ofInt_int32ToInt (Int32.ofInt z)).symm k)
  · cases h
theorem am_k_i2c (hd : decode (am_b mid) pc = .ok (.i2c, 1)) (h : am_s X pc lv st M (.i2c) 1 x = some q) : am_Stp l G X mid pc lv st M q.1 q.2.1 q.2.2.1 q.2.2.2 := by
  simp only [am_s] at h
  split at h
  · rename_i z st'
    cases h
    exact am_Stp.pure (fun _ w => am_wfs_cons (am_wfv_i _ _) (am_wfs_tl w)) (fun p e R s m args below meth c A Q a ls H locs cells slots C hl hW k => lv_i2c C.1 C.2.1 hd (Int32.ofInt_toInt _).symm k)
  · cases h
theorem am_k_lcmp (hd : decode (am_b mid) pc = .ok (.lcmp, 1)) (h : am_s X pc lv st M (.lcmp) 1 x = some q) : am_Stp l G X mid pc lv st M q.1 q.2.1 q.2.2.1 q.2.2.2 := by
  simp only [am_s] at h
  split at h
  · rename_i y z st'
    cases h
    exact am_Stp.pure (fun _ w => am_wfs_cons (am_wfv_i _ _) (am_wfs_tl (am_wfs_tl w))) (fun p e R s m args below meth c A Q a ls H locs cells slots C hl hW k => W.lcmp C.1 C.2.1 hd (by rw [← Int32.ofInt_toInt (lg_cmp (Int64.ofInt z) (Int64.ofInt y))]; exact k))
  · cases h
theorem am_k_dup (hd : decode (am_b mid) pc = .ok (.dup, 1)) (h : am_s X pc lv st M (.dup) 1 x = some q) : am_Stp l G X mid pc lv st M q.1 q.2.1 q.2.2.1 q.2.2.2 := by
  simp only [am_s] at h
  split at h
  · rename_i v st'
    split at h
    · rename_i hc
      cases h
      exact am_Stp.pure (fun _ w => am_wfs_cons (am_wfs_hd w) w) (fun p e R s m args below meth c A Q a ls H locs cells slots C hl hW k => lv_dup C.1 C.2.1 hd ((am_tr_cat G a v).trans hc) k)
    · cases h
  · cases h
theorem am_k_pop (hd : decode (am_b mid) pc = .ok (.pop, 1)) (h : am_s X pc lv st M (.pop) 1 x = some q) : am_Stp l G X mid pc lv st M q.1 q.2.1 q.2.2.1 q.2.2.2 := by
  simp only [am_s] at h
  split at h
  · rename_i v st'
    split at h
    · rename_i hc
      cases h
      exact am_Stp.pure (fun _ w => am_wfs_tl w) (fun p e R s m args below meth c A Q a ls H locs cells slots C hl hW k => lv_pop C.1 C.2.1 hd ((am_tr_cat G a v).trans hc) k)
    · cases h
  · cases h
theorem am_k_dup2 (hd : decode (am_b mid) pc = .ok (.dup2, 1)) (h : am_s X pc lv st M (.dup2) 1 x = some q) : am_Stp l G X mid pc lv st M q.1 q.2.1 q.2.2.1 q.2.2.2 := by
  simp only [am_s] at h
  split at h
  · rename_i v u st'
    split at h
    · rename_i hc
      cases h
      exact am_Stp.pure (fun _ w => am_wfs_cons (am_wfs_hd w) (am_wfs_cons (am_wfs_hd (am_wfs_tl w)) w)) (fun p e R s m args below meth c A Q a ls H locs cells slots C hl hW k => lv_dup2_11 C.1 C.2.1 hd ((am_tr_cat G a v).trans hc.1) ((am_tr_cat G a u).trans hc.2) k)
    · cases h
  · cases h
theorem am_k_iadd (hd : decode (am_b mid) pc = .ok (.iadd, 1)) (h : am_s X pc lv st M (.iadd) 1 x = some q) : am_Stp l G X mid pc lv st M q.1 q.2.1 q.2.2.1 q.2.2.2 := by
  simp only [am_s, am_op, am_opj] at h
  split at h
  · rename_i y z st'
    cases h
    exact am_Stp.pure (fun _ w => am_wfs_cons (am_wfv_i _ _) (am_wfs_tl (am_wfs_tl w))) (fun p e R s m args below meth c A Q a ls H locs cells slots C hl hW k => lv_iadd C.1 C.2.1 hd (by rw [← Int32.ofInt_add]; exact k))
  · cases h
theorem am_k_isub (hd : decode (am_b mid) pc = .ok (.isub, 1)) (h : am_s X pc lv st M (.isub) 1 x = some q) : am_Stp l G X mid pc lv st M q.1 q.2.1 q.2.2.1 q.2.2.2 := by
  simp only [am_s, am_op, am_opj] at h
  split at h
  · rename_i y z st'
    cases h
    exact am_Stp.pure (fun _ w => am_wfs_cons (am_wfv_i _ _) (am_wfs_tl (am_wfs_tl w))) (fun p e R s m args below meth c A Q a ls H locs cells slots C hl hW k => lv_isub C.1 C.2.1 hd (by rw [← Int32.ofInt_sub]; exact k))
  · cases h
theorem am_k_imul (hd : decode (am_b mid) pc = .ok (.imul, 1)) (h : am_s X pc lv st M (.imul) 1 x = some q) : am_Stp l G X mid pc lv st M q.1 q.2.1 q.2.2.1 q.2.2.2 := by
  simp only [am_s, am_op, am_opj] at h
  split at h
  · rename_i y z st'
    cases h
    exact am_Stp.pure (fun _ w => am_wfs_cons (am_wfv_i _ _) (am_wfs_tl (am_wfs_tl w))) (fun p e R s m args below meth c A Q a ls H locs cells slots C hl hW k => lv_imul C.1 C.2.1 hd (by rw [← Int32.ofInt_mul]; exact k))
  · cases h
theorem am_k_iand (hd : decode (am_b mid) pc = .ok (.iand, 1)) (h : am_s X pc lv st M (.iand) 1 x = some q) : am_Stp l G X mid pc lv st M q.1 q.2.1 q.2.2.1 q.2.2.2 := by
  simp only [am_s, am_op, am_opj] at h
  split at h
  · rename_i y z st'
    cases h
    exact am_Stp.pure (fun _ w => am_wfs_cons (am_wfv_i _ _) (am_wfs_tl (am_wfs_tl w))) (fun p e R s m args below meth c A Q a ls H locs cells slots C hl hW k => lv_iand C.1 C.2.1 hd (by rw [← Int32.ofInt_toInt (_ &&& _)]; exact k))
  · cases h
theorem am_k_ior (hd : decode (am_b mid) pc = .ok (.ior, 1)) (h : am_s X pc lv st M (.ior) 1 x = some q) : am_Stp l G X mid pc lv st M q.1 q.2.1 q.2.2.1 q.2.2.2 := by
  simp only [am_s, am_op, am_opj] at h
  split at h
  · rename_i y z st'
    cases h
    exact am_Stp.pure (fun _ w => am_wfs_cons (am_wfv_i _ _) (am_wfs_tl (am_wfs_tl w))) (fun p e R s m args below meth c A Q a ls H locs cells slots C hl hW k => lv_ior C.1 C.2.1 hd (by rw [← Int32.ofInt_toInt (_ ||| _)]; exact k))
  · cases h
theorem am_k_ixor (hd : decode (am_b mid) pc = .ok (.ixor, 1)) (h : am_s X pc lv st M (.ixor) 1 x = some q) : am_Stp l G X mid pc lv st M q.1 q.2.1 q.2.2.1 q.2.2.2 := by
  simp only [am_s, am_op, am_opj] at h
  split at h
  · rename_i y z st'
    cases h
    exact am_Stp.pure (fun _ w => am_wfs_cons (am_wfv_i _ _) (am_wfs_tl (am_wfs_tl w))) (fun p e R s m args below meth c A Q a ls H locs cells slots C hl hW k => lv_ixor C.1 C.2.1 hd (by rw [← Int32.ofInt_toInt (_ ^^^ _)]; exact k))
  · cases h
theorem am_k_ishl (hd : decode (am_b mid) pc = .ok (.ishl, 1)) (h : am_s X pc lv st M (.ishl) 1 x = some q) : am_Stp l G X mid pc lv st M q.1 q.2.1 q.2.2.1 q.2.2.2 := by
  simp only [am_s, am_op, am_opj] at h
  split at h
  · rename_i y z st'
    cases h
    exact am_Stp.pure (fun _ w => am_wfs_cons (am_wfv_i _ _) (am_wfs_tl (am_wfs_tl w))) (fun p e R s m args below meth c A Q a ls H locs cells slots C hl hW k => lv_ishl C.1 C.2.1 hd (by rw [← Int32.ofInt_toInt (_ <<< _)]; exact k))
  · cases h
theorem am_k_ishr (hd : decode (am_b mid) pc = .ok (.ishr, 1)) (h : am_s X pc lv st M (.ishr) 1 x = some q) : am_Stp l G X mid pc lv st M q.1 q.2.1 q.2.2.1 q.2.2.2 := by
  simp only [am_s, am_op, am_opj] at h
  split at h
  · rename_i y z st'
    cases h
    exact am_Stp.pure (fun _ w => am_wfs_cons (am_wfv_i _ _) (am_wfs_tl (am_wfs_tl w))) (fun p e R s m args below meth c A Q a ls H locs cells slots C hl hW k => lv_ishr C.1 C.2.1 hd (by rw [← Int32.ofInt_toInt (_ >>> _)]; exact k))
  · cases h
theorem am_k_iushr (hd : decode (am_b mid) pc = .ok (.iushr, 1)) (h : am_s X pc lv st M (.iushr) 1 x = some q) : am_Stp l G X mid pc lv st M q.1 q.2.1 q.2.2.1 q.2.2.2 := by
  simp only [am_s, am_op, am_opj] at h
  split at h
  · rename_i y z st'
    cases h
    exact am_Stp.pure (fun _ w => am_wfs_cons (am_wfv_i _ _) (am_wfs_tl (am_wfs_tl w))) (fun p e R s m args below meth c A Q a ls H locs cells slots C hl hW k => lv_iushr C.1 C.2.1 hd (Int32.ofInt_toInt _).symm k)
  · cases h
theorem am_k_idiv (hd : decode (am_b mid) pc = .ok (.idiv, 1)) (h : am_s X pc lv st M (.idiv) 1 x = some q) : am_Stp l G X mid pc lv st M q.1 q.2.1 q.2.2.1 q.2.2.2 := by
  simp only [am_s, am_op, am_opj] at h
  split at h
  · rename_i y z st'
    split at h
    · cases h
    · rename_i hne
      cases h
      exact am_Stp.pure (fun _ w => am_wfs_cons (am_wfv_i _ _) (am_wfs_tl (am_wfs_tl w))) (fun p e R s m args below meth c A Q a ls H locs cells slots C hl hW k => lv_idiv C.1 C.2.1 hd hne (by rw [← Int32.ofInt_toInt (_ / _)]; exact k))
  · cases h
theorem am_k_irem (hd : decode (am_b mid) pc = .ok (.irem, 1)) (h : am_s X pc lv st M (.irem) 1 x = some q) : am_Stp l G X mid pc lv st M q.1 q.2.1 q.2.2.1 q.2.2.2 := by
  simp only [am_s, am_op, am_opj] at h
  split at h
  · rename_i y z st'
    split at h
    · cases h
    · rename_i hne
      cases h
      exact am_Stp.pure (fun _ w => am_wfs_cons (am_wfv_i _ _) (am_wfs_tl (am_wfs_tl w))) (fun p e R s m args below meth c A Q a ls H locs cells slots C hl hW k => lv_irem C.1 C.2.1 hd hne (by rw [← Int32.ofInt_toInt (_ - _)]; exact k))
  · cases h
theorem am_k_ladd (hd : decode (am_b mid) pc = .ok (.ladd, 1)) (h : am_s X pc lv st M (.ladd) 1 x = some q) : am_Stp l G X mid pc lv st M q.1 q.2.1 q.2.2.1 q.2.2.2 := by
  simp only [am_s, am_op, am_opj] at h
  split at h
  · rename_i y z st'
    cases h
    exact am_Stp.pure (fun _ w => am_wfs_cons (am_wfv_j _ _) (am_wfs_tl (am_wfs_tl w))) (fun p e R s m args below meth c A Q a ls H locs cells slots C hl hW k => lv_ladd C.1 C.2.1 hd (by rw [← Int64.ofInt_add]; exact k))
  · cases h
theorem am_k_lmul (hd : decode (am_b mid) pc = .ok (.lmul, 1)) (h : am_s X pc lv st M (.lmul) 1 x = some q) : am_Stp l G X mid pc lv st M q.1 q.2.1 q.2.2.1 q.2.2.2 := by
  simp only [am_s, am_op, am_opj] at h
  split at h
  · rename_i y z st'
    cases h
    exact am_Stp.pure (fun _ w => am_wfs_cons (am_wfv_j _ _) (am_wfs_tl (am_wfs_tl w))) (fun p e R s m args below meth c A Q a ls H locs cells slots C hl hW k => lv_lmul C.1 C.2.1 hd (by rw [← Int64.ofInt_mul]; exact k))
  · cases h
theorem am_k_ldiv (hd : decode (am_b mid) pc = .ok (.ldiv, 1)) (h : am_s X pc lv st M (.ldiv) 1 x = some q) : am_Stp l G X mid pc lv st M q.1 q.2.1 q.2.2.1 q.2.2.2 := by
  simp only [am_s, am_op, am_opj] at h
  split at h
  · rename_i y z st'
    split at h
    · cases h
    · rename_i hne
      cases h
      exact am_Stp.pure (fun _ w => am_wfs_cons (am_wfv_j _ _) (am_wfs_tl (am_wfs_tl w))) (fun p e R s m args below meth c A Q a ls H locs cells slots C hl hW k => lv_ldiv C.1 C.2.1 hd hne (by rw [← Int64.ofInt_toInt (_ / _)]; exact k))
  · cases h
theorem am_k_lrem (hd : decode (am_b mid) pc = .ok (.lrem, 1)) (h : am_s X pc lv st M (.lrem) 1 x = some q) : am_Stp l G X mid pc lv st M q.1 q.2.1 q.2.2.1 q.2.2.2 := by
  simp only [am_s, am_op, am_opj] at h
  split at h
  · rename_i y z st'
    split at h
    · cases h
    · rename_i hne
      cases h
      exact am_Stp.pure (fun _ w => am_wfs_cons (am_wfv_j _ _) (am_wfs_tl (am_wfs_tl w))) (fun p e R s m args below meth c A Q a ls H locs cells slots C hl hW k => lv_lrem C.1 C.2.1 hd hne (by rw [← Int64.ofInt_toInt (_ - _)]; exact k))
  · cases h
theorem am_k_goto {off : Int} (hd : decode (am_b mid) pc = .ok (.goto off, 3)) (ht : (pc : Int) + off = (x : Int)) (h : am_s X pc lv st M (.goto off) 3 x = some q) : am_Stp l G X mid pc lv st M q.1 q.2.1 q.2.2.1 q.2.2.2 := by
  cases h
  exact am_Stp.pure (fun _ w => w) (fun p e R s m args below meth c A Q a ls H locs cells slots C hl hW k => lv_goto C.1 C.2.1 hd ht k)
theorem am_w_eq {z y : Int} : am_w z = am_w y ↔ Int32.ofInt z = Int32.ofInt y := Int32.toInt_inj
theorem am_w_lt {z y : Int} : am_w z < am_w y ↔ Int32.ofInt z < Int32.ofInt y := Int32.lt_iff_toInt_lt.symm
theorem am_w_le {z y : Int} : am_w z ≤ am_w y ↔ Int32.ofInt z ≤ Int32.ofInt y := Int32.le_iff_toInt_le.symm
theorem am_w0 : am_w 0 = 0 := by decide +kernel
theorem am_o0 : Int32.ofInt 0 = 0 := by decide +kernel
theorem am_k_icmp_eq {off : Int} (hd : decode (am_b mid) pc = .ok (.if_icmp .eq off, 3)) (ht : (pc : Int) + off = (x : Int)) (h : am_s X pc lv st M (.if_icmp .eq off) 3 x = some q) : am_Stp l G X mid pc lv st M q.1 q.2.1 q.2.2.1 q.2.2.2 := by
  simp only [am_s] at h
  split at h
  · rename_i y z st'
    split at h
    · rename_i hc
      cases h
      simp only [am_cd, decide_eq_true_eq] at hc
      refine am_Stp.pure (fun _ w => am_wfs_tl (am_wfs_tl w)) (fun p e R s m args below meth c A Q a ls H locs cells slots C hl hW k => lv_icmp_eq C.1 C.2.1 hd ht (fun _ => k) (fun hp => absurd ?_ hp))
      exact am_w_eq.mp hc
    · rename_i hc
      cases h
      simp only [am_cd, decide_eq_true_eq] at hc
      refine am_Stp.pure (fun _ w => am_wfs_tl (am_wfs_tl w)) (fun p e R s m args below meth c A Q a ls H locs cells slots C hl hW k => lv_icmp_eq C.1 C.2.1 hd ht (fun hp => absurd ?_ hc) (fun _ => k))
      exact am_w_eq.mpr hp
  · cases h
theorem am_k_if_eq {off : Int} (hd : decode (am_b mid) pc = .ok (.ifCond .eq off, 3)) (ht : (pc : Int) + off = (x : Int)) (h : am_s X pc lv st M (.ifCond .eq off) 3 x = some q) : am_Stp l G X mid pc lv st M q.1 q.2.1 q.2.2.1 q.2.2.2 := by
  simp only [am_s] at h
  split at h
  · rename_i z st'
    split at h
    · rename_i hc
      cases h
      simp only [am_cd, decide_eq_true_eq] at hc
      refine am_Stp.pure (fun _ w => am_wfs_tl w) (fun p e R s m args below meth c A Q a ls H locs cells slots C hl hW k => lv_if_eq C.1 C.2.1 hd ht (fun _ => k) (fun hp => absurd ?_ hp))
      rw [← am_w0, am_w_eq, am_o0] at hc; exact hc
    · rename_i hc
      cases h
      simp only [am_cd, decide_eq_true_eq] at hc
      refine am_Stp.pure (fun _ w => am_wfs_tl w) (fun p e R s m args below meth c A Q a ls H locs cells slots C hl hW k => lv_if_eq C.1 C.2.1 hd ht (fun hp => absurd ?_ hc) (fun _ => k))
      rw [← am_w0, am_w_eq, am_o0]; exact hp
  · cases h
theorem am_k_icmp_ne {off : Int} (hd : decode (am_b mid) pc = .ok (.if_icmp .ne off, 3)) (ht : (pc : Int) + off = (x : Int)) (h : am_s X pc lv st M (.if_icmp .ne off) 3 x = some q) : am_Stp l G X mid pc lv st M q.1 q.2.1 q.2.2.1 q.2.2.2 := by
  simp only [am_s] at h
  split at h
  · rename_i y z st'
    split at h
    · rename_i hc
      cases h
      simp only [am_cd, decide_eq_true_eq] at hc
      refine am_Stp.pure (fun _ w => am_wfs_tl (am_wfs_tl w)) (fun p e R s m args below meth c A Q a ls H locs cells slots C hl hW k => lv_icmp_ne C.1 C.2.1 hd ht (fun _ => k) (fun hp => absurd hp ?_))
      exact fun e0 => hc (am_w_eq.mpr e0)
    · rename_i hc
      cases h
      simp only [am_cd, decide_eq_true_eq] at hc
      refine am_Stp.pure (fun _ w => am_wfs_tl (am_wfs_tl w)) (fun p e R s m args below meth c A Q a ls H locs cells slots C hl hW k => lv_icmp_ne C.1 C.2.1 hd ht (fun hp => absurd ?_ hc) (fun _ => k))
      exact fun e0 => hp (am_w_eq.mp e0)
  · cases h
theorem am_k_if_ne {off : Int} (hd : decode (am_b mid) pc = .ok (.ifCond .ne off, 3)) (ht : (pc : Int) + off = (x : Int)) (h : am_s X pc lv st M (.ifCond .ne off) 3 x = some q) : am_Stp l G X mid pc lv st M q.1 q.2.1 q.2.2.1 q.2.2.2 := by
  simp only [am_s] at h
  split at h
  · rename_i z st'
    split at h
    · rename_i hc
      cases h
      simp only [am_cd, decide_eq_true_eq] at hc
      refine am_Stp.pure (fun _ w => am_wfs_tl w) (fun p e R s m args below meth c A Q a ls H locs cells slots C hl hW k => lv_if_ne C.1 C.2.1 hd ht (fun _ => k) (fun hp => absurd hp ?_))
      rw [← am_w0, am_w_eq, am_o0] at hc; exact hc
    · rename_i hc
      cases h
      simp only [am_cd, decide_eq_true_eq] at hc
      refine am_Stp.pure (fun _ w => am_wfs_tl w) (fun p e R s m args below meth c A Q a ls H locs cells slots C hl hW k => lv_if_ne C.1 C.2.1 hd ht (fun hp => absurd ?_ hc) (fun _ => k))
      rw [← am_w0, am_w_eq, am_o0]; exact hp
  · cases h
theorem am_k_icmp_lt {off : Int} (hd : decode (am_b mid) pc = .ok (.if_icmp .lt off, 3)) (ht : (pc : Int) + off = (x : Int)) (h : am_s X pc lv st M (.if_icmp .lt off) 3 x = some q) : am_Stp l G X mid pc lv st M q.1 q.2.1 q.2.2.1 q.2.2.2 := by
  simp only [am_s] at h
  split at h
  · rename_i y z st'
    split at h
    · rename_i hc
      cases h
      simp only [am_cd, decide_eq_true_eq] at hc
      refine am_Stp.pure (fun _ w => am_wfs_tl (am_wfs_tl w)) (fun p e R s m args below meth c A Q a ls H locs cells slots C hl hW k => lv_icmp_lt C.1 C.2.1 hd ht (fun _ => k) (fun hp => absurd ?_ hp))
      exact am_w_lt.mp hc
    · rename_i hc
      cases h
      simp only [am_cd, decide_eq_true_eq] at hc
      refine am_Stp.pure (fun _ w => am_wfs_tl (am_wfs_tl w)) (fun p e R s m args below meth c A Q a ls H locs cells slots C hl hW k => lv_icmp_lt C.1 C.2.1 hd ht (fun hp => absurd ?_ hc) (fun _ => k))
      exact am_w_lt.mpr hp
  · cases h
theorem am_k_if_lt {off : Int} (hd : decode (am_b mid) pc = .ok (.ifCond .lt off, 3)) (ht : (pc : Int) + off = (x : Int)) (h : am_s X pc lv st M (.ifCond .lt off) 3 x = some q) : am_Stp l G X mid pc lv st M q.1 q.2.1 q.2.2.1 q.2.2.2 := by
  simp only [am_s] at h
  split at h
  · rename_i z st'
    split at h
    · rename_i hc
      cases h
      simp only [am_cd, decide_eq_true_eq] at hc
      refine am_Stp.pure (fun _ w => am_wfs_tl w) (fun p e R s m args below meth c A Q a ls H locs cells slots C hl hW k => lv_if_lt C.1 C.2.1 hd ht (fun _ => k) (fun hp => absurd ?_ hp))
      rw [← am_w0, am_w_lt, am_o0] at hc; exact hc
    · rename_i hc
      cases h
      simp only [am_cd, decide_eq_true_eq] at hc
      refine am_Stp.pure (fun _ w => am_wfs_tl w) (fun p e R s m args below meth c A Q a ls H locs cells slots C hl hW k => lv_if_lt C.1 C.2.1 hd ht (fun hp => absurd ?_ hc) (fun _ => k))
      rw [← am_w0, am_w_lt, am_o0]; exact hp
  · cases h
theorem am_k_icmp_ge {off : Int} (hd : decode (am_b mid) pc = .ok (.if_icmp .ge off, 3)) (ht : (pc : Int) + off = (x : Int)) (h : am_s X pc lv st M (.if_icmp .ge off) 3 x = some q) : am_Stp l G X mid pc lv st M q.1 q.2.1 q.2.2.1 q.2.2.2 := by
  simp only [am_s] at h
  split at h
  · rename_i y z st'
    split at h
    · rename_i hc
      cases h
      simp only [am_cd, decide_eq_true_eq] at hc
      refine am_Stp.pure (fun _ w => am_wfs_tl (am_wfs_tl w)) (fun p e R s m args below meth c A Q a ls H locs cells slots C hl hW k => lv_icmp_ge C.1 C.2.1 hd ht (fun _ => k) (fun hp => absurd ?_ hp))
      exact am_w_le.mp hc
    · rename_i hc
      cases h
      simp only [am_cd, decide_eq_true_eq] at hc
      refine am_Stp.pure (fun _ w => am_wfs_tl (am_wfs_tl w)) (fun p e R s m args below meth c A Q a ls H locs cells slots C hl hW k => lv_icmp_ge C.1 C.2.1 hd ht (fun hp => absurd ?_ hc) (fun _ => k))
      exact am_w_le.mpr hp
  · cases h
theorem am_k_if_ge {off : Int} (hd : decode (am_b mid) pc = .ok (.ifCond .ge off, 3)) (ht : (pc : Int) + off = (x : Int)) (h : am_s X pc lv st M (.ifCond .ge off) 3 x = some q) : am_Stp l G X mid pc lv st M q.1 q.2.1 q.2.2.1 q.2.2.2 := by
  simp only [am_s] at h
  split at h
  · rename_i z st'
    split at h
    · rename_i hc
      cases h
      simp only [am_cd, decide_eq_true_eq] at hc
      refine am_Stp.pure (fun _ w => am_wfs_tl w) (fun p e R s m args below meth c A Q a ls H locs cells slots C hl hW k => lv_if_ge C.1 C.2.1 hd ht (fun _ => k) (fun hp => absurd ?_ hp))
      rw [← am_w0, am_w_le, am_o0] at hc; exact hc
    · rename_i hc
      cases h
      simp only [am_cd, decide_eq_true_eq] at hc
      refine am_Stp.pure (fun _ w => am_wfs_tl w) (fun p e R s m args below meth c A Q a ls H locs cells slots C hl hW k => lv_if_ge C.1 C.2.1 hd ht (fun hp => absurd ?_ hc) (fun _ => k))
      rw [← am_w0, am_w_le, am_o0]; exact hp
  · cases h
theorem am_k_icmp_gt {off : Int} (hd : decode (am_b mid) pc = .ok (.if_icmp .gt off, 3)) (ht : (pc : Int) + off = (x : Int)) (h : am_s X pc lv st M (.if_icmp .gt off) 3 x = some q) : am_Stp l G X mid pc lv st M q.1 q.2.1 q.2.2.1 q.2.2.2 := by
  simp only [am_s] at h
  split at h
  · rename_i y z st'
    split at h
    · rename_i hc
      cases h
      simp only [am_cd, decide_eq_true_eq] at hc
      refine am_Stp.pure (fun _ w => am_wfs_tl (am_wfs_tl w)) (fun p e R s m args below meth c A Q a ls H locs cells slots C hl hW k => lv_icmp_gt C.1 C.2.1 hd ht (fun _ => k) (fun hp => absurd ?_ hp))
      exact am_w_lt.mp hc
    · rename_i hc
      cases h
      simp only [am_cd, decide_eq_true_eq] at hc
      refine am_Stp.pure (fun _ w => am_wfs_tl (am_wfs_tl w)) (fun p e R s m args below meth c A Q a ls H locs cells slots C hl hW k => lv_icmp_gt C.1 C.2.1 hd ht (fun hp => absurd ?_ hc) (fun _ => k))
      exact am_w_lt.mpr hp
  · cases h
theorem am_k_if_gt {off : Int} (hd : decode (am_b mid) pc = .ok (.ifCond .gt off, 3)) (ht : (pc : Int) + off = (x : Int)) (h : am_s X pc lv st M (.ifCond .gt off) 3 x = some q) : am_Stp l G X mid pc lv st M q.1 q.2.1 q.2.2.1 q.2.2.2 := by
  simp only [am_s] at h
  split at h
  · rename_i z st'
    split at h
    · rename_i hc
      cases h
      simp only [am_cd, decide_eq_true_eq] at hc
      refine am_Stp.pure (fun _ w => am_wfs_tl w) (fun p e R s m args below meth c A Q a ls H locs cells slots C hl hW k => lv_if_gt C.1 C.2.1 hd ht (fun _ => k) (fun hp => absurd ?_ hp))
      rw [← am_w0, am_w_lt, am_o0] at hc; exact hc
    · rename_i hc
      cases h
      simp only [am_cd, decide_eq_true_eq] at hc
      refine am_Stp.pure (fun _ w => am_wfs_tl w) (fun p e R s m args below meth c A Q a ls H locs cells slots C hl hW k => lv_if_gt C.1 C.2.1 hd ht (fun hp => absurd ?_ hc) (fun _ => k))
      rw [← am_w0, am_w_lt, am_o0]; exact hp
  · cases h
theorem am_k_icmp_le {off : Int} (hd : decode (am_b mid) pc = .ok (.if_icmp .le off, 3)) (ht : (pc : Int) + off = (x : Int)) (h : am_s X pc lv st M (.if_icmp .le off) 3 x = some q) : am_Stp l G X mid pc lv st M q.1 q.2.1 q.2.2.1 q.2.2.2 := by
  simp only [am_s] at h
  split at h
  · rename_i y z st'
    split at h
    · rename_i hc
      cases h
      simp only [am_cd, decide_eq_true_eq] at hc
      refine am_Stp.pure (fun _ w => am_wfs_tl (am_wfs_tl w)) (fun p e R s m args below meth c A Q a ls H locs cells slots C hl hW k => lv_icmp_le C.1 C.2.1 hd ht (fun _ => k) (fun hp => absurd ?_ hp))
      exact am_w_le.mp hc
    · rename_i hc
      cases h
      simp only [am_cd, decide_eq_true_eq] at hc
      refine am_Stp.pure (fun _ w => am_wfs_tl (am_wfs_tl w)) (fun p e R s m args below meth c A Q a ls H locs cells slots C hl hW k => lv_icmp_le C.1 C.2.1 hd ht (fun hp => absurd ?_ hc) (fun _ => k))
      exact am_w_le.mpr hp
  · cases h
theorem am_k_if_le {off : Int} (hd : decode (am_b mid) pc = .ok (.ifCond .le off, 3)) (ht : (pc : Int) + off = (x : Int)) (h : am_s X pc lv st M (.ifCond .le off) 3 x = some q) : am_Stp l G X mid pc lv st M q.1 q.2.1 q.2.2.1 q.2.2.2 := by
  simp only [am_s] at h
  split at h
  · rename_i z st'
    split at h
    · rename_i hc
      cases h
      simp only [am_cd, decide_eq_true_eq] at hc
      refine am_Stp.pure (fun _ w => am_wfs_tl w) (fun p e R s m args below meth c A Q a ls H locs cells slots C hl hW k => lv_if_le C.1 C.2.1 hd ht (fun _ => k) (fun hp => absurd ?_ hp))
      rw [← am_w0, am_w_le, am_o0] at hc; exact hc
    · rename_i hc
      cases h
      simp only [am_cd, decide_eq_true_eq] at hc
      refine am_Stp.pure (fun _ w => am_wfs_tl w) (fun p e R s m args below meth c A Q a ls H locs cells slots C hl hW k => lv_if_le C.1 C.2.1 hd ht (fun hp => absurd ?_ hc) (fun _ => k))
      rw [← am_w0, am_w_le, am_o0]; exact hp
  · cases h
end
