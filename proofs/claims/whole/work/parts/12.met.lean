/-! a run of the small machine from a frame's place on is a run of the machine; a whole method's is its contract -/
def am_ri (v : Option am_V) : Instr := match v with
  | none => .return_
  | some (.inl _) => .ireturn
  | some (.inr (.inl _)) => .lreturn
  | some (.inr (.inr _)) => .areturn
def am_FS (l : Launch) (G : am_G) (X : Nat × (Nat → Int)) (d mid pc : Nat) (lv : List (Nat × am_V)) (st : List am_V) (M : am_M) (r : am_R) : Prop :=
  ∀ (p : Program) (e : Env) (R : Room) (s : State) (m : MethodId) (args : Array Value) (below : List Frame) (meth : Method) (c : Code) (A : Nat → Prop) (Q : State → Prop) (a : Nat → Nat) (ls : Array Slot) (H : Heap) (locs : List Loc) (cells slots n0 z0 : Nat),
    am_Cx G X p s m args meth c mid A → d ≤ R.frames → 40 * d ≤ R.locals → lv_has ls (am_l mid) (am_lv G a lv) → am_wf M → am_wfl M.1.length lv → am_wfs M.1.length st → am_Wd G a M A s H locs →
    cells + n0 = M.1.length → slots + z0 = am_sz M → r.2.1.length ≤ R.cells + n0 → am_sz r.2 ≤ R.slots + z0 →
    (∀ (a' : Nat → Nat) (H' : Heap) (locs' : List Loc) (cells' slots' pc' : Nat) (ls' : Array Slot), am_ag M.1.length a a' → am_wf r.2 → am_wfs r.2.1.length r.1.toList → am_Wd G a' r.2 A s H' locs' → cells' + n0 = r.2.1.length → slots' + z0 = am_sz r.2 →
      decode (am_b mid) pc' = .ok (am_ri r.1, 1) → am_rok mid r.1 = true → W p l e R s m args below meth c H' locs' cells' slots' Q (F0 m pc' ls' (am_sv G a' r.1.toList))) →
    W p l e R s m args below meth c H locs cells slots Q (F0 m pc ls (am_sv G a st))
def am_FG (l : Launch) (G : am_G) (X : Nat × (Nat → Int)) (d mid pc : Nat) (lv : List (Nat × am_V)) (st : List am_V) (M : am_M) (r : am_R) : Prop :=
  (M.1.length ≤ r.2.1.length ∧ am_sz M ≤ am_sz r.2) ∧ am_FS l G X d mid pc lv st M r
def am_Good (l : Launch) (G : am_G) (X : Nat × (Nat → Int)) (K : am_K) : Prop := ∀ d mid pc lv st M r, K d mid pc lv st M = some r → am_FG l G X d mid pc lv st M r
theorem am_ag_tr {n m : Nat} {a b c : Nat → Nat} (h1 : am_ag n a b) (h2 : am_ag m b c) (hm : n ≤ m) : am_ag n a c := fun i hi => (h2 i (by omega)).trans (h1 i hi)
section
variable {l : Launch} {G : am_G} {X : Nat × (Nat → Int)} {d mid pc pc' : Nat} {lv lv' : List (Nat × am_V)} {st st' : List am_V} {M M' : am_M} {r : am_R}
theorem am_FG.step (hS : am_Stp l G X mid pc lv st M pc' lv' st' M') (hG : am_FG l G X d mid pc' lv' st' M' r) : am_FG l G X d mid pc lv st M r := by
  obtain ⟨⟨s1, s2⟩, sw, sr⟩ := hS
  obtain ⟨⟨g1, g2⟩, gr⟩ := hG
  refine ⟨⟨by omega, by omega⟩, ?_⟩
  intro p e R s m args below meth c A Q a ls H locs cells slots n0 z0 C hd hdl hl w1 w2 w3 hW hc hs hrc hrs kk
  obtain ⟨v1, v2, v3⟩ := sw w1 w2 w3
  refine sr p e R s m args below meth c A Q a ls H locs cells slots C hl w1 w2 w3 hW (by omega) (by omega) (fun a' ls' H' locs' hag hl' hW' => ?_)
  exact gr p e R s m args below meth c A Q a' ls' H' locs' _ _ n0 z0 C hd hdl hl' v1 v2 v3 hW' (by omega) (by omega) hrc hrs (fun a2 H2 locs2 cells2 slots2 pc2 ls2 hag2 u1 u2 u3 u4 u5 u6 u7 => kk a2 H2 locs2 cells2 slots2 pc2 ls2 (am_ag_tr hag hag2 s1) u1 u2 u3 u4 u5 u6 u7)
/-- a return -/
theorem am_FG.ret {v : Option am_V} (hd : decode (am_b mid) pc = .ok (am_ri v, 1)) (hok : am_rok mid v = true) (hst : st = v.toList) : am_FG l G X d mid pc lv st M (v, M) := by
  refine ⟨⟨Nat.le_refl _, Nat.le_refl _⟩, ?_⟩
  intro p e R s m args below meth c A Q a ls H locs cells slots n0 z0 C _ _ hl w1 w2 w3 hW hc hs hrc hrs kk
  subst hst
  exact kk a H locs cells slots pc ls (am_ag_rf _ _) w1 w3 hW hc hs hd hok
end
/-- what is known at a method's entry -/
def am_Pc (G : am_G) (X : Nat × (Nat → Int)) (a : Nat → Nat) (M : am_M) (sz : Nat) : State → Prop := fun U => U.heap.size = sz ∧ va_P G.1 vwCl (am_ws G a M) U.heap ∧ va_D (fun _ => True) (am_ws G a M) ∧ va_K G.1 vwCl (am_tys G) U ∧ am_Ex G X (va_A (am_ws G a M) sz) U
/-- and behind it -/
def am_Qc (G : am_G) (a : Nat → Nat) (M : am_M) (sz : Nat) (r : am_R) : Array Value → State → Outcome → State → Prop := fun _ st oc t =>
  (∃ a' : Nat → Nat, am_ag M.1.length a a' ∧ am_wf r.2 ∧ am_wfs r.2.1.length r.1.toList ∧ oc = .returned (r.1.map (am_tr G a')) ∧ va_P G.1 vwCl (am_ws G a' r.2) t.heap ∧ va_D (va_A (am_ws G a M) sz) (am_ws G a' r.2)) ∧ va_F (va_A (am_ws G a M) sz) st t
def am_rm (d : Nat) (M : am_M) (r : am_R) : Room := { frames := d, cells := r.2.1.length - M.1.length, slots := am_sz r.2 - am_sz M, locals := 40 * d }
def am_wc (mid : Nat) : List Cond := Cond.code (am_y mid) (am_b mid) (am_l mid) (am_r mid) :: am_tb
theorem am_cats_len (G : am_G) (a : Nat → Nat) (as : List am_V) : (lg_sl (am_sv G a as)).length = am_cats as := by
  induction as with
  | nil => rfl
  | cons v vs ih =>
    show (lg_sl (am_tr G a v :: am_sv G a vs)).length = am_cat v + am_cats vs
    rw [← ih]
    unfold lg_sl
    rw [List.flatMap_cons, List.length_append, am_tr_cat]
    congr 1
    rcases v with z | z | r | e <;> rfl
theorem am_narrow_ret {z : Int} {ty : FieldType} (h : match ty with
    | .int => True
    | .boolean => z = 0 ∨ z = 1
    | .char => 0 ≤ z ∧ z < 65536
    | .byte => -128 ≤ z ∧ z < 128
    | _ => False) : narrow ty (.int (Int32.ofInt z)) = .int (Int32.ofInt z) := by
  cases ty <;> simp only at h
  case int => rfl
  case boolean =>
    rcases h with rfl | rfl
    · decide +kernel
    · decide +kernel
  case char =>
    have hc : (Int32.ofInt z).toInt = z := Int32.toInt_ofInt_of_le (by omega) (by omega)
    show Value.int (Int32.ofInt z).toUInt32.toUInt16.toUInt32.toInt32 = _
    congr 1
    obtain ⟨k, hk, rfl⟩ : ∃ k : Nat, k < 65536 ∧ z = (k : Int) := ⟨z.toNat, by omega, by omega⟩
    apply Int32.toInt_inj.mp
    rw [hc]
    have e1 : (Int32.ofInt (k : Int)).toUInt32 = UInt32.ofNat k := by
      rw [Int32.ofInt_eq_ofNat]
      rfl
    rw [e1]
    have e2 : (UInt32.ofNat k).toUInt16.toUInt32 = UInt32.ofNat k := by
      apply UInt32.toNat_inj.mp
      simp [UInt32.toNat_ofNat']
      omega
    rw [e2]
    show (Int32.ofNat k).toInt = _
    rw [← Int32.ofInt_eq_ofNat]
    exact hc
  case byte =>
    have hc : (Int32.ofInt z).toInt = z := Int32.toInt_ofInt_of_le (by omega) (by omega)
    show Value.int (Int32.ofInt z).toInt8.toInt32 = _
    congr 1
    apply Int32.toInt_inj.mp
    rw [Int8.toInt_toInt32, Int32.toInt_toInt8, hc]
    exact Int.bmod_eq_of_le (by omega) (by omega)
/-- as the kit's way from a walk to a contract, also for a kind some of whose methods are the machine's own -/
theorem am_ofW {l : Launch} {y : MethodName} {ws ws' : List Cond} {rm : Room} {Pc : Array Value → State → Prop} {Qc : Array Value → State → Outcome → State → Prop} {mc ms : Nat} {free : Addr → Prop} {cc : ByteArray} {maxL : Nat} {ret : Option FieldType}
    (hy : plainFor y = true) (hw : ws = Cond.code y cc maxL ret :: ws')
    (body : ∀ p e s m args below meth c s₁, BodyLoose p l y (headSpec ws rm) cc maxL ret e s m args below meth c s₁ → c.maxLocals = maxL → Pc args s →
      W p l e (headSpec ws rm).room s m args below meth c s.heap [] 0 0 (MQ below Qc args s mc ms free) (entryFrame m args maxL)) : Met l y ws rm Pc Qc mc ms free := by
  refine MetFree.of_bodySF (code := cc) (maxLocals := maxL) (ret := ret) hy ?_ ?_
  · intro args s m h hn
    obtain ⟨meth, c, h1, h2, h3, h4, h5, h6, -, -⟩ := Cond.code_spec hn (atoms_spec (ws := ws) h _ (by rw [hw]; exact List.mem_cons_self))
    exact ⟨meth, c, h1, h2, h3, h4, h5, h6⟩
  · intro p e s m args below meth c s₁ B hml hP _
    have hh0 : s₁.heap = s.heap := by rw [B.state]; rfl
    obtain ⟨t, a1, o, b1, b2, b3⟩ := body p e s m args below meth c s₁ B hml hP s₁ hh0 (Stand.of_body B)
    exact ⟨t, o, a1, b1, b2, ⟨b3.1, b3.2⟩⟩
theorem am_Met {l : Launch} {G : am_G} {X : Nat × (Nat → Int)} {d mid : Nat} {as : List am_V} {M : am_M} {r : am_R} (hpl : plainFor (am_y mid) = true) (hFG : am_FG l G X d mid 0 (am_args 0 as) [] M r) (hn : am_cats as ≤ am_l mid) (w1 : am_wf M) (w3 : am_wfs M.1.length as) (a : Nat → Nat) (sz : Nat) :
    Met l (am_y mid) (am_wc mid) (am_rm d M r) (va_Pc (am_sv G a as) (am_Pc G X a M sz)) (am_Qc G a M sz r) (r.2.1.length - M.1.length) (am_sz r.2 - am_sz M) (va_A (am_ws G a M) sz) := by
  refine am_ofW (cc := am_b mid) (maxL := am_l mid) (ret := am_r mid) hpl rfl ?_
  intro p e s m args below meth c s₁ B hml hv
  obtain ⟨rfl, hsz, hP, hD, hK, hE⟩ := hv
  obtain ⟨⟨g1, g2⟩, gr⟩ := hFG
  have hts : ∀ w ∈ am_tb, w.before (am_sv G a as).toArray s = true := fun w hw => atoms_spec (ws := am_wc mid) B.pre w (List.mem_cons_of_mem _ hw)
  have hown : s.vm.findClass (am_y mid).cls = some m.cls := findClass_of_methodNamed B.named
  have hlocks := B.notSynchronized
  have hnm : (am_y mid).name = "<init>" → meth.name = "<init>" := fun h => (name_of_methodNamed B.named B.method).1.trans h
  have hl := lv_entry (am_sv G a as) (n := am_l mid) (by rw [am_cats_len]; exact hn)
  rw [lg_entry_eq]
  rw [← am_lv_args] at hl
  subst hsz
  have C : am_Cx G X p s m (am_sv G a as).toArray meth c mid (va_A (am_ws G a M) s.heap.size) := ⟨B.exec, B.bytes, hml, hown, hts, hK, hnm, fun q hq => Or.inr hq, hE⟩
  refine gr p e (am_rm d M r) s m (am_sv G a as).toArray below meth c (va_A (am_ws G a M) s.heap.size) _ a _ s.heap [] 0 0 M.1.length (am_sz M) C (Nat.le_refl _) (Nat.le_refl _) hl w1 (am_wf_args w3 0) (fun v hv => by cases hv) ⟨hP, hD.self, va_S.rf⟩ (Nat.zero_add _) (Nat.zero_add _) (by show _ ≤ (r.2.1.length - M.1.length) + _; omega) (by show _ ≤ (am_sz r.2 - am_sz M) + _; omega) ?_
  intro a' H' locs' cells' slots' pc' ls' hag u1 u2 hW hc' hs' hdec hok
  have hcc : cells' = r.2.1.length - M.1.length := by omega
  have hss : slots' = am_sz r.2 - am_sz M := by omega
  subst hcc
  subst hss
  have hq : ∀ t : State, t.heap = H' → s.WarmedH t.vm → am_Qc G a M s.heap.size r (am_sv G a as).toArray s (.returned (r.1.map (am_tr G a'))) t := fun t ht _ => ⟨⟨a', hag, u1, u2, rfl, by rw [ht]; exact hW.1, hW.2.1⟩, hW.2.2.F ht⟩
  have hr := B.returns
  obtain ⟨rv, rM⟩ := r
  dsimp only at hdec hok hq ⊢
  unfold am_rok at hok
  rcases rv with _ | z | z | z
  · cases hrt : am_r mid with
    | none =>
      rw [hrt] at hr
      exact W.vret B.exec B.bytes hr hq hW.2.2.2.2 hdec
    | some t => rw [hrt] at hok; cases t <;> cases hok
  · cases hrt : am_r mid with
    | none => rw [hrt] at hok; cases hok
    | some t =>
      rw [hrt] at hok hr
      refine W.zret (v := Int32.ofInt z) B.exec B.bytes hr (am_narrow_ret ?_) hq hW.2.2.2.2 hdec
      cases t <;> simp at hok ⊢ <;> first | exact hok | omega
  · cases hrt : am_r mid with
    | none => rw [hrt] at hok; cases hok
    | some t =>
      rw [hrt] at hok hr
      cases t <;> first | (exact W.lret (v := Int64.ofInt z) B.exec B.bytes hr hq hW.2.2.2.2 hdec) | cases hok
  · cases hrt : am_r mid with
    | none => rw [hrt] at hok; cases hok
    | some t =>
      rw [hrt] at hok hr
      cases t <;> first | (exact W.aret (v := am_tr G a' (.inr (.inr z))) B.exec B.bytes hr (Or.inl ⟨_, rfl⟩) (am_tr_ref G a' z) hq hW.2.2.2.2 hdec) | cases hok
