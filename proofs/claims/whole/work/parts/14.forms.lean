/-! the machine's ways of calling -/
/-- what a method of the tables must be to be called -/
def am_mk (t : Nat) : Bool := am_inI (am_mix.getD t (0, 0)).1 (.code (am_y t) (am_b t) (am_l t) (am_r t)) && (plainFor (am_y t) && (decide (am_l t ≤ 20) && (am_inI (am_mix.getD t (0, 0)).2 (.initialized (am_y t).cls) && (decide ((am_y t).cls ≠ "java/lang/invoke/MethodHandle") && decide ((am_y t).cls ≠ "java/lang/invoke/VarHandle")))))
theorem am_mk_spec {t : Nat} (h : am_mk t = true) : Cond.code (am_y t) (am_b t) (am_l t) (am_r t) ∈ am_tb ∧ plainFor (am_y t) = true ∧ am_l t ≤ 20 ∧ Cond.initialized (am_y t).cls ∈ am_tb ∧ (am_y t).cls ≠ "java/lang/invoke/MethodHandle" ∧ (am_y t).cls ≠ "java/lang/invoke/VarHandle" := by
  unfold am_mk at h
  simp only [Bool.and_eq_true, decide_eq_true_eq] at h
  exact ⟨am_inI_tb h.1, h.2.1, h.2.2.1, am_inI_tb h.2.2.2.1, h.2.2.2.2.1, h.2.2.2.2.2⟩
theorem am_tb_good {w : Cond} (h : w ∈ am_tb) : (w.onTables && w.keeps) = true ∨ ∃ ty, w = .arrayClass ty := good_of_word (List.mem_filter.mp h).2
theorem am_wc_good {t : Nat} (h : am_mk t = true) : GoodIn am_tb (am_wc t) := by
  intro w hw
  rcases List.mem_cons.mp hw with rfl | hw
  · exact ⟨(am_mk_spec h).1, am_tb_good (am_mk_spec h).1⟩
  · exact ⟨hw, am_tb_good hw⟩
def am_na (ds : String) : Option Nat := (parseMethodDescriptor ds).map (fun d => d.parameters.length)
/-- a static method under a name of a kind below: the call -/
theorem am_callSUp {p : Program} {l : Launch} {e : Env} {R : Room} {s : State} {m : MethodId} {args : Array Value} {below : List Frame} {meth : Method} {c : Code} {T : State} {locs : List Loc} {cells slots : Nat} (X : Stand p l e R s m args below meth c T locs cells slots) (hexec : p.tables.exec = Jvm.exec) {own : String} {index : Nat} {x y : MethodName} {bytes : ByteArray} {maxL : Nat} {ret : Option FieldType}
    (hown : s.vm.findClass own = some m.cls) (hlink : (Cond.methodLink own index x).before args s = true) (hyx : y = ⟨y.cls, x.name, x.desc⟩) (hsame : (Cond.sameMethod x.cls y.cls x.name x.desc).before args s = true) (hstat : (Cond.static y).before args s = true) (hinit : (Cond.initialized y.cls).before args s = true)
    (hcode : (Cond.code y bytes maxL ret).before args s = true) (hy : y.cls ≠ "java/lang/invoke/MethodHandle" ∧ y.cls ≠ "java/lang/invoke/VarHandle")
    {W : Nat} {Pre : Pt → Array Value → Prop} {Post : Pt → Array Value → Option Value → Pt → Prop} (hK : Back l R p e below s args y 3 W Pre Post)
    {g : JFrame} (hg : g.method = m) (hsize : g.locals.size = c.maxLocals) {argsL rest : List Value} (hlen : ∀ sig, parseMethodDescriptor y.desc = some sig → argsL.length = sig.parameters.length)
    (hstack : g.stack = argsL.reverse ++ rest) (hW : 2 * g.monitorRoom + (rest.map fun v => v.category).sum ≤ W) (hdg : decode c.code g.pc = .ok (.invokestatic index, 3))
    (hpre : ∀ vm₁, s.WarmedH vm₁ → Pre ⟨T.setVm vm₁, locs, cells, slots⟩ argsL.toArray) :
    ∃ (v : Option Value) (vm₁ : Vm) (B : Pt), s.WarmedH vm₁ ∧ Stand p l e R s m args below meth c B.U B.locs B.cells B.slots ∧ Post ⟨T.setVm vm₁, locs, cells, slots⟩ argsL.toArray v B ∧
      ∀ target, Steps p.tables e below (B.U.setTop { g with pc := g.pc + 3, stack := v.toList ++ rest }) target → Steps p.tables e below (T.setTop g) target := by
  obtain ⟨mk, hnamed⟩ := Cond.code_named hcode
  obtain ⟨methM, cM, hmethM, -, -, -, -, -, -, hsigM⟩ := Cond.code_spec hnamed hcode
  have hstatic : methM.isStatic = true := Cond.static_spec hnamed hmethM hstat
  obtain ⟨kP, hkP, -⟩ := className_of_methodNamed hnamed
  have hinitP : kP.init = .initialized := Cond.initialized_spec (findClass_of_methodNamed hnamed) hkP hinit
  have hn2 : s.methodNamed? ⟨y.cls, x.name, x.desc⟩ = some mk := by rw [← hyx]; exact hnamed
  obtain ⟨vm₁, X₁, hstep₁⟩ := X.invokestaticUp hexec hown hlink hsame hy hn2 hmethM hstatic hkP hinitP (g := g) hg (argsL := argsL) (rest := rest) (hlen _ hsigM) hstack hdg
  obtain ⟨v, B, X', hpost, hsteps⟩ := hK m meth c ⟨T.setVm vm₁, locs, cells, slots⟩ { g with stack := rest } (.invokestatic index) mk argsL.toArray X₁ hg hsize hdg hW (X₁.named hnamed) (hpre vm₁ X₁.warmed)
  exact ⟨v, vm₁, B, X₁.warmed, X', hpost, fun target h => hstep₁ _ fun acts => by rw [doInvoke_state]; exact hsteps.trans h⟩
/-- what stands above, by one or two steps -/
theorem am_sub {vm : Vm} {a b : ClassId} {k : Class} (hk : vm.classes[a]? = some k) (hs : k.super = some b) : vm.isSubclass a b = true := by
  have h0 : 0 < vm.classes.size := Nat.lt_of_le_of_lt (Nat.zero_le _) (Array.getElem?_eq_some_iff.mp hk).1
  obtain ⟨f, hf⟩ : ∃ f, vm.classes.size = f + 1 := ⟨vm.classes.size - 1, by omega⟩
  unfold Vm.isSubclass
  rw [hf]
  simp [Vm.isSubclassAux, hk, hs]
theorem am_callSup {p : Program} {l : Launch} {e : Env} {R : Room} {s : State} {m : MethodId} {args : Array Value} {below : List Frame} {meth : Method} {c : Code} {T : State} {locs : List Loc} {cells slots : Nat} (X : Stand p l e R s m args below meth c T locs cells slots) (hexec : p.tables.exec = Jvm.exec) {own : String} {index : Nat} {x y : MethodName} {bytes : ByteArray} {maxL : Nat} {ret : Option FieldType}
    (hown : s.vm.findClass own = some m.cls) (hlink : (Cond.methodLink own index x).before args s = true) (hyx : y = ⟨y.cls, x.name, x.desc⟩) (hsame : (Cond.sameMethod x.cls y.cls x.name x.desc).before args s = true) (hsup : (Cond.superclass own x.cls).before args s = true) (hsup2 : x.cls = y.cls ∨ (Cond.superclass x.cls y.cls).before args s = true)
    (hinst : (Cond.instanceMethod y).before args s = true) (hcode : (Cond.code y bytes maxL ret).before args s = true) (hno : x.name ≠ "<init>")
    {W : Nat} {Pre : Pt → Array Value → Prop} {Post : Pt → Array Value → Option Value → Pt → Prop} (hK : Back l R p e below s args y 3 W Pre Post)
    {b : Addr} {cellB : Cell} {kB : Class} (hcell : T.heap[b]? = some cellB) (hobj : cellB.vm.isStatics = false) (hkB : s.vm.classes[cellB.cls]? = some kB)
    {g : JFrame} (hg : g.method = m) (hsize : g.locals.size = c.maxLocals) {argsL rest : List Value} (hlen : ∀ sig, parseMethodDescriptor y.desc = some sig → argsL.length = sig.parameters.length)
    (hstack : g.stack = argsL.reverse ++ .ref b :: rest) (hW : 2 * g.monitorRoom + (rest.map fun v => v.category).sum ≤ W) (hdg : decode c.code g.pc = .ok (.invokespecial index, 3))
    (hpre : ∀ vm₁, s.WarmedH vm₁ → Pre ⟨T.setVm vm₁, locs, cells, slots⟩ (Value.ref b :: argsL).toArray) :
    ∃ (v : Option Value) (vm₁ : Vm) (B : Pt), s.WarmedH vm₁ ∧ Stand p l e R s m args below meth c B.U B.locs B.cells B.slots ∧ Post ⟨T.setVm vm₁, locs, cells, slots⟩ (Value.ref b :: argsL).toArray v B ∧
      ∀ target, Steps p.tables e below (B.U.setTop { g with pc := g.pc + 3, stack := v.toList ++ rest }) target → Steps p.tables e below (T.setTop g) target := by
  obtain ⟨mk, methM, hnamed, hmethM, hstM, habM⟩ := Cond.instanceMethod_spec hinst
  obtain ⟨methM', cM, hmethM', -, -, -, -, -, -, hsigM⟩ := Cond.code_spec hnamed hcode
  cases hmethM.symm.trans hmethM'
  obtain ⟨ps, dk, kp, hps, hdk, hkp, hsuper, -, -, hnid⟩ := Cond.superclass_spec hown hsup
  have hn : s.methodNamed? ⟨y.cls, x.name, x.desc⟩ = some mk := by rw [← hyx]; exact hnamed
  have hfy := findClass_of_methodNamed hnamed
  have hsub : s.vm.isSubclass ps mk.cls = true := by
    rcases hsup2 with h2 | h2
    · have hpm : ps = mk.cls := Option.some.inj (hps.symm.trans (by rw [h2]; exact hfy))
      rw [hpm]; simp [Vm.isSubclass, Vm.isSubclassAux]
    · obtain ⟨p2, k2, -, hp2, hk2, -, hs2, -⟩ := Cond.superclass_spec hps h2
      have : p2 = mk.cls := Option.some.inj (hp2.symm.trans hfy)
      subst this
      exact am_sub hk2 hs2
  obtain ⟨vm₁, X₁, hstep₁⟩ := X.invokespecialUp hexec hown hlink hsame hn hmethM hstM habM hno hdk hnid hps hsuper hsub (a := b) (cell := cellB) hcell
    (fun z h => by rw [h] at hobj; cases hobj) hkB (g := g) hg (argsL := argsL) (rest := rest) (hlen _ hsigM) hstack hdg
  obtain ⟨v, B, X', hpost, hsteps⟩ := hK m meth c ⟨T.setVm vm₁, locs, cells, slots⟩ { g with stack := rest } (.invokespecial index) mk (Value.ref b :: argsL).toArray X₁ hg hsize hdg hW (X₁.named hnamed) (hpre vm₁ X₁.warmed)
  exact ⟨v, vm₁, B, X₁.warmed, X', hpost, fun target h => hstep₁ _ (by rw [doInvoke_state]; exact hsteps.trans h)⟩
section
variable {l : Launch} {G : am_G} {X : Nat × (Nat → Int)} {d mid pc t idx n : Nat} {M : am_M} {r1 : am_R} {p : Program} {e : Env} {R : Room} {s : State} {m : MethodId} {args : Array Value} {below : List Frame} {meth : Method} {c : Code} {A : Nat → Prop} {a : Nat → Nat} {ls : Array Slot} {H : Heap} {locs : List Loc} {cells slots : Nat} {lv : List (Nat × am_V)} {As rest stv : List Value} {b : Nat} {Cn : String}
theorem am_fV {Pc : Array Value → State → Prop} (hmk : am_mk t = true) (C : am_Cx G X p s m args meth c mid A) (hl : lv_has ls (am_l mid) (am_lv G a lv))
    (hM : Met l (am_y t) (am_wc t) (am_rm d M r1) Pc (am_Qc G a M H.size r1) (r1.2.1.length - M.1.length) (am_sz r1.2 - am_sz M) (va_A (am_ws G a M) H.size)) (hbl : FrameBlind Pc) (hpre : ∀ U : State, U.heap = H → s.WarmedH U.vm → Pc (Value.ref b :: As).toArray U)
    (hfr : d + 1 ≤ R.frames) (hlo : 8 + (am_l t + 11) + 40 * d ≤ R.locals) (hcat : (rest.map (fun v => v.category)).sum ≤ 8) (hf : cells + (r1.2.1.length - M.1.length) ≤ R.cells ∧ slots + (am_sz r1.2 - am_sz M) ≤ R.slots)
    (hn : As.length = n) (hst : stv = As.reverse ++ .ref b :: rest) (hrecv : ∃ cellB : Cell, H[b]? = some cellB ∧ cellB.vm.isStatics = false ∧ s.vm.findClass Cn = some cellB.cls) (hdg : decode (am_b mid) pc = .ok (.invokevirtual idx, 3))
    (k1 : Cond.methodLink (am_y mid).cls idx (am_y t) ∈ am_tb) (k2 : Cond.instanceMethod (am_y t) ∈ am_tb) (k3 : Cond.selects Cn (am_y t) (am_y t) ∈ am_tb) (k4 : am_na (am_y t).desc = some n) :
    va_Run p l e R s m args below meth c H locs cells slots (r1.2.1.length - M.1.length) (am_sz r1.2 - am_sz M) (F0 m pc ls stv) rest (am_Qc G a M H.size r1 (Value.ref b :: As).toArray) (va_A (am_ws G a M) H.size) := by
  obtain ⟨hx, hb, hml, hown, hts, hK, hnm, hA, hE⟩ := C
  obtain ⟨q1, q2, q3, q4, q5, q6⟩ := am_mk_spec hmk
  exact va_runV (C := Cn) (n := n) ⟨hx, hb, hml, hown, hts⟩ hM ⟨callB_of n hts (am_wc_good hmk) rfl rfl rfl (hts _ q4) (hts _ k1) ⟨q5, q6, k4⟩ ⟨hfr, hlo⟩, hts _ k2, hts _ k3⟩ ⟨hbl, hrecv, hpre⟩ rfl hn hl.1 hst (lv_room hcat) hdg hf
theorem am_fU {Pc : Array Value → State → Prop} {x : MethodName} {owner : String} {b0 : ByteArray} {m0 : Nat} {r0 : Option FieldType} (hmk : am_mk t = true) (C : am_Cx G X p s m args meth c mid A) (hl : lv_has ls (am_l mid) (am_lv G a lv))
    (hM : Met l (am_y t) (am_wc t) (am_rm d M r1) Pc (am_Qc G a M H.size r1) (r1.2.1.length - M.1.length) (am_sz r1.2 - am_sz M) (va_A (am_ws G a M) H.size)) (hbl : FrameBlind Pc) (hpre : ∀ U : State, U.heap = H → s.WarmedH U.vm → Pc (Value.ref b :: As).toArray U)
    (hfr : d + 1 ≤ R.frames) (hlo : 8 + (am_l t + 11) + 40 * d ≤ R.locals) (hcat : (rest.map (fun v => v.category)).sum ≤ 8) (hf : cells + (r1.2.1.length - M.1.length) ≤ R.cells ∧ slots + (am_sz r1.2 - am_sz M) ≤ R.slots)
    (hn : As.length = n) (hst : stv = As.reverse ++ .ref b :: rest) (hrecv : ∃ cellB : Cell, H[b]? = some cellB ∧ cellB.vm.isStatics = false ∧ s.vm.findClass Cn = some cellB.cls) (hdg : decode (am_b mid) pc = .ok (.invokevirtual idx, 3))
    (k1 : Cond.methodLink (am_y mid).cls idx x ∈ am_tb) (k2 : Cond.sameMethod x.cls owner x.name x.desc ∈ am_tb) (k3 : Cond.selects Cn x (am_y t) ∈ am_tb) (k4 : Cond.instanceMethod (am_y t) ∈ am_tb) (k5 : Cond.instanceMethod ⟨owner, x.name, x.desc⟩ ∈ am_tb) (k6 : Cond.code ⟨owner, x.name, x.desc⟩ b0 m0 r0 ∈ am_tb) (k7 : am_na x.desc = some n) (k8 : owner ≠ "java/lang/invoke/MethodHandle" ∧ owner ≠ "java/lang/invoke/VarHandle") :
    va_Run p l e R s m args below meth c H locs cells slots (r1.2.1.length - M.1.length) (am_sz r1.2 - am_sz M) (F0 m pc ls stv) rest (am_Qc G a M H.size r1 (Value.ref b :: As).toArray) (va_A (am_ws G a M) H.size) := by
  obtain ⟨hx, hb, hml, hown, hts, hK, hnm, hA, hE⟩ := C
  obtain ⟨q1, q2, q3, q4, q5, q6⟩ := am_mk_spec hmk
  refine va_runU (C := Cn) (owner := owner) (x := x) (n := n) (maxL := am_l t) (ret := am_r t) (bytes := am_b t) ⟨hx, hb, hml, hown, hts⟩ hM ⟨⟨rfl, rfl, hfr, hlo, pay_in hts (am_wc_good hmk), List.mem_cons_self⟩, hts _ q1, hts _ q4, k8, fun sig h => ?_, hts _ k1, hts _ k2, va_Decl.of (hts _ k5) (hts _ k6), hts _ k3, hts _ k4⟩ ⟨hbl, hrecv, hpre⟩ rfl hn hl.1 hst (lv_room hcat) hdg hf
  unfold am_na at k7
  rw [h] at k7
  exact (Option.some.inj k7).symm
theorem am_fS {Pc : Array Value → State → Prop} (hmk : am_mk t = true) (C : am_Cx G X p s m args meth c mid A) (hl : lv_has ls (am_l mid) (am_lv G a lv))
    (hM : Met l (am_y t) (am_wc t) (am_rm d M r1) Pc (am_Qc G a M H.size r1) (r1.2.1.length - M.1.length) (am_sz r1.2 - am_sz M) (va_A (am_ws G a M) H.size)) (hbl : FrameBlind Pc) (hpre : ∀ U : State, U.heap = H → s.WarmedH U.vm → Pc As.toArray U)
    (hfr : d + 1 ≤ R.frames) (hlo : 8 + (am_l t + 11) + 40 * d ≤ R.locals) (hcat : (rest.map (fun v => v.category)).sum ≤ 8) (hf : cells + (r1.2.1.length - M.1.length) ≤ R.cells ∧ slots + (am_sz r1.2 - am_sz M) ≤ R.slots)
    (hn : As.length = n) (hst : stv = As.reverse ++ rest) (hdg : decode (am_b mid) pc = .ok (.invokestatic idx, 3))
    (k1 : Cond.methodLink (am_y mid).cls idx (am_y t) ∈ am_tb) (k2 : Cond.static (am_y t) ∈ am_tb) (k4 : am_na (am_y t).desc = some n) :
    va_Run p l e R s m args below meth c H locs cells slots (r1.2.1.length - M.1.length) (am_sz r1.2 - am_sz M) (F0 m pc ls stv) rest (am_Qc G a M H.size r1 As.toArray) (va_A (am_ws G a M) H.size) := by
  obtain ⟨hx, hb, hml, hown, hts, hK, hnm, hA, hE⟩ := C
  obtain ⟨q1, q2, q3, q4, q5, q6⟩ := am_mk_spec hmk
  exact va_runS (n := n) ⟨hx, hb, hml, hown, hts⟩ hM ⟨callB_of n hts (am_wc_good hmk) rfl rfl rfl (hts _ q4) (hts _ k1) ⟨q5, q6, k4⟩ ⟨hfr, hlo⟩, hts _ k2⟩ ⟨hbl, hpre⟩ rfl hn hl.1 hst (lv_room hcat) hdg hf
theorem am_fSU {Pc : Array Value → State → Prop} {x : MethodName} (hmk : am_mk t = true) (C : am_Cx G X p s m args meth c mid A) (hl : lv_has ls (am_l mid) (am_lv G a lv))
    (hM : Met l (am_y t) (am_wc t) (am_rm d M r1) Pc (am_Qc G a M H.size r1) (r1.2.1.length - M.1.length) (am_sz r1.2 - am_sz M) (va_A (am_ws G a M) H.size)) (hbl : FrameBlind Pc) (hpre : ∀ U : State, U.heap = H → s.WarmedH U.vm → Pc As.toArray U)
    (hfr : d + 1 ≤ R.frames) (hlo : 8 + (am_l t + 11) + 40 * d ≤ R.locals) (hcat : (rest.map (fun v => v.category)).sum ≤ 8) (hf : cells + (r1.2.1.length - M.1.length) ≤ R.cells ∧ slots + (am_sz r1.2 - am_sz M) ≤ R.slots)
    (hn : As.length = n) (hst : stv = As.reverse ++ rest) (hdg : decode (am_b mid) pc = .ok (.invokestatic idx, 3))
    (k1 : Cond.methodLink (am_y mid).cls idx x ∈ am_tb) (k2 : Cond.static (am_y t) ∈ am_tb) (k3 : Cond.sameMethod x.cls (am_y t).cls x.name x.desc ∈ am_tb) (k5 : am_y t = ⟨(am_y t).cls, x.name, x.desc⟩) (k4 : am_na (am_y t).desc = some n) :
    va_Run p l e R s m args below meth c H locs cells slots (r1.2.1.length - M.1.length) (am_sz r1.2 - am_sz M) (F0 m pc ls stv) rest (am_Qc G a M H.size r1 As.toArray) (va_A (am_ws G a M) H.size) := by
  obtain ⟨hx, hb, hml, hown, hts, hK, hnm, hA, hE⟩ := C
  obtain ⟨q1, q2, q3, q4, q5, q6⟩ := am_mk_spec hmk
  have hBk : Back l R p e below s args (am_y t) 3 8 (PreOf R (r1.2.1.length - M.1.length) (am_sz r1.2 - am_sz M) Pc) (PostOf (am_Qc G a M H.size r1) (r1.2.1.length - M.1.length) (am_sz r1.2 - am_sz M) (va_A (am_ws G a M) H.size)) :=
    back_of (bytes := am_b t) (maxL := am_l t) (ret := am_r t) hM hbl rfl rfl hfr hlo (pay_in hts (am_wc_good hmk)) List.mem_cons_self (fun a' U hW => word_at hW (Or.inl (by first | rfl | simp [Cond.onTables, Cond.keeps, Cond.steady])) (hts _ q4))
  intro T hT X0
  obtain ⟨v, vm₁, ⟨U', l2, c2, s2⟩, hW₁, X', ⟨g', mk, t', L, e1, e2, hq, h1, hL, h2, h3⟩, st⟩ := am_callSUp X0 hx (bytes := am_b t) (maxL := am_l t) (ret := am_r t) hown (hts _ k1) k5 (hts _ k3) (hts _ k2) (hts _ q4) (hts _ q1) ⟨q5, q6⟩ hBk (g := F0 m pc ls stv) rfl (hl.1.trans hml.symm) (argsL := As) (rest := rest) (fun sig h => by unfold am_na at k4; rw [h] at k4; exact hn.trans (Option.some.inj k4).symm) hst (lv_room hcat) (by rw [hb]; exact hdg)
    (fun vm₁ hW₁ => ⟨hf.1, hf.2, hpre (T.setVm vm₁) hT hW₁⟩)
  dsimp only [Pt.U, Pt.locs, Pt.cells, Pt.slots] at X' e1 e2 h1 h2 h3 st
  subst h1; subst h2; subst h3
  exact ⟨v, (T.setVm vm₁).calling g' mk As.toArray, t', U', L, hT, X', hL, e1, e2, hq, st⟩
theorem am_fI {Pc : Array Value → State → Prop} (hmk : am_mk t = true) (C : am_Cx G X p s m args meth c mid A) (hl : lv_has ls (am_l mid) (am_lv G a lv))
    (hM : Met l (am_y t) (am_wc t) (am_rm d M r1) Pc (am_Qc G a M H.size r1) (r1.2.1.length - M.1.length) (am_sz r1.2 - am_sz M) (va_A (am_ws G a M) H.size)) (hbl : FrameBlind Pc) (hpre : ∀ U : State, U.heap = H → s.WarmedH U.vm → Pc (Value.ref b :: As).toArray U)
    (hfr : d + 1 ≤ R.frames) (hlo : 8 + (am_l t + 11) + 40 * d ≤ R.locals) (hcat : (rest.map (fun v => v.category)).sum ≤ 8) (hf : cells + (r1.2.1.length - M.1.length) ≤ R.cells ∧ slots + (am_sz r1.2 - am_sz M) ≤ R.slots)
    (hn : As.length = n) (hst : stv = As.reverse ++ .ref b :: rest) (hdg : decode (am_b mid) pc = .ok (.invokespecial idx, 3))
    (k1 : Cond.methodLink (am_y mid).cls idx (am_y t) ∈ am_tb) (k2 : Cond.instanceMethod (am_y t) ∈ am_tb) (k3 : (am_y t).name = "<init>") (k5 : am_r t = none) (k4 : am_na (am_y t).desc = some n) :
    va_Run p l e R s m args below meth c H locs cells slots (r1.2.1.length - M.1.length) (am_sz r1.2 - am_sz M) (F0 m pc ls stv) rest (am_Qc G a M H.size r1 (Value.ref b :: As).toArray) (va_A (am_ws G a M) H.size) := by
  obtain ⟨hx, hb, hml, hown, hts, hK, hnm, hA, hE⟩ := C
  obtain ⟨q1, q2, q3, q4, q5, q6⟩ := am_mk_spec hmk
  have hcb := callB_of (R := R) (rm := am_rm d M r1) (mc := r1.2.1.length - M.1.length) (ms := am_sz r1.2 - am_sz M) n hts (am_wc_good hmk) rfl rfl rfl (hts _ q4) (hts _ k1) ⟨q5, q6, k4⟩ ⟨hfr, hlo⟩
  rw [k5] at hcb
  exact va_runI (n := n) ⟨hx, hb, hml, hown, hts⟩ hM ⟨hcb, k3, hts _ k2⟩ ⟨hbl, hpre⟩ rfl hn hl.1 hst (lv_room hcat) hdg hf
theorem am_fIN {Pc : Array Value → State → Prop} {host : String} (hmk : am_mk t = true) (C : am_Cx G X p s m args meth c mid A) (hl : lv_has ls (am_l mid) (am_lv G a lv))
    (hM : Met l (am_y t) (am_wc t) (am_rm d M r1) Pc (am_Qc G a M H.size r1) (r1.2.1.length - M.1.length) (am_sz r1.2 - am_sz M) (va_A (am_ws G a M) H.size)) (hbl : FrameBlind Pc) (hpre : ∀ U : State, U.heap = H → s.WarmedH U.vm → Pc (Value.ref b :: As).toArray U)
    (hfr : d + 1 ≤ R.frames) (hlo : 8 + (am_l t + 11) + 40 * d ≤ R.locals) (hcat : (rest.map (fun v => v.category)).sum ≤ 8) (hf : cells + (r1.2.1.length - M.1.length) ≤ R.cells ∧ slots + (am_sz r1.2 - am_sz M) ≤ R.slots)
    (hn : As.length = n) (hst : stv = As.reverse ++ .ref b :: rest) (hdg : decode (am_b mid) pc = .ok (.invokespecial idx, 3))
    (k1 : Cond.methodLinkNest (am_y mid).cls idx (am_y t) host ∈ am_nests) (k2 : Cond.instanceMethod (am_y t) ∈ am_tb) (k3 : (am_y t).name = "<init>") (k5 : am_r t = none) (k4 : am_na (am_y t).desc = some n) :
    va_Run p l e R s m args below meth c H locs cells slots (r1.2.1.length - M.1.length) (am_sz r1.2 - am_sz M) (F0 m pc ls stv) rest (am_Qc G a M H.size r1 (Value.ref b :: As).toArray) (va_A (am_ws G a M) H.size) := by
  obtain ⟨hx, hb, hml, hown, hts, hK, hnm, hA, hE1, hE⟩ := C
  obtain ⟨q1, q2, q3, q4, q5, q6⟩ := am_mk_spec hmk
  have hcb := va_cnB (R := R) (rm := am_rm d M r1) (mc := r1.2.1.length - M.1.length) (ms := am_sz r1.2 - am_sz M) (host := host) n hts (am_wc_good hmk) rfl rfl rfl (hE1 _ k1) (hts _ q4) ⟨q5, q6, k4⟩ ⟨hfr, hlo⟩
  rw [k5] at hcb
  exact va_runIN (n := n) ⟨hx, hb, hml, hown, hts⟩ hM ⟨hcb, k3, hts _ k2⟩ ⟨hbl, hpre⟩ rfl hn hl.1 hst (lv_room hcat) hdg hf
theorem am_fX {Pc : Array Value → State → Prop} {x : MethodName} (hmk : am_mk t = true) (C : am_Cx G X p s m args meth c mid A) (hl : lv_has ls (am_l mid) (am_lv G a lv))
    (hM : Met l (am_y t) (am_wc t) (am_rm d M r1) Pc (am_Qc G a M H.size r1) (r1.2.1.length - M.1.length) (am_sz r1.2 - am_sz M) (va_A (am_ws G a M) H.size)) (hbl : FrameBlind Pc) (hpre : ∀ U : State, U.heap = H → s.WarmedH U.vm → Pc (Value.ref b :: As).toArray U)
    (hfr : d + 1 ≤ R.frames) (hlo : 8 + (am_l t + 11) + 40 * d ≤ R.locals) (hcat : (rest.map (fun v => v.category)).sum ≤ 8) (hf : cells + (r1.2.1.length - M.1.length) ≤ R.cells ∧ slots + (am_sz r1.2 - am_sz M) ≤ R.slots)
    (hn : As.length = n) (hst : stv = As.reverse ++ .ref b :: rest) (hrecv : ∃ (cellB : Cell) (kB : Class), H[b]? = some cellB ∧ cellB.vm.isStatics = false ∧ s.vm.classes[cellB.cls]? = some kB) (hdg : decode (am_b mid) pc = .ok (.invokespecial idx, 3))
    (k1 : Cond.methodLink (am_y mid).cls idx x ∈ am_tb) (k2 : Cond.instanceMethod (am_y t) ∈ am_tb) (k3 : Cond.sameMethod x.cls (am_y t).cls x.name x.desc ∈ am_tb) (k5 : am_y t = ⟨(am_y t).cls, x.name, x.desc⟩) (k4 : am_na (am_y t).desc = some n) (k6 : Cond.superclass (am_y mid).cls x.cls ∈ am_tb) (k7 : x.cls = (am_y t).cls ∨ Cond.superclass x.cls (am_y t).cls ∈ am_tb) (k8 : x.name ≠ "<init>") :
    va_Run p l e R s m args below meth c H locs cells slots (r1.2.1.length - M.1.length) (am_sz r1.2 - am_sz M) (F0 m pc ls stv) rest (am_Qc G a M H.size r1 (Value.ref b :: As).toArray) (va_A (am_ws G a M) H.size) := by
  obtain ⟨hx, hb, hml, hown, hts, hK, hnm, hA, hE⟩ := C
  obtain ⟨q1, q2, q3, q4, q5, q6⟩ := am_mk_spec hmk
  obtain ⟨cellB, kB, hc1, hc2, hc3⟩ := hrecv
  have hBk : Back l R p e below s args (am_y t) 3 8 (PreOf R (r1.2.1.length - M.1.length) (am_sz r1.2 - am_sz M) Pc) (PostOf (am_Qc G a M H.size r1) (r1.2.1.length - M.1.length) (am_sz r1.2 - am_sz M) (va_A (am_ws G a M) H.size)) :=
    back_of (bytes := am_b t) (maxL := am_l t) (ret := am_r t) hM hbl rfl rfl hfr hlo (pay_in hts (am_wc_good hmk)) List.mem_cons_self (fun a' U hW => word_at hW (Or.inl (by first | rfl | simp [Cond.onTables, Cond.keeps, Cond.steady])) (hts _ q4))
  intro T hT X0
  obtain ⟨v, vm₁, ⟨U', l2, c2, s2⟩, hW₁, X', ⟨g', mk, t', L, e1, e2, hq, h1, hL, h2, h3⟩, st⟩ := am_callSup X0 hx (bytes := am_b t) (maxL := am_l t) (ret := am_r t) hown (hts _ k1) k5 (hts _ k3) (hts _ k6) (k7.imp id (fun z => hts _ z)) (hts _ k2) (hts _ q1) k8 hBk (by rw [hT]; exact hc1) hc2 hc3 (g := F0 m pc ls stv) rfl (hl.1.trans hml.symm) (argsL := As) (rest := rest) (fun sig h => by unfold am_na at k4; rw [h] at k4; exact hn.trans (Option.some.inj k4).symm) hst (lv_room hcat) (by rw [hb]; exact hdg)
    (fun vm₁ hW₁ => ⟨hf.1, hf.2, hpre (T.setVm vm₁) hT hW₁⟩)
  dsimp only [Pt.U, Pt.locs, Pt.cells, Pt.slots] at X' e1 e2 h1 h2 h3 st
  subst h1; subst h2; subst h3
  exact ⟨v, (T.setVm vm₁).calling g' mk (Value.ref b :: As).toArray, t', U', L, hT, X', hL, e1, e2, hq, st⟩
end
