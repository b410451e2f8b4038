/-! THE CLAIM OUT OF ONE WALK OF THE LAW'S BODY. Your part is whole_start (and what it stands on); all else here is the same for every law, but numbers. -/
def R_law : String := "ClubReadsLaw"
def lw_P (b : Addr) (xs : List Int32) (args : Array Value) (s : State) : Prop := args = #[.ref b] ∧ s.IntsAt b xs ∧ xs.length ≤ 320 ∧ (Jvm.Cond.and given_1 narrow_1).before args s = true
def lw_Q (_ : Array Value) (s : State) (o : Outcome) (t : State) : Prop := o = .returned (some (.int 1)) ∧ Framed s o t [] 600000 7302250
def lw_Z (below : List Frame) (a : Array Value) (s : State) : State → Prop := fun t => ∃ o, t.status = .running ∧ Ended t below o ∧ lw_Q a s o t
/-- the law's own end, with 1 on the stack, nothing written that was there before, its room as the claim has it -/
theorem lw_ret {p : Program} {l : Launch} {e : Env} {s : State} {m : MethodId} {below : List Frame} {meth : Method} {c : Code} {b : Nat} (hx : p.tables.exec = Jvm.exec) (hb : c.code = code) (hr : meth.sig.returnType = ret) (hlocks : meth.locks = false) {pc : Nat} {H : Heap} {ls : Array Slot} (hdg : decode code pc = .ok (.ireturn, 1)) : W p l e room_1 s m #[Value.ref b] below meth c H [] 600000 7302250 (lw_Z below #[Value.ref b] s) (F0 m pc ls [.int 1]) := by
  intro T hT X
  obtain ⟨fs, hret, hrun, hended, hW, hframe⟩ := X.leave (v := some (.int 1)) (hlocks := hlocks) (fun h => by rw [hr] at h; cases h)
  have hmeth' : T.vm.method? m = some meth := X.method'
  refine ⟨T.setFrames fs, ?_, .returned (some (.int 1)), hrun, hended, rfl, ⟨_, rfl⟩, hW, hframe⟩
  jvm_step X.here [X.here.top, hx, hb, hdg, hmeth', hr, ret, narrow_b1]
  (try refine ⟨rfl, ?_⟩); (try refine ⟨rfl, ?_⟩)
  first | (intro acts; rw [hret _ acts rfl rfl rfl]) | rw [hret _ _ rfl rfl rfl]
  exact Steps.refl _
/-- what holds at the law's entry: the machine, the code, the tables' words (any of lw_tbl by 'hts w (by decide +kernel)'), the script of L ints xs at the cell b, what the Statement gives of the start (any of its parts by flat_of_before) -/
def lw_At (p : Program) (s : State) (m : MethodId) (meth : Method) (c : Code) (b L : Nat) (xs : Nat → Int32) : Prop :=
  p.tables.exec = Jvm.exec ∧ c.code = code ∧ meth.sig.returnType = ret ∧ c.maxLocals = 4 ∧ s.vm.findClass R_law = some m.cls ∧ (∀ w ∈ lw_tbl, w.before #[Value.ref b] s = true) ∧ va_X b L xs s s.heap ∧ b < s.heap.size ∧ meth.locks = false ∧ (Jvm.Cond.and given_1 narrow_1).before #[Value.ref b] s = true
/-! THE LAW's START: all that the small machine's runs lean on holds there -/
def am_tm (i : Nat) : Term := match i with
  | 0 => .string RX1 78
  | 1 => .string RX1 84
  | 2 => .string RX1 85
  | 3 => .string RX1 87
  | 4 => .string RX1 100
  | 5 => .string RX1 106
  | 6 => .string RX12 130
  | 7 => .string RX12 136
  | 8 => .string RX12 141
  | _ => .string RX12 143
def am_nf1 : List Cond := flatC (.and given_1 narrow_1)
theorem am_n1 : ∀ i, i < 10 → Cond.exactly (am_tm i) "java/lang/String" ∈ am_nf1 := by decide +kernel
theorem am_n2 : ∀ i, i < 10 → Cond.eq (.field (am_tm i) "java/lang/String" "coder" "B") (.int 0) ∈ am_nf1 := by decide +kernel
theorem am_n3 : ∀ i, i < 10 → Cond.arrayOf (.field (am_tm i) "java/lang/String" "value" "[B") .byte ∈ am_nf1 := by decide +kernel
theorem am_n4 : ∀ i, i < 10 → Cond.eq (.length (.field (am_tm i) "java/lang/String" "value" "[B")) (.int (Int32.ofNat (am_sl.getD i 0))) ∈ am_nf1 := by decide +kernel
theorem am_n5 : ∀ i, i < 10 → ∀ j, j < am_sl.getD i 0 → Cond.eq (.elem (.field (am_tm i) "java/lang/String" "value" "[B") (.int (Int32.ofNat j))) (.int ((am_sb.getD i []).getD j 0)) ∈ am_nf1 := by decide +kernel
theorem am_n6 : ∀ i, i < 10 → ∀ j, j < 10 → i ≠ j → (Cond.not (Cond.eq (am_tm i) (am_tm j)) ∈ am_nf1 ∨ Cond.not (Cond.eq (am_tm j) (am_tm i)) ∈ am_nf1) := by decide +kernel
theorem am_n7 : ∀ i, i < 10 → am_sl.getD i 0 < 2 ^ 31 := by decide +kernel
theorem am_n8 : ∀ q ∈ am_srs, ∃ tx, Cond.stringRef q.1 q.2.1 tx ∈ lw_tbl := by
  intro q hq
  unfold am_srs at hq
  simp only [List.mem_cons, List.not_mem_nil, or_false] at hq
  rcases hq with rfl | rfl | rfl | rfl | rfl | rfl | rfl | rfl | rfl | rfl | rfl | rfl
  · exact ⟨"read", by decide +kernel⟩
  · exact ⟨"come", by decide +kernel⟩
  · exact ⟨"ike", by decide +kernel⟩
  · exact ⟨"oath", by decide +kernel⟩
  · exact ⟨"mkbpos", by decide +kernel⟩
  · exact ⟨"<=>", by decide +kernel⟩
  · exact ⟨"ike ", by decide +kernel⟩
  · exact ⟨"mkbpos", by decide +kernel⟩
  · exact ⟨"<=>", by decide +kernel⟩
  · exact ⟨"oath ", by decide +kernel⟩
  · exact ⟨"read ", by decide +kernel⟩
  · exact ⟨"come ", by decide +kernel⟩
theorem am_n9 : Cond.eq (.string RX1 100) (.string RX12 112) ∈ am_nf1 ∧ Cond.eq (.string RX1 106) (.string RX12 118) ∈ am_nf1 := by decide +kernel
theorem am_n10 : ∀ w ∈ am_nests, w ∈ lw_tbl ∧ w.onTables = true := by decide +kernel
theorem am_n11 : ∀ c ∈ am_kin, c ≠ 4 → Cond.castable (am_cn c) RX4 ∈ lw_tbl := by decide +kernel
theorem am_n12 : ∀ x ∈ [5, 6, 8], ∀ c ∈ am_kin, c ≠ x → am_io x c = some true → Cond.castable (am_cn c) (am_cn x) ∈ lw_tbl := by decide +kernel
theorem am_n13 : ∀ x ∈ [5, 6, 8], ∀ c ∈ am_kin, c ≠ x → am_io x c ≠ some true → Cond.not (.castable (am_cn c) (am_cn x)) ∈ am_nf1 := by decide +kernel
theorem am_n14 : Cond.arrayOver (.object RX4) ∈ lw_tbl ∧ Cond.arrayOver (.array .int) ∈ lw_tbl := by decide +kernel
theorem am_n15 : Cond.eq (.static "java/lang/String" "COMPACT_STRINGS" "Z") (.int 1) ∈ am_nf1 ∧ Cond.isRef (.static "jdk/internal/util/Preconditions" "SIOOBE_FORMATTER" "Ljava/util/function/BiFunction;") ∈ am_nf1 := by decide +kernel
theorem am_n16 : Cond.laysStatic "java/lang/String" "COMPACT_STRINGS" "Z" ∈ lw_tbl ∧ Cond.laysStatic "jdk/internal/util/Preconditions" "SIOOBE_FORMATTER" "Ljava/util/function/BiFunction;" ∈ lw_tbl ∧ Cond.initialized "java/lang/String" ∈ lw_tbl ∧ Cond.initialized "jdk/internal/util/Preconditions" ∈ lw_tbl := by decide +kernel
theorem am_tb_in {w : Cond} (h : w ∈ am_tb) : w ∈ lw_tbl := (List.mem_filter.mp h).1
def am_M0 : am_M := ([], fun _ _ => 0, fun _ _ => 0, fun _ _ => none)
theorem am_arr {s : State} {args : Array Value} {ty : FieldType} (hp : (Cond.arrayClass ty).before args s = true) : ∃ cA, ArrOfT s cA ty ∧ s.vm.findClass ("[" ++ ty.toString) = some cA := by
  obtain ⟨c, k, comp, h1, h2, h3⟩ := Cond.arrayClass_spec hp
  exact ⟨c, fun N z => ⟨(fun q hq => by cases hq), k, h2, comp, h3⟩, h1⟩
theorem am_begin {p : Program} {s : State} {m : MethodId} {meth : Method} {c : Code} {b L : Nat} {xs : Nat → Int32} (C0 : lw_At p s m meth c b L xs) : ∃ G : am_G, G.2.2 0 = some b ∧ am_Cx G (L, fun j => (xs j).toInt) p s m #[Value.ref b] meth c 0 (fun q => s.heap.size ≤ q) := by
  obtain ⟨hx, hb, hr, hml, hown, hts, hX, hbl, hlocks, hgv⟩ := C0
  have hs : ∀ w ∈ am_nf1, w.before #[Value.ref b] s = true := flat_of_before _ hgv
  have hA : ∀ a : Nat, a < s.heap.size → ¬ (fun q => s.heap.size ≤ q) a := fun a h => Nat.not_le.mpr h
  have hcls : ∀ k : Nat, ∃ z : ClassId × (Nat → Nat), ∀ q : vw_C, vwCl[k]? = some q → u_Kn s q.1 q.2.1 q.2.2 z.1 z.2 := by
    intro k
    by_cases hk : k < 13
    · obtain ⟨r, ty0, hr0, hn, hin, hi1, -⟩ := am_hCO k hk
      obtain ⟨cC, iS, hK⟩ := u_known (C := r.1) (T := r.2.1) (N := r.2.2) (n := r.2.2) hts (fun w hw => am_tb_in (hin w hw)) (hts _ (am_tb_in hi1))
      refine ⟨(cC, iS), fun q hq => ?_⟩
      cases hr0.symm.trans hq
      exact hK
    · refine ⟨(0, fun _ => 0), fun q hq => ?_⟩
      have := (List.getElem?_eq_some_iff.mp hq).1
      exact absurd this (by show ¬ k < 13; exact hk)
  obtain ⟨fK, hfK⟩ := Classical.axiomOfChoice hcls
  obtain ⟨g0, a0, f0⟩ := am_arr (hts _ (am_tb_in (am_hAC .int (Or.inl rfl))))
  obtain ⟨g1, a1, f1⟩ := am_arr (hts _ (am_tb_in (am_hAC .long (Or.inr (Or.inl rfl)))))
  obtain ⟨g2, a2, f2⟩ := am_arr (hts _ (am_tb_in (am_hAC .boolean (Or.inr (Or.inr rfl)))))
  obtain ⟨cm3, g3, k3, -, q32, q33, q34⟩ := Cond.arrayOver_specA (hts _ am_n14.2)
  obtain ⟨cm4, g4, k4, q41, -, q42, q43, q44⟩ := Cond.arrayOver_spec (hts _ am_n14.1)
  obtain ⟨adK, adV, hvk, hev⟩ := vk_Sof (args := #[Value.ref b]) (s := s) (N := 10) (tm := am_tm) (len := am_sl) (byt := am_sb) (A := fun q => s.heap.size ≤ q) am_n7 (fun i hi => hs _ (am_n1 i hi)) (fun i hi => hs _ (am_n2 i hi)) (fun i hi => hs _ (am_n3 i hi)) (fun i hi => hs _ (am_n4 i hi)) (fun i hi j hj => hs _ (am_n5 i hi j hj)) (fun i j hi hj hij => (am_n6 i hi j hj hij).imp (fun h => hs _ h) (fun h => hs _ h)) hA
  have hsi : ∃ v : Option Nat, (Term.static "jdk/internal/util/Preconditions" "SIOOBE_FORMATTER" "Ljava/util/function/BiFunction;").eval #[Value.ref b] s none [] s = some (va_rf v) := by
    have h := hs _ am_n15.2
    cases hv : (Term.static "jdk/internal/util/Preconditions" "SIOOBE_FORMATTER" "Ljava/util/function/BiFunction;").eval #[Value.ref b] s none [] s with
    | none => simp [Cond.before, Cond.holds, Cond.value, hv] at h
    | some w =>
      simp only [Cond.before, Cond.holds, Cond.value, hv] at h
      cases w with
      | null => exact ⟨none, rfl⟩
      | ref x => exact ⟨some x, rfl⟩
      | _ => simp [Value.isRef] at h
  obtain ⟨sio, hsio⟩ := hsi
  let ext : Nat → Option Nat := fun e => if e = 0 then some b else if e = 1000 then sio else if e % 2 = 1 then some (adK (e / 2)) else some (adV (e / 2 - 1))
  have hext : ∀ j, j < 10 → ext (1 + 2 * j) = some (adK j) ∧ ext (2 + 2 * j) = some (adV j) := by
    intro j hj
    constructor
    · show (if 1 + 2 * j = 0 then some b else if 1 + 2 * j = 1000 then sio else if (1 + 2 * j) % 2 = 1 then some (adK ((1 + 2 * j) / 2)) else some (adV ((1 + 2 * j) / 2 - 1))) = _
      rw [if_neg (by omega), if_neg (by omega), if_pos (by omega), show (1 + 2 * j) / 2 = j by omega]
    · show (if 2 + 2 * j = 0 then some b else if 2 + 2 * j = 1000 then sio else if (2 + 2 * j) % 2 = 1 then some (adK ((2 + 2 * j) / 2)) else some (adV ((2 + 2 * j) / 2 - 1))) = _
      rw [if_neg (by omega), if_neg (by omega), if_neg (by omega), show (2 + 2 * j) / 2 - 1 = j by omega]
  let gc : Nat → ClassId := fun k => if k = 0 then g0 else if k = 1 then g1 else if k = 2 then g2 else if k = 3 then g3 else g4
  refine ⟨((fun k => (fK k).1, fun k => (fK k).2), gc, ext), rfl, hx, hb, hml, hown, fun w hw => hts w (am_tb_in hw), ⟨fun k q hq => hfK k q hq, ?_⟩, fun h => absurd h (by decide +kernel), fun q h => h, ?_⟩
  · intro k q hq
    unfold am_tys at hq
    match k, hq with
    | 0, hq => cases hq; exact ⟨a0, f0⟩
    | 1, hq => cases hq; exact ⟨a1, f1⟩
    | 2, hq => cases hq; exact ⟨a2, f2⟩
    | 3, hq => cases hq; exact ⟨fun N z => ⟨(fun q hq => by cases hq), k3, q32, cm3, q33⟩, q34⟩
    | 4, hq => cases hq; exact ⟨fun N z => ⟨(fun q hq => by cases hq), k4, q42, cm4, q43⟩, k4, cm4, q42, q43, q41, q44⟩
    | k + 5, hq => simp at hq
  · refine ⟨fun w hw => va_Nw.of (am_n10 w hw).2 (hts _ (am_n10 w hw).1), fun k hk h4 => va_Nw.of rfl (hts _ (am_n11 k hk h4)), fun x hx k hk hne => ?_, va_AO.of (hts _ am_n14.1), hts _ am_n14.2, ⟨adK, adV, hvk, hext, fun q hq => ?_⟩, ⟨b, rfl, ?_⟩, va_Zof (hts _ am_n16.1) (hts _ am_n16.2.2.1) (va_eqi (hs _ am_n15.1)) hA, ?_⟩
    · split
      · rename_i hio
        exact va_Nw.of rfl (hts _ (am_n12 x hx k hk hne hio))
      · rename_i hio
        exact va_Nc.of (hs _ (am_n13 x hx k hk hne (fun h => hio h)))
    · obtain ⟨tx, htx⟩ := am_n8 q hq
      refine ⟨tx, vk_R.of (A := #[Value.ref b]) (hts _ htx) ?_⟩
      unfold am_srs at hq
      simp only [List.mem_cons, List.not_mem_nil, or_false] at hq
      rcases hq with rfl | rfl | rfl | rfl | rfl | rfl | rfl | rfl | rfl | rfl | rfl | rfl
      · exact hev 0 (by omega)
      · exact hev 1 (by omega)
      · exact hev 2 (by omega)
      · exact hev 3 (by omega)
      · exact hev 4 (by omega)
      · exact hev 5 (by omega)
      · exact hev 6 (by omega)
      · exact va_eqR (hs _ am_n9.1) (hev 4 (by omega))
      · exact va_eqR (hs _ am_n9.2) (hev 5 (by omega))
      · exact hev 7 (by omega)
      · exact hev 8 (by omega)
      · exact hev 9 (by omega)
    · obtain ⟨scr, x1, x2, x3, x4, x5⟩ := hX
      refine ⟨scr, x1, x2, x3, Nat.le_of_eq x4.symm, by rw [x4], fun j hj => ?_, Nat.not_le.mpr hbl⟩
      rw [x5 j hj]
      show some (Value.int (xs j)) = some (Value.int (Int32.ofInt (xs j).toInt))
      rw [Int32.ofInt_toInt]
    · have hz := va_Zof (v := va_rf sio) (hts _ am_n16.2.1) (hts _ am_n16.2.2.2) hsio hA
      exact hz
/-- the claim's start, out of one run of the small machine -/
theorem am_whole {p : Program} {e : Env} {s : State} {m : MethodId} {below : List Frame} {meth : Method} {c : Code} (l : Launch) {b L : Nat} {xs : Nat → Int32} (C0 : lw_At p s m meth c b L xs)
    (hrun : ∃ (n : Nat) (M' : am_M), am_run (L, fun j => (xs j).toInt) n 2000 0 0 [(0, .inr (.inr (.inr 0)))] [] am_M0 = some (some (.inl 1), M') ∧ M'.1.length ≤ 600000 ∧ am_sz M' ≤ 7302250) :
    W p l e room_1 s m #[Value.ref b] below meth c s.heap [] 0 0 (lw_Z below #[Value.ref b] s) (entryFrame m ([Value.ref b] : List Value).toArray 4) := by
  obtain ⟨n, M', hn, hm1, hm2⟩ := hrun
  obtain ⟨G, hG0, C⟩ := am_begin C0
  obtain ⟨hx, hb, hr, hml, hown, hts, hX, hbl, hlocks, hgv⟩ := C0
  obtain ⟨-, gr⟩ := am_good (l := l) (G := G) am_hLK n _ _ _ _ _ _ _ hn
  have hl := lv_entry ([.ref b]) (n := 4) (Nat.le_of_ble_eq_true rfl)
  rw [lg_entry_eq]
  generalize (lg_sl ([.ref b]) ++ List.replicate (4 - (lg_sl ([.ref b])).length) Slot.unset).toArray = ls at hl ⊢
  have hlv : am_lv G (fun _ => 0) [(0, .inr (.inr (.inr 0)))] = [(0, .ref b)] := by
    show [(0, va_rf (G.2.2 0))] = _
    rw [hG0]
    rfl
  refine gr p e room_1 s m #[Value.ref b] below meth c (fun q => s.heap.size ≤ q) _ (fun _ => 0) ls s.heap [] 0 0 0 0 C (by decide) (by decide) (by rw [hlv]; exact hl) (fun _ _ _ h => by cases h) (fun q hq r h => ?_) (fun v hv => by cases hv) ⟨fun k q h => by simp [am_ws, am_M0] at h, ⟨fun i j p q h => by simp [am_ws, am_M0] at h, fun k q h => by simp [am_ws, am_M0] at h⟩, va_S.rf⟩ rfl rfl hm1 hm2 ?_
  · simp at hq
    subst hq
    cases h
  · intro a' H' locs' cells' slots' pc' ls' hag u1 u2 hW hc hs hdec hok
    have e1 : am_sv G a' (some (Sum.inl 1 : am_V)).toList = [.int 1] := by
      show [Value.int (Int32.ofInt 1)] = [.int 1]
      rw [show Int32.ofInt 1 = 1 by decide +kernel]
    show W p l e room_1 s m #[Value.ref b] below meth c H' locs' cells' slots' (lw_Z below #[Value.ref b] s) (F0 m pc' ls' (am_sv G a' (some (Sum.inl 1 : am_V)).toList))
    rw [e1]
    dsimp only at hc hs
    refine va_forget (fun q hq => hW.2.2.2.2 q hq) ?_
    refine W.widen (k := 600000) (n := 7302250) (by omega) (by omega) ?_
    exact lw_ret hx hb hr hlocks hdec
