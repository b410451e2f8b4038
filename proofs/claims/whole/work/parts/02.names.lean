/-- arrays over arrays: the word, and its use (the printed names lean on it) -/
def va_AOA (ty : FieldType) (U : State) : Prop := (Cond.arrayOver (.array ty)).before #[] U = true
theorem va_AOA.use {ty : FieldType} {A : Array Value} {U : State} (h : va_AOA ty U) : (Cond.arrayOver (.array ty)).before A U = true := h
/-! ===== BEGIN words of one list among another's, by their places ===== -/
theorem goodIn_r {big : List Cond} (ws : List Cond) (ps : List Nat) (hp : ws = ps.filterMap (fun i => big[i]?)) (h : ws.all goodWord = true) : GoodIn big ws := by
  intro w hw
  have h1 := List.all_eq_true.mp h w hw
  rw [hp] at hw
  obtain ⟨i, -, hi⟩ := List.mem_filterMap.mp hw
  have hm : w ∈ big := by first | exact List.mem_of_getElem? hi | exact List.getElem?_mem hi
  exact ⟨hm, good_of_word h1⟩
theorem goodIn_app {big a b : List Cond} (ha : GoodIn big a) (hb : GoodIn big b) : GoodIn big (a ++ b) := fun w h => (List.mem_append.mp h).elim (ha w) (hb w)
theorem goodIn_ca {big a b : List Cond} {c : Cond} (ha : GoodIn big (c :: a)) (hb : GoodIn big b) : GoodIn big (c :: (a ++ b)) := fun w h => (List.mem_cons.mp h).elim (fun e => ha w (List.mem_cons.mpr (Or.inl e))) (fun h => (List.mem_append.mp h).elim (fun h => ha w (List.mem_cons.mpr (Or.inr h))) (hb w))
theorem goodIn_sub {big ws : List Cond} (hm : ∀ w ∈ ws, w ∈ big) (h : ws.all goodWord = true) : GoodIn big ws := fun w hw => ⟨hm w hw, good_of_word (List.all_eq_true.mp h w hw)⟩
/-! ===== END ===== -/

/-! ===== BEGIN new T[n][m]: the outer array a place, the inner ones among the pooled ===== -/
/-- f, but v at every address of l -/
def vr_up {α : Type} (f : Nat → α) (l : List Nat) (v : α) : Nat → α := fun a => if a ∈ l then v else f a
theorem vr_up_in {α : Type} {f : Nat → α} {l : List Nat} {v : α} {a : Nat} (h : a ∈ l) : vr_up f l v a = v := if_pos h
theorem vr_up_ne {α : Type} {f : Nat → α} {l : List Nat} {v : α} {a : Nat} (h : a ∉ l) : vr_up f l v a = f a := if_neg h
theorem vr_rows {L l : List Nat} {f : Nat → va_E} {e : va_E} (h : ∀ a, a ∈ l → a ∉ L) : va_pl L f ++ l.map (fun a => (a, e)) = va_pl (L ++ l) (vr_up f l e) := by
  unfold va_pl
  rw [List.map_append]
  congr 1
  · apply List.map_congr_left
    intro a ha
    rw [vr_up_ne (fun q => h a q ha)]
  · apply List.map_congr_left
    intro a ha
    rw [vr_up_in ha]
theorem vr_lay {X rows : va_W} {x : Nat × va_E} {pl : va_W} {D : va_G} {cl : List vw_C} {H : Heap} (hP : va_P D cl (((X ++ pl) ++ [x]) ++ rows) H) : va_P D cl ((X ++ [x]) ++ (pl ++ rows)) H := by
  rw [List.append_assoc (X ++ pl)] at hP
  have h := va_P.swap hP
  rw [← List.append_assoc X] at h
  have h2 := va_P.swap h
  rw [List.append_assoc (X ++ [x])] at h2
  exact h2
theorem vr_layD {X rows : va_W} {x : Nat × va_E} {pl : va_W} {A : Nat → Prop} (hD : va_D A (((X ++ pl) ++ [x]) ++ rows)) : va_D A ((X ++ [x]) ++ (pl ++ rows)) := by
  rw [List.append_assoc (X ++ pl)] at hD
  have h := va_D.swap hD
  rw [← List.append_assoc X] at h
  have h2 := va_D.swap h
  rw [List.append_assoc (X ++ [x])] at h2
  exact h2
theorem vr_outer (c : ClassId) (N h0 : Nat) : ∀ i : Nat, Jvm.Free.Multi.outerC c N h0 i = arrV c N (fun j => va_rf (if j < i then some (h0 + 1 + j) else none))
  | 0 => by
    show ({ cls := c, slots := Array.replicate N .null, vm := .none } : Cell) = _
    rw [arrV_new]
    refine congrArg (arrV c N) (funext fun j => ?_)
    simp [va_rf]
  | i + 1 => by
    show (Jvm.Free.Multi.outerC c N h0 i).setSlot i (.ref (h0 + 1 + i)) = _
    rw [vr_outer c N h0 i, arrV_store]
    refine congrArg (arrV c N) (funext fun j => ?_)
    by_cases e : j = i
    · subst e
      simp [updV, va_rf]
    · by_cases h : j < i
      · simp [updV, e, h, Nat.lt_succ_of_lt h]
      · simp [updV, e, h, show ¬ j < i + 1 by omega]
section VGM
variable {p : Program} {l : Launch} {e : Env} {R : Room} {s : State} {m : MethodId} {args : Array Value} {below : List Frame} {meth : Method} {c : Code} {H : Heap} {locs : List Loc} {cells slots : Nat} {Q : State → Prop}
variable {cc : ByteArray} {pc : Nat} {ls : Array Slot} {rest : List Value} {D : va_G} {cl : List vw_C} {A : Nat → Prop} {a : Nat} {tys : List (ClassId × FieldType)} {ws : va_W} {H0 : Heap}
theorem va_mna {X : va_W} {L : List Nat} {f : Nat → va_E} {cc : ByteArray} (hexec : p.tables.exec = Jvm.exec) (hb : c.code = cc) {own : String} {index : Nat} {ty : FieldType} {cy : ClassId} (hown : s.vm.findClass own = some m.cls) (hclink : (Cond.classLink own index ("[" ++ (FieldType.array ty).toString)).before args s = true) (hover : va_AOA ty s) (harr : (Cond.arrayClass ty).before args s = true) (hcy : s.vm.findClass (FieldType.array ty).toString = some cy)
    (hK : va_K D cl tys s) (hP : va_P D cl (X ++ va_pl L f) H) (hD : va_D A (X ++ va_pl L f)) (hS : va_S A H0 H locs) (hA : ∀ q, H0.size ≤ q → A q) {n k : Int32} {N' K' : Nat} {z : vp_A} (hn : ¬ n < 0) (hk : ¬ k < 0) (hN : n.toNatClampNeg = N') (hM : k.toNatClampNeg = K')
    (hb1 : N' * 4 ≤ 536870912) (hb2 : K' * componentBytes ty ≤ 536870912) (hb3 : K' ≤ 536870912) (hdf : fits ty (defaultValue ty) = true) (hdd : (defaultValue ty).isDefault = true) (hcells : cells + (1 + N') ≤ R.cells) (hslots : slots + (N' + N' * K') ≤ R.slots) (hz : ∀ c : ClassId, Jvm.Free.Multi.innerC c K' (defaultValue ty) = vp_cell c z) (hdg : decode cc pc = .ok (.multianewarray index 2, 4))
    (kk : ∀ (q : Nat) (r : Nat → Nat) (cA : ClassId) (H1 : Heap), (∀ i j : Nat, i < N' → j < N' → r i = r j → i = j) → (∀ i : Nat, i < N' → r i ∉ L) → va_K D cl (tys ++ [(cA, .array ty)]) s →
      va_P D cl ((X ++ [(q, .inl (cA, N', .inr (.inr (.inr (.inr (fun i => if i < N' then some (r i) else none))))))]) ++ va_pl (L ++ (List.range N').map r) (vr_up f ((List.range N').map r) (.inl (cy, z)))) H1 → va_D A ((X ++ [(q, .inl (cA, N', .inr (.inr (.inr (.inr (fun i => if i < N' then some (r i) else none))))))]) ++ va_pl (L ++ (List.range N').map r) (vr_up f ((List.range N').map r) (.inl (cy, z)))) → va_S A H0 H1 locs →
      W p l e R s m args below meth c H1 locs (cells + 1 + N') (slots + N' + N' * K') Q (F0 m (pc + 4) ls (.ref q :: rest))) : W p l e R s m args below meth c H locs cells slots Q (F0 m pc ls (.int k :: .int n :: rest)) := by
  subst hN
  subst hM
  intro T hT Xs
  obtain ⟨vm₁, cA, comp, -, fA, fC, hO, -, X', step⟩ := Xs.multianewarray2F hexec hown hclink (va_AOA.use hover) harr (g := F0 m pc ls (.int k :: .int n :: rest)) rfl (by rw [hb]; exact hdg) rfl hn hk hb1 hb2 hb3 hdf hdd hcells hslots
  have ec : some cy = some comp := hcy.symm.trans fC
  cases ec
  generalize hF : Jvm.Free.Multi.fill (T.setVm vm₁) cA cy n.toNatClampNeg k.toNatClampNeg (defaultValue ty) n.toNatClampNeg = F at X' step
  have hTh : (T.setVm vm₁).heap = H := hT
  obtain ⟨f1, f2, -, -⟩ := Jvm.Free.Multi.fill_facts (T.setVm vm₁) cA cy n.toNatClampNeg k.toNatClampNeg (defaultValue ty) n.toNatClampNeg
  rw [hF, hTh] at f1 f2
  have hold : ∀ x : Nat, x < H.size → F.heap[x]? = H[x]? := fun x hx => by
    have := Jvm.Free.Multi.fill_old (T.setVm vm₁) cA cy n.toNatClampNeg k.toNatClampNeg (defaultValue ty) (a := x) (by rw [hTh]; exact hx) n.toNatClampNeg
    rw [hF, hTh] at this
    exact this
  have hrow : ∀ j : Nat, j < n.toNatClampNeg → F.heap[H.size + 1 + j]? = some (vp_cell cy z) := fun j hj => by
    have := Jvm.Free.Multi.fill_inner (T.setVm vm₁) cA cy n.toNatClampNeg k.toNatClampNeg (defaultValue ty) n.toNatClampNeg j hj
    rw [hF, hTh, hz] at this
    exact this
  have hout : Jvm.Free.Multi.outerC cA n.toNatClampNeg H.size n.toNatClampNeg = vp_cell cA (n.toNatClampNeg, .inr (.inr (.inr (.inr (fun i => if i < n.toNatClampNeg then some (H.size + 1 + i) else none))))) := by
    rw [vp_cell_q]
    exact vr_outer cA n.toNatClampNeg H.size n.toNatClampNeg
  rw [hout] at f2
  have hlt : ∀ a, a ∈ L → a < H.size := fun a ha => by
    obtain ⟨k9, hk9⟩ := va_pl_get (X := X) (f := f) ha
    exact (hP k9 _ hk9).lt
  have hnl : ∀ i : Nat, i < n.toNatClampNeg → H.size + 1 + i ∉ L := fun i _ h => by
    have := hlt _ h
    omega
  have hnm : ∀ a, a ∈ (List.range n.toNatClampNeg).map (fun i => H.size + 1 + i) → a ∉ L := fun a ha h => by
    obtain ⟨i, -, rfl⟩ := List.mem_map.mp ha
    have := hlt _ h
    omega
  have hP0 : va_P D cl (X ++ va_pl L f) F.heap := hP.kept (fun k9 x hx => hold x.1 ((hP k9 x hx).lt))
  have hP1 : va_P D cl ((X ++ va_pl L f) ++ [(H.size, .inl (cA, n.toNatClampNeg, .inr (.inr (.inr (.inr (fun i => if i < n.toNatClampNeg then some (H.size + 1 + i) else none))))))]) F.heap := hP0.app (fun k9 x hx => by
    have h0 : k9 < 1 := (List.getElem?_eq_some_iff.mp hx).1
    rw [show k9 = 0 by omega] at hx
    cases hx
    exact f2)
  have hP2 : va_P D cl (((X ++ va_pl L f) ++ [(H.size, .inl (cA, n.toNatClampNeg, .inr (.inr (.inr (.inr (fun i => if i < n.toNatClampNeg then some (H.size + 1 + i) else none))))))]) ++ ((List.range n.toNatClampNeg).map (fun i => H.size + 1 + i)).map (fun a => (a, .inl (cy, z)))) F.heap := hP1.app (fun k9 x hx => by
    obtain ⟨a, ha, rfl⟩ := List.mem_map.mp (List.mem_of_getElem? hx)
    obtain ⟨i, hi, rfl⟩ := List.mem_map.mp ha
    exact hrow i (List.mem_range.mp hi))
  have hD2 : va_D A (((X ++ va_pl L f) ++ [(H.size, .inl (cA, n.toNatClampNeg, .inr (.inr (.inr (.inr (fun i => if i < n.toNatClampNeg then some (H.size + 1 + i) else none))))))]) ++ ((List.range n.toNatClampNeg).map (fun i => H.size + 1 + i)).map (fun a => (a, .inl (cy, z)))) := by
    have hD1 := hD.push (e := .inl (cA, n.toNatClampNeg, .inr (.inr (.inr (.inr (fun i => if i < n.toNatClampNeg then some (H.size + 1 + i) else none)))))) hP rfl (hA _ hS.1)
    generalize hW1 : (X ++ va_pl L f) ++ [(H.size, .inl (cA, n.toNatClampNeg, .inr (.inr (.inr (.inr (fun i => if i < n.toNatClampNeg then some (H.size + 1 + i) else none))))))] = W1 at hD1 hP1 ⊢
    have hle : ∀ (k9 : Nat) (x : Nat × va_E), W1[k9]? = some x → x.1 ≤ H.size := fun k9 x hx => by
      rw [← hW1] at hx
      by_cases hl : k9 < (X ++ va_pl L f).length
      · rw [List.getElem?_append_left hl] at hx
        exact Nat.le_of_lt ((hP k9 x hx).lt)
      · rw [List.getElem?_append_right (by omega)] at hx
        have h0 : k9 - (X ++ va_pl L f).length < 1 := (List.getElem?_eq_some_iff.mp hx).1
        rw [show k9 - (X ++ va_pl L f).length = 0 by omega] at hx
        cases hx
        exact Nat.le_refl _
    have hr : ∀ (k9 : Nat) (x : Nat × va_E), (((List.range n.toNatClampNeg).map (fun i => H.size + 1 + i)).map (fun a => ((a, .inl (cy, z)) : Nat × va_E)))[k9]? = some x → x.1 = H.size + 1 + k9 := fun k9 x hx => by
      rw [List.getElem?_map, List.getElem?_map] at hx
      by_cases h9 : k9 < n.toNatClampNeg
      · rw [List.getElem?_range h9] at hx
        cases hx
        rfl
      · have hn0 : (List.range n.toNatClampNeg)[k9]? = none := List.getElem?_eq_none (by rw [List.length_range]; omega)
        rw [hn0] at hx
        cases hx
    refine ⟨fun i j x y hi hj hxy => ?_, fun k9 x hx => ?_⟩
    · by_cases h1 : i < W1.length <;> by_cases h2 : j < W1.length
      · rw [List.getElem?_append_left h1] at hi
        rw [List.getElem?_append_left h2] at hj
        exact hD1.1 i j x y hi hj hxy
      · rw [List.getElem?_append_left h1] at hi
        rw [List.getElem?_append_right (by omega)] at hj
        have := hle _ _ hi
        have := hr _ _ hj
        omega
      · rw [List.getElem?_append_right (by omega)] at hi
        rw [List.getElem?_append_left h2] at hj
        have := hle _ _ hj
        have := hr _ _ hi
        omega
      · rw [List.getElem?_append_right (by omega)] at hi hj
        have := hr _ _ hi
        have := hr _ _ hj
        omega
    · by_cases h1 : k9 < W1.length
      · rw [List.getElem?_append_left h1] at hx
        exact hD1.2 k9 x hx
      · rw [List.getElem?_append_right (by omega)] at hx
        have := hr _ _ hx
        exact hA _ (by have := hS.1; omega)
  have hAr : ArrOfT s cA (.array ty) := fun N9 z9 => by
    obtain ⟨-, k9, hk9, cm9, hkk9⟩ := (hO 0 0 0).1
    exact ⟨(fun q hq => by cases hq), k9, hk9, cm9, hkk9⟩
  have hK2 : va_K D cl (tys ++ [(cA, .array ty)]) s := ⟨hK.1, fun k9 x hx => by
    by_cases hl : k9 < tys.length
    · rw [List.getElem?_append_left hl] at hx
      exact hK.2 k9 x hx
    · rw [List.getElem?_append_right (by omega)] at hx
      have h0 : k9 - tys.length < 1 := (List.getElem?_eq_some_iff.mp hx).1
      rw [show k9 - tys.length = 0 by omega] at hx
      cases hx
      exact ⟨hAr, fA⟩⟩
  obtain ⟨t, a1, b1⟩ := kk H.size (fun i => H.size + 1 + i) cA F.heap (fun i j _ _ h => by have h9 : H.size + 1 + i = H.size + 1 + j := h; omega) hnl hK2 (by rw [← vr_rows hnm]; exact vr_lay hP2) (by rw [← vr_rows hnm]; exact vr_layD hD2) ⟨by rw [f1]; have := hS.1; omega, fun x h1 h2 => (hold x (Nat.lt_of_lt_of_le h1 hS.1)).trans (hS.2.1 x h1 h2), hS.2.2⟩ F rfl X'
  refine ⟨t, step t ?_, b1⟩
  have e : T.heap.size = H.size := by rw [hT]
  rw [e]
  exact a1
end VGM
/-! ===== END ===== -/

/-! ===== BEGIN printed: names, fields, word lists, decode rows ===== -/
def RX0 : String := "ClubReads$Away"
def TX0 : u_T := fun k => match k with
  | 0 => ("ClubReads$Member", "kind", "I", true)
  | 1 => ("ClubReads$Member", "number", "I", true)
  | _ => ("ClubReads$Member", "v", "I", true)
def tyX0 : Nat → FieldType := fun k => match k with
  | 0 => .int
  | 1 => .int
  | _ => .int
abbrev wsX00 : List Cond := u_ws RX0 TX0 3
theorem nmX0 : ∀ a, a < 3 → ∀ b, b < 3 → a ≠ b → (TX0 a).2.1 ≠ (TX0 b).2.1 := by decide +kernel
theorem tyX0_ok : ∀ k, k < 3 → parseFieldDescriptor (TX0 k).2.2.1 = some (tyX0 k) := by decide +kernel
abbrev cX0_init : ByteArray := prog_2_method_1_code
def yX0_init : MethodName := ⟨RX0, "<init>", "(III)V"⟩
abbrev cX0_oddsOf : ByteArray := prog_2_method_2_code
def yX0_oddsOf : MethodName := ⟨RX0, "oddsOf", "(I)I"⟩
abbrev cX0_staysAway : ByteArray := prog_2_method_3_code
def yX0_staysAway : MethodName := ⟨RX0, "staysAway", "(I)Z"⟩
abbrev cX0_readOn : ByteArray := prog_2_method_4_code
def yX0_readOn : MethodName := ⟨RX0, "readOn", "(I[I)I"⟩
def RX1 : String := "ClubReads$Club"
def TX1 : u_T := fun k => match k with
  | 0 => ("ClubReads$Club", "come", "I", false)
  | 1 => ("ClubReads$Club", "place", "I", false)
  | 2 => ("ClubReads$Club", "clauseCount", "I", false)
  | 3 => ("ClubReads$Club", "codeCount", "I", false)
  | 4 => ("ClubReads$Club", "words", "[I", true)
  | 5 => ("ClubReads$Club", "numbers", "[I", true)
  | 6 => ("ClubReads$Club", "ends", "[I", true)
  | 7 => ("ClubReads$Club", "codes", "[I", true)
  | 8 => ("ClubReads$Club", "text", "[I", false)
  | _ => ("ClubReads$Club", "size", "I", false)
def tyX1 : Nat → FieldType := fun k => match k with
  | 0 => .int
  | 1 => .int
  | 2 => .int
  | 3 => .int
  | 4 => .array .int
  | 5 => .array .int
  | 6 => .array .int
  | 7 => .array .int
  | 8 => .array .int
  | _ => .int
abbrev wsX10 : List Cond := u_ws RX1 TX1 10
theorem nmX1 : ∀ a, a < 10 → ∀ b, b < 10 → a ≠ b → (TX1 a).2.1 ≠ (TX1 b).2.1 := by decide +kernel
theorem tyX1_ok : ∀ k, k < 10 → parseFieldDescriptor (TX1 k).2.2.1 = some (tyX1 k) := by decide +kernel
abbrev cX1_init : ByteArray := prog_3_method_1_code
def yX1_init : MethodName := ⟨RX1, "<init>", "()V"⟩
abbrev cX1_parse : ByteArray := prog_3_method_2_code
def yX1_parse : MethodName := ⟨RX1, "parse", "([II)Z"⟩
abbrev cX1_peek : ByteArray := prog_3_method_3_code
def yX1_peek : MethodName := ⟨RX1, "peek", "()I"⟩
abbrev cX1_take : ByteArray := prog_3_method_4_code
def yX1_take : MethodName := ⟨RX1, "take", "(I)Z"⟩
abbrev cX1_takeAll : ByteArray := prog_3_method_5_code
def yX1_takeAll : MethodName := ⟨RX1, "takeAll", "(Ljava/lang/String;)Z"⟩
abbrev cX1_parseClause : ByteArray := prog_3_method_6_code
def yX1_parseClause : MethodName := ⟨RX1, "parseClause", "(I)Z"⟩
abbrev cX1_parseWord : ByteArray := prog_3_method_7_code
def yX1_parseWord : MethodName := ⟨RX1, "parseWord", "()I"⟩
abbrev cX1_parseNumber : ByteArray := prog_3_method_8_code
def yX1_parseNumber : MethodName := ⟨RX1, "parseNumber", "()I"⟩
abbrev cX1_parseAny : ByteArray := prog_3_method_9_code
def yX1_parseAny : MethodName := ⟨RX1, "parseAny", "(I)Z"⟩
abbrev cX1_parseOne : ByteArray := prog_3_method_10_code
def yX1_parseOne : MethodName := ⟨RX1, "parseOne", "(I)Z"⟩
abbrev cX1_parseTest : ByteArray := prog_3_method_11_code
def yX1_parseTest : MethodName := ⟨RX1, "parseTest", "()Z"⟩
abbrev cX1_parseSign : ByteArray := prog_3_method_12_code
def yX1_parseSign : MethodName := ⟨RX1, "parseSign", "(Ljava/lang/String;)I"⟩
abbrev cX1_put : ByteArray := prog_3_method_13_code
def yX1_put : MethodName := ⟨RX1, "put", "(I)V"⟩
abbrev cX1_sum : ByteArray := prog_3_method_14_code
def yX1_sum : MethodName := ⟨RX1, "sum", "(I[I)I"⟩
abbrev cX1_holds : ByteArray := prog_3_method_15_code
def yX1_holds : MethodName := ⟨RX1, "holds", "(II[I)Z"⟩
abbrev cX1_testHolds : ByteArray := prog_3_method_16_code
def yX1_testHolds : MethodName := ⟨RX1, "testHolds", "(I[I)Z"⟩
def RX2 : String := "ClubReads$Following"
def TX2 : u_T := fun k => match k with
  | 0 => ("ClubReads$Member", "kind", "I", true)
  | 1 => ("ClubReads$Member", "number", "I", true)
  | _ => ("ClubReads$Member", "v", "I", true)
def tyX2 : Nat → FieldType := fun k => match k with
  | 0 => .int
  | 1 => .int
  | _ => .int
abbrev wsX20 : List Cond := u_ws RX2 TX2 3
theorem nmX2 : ∀ a, a < 3 → ∀ b, b < 3 → a ≠ b → (TX2 a).2.1 ≠ (TX2 b).2.1 := by decide +kernel
theorem tyX2_ok : ∀ k, k < 3 → parseFieldDescriptor (TX2 k).2.2.1 = some (tyX2 k) := by decide +kernel
abbrev cX2_init : ByteArray := prog_4_method_1_code
def yX2_init : MethodName := ⟨RX2, "<init>", "(III)V"⟩
abbrev cX2_say : ByteArray := prog_4_method_2_code
def yX2_say : MethodName := ⟨RX2, "say", "(LClubReads$Votes;[I)V"⟩
abbrev cX2_talk : ByteArray := prog_4_method_3_code
def yX2_talk : MethodName := ⟨RX2, "talk", "(I[I)I"⟩
def RX3 : String := "ClubReads$Hall"
def TX3 : u_T := fun k => match k with
  | 0 => ("ClubReads$Hall", "roll", "LClubReads$Roll;", true)
  | 1 => ("ClubReads$Hall", "members", "[LClubReads$Member;", true)
  | 2 => ("ClubReads$Hall", "memberCount", "I", false)
  | 3 => ("ClubReads$Hall", "books", "[[I", true)
  | 4 => ("ClubReads$Hall", "bookCount", "I", false)
  | 5 => ("ClubReads$Hall", "club", "LClubReads$Club;", false)
  | 6 => ("ClubReads$Hall", "clubCount", "I", false)
  | 7 => ("ClubReads$Hall", "tape", "[I", true)
  | 8 => ("ClubReads$Hall", "tapeSize", "I", false)
  | 9 => ("ClubReads$Hall", "hands", "[I", true)
  | 10 => ("ClubReads$Hall", "handCount", "I", false)
  | 11 => ("ClubReads$Hall", "likes", "[[I", true)
  | 12 => ("ClubReads$Hall", "odds", "[[I", true)
  | _ => ("ClubReads$Hall", "facts", "[I", true)
def tyX3 : Nat → FieldType := fun k => match k with
  | 0 => .object "ClubReads$Roll"
  | 1 => .array (.object "ClubReads$Member")
  | 2 => .int
  | 3 => .array (.array .int)
  | 4 => .int
  | 5 => .object "ClubReads$Club"
  | 6 => .int
  | 7 => .array .int
  | 8 => .int
  | 9 => .array .int
  | 10 => .int
  | 11 => .array (.array .int)
  | 12 => .array (.array .int)
  | _ => .array .int
abbrev wsX30 : List Cond := u_ws RX3 TX3 14
theorem nmX3 : ∀ a, a < 14 → ∀ b, b < 14 → a ≠ b → (TX3 a).2.1 ≠ (TX3 b).2.1 := by decide +kernel
theorem tyX3_ok : ∀ k, k < 14 → parseFieldDescriptor (TX3 k).2.2.1 = some (tyX3 k) := by decide +kernel
abbrev cX3_init : ByteArray := prog_5_method_1_code
def yX3_init : MethodName := ⟨RX3, "<init>", "()V"⟩
abbrev cX3_copyFrom : ByteArray := prog_5_method_2_code
def yX3_copyFrom : MethodName := ⟨RX3, "copyFrom", "(LClubReads$Hall;)V"⟩
abbrev cX3_addMember : ByteArray := prog_5_method_3_code
def yX3_addMember : MethodName := ⟨RX3, "addMember", "(LClubReads$Member;)V"⟩
abbrev cX3_addBook : ByteArray := prog_5_method_4_code
def yX3_addBook : MethodName := ⟨RX3, "addBook", "(IIII)V"⟩
abbrev cX3_measureAll : ByteArray := prog_5_method_5_code
def yX3_measureAll : MethodName := ⟨RX3, "measureAll", "()V"⟩
abbrev cX3_measure : ByteArray := prog_5_method_6_code
def yX3_measure : MethodName := ⟨RX3, "measure", "(II)V"⟩
abbrev cX3_attends : ByteArray := prog_5_method_7_code
def yX3_attends : MethodName := ⟨RX3, "attends", "(III)Z"⟩
abbrev cX3_putForward : ByteArray := prog_5_method_8_code
def yX3_putForward : MethodName := ⟨RX3, "putForward", "(LClubReads$Roll;)I"⟩
def RX4 : String := "ClubReads$Member"
def TX4 : u_T := fun k => match k with
  | 0 => ("ClubReads$Member", "kind", "I", true)
  | 1 => ("ClubReads$Member", "number", "I", true)
  | _ => ("ClubReads$Member", "v", "I", true)
def tyX4 : Nat → FieldType := fun k => match k with
  | 0 => .int
  | 1 => .int
  | _ => .int
abbrev wsX40 : List Cond := u_ws RX4 TX4 3
theorem nmX4 : ∀ a, a < 3 → ∀ b, b < 3 → a ≠ b → (TX4 a).2.1 ≠ (TX4 b).2.1 := by decide +kernel
theorem tyX4_ok : ∀ k, k < 3 → parseFieldDescriptor (TX4 k).2.2.1 = some (tyX4 k) := by decide +kernel
abbrev cX4_init : ByteArray := prog_6_method_1_code
def yX4_init : MethodName := ⟨RX4, "<init>", "(III)V"⟩
abbrev cX4_isOfKind : ByteArray := prog_6_method_2_code
def yX4_isOfKind : MethodName := ⟨RX4, "isOfKind", "(I)Z"⟩
abbrev cX4_extraLike : ByteArray := prog_6_method_3_code
def yX4_extraLike : MethodName := ⟨RX4, "extraLike", "(ZI)I"⟩
abbrev cX4_oddsOf : ByteArray := prog_6_method_4_code
def yX4_oddsOf : MethodName := ⟨RX4, "oddsOf", "(I)I"⟩
abbrev cX4_staysAway : ByteArray := prog_6_method_5_code
def yX4_staysAway : MethodName := ⟨RX4, "staysAway", "(I)Z"⟩
abbrev cX4_say : ByteArray := prog_6_method_6_code
def yX4_say : MethodName := ⟨RX4, "say", "(LClubReads$Votes;[I)V"⟩
abbrev cX4_wish : ByteArray := prog_6_method_7_code
def yX4_wish : MethodName := ⟨RX4, "wish", "(I[I)I"⟩
abbrev cX4_readOn : ByteArray := prog_6_method_8_code
def yX4_readOn : MethodName := ⟨RX4, "readOn", "(I[I)I"⟩
abbrev cX4_talk : ByteArray := prog_6_method_9_code
def yX4_talk : MethodName := ⟨RX4, "talk", "(I[I)I"⟩
abbrev cX4_begin : ByteArray := prog_6_method_10_code
def yX4_begin : MethodName := ⟨RX4, "begin", "(I[I)V"⟩
def RX5 : String := "ClubReads$Paying"
def TX5 : u_T := fun k => match k with
  | 0 => ("ClubReads$Member", "kind", "I", true)
  | 1 => ("ClubReads$Member", "number", "I", true)
  | _ => ("ClubReads$Member", "v", "I", true)
def tyX5 : Nat → FieldType := fun k => match k with
  | 0 => .int
  | 1 => .int
  | _ => .int
abbrev wsX50 : List Cond := u_ws RX5 TX5 3
theorem nmX5 : ∀ a, a < 3 → ∀ b, b < 3 → a ≠ b → (TX5 a).2.1 ≠ (TX5 b).2.1 := by decide +kernel
theorem tyX5_ok : ∀ k, k < 3 → parseFieldDescriptor (TX5 k).2.2.1 = some (tyX5 k) := by decide +kernel
abbrev cX5_init : ByteArray := prog_7_method_1_code
def yX5_init : MethodName := ⟨RX5, "<init>", "(III)V"⟩
abbrev cX5_say : ByteArray := prog_7_method_2_code
def yX5_say : MethodName := ⟨RX5, "say", "(LClubReads$Votes;[I)V"⟩
abbrev cX5_wish : ByteArray := prog_7_method_3_code
def yX5_wish : MethodName := ⟨RX5, "wish", "(I[I)I"⟩
def RX6 : String := "ClubReads$Proud"
def TX6 : u_T := fun k => match k with
  | 0 => ("ClubReads$Member", "kind", "I", true)
  | 1 => ("ClubReads$Member", "number", "I", true)
  | _ => ("ClubReads$Member", "v", "I", true)
def tyX6 : Nat → FieldType := fun k => match k with
  | 0 => .int
  | 1 => .int
  | _ => .int
abbrev wsX60 : List Cond := u_ws RX6 TX6 3
theorem nmX6 : ∀ a, a < 3 → ∀ b, b < 3 → a ≠ b → (TX6 a).2.1 ≠ (TX6 b).2.1 := by decide +kernel
theorem tyX6_ok : ∀ k, k < 3 → parseFieldDescriptor (TX6 k).2.2.1 = some (tyX6 k) := by decide +kernel
abbrev cX6_init : ByteArray := prog_8_method_1_code
def yX6_init : MethodName := ⟨RX6, "<init>", "(III)V"⟩
abbrev cX6_extraLike : ByteArray := prog_8_method_2_code
def yX6_extraLike : MethodName := ⟨RX6, "extraLike", "(ZI)I"⟩
abbrev cX6_readOn : ByteArray := prog_8_method_3_code
def yX6_readOn : MethodName := ⟨RX6, "readOn", "(I[I)I"⟩
def RX7 : String := "ClubReads$Roll"
def TX7 : u_T := fun k => match k with
  | 0 => ("ClubReads$Roll", "month", "I", false)
  | 1 => ("ClubReads$Roll", "here", "I", false)
  | 2 => ("ClubReads$Roll", "had", "I", false)
  | _ => ("ClubReads$Roll", "glad", "[I", true)
def tyX7 : Nat → FieldType := fun k => match k with
  | 0 => .int
  | 1 => .int
  | 2 => .int
  | _ => .array .int
abbrev wsX70 : List Cond := u_ws RX7 TX7 4
theorem nmX7 : ∀ a, a < 4 → ∀ b, b < 4 → a ≠ b → (TX7 a).2.1 ≠ (TX7 b).2.1 := by decide +kernel
theorem tyX7_ok : ∀ k, k < 4 → parseFieldDescriptor (TX7 k).2.2.1 = some (tyX7 k) := by decide +kernel
abbrev cX7_init : ByteArray := prog_9_method_1_code
def yX7_init : MethodName := ⟨RX7, "<init>", "()V"⟩
abbrev cX7_copyFrom : ByteArray := prog_9_method_2_code
def yX7_copyFrom : MethodName := ⟨RX7, "copyFrom", "(LClubReads$Roll;)V"⟩
abbrev cX7_isHere : ByteArray := prog_9_method_3_code
def yX7_isHere : MethodName := ⟨RX7, "isHere", "(I)Z"⟩
abbrev cX7_isHad : ByteArray := prog_9_method_4_code
def yX7_isHad : MethodName := ⟨RX7, "isHad", "(I)Z"⟩
abbrev cX7_setHad : ByteArray := prog_9_method_5_code
def yX7_setHad : MethodName := ⟨RX7, "setHad", "(IZ)V"⟩
abbrev cX7_enter : ByteArray := prog_9_method_6_code
def yX7_enter : MethodName := ⟨RX7, "enter", "(I)V"⟩
abbrev cX7_passMonth : ByteArray := prog_9_method_7_code
def yX7_passMonth : MethodName := ⟨RX7, "passMonth", "(LClubReads$Hall;I)I"⟩
abbrev cX7_countHere : ByteArray := prog_9_method_8_code
def yX7_countHere : MethodName := ⟨RX7, "countHere", "()I"⟩
abbrev cX7_sumGlad : ByteArray := prog_9_method_9_code
def yX7_sumGlad : MethodName := ⟨RX7, "sumGlad", "()I"⟩
abbrev cX7_isBetter : ByteArray := prog_9_method_10_code
def yX7_isBetter : MethodName := ⟨RX7, "isBetter", "(II)Z"⟩
def RX8 : String := "ClubReads$ShortLiking"
def TX8 : u_T := fun k => match k with
  | 0 => ("ClubReads$Member", "kind", "I", true)
  | 1 => ("ClubReads$Member", "number", "I", true)
  | _ => ("ClubReads$Member", "v", "I", true)
def tyX8 : Nat → FieldType := fun k => match k with
  | 0 => .int
  | 1 => .int
  | _ => .int
abbrev wsX80 : List Cond := u_ws RX8 TX8 3
theorem nmX8 : ∀ a, a < 3 → ∀ b, b < 3 → a ≠ b → (TX8 a).2.1 ≠ (TX8 b).2.1 := by decide +kernel
theorem tyX8_ok : ∀ k, k < 3 → parseFieldDescriptor (TX8 k).2.2.1 = some (tyX8 k) := by decide +kernel
abbrev cX8_init : ByteArray := prog_10_method_1_code
def yX8_init : MethodName := ⟨RX8, "<init>", "(III)V"⟩
abbrev cX8_extraLike : ByteArray := prog_10_method_2_code
def yX8_extraLike : MethodName := ⟨RX8, "extraLike", "(ZI)I"⟩
abbrev cX8_talk : ByteArray := prog_10_method_3_code
def yX8_talk : MethodName := ⟨RX8, "talk", "(I[I)I"⟩
def RX9 : String := "ClubReads$Striking"
def TX9 : u_T := fun k => match k with
  | 0 => ("ClubReads$Member", "kind", "I", true)
  | 1 => ("ClubReads$Member", "number", "I", true)
  | _ => ("ClubReads$Member", "v", "I", true)
def tyX9 : Nat → FieldType := fun k => match k with
  | 0 => .int
  | 1 => .int
  | _ => .int
abbrev wsX90 : List Cond := u_ws RX9 TX9 3
theorem nmX9 : ∀ a, a < 3 → ∀ b, b < 3 → a ≠ b → (TX9 a).2.1 ≠ (TX9 b).2.1 := by decide +kernel
theorem tyX9_ok : ∀ k, k < 3 → parseFieldDescriptor (TX9 k).2.2.1 = some (tyX9 k) := by decide +kernel
abbrev cX9_init : ByteArray := prog_11_method_1_code
def yX9_init : MethodName := ⟨RX9, "<init>", "(III)V"⟩
abbrev cX9_say : ByteArray := prog_11_method_2_code
def yX9_say : MethodName := ⟨RX9, "say", "(LClubReads$Votes;[I)V"⟩
abbrev cX9_wish : ByteArray := prog_11_method_3_code
def yX9_wish : MethodName := ⟨RX9, "wish", "(I[I)I"⟩
def RX10 : String := "ClubReads$Votes"
def TX10 : u_T := fun k => match k with
  | 0 => ("ClubReads$Votes", "hall", "LClubReads$Hall;", true)
  | 1 => ("ClubReads$Votes", "roll", "LClubReads$Roll;", false)
  | 2 => ("ClubReads$Votes", "open", "[I", true)
  | 3 => ("ClubReads$Votes", "openCount", "I", false)
  | 4 => ("ClubReads$Votes", "orders", "[[I", true)
  | 5 => ("ClubReads$Votes", "said", "[[I", true)
  | 6 => ("ClubReads$Votes", "speakers", "I", false)
  | 7 => ("ClubReads$Votes", "favourite", "I", false)
  | 8 => ("ClubReads$Votes", "hands", "[I", true)
  | 9 => ("ClubReads$Votes", "points", "[I", true)
  | 10 => ("ClubReads$Votes", "firsts", "[I", true)
  | 11 => ("ClubReads$Votes", "leads", "[[I", true)
  | 12 => ("ClubReads$Votes", "tried", "[I", true)
  | _ => ("ClubReads$Votes", "saidBefore", "[I", true)
def tyX10 : Nat → FieldType := fun k => match k with
  | 0 => .object "ClubReads$Hall"
  | 1 => .object "ClubReads$Roll"
  | 2 => .array .int
  | 3 => .int
  | 4 => .array (.array .int)
  | 5 => .array (.array .int)
  | 6 => .int
  | 7 => .int
  | 8 => .array .int
  | 9 => .array .int
  | 10 => .array .int
  | 11 => .array (.array .int)
  | 12 => .array .int
  | _ => .array .int
abbrev wsX100 : List Cond := u_ws RX10 TX10 14
theorem nmX10 : ∀ a, a < 14 → ∀ b, b < 14 → a ≠ b → (TX10 a).2.1 ≠ (TX10 b).2.1 := by decide +kernel
theorem tyX10_ok : ∀ k, k < 14 → parseFieldDescriptor (TX10 k).2.2.1 = some (tyX10 k) := by decide +kernel
abbrev cX10_init : ByteArray := prog_12_method_1_code
def yX10_init : MethodName := ⟨RX10, "<init>", "()V"⟩
abbrev cX10_collect : ByteArray := prog_12_method_2_code
def yX10_collect : MethodName := ⟨RX10, "collect", "(LClubReads$Roll;)V"⟩
abbrev cX10_speakTrue : ByteArray := prog_12_method_3_code
def yX10_speakTrue : MethodName := ⟨RX10, "speakTrue", "()V"⟩
abbrev cX10_listOpen : ByteArray := prog_12_method_4_code
def yX10_listOpen : MethodName := ⟨RX10, "listOpen", "()V"⟩
abbrev cX10_sortOpen : ByteArray := prog_12_method_5_code
def yX10_sortOpen : MethodName := ⟨RX10, "sortOpen", "([I[I)V"⟩
abbrev cX10_findFavourite : ByteArray := prog_12_method_6_code
def yX10_findFavourite : MethodName := ⟨RX10, "findFavourite", "()I"⟩
abbrev cX10_speaks : ByteArray := prog_12_method_7_code
def yX10_speaks : MethodName := ⟨RX10, "speaks", "(I)Z"⟩
abbrev cX10_isHere : ByteArray := prog_12_method_8_code
def yX10_isHere : MethodName := ⟨RX10, "isHere", "(I)Z"⟩
abbrev cX10_putOrder : ByteArray := prog_12_method_9_code
def yX10_putOrder : MethodName := ⟨RX10, "putOrder", "(I[I)V"⟩
abbrev cX10_putLast : ByteArray := prog_12_method_10_code
def yX10_putLast : MethodName := ⟨RX10, "putLast", "(I[I)V"⟩
abbrev cX10_clearTallies : ByteArray := prog_12_method_11_code
def yX10_clearTallies : MethodName := ⟨RX10, "clearTallies", "()V"⟩
abbrev cX10_hear : ByteArray := prog_12_method_12_code
def yX10_hear : MethodName := ⟨RX10, "hear", "(I)V"⟩
abbrev cX10_tally : ByteArray := prog_12_method_13_code
def yX10_tally : MethodName := ⟨RX10, "tally", "([II)V"⟩
abbrev cX10_mostOf : ByteArray := prog_12_method_14_code
def yX10_mostOf : MethodName := ⟨RX10, "mostOf", "([II)I"⟩
abbrev cX10_pick : ByteArray := prog_12_method_15_code
def yX10_pick : MethodName := ⟨RX10, "pick", "(I)I"⟩
abbrev cX10_pickRounds : ByteArray := prog_12_method_16_code
def yX10_pickRounds : MethodName := ⟨RX10, "pickRounds", "()I"⟩
abbrev cX10_pickPairs : ByteArray := prog_12_method_17_code
def yX10_pickPairs : MethodName := ⟨RX10, "pickPairs", "()I"⟩
abbrev cX10_pickTurns : ByteArray := prog_12_method_18_code
def yX10_pickTurns : MethodName := ⟨RX10, "pickTurns", "()I"⟩
abbrev cX10_tellOtherwise : ByteArray := prog_12_method_19_code
def yX10_tellOtherwise : MethodName := ⟨RX10, "tellOtherwise", "(IIZ)I"⟩
abbrev cX10_silence : ByteArray := prog_12_method_20_code
def yX10_silence : MethodName := ⟨RX10, "silence", "(I)V"⟩
abbrev cX10_startRows : ByteArray := prog_12_method_21_code
def yX10_startRows : MethodName := ⟨RX10, "startRows", "()V"⟩
abbrev cX10_nextRow : ByteArray := prog_12_method_22_code
def yX10_nextRow : MethodName := ⟨RX10, "nextRow", "()Z"⟩
abbrev cX10_swap : ByteArray := prog_12_method_23_code
def yX10_swap : MethodName := ⟨RX10, "swap", "(II)V"⟩
def RX11 : String := "ClubReads"
def TX11 : u_T := fun k => match k with
  | 0 => ("ClubReads", "votes", "LClubReads$Votes;", true)
  | 1 => ("ClubReads", "now", "LClubReads$Hall;", true)
  | 2 => ("ClubReads", "kept", "LClubReads$Hall;", true)
  | 3 => ("ClubReads", "trial", "LClubReads$Roll;", true)
  | 4 => ("ClubReads", "bodies", "[I", true)
  | 5 => ("ClubReads", "chances", "[J", true)
  | 6 => ("ClubReads", "bestBooks", "[I", true)
  | 7 => ("ClubReads", "spare", "LClubReads$Club;", false)
  | _ => ("ClubReads", "hasImage", "Z", false)
def tyX11 : Nat → FieldType := fun k => match k with
  | 0 => .object "ClubReads$Votes"
  | 1 => .object "ClubReads$Hall"
  | 2 => .object "ClubReads$Hall"
  | 3 => .object "ClubReads$Roll"
  | 4 => .array .int
  | 5 => .array .long
  | 6 => .array .int
  | 7 => .object "ClubReads$Club"
  | _ => .boolean
abbrev wsX110 : List Cond := u_ws RX11 TX11 9
theorem nmX11 : ∀ a, a < 9 → ∀ b, b < 9 → a ≠ b → (TX11 a).2.1 ≠ (TX11 b).2.1 := by decide +kernel
theorem tyX11_ok : ∀ k, k < 9 → parseFieldDescriptor (TX11 k).2.2.1 = some (tyX11 k) := by decide +kernel
abbrev cX11_init : ByteArray := prog_1_method_1_code
def yX11_init : MethodName := ⟨RX11, "<init>", "()V"⟩
abbrev cX11_feed : ByteArray := prog_1_method_2_code
def yX11_feed : MethodName := ⟨RX11, "feed", "(I)I"⟩
abbrev cX11_club : ByteArray := prog_1_method_3_code
def yX11_club : MethodName := ⟨RX11, "club", "()I"⟩
abbrev cX11_member : ByteArray := prog_1_method_4_code
def yX11_member : MethodName := ⟨RX11, "member", "(II)I"⟩
abbrev cX11_newMember : ByteArray := prog_1_method_5_code
def yX11_newMember : MethodName := ⟨RX11, "newMember", "(III)LClubReads$Member;"⟩
abbrev cX11_book : ByteArray := prog_1_method_6_code
def yX11_book : MethodName := ⟨RX11, "book", "(IIII)I"⟩
abbrev cX11_of : ByteArray := prog_1_method_7_code
def yX11_of : MethodName := ⟨RX11, "of", "(II)I"⟩
abbrev cX11_at : ByteArray := prog_1_method_8_code
def yX11_at : MethodName := ⟨RX11, "at", "(II)I"⟩
abbrev cX11_told : ByteArray := prog_1_method_9_code
def yX11_told : MethodName := ⟨RX11, "told", "(I)I"⟩
abbrev cX11_had : ByteArray := prog_1_method_10_code
def yX11_had : MethodName := ⟨RX11, "had", "(IZ)I"⟩
abbrev cX11_like : ByteArray := prog_1_method_11_code
def yX11_like : MethodName := ⟨RX11, "like", "(II)I"⟩
abbrev cX11_order : ByteArray := prog_1_method_12_code
def yX11_order : MethodName := ⟨RX11, "order", "(III)I"⟩
abbrev cX11_chosen : ByteArray := prog_1_method_13_code
def yX11_chosen : MethodName := ⟨RX11, "chosen", "(II)I"⟩
abbrev cX11_alone : ByteArray := prog_1_method_14_code
def yX11_alone : MethodName := ⟨RX11, "alone", "(I)I"⟩
abbrev cX11_gain : ByteArray := prog_1_method_15_code
def yX11_gain : MethodName := ⟨RX11, "gain", "(II)I"⟩
abbrev cX11_reads : ByteArray := prog_1_method_16_code
def yX11_reads : MethodName := ⟨RX11, "reads", "(II)I"⟩
abbrev cX11_comes : ByteArray := prog_1_method_17_code
def yX11_comes : MethodName := ⟨RX11, "comes", "(II)I"⟩
abbrev cX11_enough : ByteArray := prog_1_method_18_code
def yX11_enough : MethodName := ⟨RX11, "enough", "(III)J"⟩
abbrev cX11_spreadChances : ByteArray := prog_1_method_19_code
def yX11_spreadChances : MethodName := ⟨RX11, "spreadChances", "(I)J"⟩
abbrev cX11_commonDivisor : ByteArray := prog_1_method_20_code
def yX11_commonDivisor : MethodName := ⟨RX11, "commonDivisor", "(JJ)J"⟩
abbrev cX11_month : ByteArray := prog_1_method_21_code
def yX11_month : MethodName := ⟨RX11, "month", "(I)I"⟩
abbrev cX11_by : ByteArray := prog_1_method_22_code
def yX11_by : MethodName := ⟨RX11, "by", "(I)I"⟩
abbrev cX11_run : ByteArray := prog_1_method_23_code
def yX11_run : MethodName := ⟨RX11, "run", "(III)I"⟩
abbrev cX11_tryMonths : ByteArray := prog_1_method_24_code
def yX11_tryMonths : MethodName := ⟨RX11, "tryMonths", "(II)I"⟩
abbrev cX11_best : ByteArray := prog_1_method_25_code
def yX11_best : MethodName := ⟨RX11, "best", "()I"⟩
abbrev cX11_row : ByteArray := prog_1_method_26_code
def yX11_row : MethodName := ⟨RX11, "row", "(I)I"⟩
abbrev cX11_findBestRow : ByteArray := prog_1_method_27_code
def yX11_findBestRow : MethodName := ⟨RX11, "findBestRow", "()V"⟩
abbrev cX11_hand : ByteArray := prog_1_method_28_code
def yX11_hand : MethodName := ⟨RX11, "hand", "(I)I"⟩
abbrev cX11_looked : ByteArray := prog_1_method_29_code
def yX11_looked : MethodName := ⟨RX11, "looked", "()I"⟩
abbrev cX11_act : ByteArray := prog_1_method_30_code
def yX11_act : MethodName := ⟨RX11, "act", "(III)I"⟩
abbrev cX11_trace : ByteArray := prog_1_method_31_code
def yX11_trace : MethodName := ⟨RX11, "trace", "(I)I"⟩
abbrev cX11_as : ByteArray := prog_1_method_32_code
def yX11_as : MethodName := ⟨RX11, "as", "(II)I"⟩
abbrev cX11_image : ByteArray := prog_1_method_33_code
def yX11_image : MethodName := ⟨RX11, "image", "()I"⟩
abbrev cX11_undo : ByteArray := prog_1_method_34_code
def yX11_undo : MethodName := ⟨RX11, "undo", "()I"⟩
abbrev cX11_count : ByteArray := prog_1_method_35_code
def yX11_count : MethodName := ⟨RX11, "count", "(I)I"⟩
abbrev cX11_isMember : ByteArray := prog_1_method_36_code
def yX11_isMember : MethodName := ⟨RX11, "isMember", "(I)Z"⟩
abbrev cX11_isBook : ByteArray := prog_1_method_37_code
def yX11_isBook : MethodName := ⟨RX11, "isBook", "(I)Z"⟩
abbrev cX11_isWay : ByteArray := prog_1_method_38_code
def yX11_isWay : MethodName := ⟨RX11, "isWay", "(I)Z"⟩
def RX12 : String := "ClubReadsModel"
def TX12 : u_T := fun k => match k with
  | 0 => ("ClubReadsModel", "thrown", "I", false)
  | 1 => ("ClubReadsModel", "s", "[I", true)
  | 2 => ("ClubReadsModel", "image", "[I", true)
  | 3 => ("ClubReadsModel", "frame", "[I", true)
  | 4 => ("ClubReadsModel", "hasImage", "Z", false)
  | 5 => ("ClubReadsModel", "act", "I", false)
  | 6 => ("ClubReadsModel", "spot", "I", false)
  | 7 => ("ClubReadsModel", "end", "I", false)
  | 8 => ("ClubReadsModel", "isWrong", "Z", false)
  | 9 => ("ClubReadsModel", "open", "I", false)
  | 10 => ("ClubReadsModel", "by", "[I", true)
  | 11 => ("ClubReadsModel", "truths", "[Z", true)
  | 12 => ("ClubReadsModel", "liking", "I", false)
  | 13 => ("ClubReadsModel", "reading", "I", false)
  | 14 => ("ClubReadsModel", "likes", "[I", true)
  | 15 => ("ClubReadsModel", "orders", "[I", true)
  | 16 => ("ClubReadsModel", "says", "[I", true)
  | 17 => ("ClubReadsModel", "sizes", "[I", true)
  | 18 => ("ClubReadsModel", "voices", "[I", true)
  | 19 => ("ClubReadsModel", "voiceSizes", "[I", true)
  | 20 => ("ClubReadsModel", "opens", "I", false)
  | 21 => ("ClubReadsModel", "isDone", "Z", false)
  | 22 => ("ClubReadsModel", "isAlone", "Z", false)
  | 23 => ("ClubReadsModel", "gained", "I", false)
  | 24 => ("ClubReadsModel", "ways", "[J", true)
  | 25 => ("ClubReadsModel", "cameAll", "I", false)
  | 26 => ("ClubReadsModel", "bestHere", "I", false)
  | 27 => ("ClubReadsModel", "bestGlad", "I", false)
  | 28 => ("ClubReadsModel", "stages", "[I", true)
  | 29 => ("ClubReadsModel", "row", "[I", true)
  | 30 => ("ClubReadsModel", "bestRow", "[I", true)
  | 31 => ("ClubReadsModel", "bodies", "[I", true)
  | 32 => ("ClubReadsModel", "ran", "I", false)
  | 33 => ("ClubReadsModel", "kind", "I", false)
  | 34 => ("ClubReadsModel", "number", "I", false)
  | _ => ("ClubReadsModel", "tellsV", "I", false)
def tyX12 : Nat → FieldType := fun k => match k with
  | 0 => .int
  | 1 => .array .int
  | 2 => .array .int
  | 3 => .array .int
  | 4 => .boolean
  | 5 => .int
  | 6 => .int
  | 7 => .int
  | 8 => .boolean
  | 9 => .int
  | 10 => .array .int
  | 11 => .array .boolean
  | 12 => .int
  | 13 => .int
  | 14 => .array .int
  | 15 => .array .int
  | 16 => .array .int
  | 17 => .array .int
  | 18 => .array .int
  | 19 => .array .int
  | 20 => .int
  | 21 => .boolean
  | 22 => .boolean
  | 23 => .int
  | 24 => .array .long
  | 25 => .int
  | 26 => .int
  | 27 => .int
  | 28 => .array .int
  | 29 => .array .int
  | 30 => .array .int
  | 31 => .array .int
  | 32 => .int
  | 33 => .int
  | 34 => .int
  | _ => .int
abbrev wsX120 : List Cond := u_ws RX12 TX12 36
theorem nmX12 : ∀ a, a < 36 → ∀ b, b < 36 → a ≠ b → (TX12 a).2.1 ≠ (TX12 b).2.1 := by decide +kernel
theorem tyX12_ok : ∀ k, k < 36 → parseFieldDescriptor (TX12 k).2.2.1 = some (tyX12 k) := by decide +kernel
abbrev cX12_init : ByteArray := prog_14_method_1_code
def yX12_init : MethodName := ⟨RX12, "<init>", "()V"⟩
abbrev cX12_in : ByteArray := prog_14_method_3_code
def yX12_in : MethodName := ⟨RX12, "in", "(III)Z"⟩
abbrev cX12_isMember : ByteArray := prog_14_method_4_code
def yX12_isMember : MethodName := ⟨RX12, "isMember", "(I)Z"⟩
abbrev cX12_isBook : ByteArray := prog_14_method_5_code
def yX12_isBook : MethodName := ⟨RX12, "isBook", "(I)Z"⟩
abbrev cX12_isWay : ByteArray := prog_14_method_6_code
def yX12_isWay : MethodName := ⟨RX12, "isWay", "(I)Z"⟩
abbrev cX12_isHere : ByteArray := prog_14_method_7_code
def yX12_isHere : MethodName := ⟨RX12, "isHere", "(I)Z"⟩
abbrev cX12_isOpen : ByteArray := prog_14_method_8_code
def yX12_isOpen : MethodName := ⟨RX12, "isOpen", "(I)Z"⟩
abbrev cX12_keeps : ByteArray := prog_14_method_9_code
def yX12_keeps : MethodName := ⟨RX12, "keeps", "()V"⟩
abbrev cX12_goesBack : ByteArray := prog_14_method_10_code
def yX12_goesBack : MethodName := ⟨RX12, "goesBack", "()V"⟩
abbrev cX12_feed : ByteArray := prog_14_method_11_code
def yX12_feed : MethodName := ⟨RX12, "feed", "(I)I"⟩
abbrev cX12_here : ByteArray := prog_14_method_12_code
def yX12_here : MethodName := ⟨RX12, "here", "()I"⟩
abbrev cX12_must : ByteArray := prog_14_method_13_code
def yX12_must : MethodName := ⟨RX12, "must", "(I)V"⟩
abbrev cX12_spells : ByteArray := prog_14_method_14_code
def yX12_spells : MethodName := ⟨RX12, "spells", "(Ljava/lang/String;)V"⟩
abbrev cX12_figures : ByteArray := prog_14_method_15_code
def yX12_figures : MethodName := ⟨RX12, "figures", "()I"⟩
abbrev cX12_among : ByteArray := prog_14_method_16_code
def yX12_among : MethodName := ⟨RX12, "among", "(Ljava/lang/String;)I"⟩
abbrev cX12_emits : ByteArray := prog_14_method_17_code
def yX12_emits : MethodName := ⟨RX12, "emits", "(I)V"⟩
abbrev cX12_factor : ByteArray := prog_14_method_18_code
def yX12_factor : MethodName := ⟨RX12, "factor", "()V"⟩
abbrev cX12_every : ByteArray := prog_14_method_19_code
def yX12_every : MethodName := ⟨RX12, "every", "()V"⟩
abbrev cX12_some : ByteArray := prog_14_method_20_code
def yX12_some : MethodName := ⟨RX12, "some", "()V"⟩
abbrev cX12_much : ByteArray := prog_14_method_21_code
def yX12_much : MethodName := ⟨RX12, "much", "(ILjava/lang/String;)V"⟩
abbrev cX12_clauseOfL : ByteArray := prog_14_method_22_code
def yX12_clauseOfL : MethodName := ⟨RX12, "clauseOfL", "()V"⟩
abbrev cX12_clauseHere : ByteArray := prog_14_method_23_code
def yX12_clauseHere : MethodName := ⟨RX12, "clauseHere", "()V"⟩
abbrev cX12_club : ByteArray := prog_14_method_24_code
def yX12_club : MethodName := ⟨RX12, "club", "()I"⟩
abbrev cX12_comeNow : ByteArray := prog_14_method_25_code
def yX12_comeNow : MethodName := ⟨RX12, "comeNow", "()I"⟩
abbrev cX12_member : ByteArray := prog_14_method_26_code
def yX12_member : MethodName := ⟨RX12, "member", "(II)I"⟩
abbrev cX12_book : ByteArray := prog_14_method_27_code
def yX12_book : MethodName := ⟨RX12, "book", "(IIII)I"⟩
abbrev cX12_of : ByteArray := prog_14_method_28_code
def yX12_of : MethodName := ⟨RX12, "of", "(II)I"⟩
abbrev cX12_at : ByteArray := prog_14_method_29_code
def yX12_at : MethodName := ⟨RX12, "at", "(II)I"⟩
abbrev cX12_membersHere : ByteArray := prog_14_method_30_code
def yX12_membersHere : MethodName := ⟨RX12, "membersHere", "()I"⟩
abbrev cX12_openBooks : ByteArray := prog_14_method_31_code
def yX12_openBooks : MethodName := ⟨RX12, "openBooks", "()I"⟩
abbrev cX12_count1 : ByteArray := prog_14_method_32_code
def yX12_count1 : MethodName := ⟨RX12, "count1", "(I)I"⟩
abbrev cX12_told : ByteArray := prog_14_method_33_code
def yX12_told : MethodName := ⟨RX12, "told", "(I)I"⟩
abbrev cX12_had : ByteArray := prog_14_method_34_code
def yX12_had : MethodName := ⟨RX12, "had", "(IZ)I"⟩
abbrev cX12_looks : ByteArray := prog_14_method_35_code
def yX12_looks : MethodName := ⟨RX12, "looks", "(II)V"⟩
abbrev cX12_likeOf : ByteArray := prog_14_method_36_code
def yX12_likeOf : MethodName := ⟨RX12, "likeOf", "(II)I"⟩
abbrev cX12_like : ByteArray := prog_14_method_37_code
def yX12_like : MethodName := ⟨RX12, "like", "(II)I"⟩
abbrev cX12_looksForLikes : ByteArray := prog_14_method_38_code
def yX12_looksForLikes : MethodName := ⟨RX12, "looksForLikes", "()V"⟩
abbrev cX12_sorts : ByteArray := prog_14_method_39_code
def yX12_sorts : MethodName := ⟨RX12, "sorts", "(I)V"⟩
abbrev cX12_firstOfMost : ByteArray := prog_14_method_40_code
def yX12_firstOfMost : MethodName := ⟨RX12, "firstOfMost", "()I"⟩
abbrev cX12_saysOf : ByteArray := prog_14_method_41_code
def yX12_saysOf : MethodName := ⟨RX12, "saysOf", "(III)V"⟩
abbrev cX12_isAwayNow : ByteArray := prog_14_method_42_code
def yX12_isAwayNow : MethodName := ⟨RX12, "isAwayNow", "(I)Z"⟩
abbrev cX12_speaks : ByteArray := prog_14_method_43_code
def yX12_speaks : MethodName := ⟨RX12, "speaks", "(I)V"⟩
abbrev cX12_looksForOrders : ByteArray := prog_14_method_44_code
def yX12_looksForOrders : MethodName := ⟨RX12, "looksForOrders", "()V"⟩
abbrev cX12_order : ByteArray := prog_14_method_45_code
def yX12_order : MethodName := ⟨RX12, "order", "(III)I"⟩
abbrev cX12_hears : ByteArray := prog_14_method_46_code
def yX12_hears : MethodName := ⟨RX12, "hears", "(Z)V"⟩
abbrev cX12_placeIn : ByteArray := prog_14_method_47_code
def yX12_placeIn : MethodName := ⟨RX12, "placeIn", "(II)I"⟩
abbrev cX12_countOf : ByteArray := prog_14_method_48_code
def yX12_countOf : MethodName := ⟨RX12, "countOf", "(II)I"⟩
abbrev cX12_mostBy : ByteArray := prog_14_method_49_code
def yX12_mostBy : MethodName := ⟨RX12, "mostBy", "(II)I"⟩
abbrev cX12_aheadBy : ByteArray := prog_14_method_50_code
def yX12_aheadBy : MethodName := ⟨RX12, "aheadBy", "(II)I"⟩
abbrev cX12_byRounds : ByteArray := prog_14_method_51_code
def yX12_byRounds : MethodName := ⟨RX12, "byRounds", "()I"⟩
abbrev cX12_byPairs : ByteArray := prog_14_method_52_code
def yX12_byPairs : MethodName := ⟨RX12, "byPairs", "()I"⟩
abbrev cX12_byTurns : ByteArray := prog_14_method_53_code
def yX12_byTurns : MethodName := ⟨RX12, "byTurns", "()I"⟩
abbrev cX12_chooses : ByteArray := prog_14_method_54_code
def yX12_chooses : MethodName := ⟨RX12, "chooses", "(I)I"⟩
abbrev cX12_chosenBy : ByteArray := prog_14_method_55_code
def yX12_chosenBy : MethodName := ⟨RX12, "chosenBy", "(IZ)I"⟩
abbrev cX12_chosen : ByteArray := prog_14_method_56_code
def yX12_chosen : MethodName := ⟨RX12, "chosen", "(II)I"⟩
abbrev cX12_ordersFrom : ByteArray := prog_14_method_57_code
def yX12_ordersFrom : MethodName := ⟨RX12, "ordersFrom", "(IIIII)V"⟩
abbrev cX12_tellsOther : ByteArray := prog_14_method_58_code
def yX12_tellsOther : MethodName := ⟨RX12, "tellsOther", "(II)V"⟩
abbrev cX12_alone : ByteArray := prog_14_method_59_code
def yX12_alone : MethodName := ⟨RX12, "alone", "(I)I"⟩
abbrev cX12_gain : ByteArray := prog_14_method_60_code
def yX12_gain : MethodName := ⟨RX12, "gain", "(II)I"⟩
abbrev cX12_readsOf : ByteArray := prog_14_method_61_code
def yX12_readsOf : MethodName := ⟨RX12, "readsOf", "(II)I"⟩
abbrev cX12_reads : ByteArray := prog_14_method_62_code
def yX12_reads : MethodName := ⟨RX12, "reads", "(II)I"⟩
abbrev cX12_doesCome : ByteArray := prog_14_method_63_code
def yX12_doesCome : MethodName := ⟨RX12, "doesCome", "(II)Z"⟩
abbrev cX12_comes : ByteArray := prog_14_method_64_code
def yX12_comes : MethodName := ⟨RX12, "comes", "(II)I"⟩
abbrev cX12_lowest : ByteArray := prog_14_method_65_code
def yX12_lowest : MethodName := ⟨RX12, "lowest", "(JJI)J"⟩
abbrev cX12_enough : ByteArray := prog_14_method_66_code
def yX12_enough : MethodName := ⟨RX12, "enough", "(III)J"⟩
abbrev cX12_goes : ByteArray := prog_14_method_67_code
def yX12_goes : MethodName := ⟨RX12, "goes", "(I)I"⟩
abbrev cX12_month : ByteArray := prog_14_method_68_code
def yX12_month : MethodName := ⟨RX12, "month", "(I)I"⟩
abbrev cX12_by : ByteArray := prog_14_method_69_code
def yX12_by : MethodName := ⟨RX12, "by", "(I)I"⟩
abbrev cX12_runs : ByteArray := prog_14_method_70_code
def yX12_runs : MethodName := ⟨RX12, "runs", "(II)V"⟩
abbrev cX12_membersHad : ByteArray := prog_14_method_71_code
def yX12_membersHad : MethodName := ⟨RX12, "membersHad", "()I"⟩
abbrev cX12_run : ByteArray := prog_14_method_72_code
def yX12_run : MethodName := ⟨RX12, "run", "(III)I"⟩
abbrev cX12_gladHere : ByteArray := prog_14_method_73_code
def yX12_gladHere : MethodName := ⟨RX12, "gladHere", "()I"⟩
abbrev cX12_isBetter : ByteArray := prog_14_method_74_code
def yX12_isBetter : MethodName := ⟨RX12, "isBetter", "()Z"⟩
abbrev cX12_best : ByteArray := prog_14_method_75_code
def yX12_best : MethodName := ⟨RX12, "best", "()I"⟩
abbrev cX12_rowsFrom : ByteArray := prog_14_method_76_code
def yX12_rowsFrom : MethodName := ⟨RX12, "rowsFrom", "(I)V"⟩
abbrev cX12_row : ByteArray := prog_14_method_77_code
def yX12_row : MethodName := ⟨RX12, "row", "(I)I"⟩
abbrev cX12_hand : ByteArray := prog_14_method_78_code
def yX12_hand : MethodName := ⟨RX12, "hand", "(I)I"⟩
abbrev cX12_looked : ByteArray := prog_14_method_79_code
def yX12_looked : MethodName := ⟨RX12, "looked", "()I"⟩
abbrev cX12_ranBody : ByteArray := prog_14_method_80_code
def yX12_ranBody : MethodName := ⟨RX12, "ranBody", "(I)V"⟩
abbrev cX12_isUnder : ByteArray := prog_14_method_81_code
def yX12_isUnder : MethodName := ⟨RX12, "isUnder", "(II)Z"⟩
abbrev cX12_plainWishes : ByteArray := prog_14_method_82_code
def yX12_plainWishes : MethodName := ⟨RX12, "plainWishes", "(I)I"⟩
abbrev cX12_wishesActs : ByteArray := prog_14_method_83_code
def yX12_wishesActs : MethodName := ⟨RX12, "wishesActs", "(I)I"⟩
abbrev cX12_plainReads : ByteArray := prog_14_method_84_code
def yX12_plainReads : MethodName := ⟨RX12, "plainReads", "(I)I"⟩
abbrev cX12_readsActs : ByteArray := prog_14_method_85_code
def yX12_readsActs : MethodName := ⟨RX12, "readsActs", "(I)I"⟩
abbrev cX12_plainTalks : ByteArray := prog_14_method_86_code
def yX12_plainTalks : MethodName := ⟨RX12, "plainTalks", "(I)I"⟩
abbrev cX12_talksActs : ByteArray := prog_14_method_87_code
def yX12_talksActs : MethodName := ⟨RX12, "talksActs", "(I)I"⟩
abbrev cX12_act : ByteArray := prog_14_method_88_code
def yX12_act : MethodName := ⟨RX12, "act", "(III)I"⟩
abbrev cX12_trace : ByteArray := prog_14_method_89_code
def yX12_trace : MethodName := ⟨RX12, "trace", "(I)I"⟩
abbrev cX12_as : ByteArray := prog_14_method_90_code
def yX12_as : MethodName := ⟨RX12, "as", "(II)I"⟩
abbrev cX12_image : ByteArray := prog_14_method_91_code
def yX12_image : MethodName := ⟨RX12, "image", "()I"⟩
abbrev cX12_undo : ByteArray := prog_14_method_92_code
def yX12_undo : MethodName := ⟨RX12, "undo", "()I"⟩
abbrev cX12_count : ByteArray := prog_14_method_93_code
def yX12_count : MethodName := ⟨RX12, "count", "(I)I"⟩
def RJ6 : String := "java/lang/Integer"
def TJ6 : u_T := fun k => match k with
  | _ => ("", "", "", false)
def tyJ6 : Nat → FieldType := fun k => match k with
  | _ => .int
abbrev wsJ60 : List Cond := u_ws RJ6 TJ6 0
theorem nmJ6 : ∀ a, a < 0 → ∀ b, b < 0 → a ≠ b → (TJ6 a).2.1 ≠ (TJ6 b).2.1 := by decide +kernel
theorem tyJ6_ok : ∀ k, k < 0 → parseFieldDescriptor (TJ6 k).2.2.1 = some (tyJ6 k) := by decide +kernel
abbrev cJ6_bitCount_0f7a4 : ByteArray := prog_15_method_49_code
def yJ6_bitCount_0f7a4 : MethodName := ⟨RJ6, "bitCount", "(I)I"⟩
def RJ9 : String := "java/lang/Math"
def TJ9 : u_T := fun k => match k with
  | _ => ("", "", "", false)
def tyJ9 : Nat → FieldType := fun k => match k with
  | _ => .int
abbrev wsJ90 : List Cond := u_ws RJ9 TJ9 0
theorem nmJ9 : ∀ a, a < 0 → ∀ b, b < 0 → a ≠ b → (TJ9 a).2.1 ≠ (TJ9 b).2.1 := by decide +kernel
theorem tyJ9_ok : ∀ k, k < 0 → parseFieldDescriptor (TJ9 k).2.2.1 = some (tyJ9 k) := by decide +kernel
abbrev cJ9_max_7cf53 : ByteArray := prog_16_method_65_code
def yJ9_max_7cf53 : MethodName := ⟨RJ9, "max", "(II)I"⟩
abbrev cJ9_min_7cf53 : ByteArray := prog_16_method_69_code
def yJ9_min_7cf53 : MethodName := ⟨RJ9, "min", "(II)I"⟩
def RJ0 : String := "java/lang/String"
def TJ0 : u_T := fun k => match k with
  | _ => ("", "", "", false)
def tyJ0 : Nat → FieldType := fun k => match k with
  | _ => .int
abbrev wsJ00 : List Cond := u_ws RJ0 TJ0 0
theorem nmJ0 : ∀ a, a < 0 → ∀ b, b < 0 → a ≠ b → (TJ0 a).2.1 ≠ (TJ0 b).2.1 := by decide +kernel
theorem tyJ0_ok : ∀ k, k < 0 → parseFieldDescriptor (TJ0 k).2.2.1 = some (tyJ0 k) := by decide +kernel
abbrev cJ0_length_8abf5 : ByteArray := prog_17_method_54_code
def yJ0_length_8abf5 : MethodName := ⟨RJ0, "length", "()I"⟩
abbrev cJ0_charAt_5068e : ByteArray := prog_17_method_56_code
def yJ0_charAt_5068e : MethodName := ⟨RJ0, "charAt", "(I)C"⟩
abbrev cJ0_coder_7d493 : ByteArray := prog_17_method_152_code
def yJ0_coder_7d493 : MethodName := ⟨RJ0, "coder", "()B"⟩
abbrev cJ0_isLatin1_aae02 : ByteArray := prog_17_method_154_code
def yJ0_isLatin1_aae02 : MethodName := ⟨RJ0, "isLatin1", "()Z"⟩
abbrev cJ0_checkIndex_df160 : ByteArray := prog_17_method_155_code
def yJ0_checkIndex_df160 : MethodName := ⟨RJ0, "checkIndex", "(II)V"⟩
def RJ1 : String := "java/lang/StringLatin1"
def TJ1 : u_T := fun k => match k with
  | _ => ("", "", "", false)
def tyJ1 : Nat → FieldType := fun k => match k with
  | _ => .int
abbrev wsJ10 : List Cond := u_ws RJ1 TJ1 0
theorem nmJ1 : ∀ a, a < 0 → ∀ b, b < 0 → a ≠ b → (TJ1 a).2.1 ≠ (TJ1 b).2.1 := by decide +kernel
theorem tyJ1_ok : ∀ k, k < 0 → parseFieldDescriptor (TJ1 k).2.2.1 = some (tyJ1 k) := by decide +kernel
abbrev cJ1_charAt_3b067 : ByteArray := prog_18_method_2_code
def yJ1_charAt_3b067 : MethodName := ⟨RJ1, "charAt", "([BI)C"⟩
def RJ2 : String := "java/lang/StringUTF16"
def TJ2 : u_T := fun k => match k with
  | _ => ("", "", "", false)
def tyJ2 : Nat → FieldType := fun k => match k with
  | _ => .int
abbrev wsJ20 : List Cond := u_ws RJ2 TJ2 0
theorem nmJ2 : ∀ a, a < 0 → ∀ b, b < 0 → a ≠ b → (TJ2 a).2.1 ≠ (TJ2 b).2.1 := by decide +kernel
theorem tyJ2_ok : ∀ k, k < 0 → parseFieldDescriptor (TJ2 k).2.2.1 = some (tyJ2 k) := by decide +kernel
abbrev cJ2_getChar_3b067 : ByteArray := prog_19_method_5_code
def yJ2_getChar_3b067 : MethodName := ⟨RJ2, "getChar", "([BI)C"⟩
abbrev cJ2_length_9d52b : ByteArray := prog_19_method_6_code
def yJ2_length_9d52b : MethodName := ⟨RJ2, "length", "([B)I"⟩
abbrev cJ2_charAt_3b067 : ByteArray := prog_19_method_83_code
def yJ2_charAt_3b067 : MethodName := ⟨RJ2, "charAt", "([BI)C"⟩
abbrev cJ2_checkIndex_2214a : ByteArray := prog_19_method_91_code
def yJ2_checkIndex_2214a : MethodName := ⟨RJ2, "checkIndex", "(I[B)V"⟩
def RJ10 : String := "java/lang/System"
def TJ10 : u_T := fun k => match k with
  | _ => ("", "", "", false)
def tyJ10 : Nat → FieldType := fun k => match k with
  | _ => .int
abbrev wsJ100 : List Cond := u_ws RJ10 TJ10 0
theorem nmJ10 : ∀ a, a < 0 → ∀ b, b < 0 → a ≠ b → (TJ10 a).2.1 ≠ (TJ10 b).2.1 := by decide +kernel
theorem tyJ10_ok : ∀ k, k < 0 → parseFieldDescriptor (TJ10 k).2.2.1 = some (tyJ10 k) := by decide +kernel
def RJ3 : String := "jdk/internal/util/Preconditions"
def TJ3 : u_T := fun k => match k with
  | _ => ("", "", "", false)
def tyJ3 : Nat → FieldType := fun k => match k with
  | _ => .int
abbrev wsJ30 : List Cond := u_ws RJ3 TJ3 0
theorem nmJ3 : ∀ a, a < 0 → ∀ b, b < 0 → a ≠ b → (TJ3 a).2.1 ≠ (TJ3 b).2.1 := by decide +kernel
theorem tyJ3_ok : ∀ k, k < 0 → parseFieldDescriptor (TJ3 k).2.2.1 = some (tyJ3 k) := by decide +kernel
abbrev cJ3_checkIndex_8e157 : ByteArray := prog_21_method_11_code
def yJ3_checkIndex_8e157 : MethodName := ⟨RJ3, "checkIndex", "(IILjava/util/function/BiFunction;)I"⟩
def RL : String := "ClubReadsLaw"
abbrev cL_law : ByteArray := code
def yL_law : MethodName := ⟨RL, "law", "([I)Z"⟩
abbrev vwCl : List vw_C := [(RX0, TX0, 3), (RX1, TX1, 10), (RX2, TX2, 3), (RX3, TX3, 14), (RX4, TX4, 3), (RX5, TX5, 3), (RX6, TX6, 3), (RX7, TX7, 4), (RX8, TX8, 3), (RX9, TX9, 3), (RX10, TX10, 14), (RX11, TX11, 9), (RX12, TX12, 36)]
