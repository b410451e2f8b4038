/-! calls -/
theorem va_AOA.moved {u U : State} (hvm : u.vm.Alike U.vm) (h : va_AOA .int u) : va_AOA .int U := by
  have h1 : (Cond.arrayOver (.array .int)).before #[] (u.setVm U.vm) = true := (Cond.arrayOver_setVmC (args := #[]) (s := u) hvm (.array .int)).trans h
  exact h1
/-- what holds of the launch and outside holds at a callee's entry -/
theorem am_Ex.move {G : am_G} {X : Nat × (Nat → Int)} {A B : Nat → Prop} {s U : State} {H : Heap} {locs : List Loc} (h : am_Ex G X A s) (hS : va_S A s.heap H locs) (hU : U.heap = H) (hW : s.WarmedH U.vm) (hAB : ∀ q, B q → A q) : am_Ex G X B U := by
  obtain ⟨h1, h2, h3, h4, h5, ⟨adK, adV, h6, h7, h8⟩, ⟨b, h9, h10⟩, h11, h12⟩ := h
  have hq : ∀ a : Nat, a < s.heap.size → ¬ A a → U.heap[a]? = s.heap[a]? := fun a ha hn => by rw [hU]; exact hS.2.1 a ha hn
  refine ⟨fun w hw => ?_, fun c hc hc4 => va_Nw.warmC hW (h2 c hc hc4), fun x hx c hc hne => ?_, h4.moved hW.alike, h5.moved hW.alike, ⟨adK, adV, ((h6.moved hW.alike).kept hq).narrow hAB, h7, fun q hq => ?_⟩, ⟨b, h9, ((h10.moved hW.alike).kept hq).narrow hAB⟩, ((h11.moved hW.alike).kept hq).narrow hAB, ((h12.moved hW.alike).kept hq).narrow hAB⟩
  · have hw2 := h1 w hw
    unfold am_nests at hw
    simp only [List.mem_cons, List.not_mem_nil, or_false] at hw
    first
    | (rcases hw with rfl | rfl | rfl | rfl | rfl <;> exact va_Nw.warmM hW hw2)
    | (rcases hw with rfl | rfl | rfl | rfl <;> exact va_Nw.warmM hW hw2)
    | (rcases hw with rfl | rfl | rfl | rfl | rfl | rfl <;> exact va_Nw.warmM hW hw2)
  · have h0 := h3 x hx c hc hne
    split at h0
    · exact va_Nw.warmC hW h0
    · exact va_Nc.moved hW.alike h0
  · obtain ⟨tx, ht⟩ := h8 q hq
    exact ⟨tx, ht.warm hW⟩
/-- the callee's start, at any state that stands as the caller's does -/
theorem am_Pc_at {G : am_G} {X : Nat × (Nat → Int)} {A : Nat → Prop} {a : Nat → Nat} {M : am_M} {s U : State} {H : Heap} {locs : List Loc} (hA : ∀ q : Nat, s.heap.size ≤ q → A q) (hE : am_Ex G X A s) (hK : va_K G.1 vwCl (am_tys G) s) (hW : am_Wd G a M A s H locs) (hU : U.heap = H) (hWm : s.WarmedH U.vm) : am_Pc G X a M H.size U := by
  refine ⟨by rw [hU], by rw [hU]; exact hW.1, hW.2.1.weaken (fun _ _ _ _ => trivial), va_K.moved hWm.alike hK, hE.move hW.2.2 hU hWm ?_⟩
  intro q hq
  rcases hq with ⟨k, e, hk⟩ | hq
  · exact hW.2.1.2 k _ hk
  · exact hA q (Nat.le_trans hW.2.2.1 hq)
theorem am_Pc_blind {G : am_G} {X : Nat × (Nat → Int)} {a : Nat → Nat} {M : am_M} {sz : Nat} {vs : List Value} : FrameBlind (va_Pc vs (am_Pc G X a M sz)) := by
  intro ar U g mk h
  obtain ⟨h0, h1, h2, h3, h4, h5⟩ := h
  refine ⟨h0, h1, h2, h3, va_K.moved (u := U) (U := U.calling g mk ar) (Vm.Alike.refl U.vm) h4, ?_⟩
  obtain ⟨g1, g2, g3, g4, g5, ⟨adK, adV, g6, g7, g8⟩, ⟨b, g9, g10⟩, g11, g12⟩ := h5
  have hal : U.vm.Alike (U.calling g mk ar).vm := Vm.Alike.refl U.vm
  have hv : U.vm = (U.calling g mk ar).vm := rfl
  refine ⟨fun w hw => ?_, fun c hc hc4 => va_Nw.same rfl hv (g2 c hc hc4), fun x hx c hc hne => ?_, g4.moved hal, g5.moved hal, ⟨adK, adV, g6.moved hal, g7, fun q hq => ?_⟩, ⟨b, g9, g10.moved hal⟩, g11.moved hal, g12.moved hal⟩
  · have hw2 := g1 w hw
    unfold am_nests at hw
    simp only [List.mem_cons, List.not_mem_nil, or_false] at hw
    first
    | (rcases hw with rfl | rfl | rfl | rfl | rfl <;> exact va_Nw.same rfl hv hw2)
    | (rcases hw with rfl | rfl | rfl | rfl <;> exact va_Nw.same rfl hv hw2)
    | (rcases hw with rfl | rfl | rfl | rfl | rfl | rfl <;> exact va_Nw.same rfl hv hw2)
  · have h0 := g3 x hx c hc hne
    split at h0
    · exact va_Nw.same rfl hv h0
    · exact va_Nc.moved hal h0
  · obtain ⟨tx, ht⟩ := g8 q hq
    exact ⟨tx, ht.same hv.symm⟩
/-- behind a call -/
theorem am_back {p : Program} {l : Launch} {e : Env} {R : Room} {s : State} {m : MethodId} {args : Array Value} {below : List Frame} {meth : Method} {c : Code} {H : Heap} {locs : List Loc} {cells slots mc ms : Nat} {Q : State → Prop} {pc : Nat} {ls : Array Slot} {st0 rest : List Value} {G : am_G} {A : Nat → Prop} {a : Nat → Nat} {M : am_M} {r : am_R} {ar : Array Value}
    (hr : va_Run p l e R s m args below meth c H locs cells slots mc ms (F0 m pc ls st0) rest (am_Qc G a M H.size r ar) (va_A (am_ws G a M) H.size)) (hA : ∀ q : Nat, s.heap.size ≤ q → A q) (hW : am_Wd G a M A s H locs)
    (kk : ∀ (a' : Nat → Nat) (H1 : Heap) (locs1 : List Loc), am_ag M.1.length a a' → am_wf r.2 → am_wfs r.2.1.length r.1.toList → am_Wd G a' r.2 A s H1 locs1 → W p l e R s m args below meth c H1 locs1 (cells + mc) (slots + ms) Q (F0 m (pc + 3) ls (am_sv G a' r.1.toList ++ rest))) : W p l e R s m args below meth c H locs cells slots Q (F0 m pc ls st0) := by
  intro T hT X
  obtain ⟨v, st₀, t, T', L, h0, X', hL, e1, e2, ⟨⟨a', hag, u1, u2, hv, hP, hD⟩, hz, hk⟩, st⟩ := hr T hT X
  cases hv
  rw [h0] at hz hk
  have hS := hW.2.2
  have hAA : ∀ q, va_A (am_ws G a M) H.size q → A q := fun q hq => by
    rcases hq with ⟨k, e, hk⟩ | hq
    · exact hW.2.1.2 k _ hk
    · exact hA q (Nat.le_trans hS.1 hq)
  have hS2 : va_S A s.heap T'.heap (locs ++ L) := ⟨Nat.le_trans hS.1 (by rw [e1]; exact hz), fun q h1 h2 => by rw [e1, hk q (Nat.lt_of_lt_of_le h1 hS.1) (fun z => h2 (hAA q z))]; exact hS.2.1 q h1 h2, fun q hq => by
      rcases List.mem_append.mp hq with h | h
      · exact hS.2.2 q h
      · exact hAA _ (hL q h)⟩
  obtain ⟨t2, a1, b1⟩ := kk a' T'.heap (locs ++ L) hag u1 u2 ⟨by rw [e1]; exact hP, hD.weaken (fun k q _ h => hAA _ h), hS2⟩ T' rfl X'
  have ev : (Option.map (am_tr G a') r.1).toList = am_sv G a' r.1.toList := by
    cases r.1 <;> rfl
  have st2 := st t2
  simp only [ev] at st2
  exact ⟨t2, st2 a1, b1⟩
/-- a call by any of the machine's ways: out of a contract's run -/
theorem am_FG.call {l : Launch} {G : am_G} {X : Nat × (Nat → Int)} {d mid pc t : Nat} {lv : List (Nat × am_V)} {st rest as : List am_V} {M : am_M} {r1 r : am_R}
    (hpl : plainFor (am_y t) = true) (hml : am_l t ≤ 20) (hG1 : am_FG l G X d t 0 (am_args 0 as) [] M r1) (hG2 : am_FG l G X (d + 1) mid (pc + 3) lv (r1.1.toList ++ rest) r1.2 r) (hcs : am_cats as ≤ am_l t) (hcr : am_cats rest ≤ 8)
    (hst : ∀ v, v ∈ as ∨ v ∈ rest → v ∈ st)
    (hrun : ∀ (p : Program) (e : Env) (R : Room) (s : State) (m : MethodId) (args : Array Value) (below : List Frame) (meth : Method) (c : Code) (A : Nat → Prop) (a : Nat → Nat) (ls : Array Slot) (H : Heap) (locs : List Loc) (cells slots : Nat),
      am_Cx G X p s m args meth c mid A → lv_has ls (am_l mid) (am_lv G a lv) → am_Wd G a M A s H locs →
      Met l (am_y t) (am_wc t) (am_rm d M r1) (va_Pc (am_sv G a as) (am_Pc G X a M H.size)) (am_Qc G a M H.size r1) (r1.2.1.length - M.1.length) (am_sz r1.2 - am_sz M) (va_A (am_ws G a M) H.size) →
      FrameBlind (va_Pc (am_sv G a as) (am_Pc G X a M H.size)) → (∀ U : State, U.heap = H → s.WarmedH U.vm → va_Pc (am_sv G a as) (am_Pc G X a M H.size) (am_sv G a as).toArray U) →
      d + 1 ≤ R.frames → 8 + (am_l t + 11) + 40 * d ≤ R.locals → ((am_sv G a rest).map (fun v => v.category)).sum ≤ 8 → cells + (r1.2.1.length - M.1.length) ≤ R.cells ∧ slots + (am_sz r1.2 - am_sz M) ≤ R.slots →
      va_Run p l e R s m args below meth c H locs cells slots (r1.2.1.length - M.1.length) (am_sz r1.2 - am_sz M) (F0 m pc ls (am_sv G a st)) (am_sv G a rest) (am_Qc G a M H.size r1 (am_sv G a as).toArray) (va_A (am_ws G a M) H.size)) : am_FG l G X (d + 1) mid pc lv st M r := by
  obtain ⟨⟨g1, g2⟩, gr⟩ := hG2
  have h11 := hG1.1.1
  have h12 := hG1.1.2
  refine ⟨⟨by omega, by omega⟩, ?_⟩
  intro p e R s m args below meth c A Q a ls H locs cells slots n0 z0 C hd hdl hl w1 w2 w3 hW hc hs hrc hrs kk
  have was : am_wfs M.1.length as := fun v hv => w3 v (hst v (Or.inl hv))
  have wrest : am_wfs M.1.length rest := fun v hv => w3 v (hst v (Or.inr hv))
  obtain ⟨hx, hb, hml2, hown, hts, hK, hnm, hA, hE⟩ := id C
  have hcat : ((am_sv G a rest).map (fun v => v.category)).sum = am_cats rest := by
    unfold am_sv am_cats
    rw [List.map_map]
    congr 1
    apply List.map_congr_left
    intro v _
    exact am_tr_cat G a v
  have hR := hrun p e R s m args below meth c A a ls H locs cells slots C hl hW (am_Met hpl hG1 hcs w1 was a H.size) am_Pc_blind (fun U hU hWm => ⟨rfl, am_Pc_at hA hE hK hW hU hWm⟩) hd (by omega) (by rw [hcat]; exact hcr) ⟨by omega, by omega⟩
  refine am_back hR hA hW (fun a' H1 locs1 hag u1 u2 hW1 => ?_)
  have wl : am_wfl r1.2.1.length lv := am_wfl_up w2 h11
  have e1 : am_sv G a' r1.1.toList ++ am_sv G a rest = am_sv G a' (r1.1.toList ++ rest) := by
    rw [← am_sv_ag hag wrest]
    unfold am_sv
    rw [List.map_append]
  rw [e1]
  refine gr p e R s m args below meth c A Q a' ls H1 locs1 _ _ n0 z0 C hd hdl (by rw [am_lv_ag hag w2]; exact hl) u1 wl (fun v hv => ?_) hW1 (by omega) (by omega) hrc hrs (fun a2 H2 locs2 cells2 slots2 pc2 ls2 hag2 v1 v2 v3 v4 v5 v6 v7 => kk a2 H2 locs2 cells2 slots2 pc2 ls2 (am_ag_tr hag hag2 h11) v1 v2 v3 v4 v5 v6 v7)
  rcases List.mem_append.mp hv with hv | hv
  · exact u2 v hv
  · exact fun k hk => Nat.lt_of_lt_of_le (wrest v hv k hk) h11
