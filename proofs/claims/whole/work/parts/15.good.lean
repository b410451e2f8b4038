/-! one instruction, calls among them; then any number of them -/
def am_cn2 (c : Nat) : String := if c = 13 then "java/lang/String" else am_cn c
def am_mb (t : Nat) : Bool := decide (0 < t) && decide (t < am_oi)
def am_vk (ix : List (Nat × List Nat)) (own : String) (idx n : Nat) (x : MethodName) (owner : String) (t0 c t : Nat) : Bool :=
  am_mb t && ((am_inI (am_gi ix c 0) (.methodLink own idx (am_y t)) && (am_inI (am_gi ix c 1) (.instanceMethod (am_y t)) && (am_inI (am_gi ix c 2) (.selects (am_cn2 c) (am_y t) (am_y t)) && decide (am_na (am_y t).desc = some n))))
  || (am_inI (am_gi ix c 0) (.methodLink own idx x) && (am_inI (am_gi ix c 1) (.sameMethod x.cls owner x.name x.desc) && (am_inI (am_gi ix c 2) (.selects (am_cn2 c) x (am_y t)) && (am_inI (am_gi ix c 3) (.instanceMethod (am_y t)) && (am_inI (am_gi ix c 4) (.instanceMethod ⟨owner, x.name, x.desc⟩) && (am_inI (am_gi ix c 5) (.code ⟨owner, x.name, x.desc⟩ (am_b t0) (am_l t0) (am_r t0)) && (decide (am_na x.desc = some n) && (decide (owner ≠ "java/lang/invoke/MethodHandle") && decide (owner ≠ "java/lang/invoke/VarHandle"))))))))))
def am_sk (ix : List (Nat × List Nat)) (own : String) (idx n : Nat) (x : MethodName) (t : Nat) : Bool :=
  am_mb t && (am_inI (am_gi ix 0 0) (.static (am_y t)) && (decide (am_na (am_y t).desc = some n) && (am_inI (am_gi ix 0 1) (.methodLink own idx (am_y t)) || (am_inI (am_gi ix 0 1) (.methodLink own idx x) && (am_inI (am_gi ix 0 2) (.sameMethod x.cls (am_y t).cls x.name x.desc) && decide (am_y t = ⟨(am_y t).cls, x.name, x.desc⟩))))))
def am_pk (ix : List (Nat × List Nat)) (own : String) (idx n : Nat) (x : MethodName) (t : Nat) : Bool :=
  (decide (t = am_oi) && am_inI (am_gi ix 0 1) (.methodLink own idx objectInit))
  || (am_mb t && (am_inI (am_gi ix 0 0) (.instanceMethod (am_y t)) && (decide (am_na (am_y t).desc = some n) &&
    ((decide ((am_y t).name = "<init>") && (decide (am_r t = none) && (am_inI (am_gi ix 0 1) (.methodLink own idx (am_y t)) || decide (Cond.methodLinkNest own idx (am_y t) "ClubReads" ∈ am_nests))))
    || (decide (x.name ≠ "<init>") && (am_inI (am_gi ix 0 1) (.methodLink own idx x) && (am_inI (am_gi ix 0 2) (.sameMethod x.cls (am_y t).cls x.name x.desc) && (decide (am_y t = ⟨(am_y t).cls, x.name, x.desc⟩) && (am_inI (am_gi ix 0 3) (.superclass own x.cls) && (decide (x.cls = (am_y t).cls) || am_inI (am_gi ix 0 4) (.superclass x.cls (am_y t).cls)))))))))))
def am_lk (ix : List (Nat × List Nat)) (q : String × Nat × Nat × List (Nat × Nat)) (z : Nat × MethodName × String × Nat) : Bool := match z.1 with
  | 0 => q.2.2.2.all (fun w => am_vk ix q.1 q.2.1 q.2.2.1 z.2.1 z.2.2.1 z.2.2.2 w.1 w.2)
  | 1 => q.2.2.2.all (fun w => am_sk ix q.1 q.2.1 q.2.2.1 z.2.1 w.2)
  | _ => q.2.2.2.all (fun w => am_pk ix q.1 q.2.1 q.2.2.1 z.2.1 w.2)
def am_ik (mid idx x k : Nat) : Bool := match am_cl[x]?, am_cx[x]? with
  | some q, some z => decide (q.1 = (am_y mid).cls) && (decide (q.2.1 = idx) && decide (z.1 = k))
  | _, _ => false
def am_ckc (mid : Nat) (i : Instr) (x : Nat) : Bool := match i with
  | .invokevirtual v => am_ik mid v x 0
  | .invokestatic v => am_ik mid v x 1 && (match am_T x 0 with
    | some _ => true
    | none => decide (am_N x ≠ 5) || am_inT (.methodLink (am_y mid).cls v arraycopyName))
  | .invokespecial v => am_ik mid v x 2
  | _ => true
/-- all that the tables owe the launch's words -/
def am_LK : Prop := am_COs ∧ am_FLs ∧ (∀ t : FieldType, t = .int ∨ t = .long ∨ t = .boolean → Cond.arrayClass t ∈ am_tb) ∧
  (∀ (x : Nat) (q : String × Nat × Nat × List (Nat × Nat)) (z : Nat × MethodName × String × Nat), am_cl[x]? = some q → am_cx[x]? = some z → am_lk (am_cix.getD x []) q z = true) ∧
  (∀ mid pc i n x, am_ins mid pc = some (i, n, x) → decode (am_b mid) pc = .ok (i, n) ∧ am_ck mid pc i n x = true ∧ am_ckc mid i x = true) ∧
  (Cond.native arraycopyName ∈ am_tb ∧ Cond.static arraycopyName ∈ am_tb ∧ Cond.initialized "java/lang/System" ∈ am_tb) ∧ Cond.instanceMethod objectInit ∈ am_tb ∧ Cond.code objectInit ⟨#[0xb1]⟩ 1 none ∈ am_tb ∧ (∀ t, 0 < t → t < am_oi → am_mk t = true)
theorem am_T_mem {x c t : Nat} (h : am_T x c = some t) : ∃ q, am_cl[x]? = some q ∧ (c, t) ∈ q.2.2.2 ∧ am_N x = q.2.2.1 := by
  unfold am_T at h
  split at h
  · rename_i q hq
    refine ⟨q, hq, am_lookm h, ?_⟩
    unfold am_N
    rw [hq]
  · cases h
theorem am_link {mid idx x k c t : Nat} (hLK : am_LK) (hi : am_ik mid idx x k = true) (h : am_T x c = some t) : ∃ (ix : List (Nat × List Nat)) (q : String × Nat × Nat × List (Nat × Nat)) (z : Nat × MethodName × String × Nat), am_lk ix q z = true ∧ z.1 = k ∧ q.1 = (am_y mid).cls ∧ q.2.1 = idx ∧ (c, t) ∈ q.2.2.2 ∧ am_N x = q.2.2.1 := by
  obtain ⟨q, hq, hm, hn⟩ := am_T_mem h
  unfold am_ik at hi
  rw [hq] at hi
  cases hz : am_cx[x]? with
  | none => rw [hz] at hi; cases hi
  | some z =>
    rw [hz] at hi
    simp only [Bool.and_eq_true, decide_eq_true_eq] at hi
    exact ⟨_, q, z, hLK.2.2.2.1 x q z hq hz, hi.2.2, hi.1, hi.2.1, hm, hn⟩
theorem am_mb_mk {t : Nat} (hLK : am_LK) (h : am_mb t = true) : am_mk t = true := by
  unfold am_mb at h
  simp only [Bool.and_eq_true, decide_eq_true_eq] at h
  exact hLK.2.2.2.2.2.2.2.2 t h.1 h.2
theorem am_sv_split {G : am_G} {a : Nat → Nat} {st : List am_V} {n : Nat} : am_sv G a st = (am_sv G a (st.take n).reverse).reverse ++ am_sv G a (st.drop n) := by
  unfold am_sv
  rw [← List.map_reverse, List.reverse_reverse, ← List.map_append, List.take_append_drop]
section
variable {l : Launch} {G : am_G} {X : Nat × (Nat → Int)} {K : am_K} {d mid pc n x : Nat} {lv : List (Nat × am_V)} {st rest : List am_V} {M : am_M} {r : am_R}
theorem am_call_inv {t : Nat} {as : List am_V} (hK : am_Good l G X K) (h : am_call K d mid pc lv rest M t as = some r) : ∃ d' r1, d = d' + 1 ∧ am_cats rest ≤ 8 ∧ am_cats as ≤ am_l t ∧ am_FG l G X d' t 0 (am_args 0 as) [] M r1 ∧ am_FG l G X (d' + 1) mid pc lv (r1.1.toList ++ rest) r1.2 r := by
  unfold am_call at h
  split at h
  · cases h
  · rename_i d'
    split at h
    · rename_i hc
      split at h
      · rename_i r1 h1
        exact ⟨d', r1, rfl, hc.1, hc.2, hK _ _ _ _ _ _ _ h1, hK _ _ _ _ _ _ _ h⟩
      · cases h
    · cases h
/-- who is called: its cell, by its kind -/
theorem am_kd_recv {a : Nat → Nat} {A : Nat → Prop} {s : State} {H : Heap} {locs : List Loc} {p : Program} {m : MethodId} {args : Array Value} {meth : Method} {c : Code} {v : am_V} {k : Nat} (hCO : am_COs) (C : am_Cx G X p s m args meth c mid A) (hW : am_Wd G a M A s H locs) (h : am_kd M v = some k) : ∃ b, am_tr G a v = .ref b ∧ ∃ cellB : Cell, H[b]? = some cellB ∧ cellB.vm.isStatics = false ∧ s.vm.findClass (am_cn2 k) = some cellB.cls := by
  obtain ⟨hx, hb, hml, hown, hts, hK, hnm, hA, hE1, hE2, hE3, hE4, hE5, ⟨adK, adV, hvk, had, hsr⟩, hE6⟩ := C
  unfold am_kd at h
  split at h
  · rename_i q
    split at h
    · rename_i sh hs
      split at h
      · rename_i h13
        cases h
        obtain ⟨r, ty0, hr, -⟩ := hCO sh.1 h13
        have he := am_ws_get (G := G) (a := a) hs
        rw [am_ceo h13] at he
        obtain ⟨cell, c1, c2, c3⟩ := va_recv hK hW.1 hr he
        refine ⟨a q, rfl, cell, c1, c2, ?_⟩
        unfold am_cn2
        rw [if_neg (by omega), am_cn_of hr]
        exact c3
      · cases h
    · cases h
  · rename_i ev
    split at h
    · rename_i he
      cases h
      obtain ⟨j, hj⟩ : ∃ j, ev = 1 + 2 * j := ⟨ev / 2, by omega⟩
      subst hj
      have hj : j < 10 := by omega
      refine ⟨adK j, ?_, vk_recv hvk hj hW.2.2⟩
      show va_rf (G.2.2 (1 + 2 * j)) = _
      rw [(had j hj).1]
      rfl
    · cases h
  · cases h
theorem am_drop_mem {v : am_V} (hd : st.drop n = v :: rest) : ∀ w, w ∈ v :: (st.take n).reverse ∨ w ∈ rest → w ∈ st := by
  intro w hw
  rw [← List.take_append_drop n st, hd]
  rcases hw with hw | hw
  · rcases List.mem_cons.mp hw with rfl | hw
    · exact List.mem_append_right _ List.mem_cons_self
    · exact List.mem_append_left _ (List.mem_reverse.mp hw)
  · exact List.mem_append_right _ (List.mem_cons_of_mem _ hw)
theorem am_x_virtual {v : Nat} (hLK : am_LK) (hK : am_Good l G X K) (hdec : decode (am_b mid) pc = .ok (.invokevirtual v, 3)) (hi : am_ik mid v x 0 = true) (h : am_x X K d mid pc lv st M (.invokevirtual v) 3 x = some r) : am_FG l G X d mid pc lv st M r := by
  simp only [am_x] at h
  split at h
  · rename_i w rest hdr
    split at h
    · rename_i k hk
      split at h
      · rename_i t ht
        split at h
        · rename_i hlen
          obtain ⟨d', r1, rfl, hc8, hcl, g1, g2⟩ := am_call_inv hK h
          obtain ⟨ix, q, z, hlk, hz, hq1, hq2, hm, hN⟩ := am_link hLK hi ht
          unfold am_lk at hlk
          rw [hz] at hlk
          have hvk := List.all_eq_true.mp hlk (k, t) hm
          dsimp only at hvk
          rw [hq1, hq2, ← hN] at hvk
          unfold am_vk at hvk
          rw [Bool.and_eq_true] at hvk
          obtain ⟨hmk, hvk⟩ := hvk
          have hmk := am_mb_mk hLK hmk
          obtain ⟨q1, q2, q3, q4, q5, q6⟩ := am_mk_spec hmk
          refine am_FG.call q2 q3 g1 g2 hcl hc8 (am_drop_mem hdr) (fun p e R s m args below meth c A a ls H locs cells slots C hl hW hM hbl hpre hfr hlo hcat hf => ?_)
          obtain ⟨b, hb1, hrecv⟩ := am_kd_recv hLK.1 C hW hk
          have e1 : am_sv G a (w :: (st.take (am_N x)).reverse) = .ref b :: am_sv G a (st.take (am_N x)).reverse := by
            show am_tr G a w :: am_sv G a (st.take (am_N x)).reverse = _
            rw [hb1]
          have est : am_sv G a st = (am_sv G a (st.take (am_N x)).reverse).reverse ++ .ref b :: am_sv G a rest := by
            rw [am_sv_split (n := am_N x), hdr]
            show _ ++ am_tr G a w :: am_sv G a rest = _
            rw [hb1]
          have hn : (am_sv G a (st.take (am_N x)).reverse).length = am_N x := by
            unfold am_sv
            rw [List.length_map, List.length_reverse, List.length_take]
            omega
          rw [e1] at hM hbl hpre ⊢
          rw [Bool.or_eq_true] at hvk
          rcases hvk with hvk | hvk
          · simp only [Bool.and_eq_true, decide_eq_true_eq] at hvk
            exact am_fV hmk C hl hM hbl hpre hfr hlo hcat hf hn est hrecv hdec (am_inI_tb hvk.1) (am_inI_tb hvk.2.1) (am_inI_tb hvk.2.2.1) hvk.2.2.2
          · simp only [Bool.and_eq_true, decide_eq_true_eq] at hvk
            obtain ⟨y1, y2, y3, y4, y5, y6, y7, y8⟩ := hvk
            exact am_fU hmk C hl hM hbl hpre hfr hlo hcat hf hn est hrecv hdec (am_inI_tb y1) (am_inI_tb y2) (am_inI_tb y3) (am_inI_tb y4) (am_inI_tb y5) (am_inI_tb y6) y7 y8
        · cases h
      · cases h
    · cases h
  · cases h
theorem am_x_special {v : Nat} (hLK : am_LK) (hK : am_Good l G X K) (hdec : decode (am_b mid) pc = .ok (.invokespecial v, 3)) (hi : am_ik mid v x 2 = true) (h : am_x X K d mid pc lv st M (.invokespecial v) 3 x = some r) : am_FG l G X d mid pc lv st M r := by
  simp only [am_x] at h
  split at h
  · rename_i w rest hdr
    split at h
    · rename_i k hk
      split at h
      · rename_i t ht
        obtain ⟨ix, q, z, hlk, hz, hq1, hq2, hm, hN⟩ := am_link hLK hi ht
        unfold am_lk at hlk
        rw [hz] at hlk
        have hvk := List.all_eq_true.mp hlk (0, t) hm
        dsimp only at hvk
        rw [hq1, hq2, ← hN] at hvk
        unfold am_pk at hvk
        rw [Bool.or_eq_true] at hvk
        split at h
        · rename_i hoi
          split at h
          · cases h
          · rename_i d'
            split at h
            · rename_i hc8
              obtain ⟨hc8, hn0⟩ := hc8
              have hlnk : Cond.methodLink (am_y mid).cls v objectInit ∈ am_tb := by
                rcases hvk with hvk | hvk
                · simp only [Bool.and_eq_true] at hvk
                  exact am_inI_tb hvk.2
                · exfalso
                  rw [Bool.and_eq_true] at hvk
                  subst hoi
                  have := hvk.1
                  revert this
                  decide +kernel
              obtain ⟨gg, gr⟩ := hK _ _ _ _ _ _ _ h
              rw [hn0] at hdr
              have hdr : st = w :: rest := hdr
              subst hdr
              refine ⟨gg, ?_⟩
              intro p e R s m args below meth c A Q a ls H locs cells slots n0 z0 C hd hdl hl w1 w2 w3 hW hc hs hrc hrs kk
              obtain ⟨b, hb1, -⟩ := am_kd_recv hLK.1 C hW hk
              obtain ⟨hx, hb, hml, hown, hts, hKK, hnm, hA, hE⟩ := id C
              have hcat : ((am_sv G a rest).map (fun v => v.category)).sum = am_cats rest := by
                unfold am_sv am_cats
                rw [List.map_map]
                congr 1
                apply List.map_congr_left
                intro v _
                exact am_tr_cat G a v
              refine W.objInit hx hb hown (hts _ hlnk) (hts _ hLK.2.2.2.2.2.2.1) (hts _ hLK.2.2.2.2.2.2.2.1) (g := F0 m pc ls (am_sv G a (w :: rest))) rfl (by rw [hml]; exact hl.1) (a := b) (rest := am_sv G a rest) (by show am_tr G a w :: am_sv G a rest = _; rw [hb1]) hdec (by omega) (by show 2 * 0 + _ + 12 ≤ _; rw [hcat]; omega) ?_
              exact gr p e R s m args below meth c A Q a ls H locs cells slots n0 z0 C hd hdl hl w1 w2 (am_wfs_tl w3) hW hc hs hrc hrs kk
            · cases h
        · rename_i hoi
          split at h
          · rename_i hlen
            obtain ⟨d', r1, rfl, hc8, hcl, g1, g2⟩ := am_call_inv hK h
            rcases hvk with hvk | hvk
            · simp only [Bool.and_eq_true, decide_eq_true_eq] at hvk
              exact absurd hvk.1 hoi
            · rw [Bool.and_eq_true] at hvk
              obtain ⟨hmk, hvk⟩ := hvk
              have hmk := am_mb_mk hLK hmk
              obtain ⟨q1, q2, q3, q4, q5, q6⟩ := am_mk_spec hmk
              refine am_FG.call q2 q3 g1 g2 hcl hc8 (am_drop_mem hdr) (fun p e R s m args below meth c A a ls H locs cells slots C hl hW hM hbl hpre hfr hlo hcat hf => ?_)
              obtain ⟨b, hb1, cellB, hr1, hr2, hr3⟩ := am_kd_recv hLK.1 C hW hk
              have e1 : am_sv G a (w :: (st.take (am_N x)).reverse) = .ref b :: am_sv G a (st.take (am_N x)).reverse := by
                show am_tr G a w :: am_sv G a (st.take (am_N x)).reverse = _
                rw [hb1]
              have est : am_sv G a st = (am_sv G a (st.take (am_N x)).reverse).reverse ++ .ref b :: am_sv G a rest := by
                rw [am_sv_split (n := am_N x), hdr]
                show _ ++ am_tr G a w :: am_sv G a rest = _
                rw [hb1]
              have hn : (am_sv G a (st.take (am_N x)).reverse).length = am_N x := by
                unfold am_sv
                rw [List.length_map, List.length_reverse, List.length_take]
                omega
              rw [e1] at hM hbl hpre ⊢
              simp only [Bool.and_eq_true, Bool.or_eq_true, decide_eq_true_eq] at hvk
              obtain ⟨k1, k2, k3⟩ := hvk
              rcases k3 with ⟨y1, y2, y3⟩ | ⟨y1, y2, y3, y4, y5, y6⟩
              · rcases y3 with y3 | y3
                · exact am_fI hmk C hl hM hbl hpre hfr hlo hcat hf hn est hdec (am_inI_tb y3) (am_inI_tb k1) y1 y2 k2
                · exact am_fIN hmk C hl hM hbl hpre hfr hlo hcat hf hn est hdec y3 (am_inI_tb k1) y1 y2 k2
              · obtain ⟨kB, hkB⟩ := Vm.classAt_of_findClass hr3
                exact am_fX hmk C hl hM hbl hpre hfr hlo hcat hf hn est ⟨cellB, kB, hr1, hr2, hkB⟩ hdec (am_inI_tb y2) (am_inI_tb k1) (am_inI_tb y3) y4 k2 (am_inI_tb y5) (y6.imp id am_inI_tb) y1
          · cases h
      · cases h
    · cases h
  · cases h
theorem am_x_copy {v : Nat} {q : List am_V × am_M} {d' : Nat} (hLK : am_LK) (hdec : decode (am_b mid) pc = .ok (.invokestatic v, 3)) (hlk : Cond.methodLink (am_y mid).cls v arraycopyName ∈ am_tb) (hcp : am_cp M st = some q) (hG : am_FG l G X (d' + 1) mid (pc + 3) lv q.1 q.2 r) : am_FG l G X (d' + 1) mid pc lv st M r := by
  unfold am_cp at hcp
  split at hcp
  · rename_i nn dp k sp qq st'
    split at hcp
    · rename_i sh th hs ht
      split at hcp
      · rename_i hc
        obtain ⟨c1, c2, c3, c4, c5, c6, c7, c8, c9, c10⟩ := hc
        cases hcp
        obtain ⟨gg, gr⟩ := hG
        refine ⟨gg, ?_⟩
        intro p e R s m args below meth c A Q a ls H locs cells slots n0 z0 C hd hdl hl w1 w2 w3 hW hc0 hs0 hrc hrs kk
        obtain ⟨hx, hb, hml, hown, hts, hKK, hnm, hA, hE⟩ := id C
        have hcat : ((am_sv G a st').map (fun v => v.category)).sum = am_cats st' := by
          unfold am_sv am_cats
          rw [List.map_map]
          congr 1
          apply List.map_congr_left
          intro v _
          exact am_tr_cat G a v
        have he1 := am_ws_get (G := G) (a := a) hs
        rw [am_ce20 c1] at he1
        have he0 := am_ws_get (G := G) (a := a) ht
        rw [am_ce20 c2] at he0
        obtain ⟨n1, n2, n3⟩ := hLK.2.2.2.2.2.1
        have v1 := am_clamp c3 (show nn < 2147483648 by omega)
        have v2 := am_clamp c4 (show dp < 2147483648 by omega)
        have v3 := am_clamp c5 (show sp < 2147483648 by omega)
        refine va_copyi (ty := .int) hx hb (by rw [hml]; exact hl.1.symm) hown (hts _ hlk) (hts _ n1) (hts _ n2) (hts _ n3) hKK hW.1 hW.2.1 hW.2.2 qq k 0 0 he0 he1 rfl rfl rfl (am_nneg c5 (by omega)) (am_nneg c4 (by omega)) (am_nneg c3 (by omega)) (by rw [v1, v3]; omega) (by rw [v1, v2]; omega) (fun _ _ => rfl) (by omega) (by show ((am_sv G a st').map (fun v => v.category)).sum + (5 + 2 + 11) ≤ _; rw [hcat]; omega) hdec (fun H1 locs1 q1 q2 q3 => ?_)
        have hset : (am_ws G a M).set k (a k, .inl (G.2.1 0, sh.2, .inl (va_cpy (fun i => Int32.ofInt (M.2.1 qq i)) (fun i => Int32.ofInt (M.2.1 k i)) (Int32.ofInt sp).toNatClampNeg (Int32.ofInt dp).toNatClampNeg (Int32.ofInt nn).toNatClampNeg))) = am_ws G a (M.1, (fun c i => if c = k ∧ (dp.toNat ≤ i ∧ i < dp.toNat + nn.toNat) then M.2.1 qq (sp.toNat + (i - dp.toNat)) else M.2.1 c i), M.2.2.1, M.2.2.2) := by
          refine am_ws_set (M := M) (M' := (M.1, (fun c i => if c = k ∧ (dp.toNat ≤ i ∧ i < dp.toNat + nn.toNat) then M.2.1 qq (sp.toNat + (i - dp.toNat)) else M.2.1 c i), M.2.2.1, M.2.2.2)) rfl hs (fun w hw => ⟨?_, rfl, rfl⟩) ?_
          · funext i
            show (if w = k ∧ _ then _ else M.2.1 w i) = _
            rw [if_neg (fun h => hw h.1)]
          · rw [am_ce20 c1, v1, v2, v3]
            congr 4
            funext i
            show va_cpy (fun i => Int32.ofInt (M.2.1 qq i)) (fun i => Int32.ofInt (M.2.1 k i)) sp.toNat dp.toNat nn.toNat i = Int32.ofInt (if k = k ∧ (dp.toNat ≤ i ∧ i < dp.toNat + nn.toNat) then M.2.1 qq (sp.toNat + (i - dp.toNat)) else M.2.1 k i)
            unfold va_cpy
            by_cases hi : dp.toNat ≤ i ∧ i < dp.toNat + nn.toNat
            · rw [if_pos hi, if_pos ⟨rfl, hi⟩]
            · rw [if_neg hi, if_neg (fun h => hi h.2)]
        rw [hset] at q1 q2
        exact gr p e R s m args below meth c A Q a ls H1 locs1 cells slots n0 z0 C hd hdl hl w1 w2 (am_wfs_tl (am_wfs_tl (am_wfs_tl (am_wfs_tl (am_wfs_tl w3))))) ⟨q1, q2, q3⟩ hc0 hs0 hrc hrs kk
      · cases hcp
    · cases hcp
  · cases hcp
theorem am_x_static {v : Nat} (hLK : am_LK) (hK : am_Good l G X K) (hdec : decode (am_b mid) pc = .ok (.invokestatic v, 3)) (hck : am_ckc mid (.invokestatic v) x = true) (h : am_x X K d mid pc lv st M (.invokestatic v) 3 x = some r) : am_FG l G X d mid pc lv st M r := by
  simp only [am_x] at h
  simp only [am_ckc, Bool.and_eq_true] at hck
  obtain ⟨hi, hck⟩ := hck
  split at h
  · rename_i t ht
    split at h
    · rename_i hlen
      obtain ⟨d', r1, rfl, hc8, hcl, g1, g2⟩ := am_call_inv hK h
      obtain ⟨ix, q, z, hlk, hz, hq1, hq2, hm, hN⟩ := am_link hLK hi ht
      unfold am_lk at hlk
      rw [hz] at hlk
      have hvk := List.all_eq_true.mp hlk (0, t) hm
      dsimp only at hvk
      rw [hq1, hq2, ← hN] at hvk
      unfold am_sk at hvk
      rw [Bool.and_eq_true] at hvk
      obtain ⟨hmk, hvk⟩ := hvk
      have hmk := am_mb_mk hLK hmk
      obtain ⟨q1, q2, q3, q4, q5, q6⟩ := am_mk_spec hmk
      refine am_FG.call q2 q3 g1 g2 hcl hc8 ?_ (fun p e R s m args below meth c A a ls H locs cells slots C hl hW hM hbl hpre hfr hlo hcat hf => ?_)
      · intro w hw
        rw [← List.take_append_drop (am_N x) st]
        rcases hw with hw | hw
        · exact List.mem_append_left _ (List.mem_reverse.mp hw)
        · exact List.mem_append_right _ hw
      have hn : (am_sv G a (st.take (am_N x)).reverse).length = am_N x := by
        unfold am_sv
        rw [List.length_map, List.length_reverse, List.length_take]
        omega
      simp only [Bool.and_eq_true, Bool.or_eq_true, decide_eq_true_eq] at hvk
      obtain ⟨k1, k2, k3⟩ := hvk
      rcases k3 with k3 | ⟨y1, y2, y3⟩
      · exact am_fS hmk C hl hM hbl hpre hfr hlo hcat hf hn am_sv_split hdec (am_inI_tb k3) (am_inI_tb k1) k2
      · exact am_fSU hmk C hl hM hbl hpre hfr hlo hcat hf hn am_sv_split hdec (am_inI_tb y1) (am_inI_tb k1) (am_inI_tb y2) y3 k2
    · cases h
  · rename_i ht
    split at h
    · rename_i h5
      split at h
      · cases h
      · rename_i d'
        split at h
        · rename_i q hq
          rw [ht] at hck
          simp only [h5, ne_eq, not_true_eq_false, decide_false, Bool.false_or] at hck
          exact am_x_copy hLK hdec (am_inT_tb hck) hq (hK _ _ _ _ _ _ _ h)
        · cases h
    · cases h
/-- one instruction -/
theorem am_x_ok {i : Instr} (hLK : am_LK) (hK : am_Good l G X K) (hdec : decode (am_b mid) pc = .ok (i, n)) (hck : am_ck mid pc i n x = true) (hckc : am_ckc mid i x = true) (h : am_x X K d mid pc lv st M i n x = some r) : am_FG l G X d mid pc lv st M r := by
  have hret : ∀ v, am_ret mid v M = some r → (am_rok mid v = true ∧ r = (v, M)) := by
    intro v hv
    unfold am_ret at hv
    split at hv
    · rename_i h1
      exact ⟨h1, (Option.some.inj hv).symm⟩
    · cases hv
  have hdef : ∀ q, am_s X pc lv st M i n x = some q → K d mid q.1 q.2.1 q.2.2.1 q.2.2.2 = some r → am_FG l G X d mid pc lv st M r := fun q h1 h2 => am_FG.step (am_s_ok hLK.1 hLK.2.1 hLK.2.2.1 hdec hck h1) (hK _ _ _ _ _ _ _ h2)
  have hn1 : ∀ {j : Instr}, i = j → (am_ck mid pc j n x = decide (n = 1)) → n = 1 := fun hj h1 => by
    rw [hj, h1, decide_eq_true_eq] at hck
    exact hck
  have hn3 : ∀ {j : Instr}, i = j → (am_ck mid pc j n x = decide (n = 3)) → n = 3 := fun hj h1 => by
    rw [hj, h1, decide_eq_true_eq] at hck
    exact hck
  cases i with
  | ireturn =>
    have hn := hn1 rfl rfl
    subst hn
    simp only [am_x] at h
    split at h
    · obtain ⟨h1, rfl⟩ := hret _ h
      exact am_FG.ret hdec h1 rfl
    · cases h
  | lreturn =>
    have hn := hn1 rfl rfl
    subst hn
    simp only [am_x] at h
    split at h
    · obtain ⟨h1, rfl⟩ := hret _ h
      exact am_FG.ret hdec h1 rfl
    · cases h
  | areturn =>
    have hn := hn1 rfl rfl
    subst hn
    simp only [am_x] at h
    split at h
    · obtain ⟨h1, rfl⟩ := hret _ h
      exact am_FG.ret hdec h1 rfl
    · cases h
  | return_ =>
    have hn := hn1 rfl rfl
    subst hn
    simp only [am_x] at h
    split at h
    · obtain ⟨h1, rfl⟩ := hret _ h
      exact am_FG.ret hdec h1 rfl
    · cases h
  | invokevirtual v =>
    have hn := hn3 rfl rfl
    subst hn
    exact am_x_virtual hLK hK hdec hckc h
  | invokespecial v =>
    have hn := hn3 rfl rfl
    subst hn
    exact am_x_special hLK hK hdec hckc h
  | invokestatic v =>
    have hn := hn3 rfl rfl
    subst hn
    exact am_x_static hLK hK hdec hckc h
  | _ =>
    simp only [am_x] at h
    split at h
    · rename_i q hq
      exact hdef q hq h
    · cases h
theorem am_good_step (hLK : am_LK) (hK : am_Good l G X K) : am_Good l G X (am_step X K) := by
  intro d mid pc lv st M r h
  unfold am_step at h
  split at h
  · rename_i q hq
    obtain ⟨i, n, x⟩ := q
    obtain ⟨h1, h2, h3⟩ := hLK.2.2.2.2.1 mid pc i n x hq
    exact am_x_ok hLK hK h1 h2 h3 h
  · cases h
/-- THE SMALL MACHINE's runs are the machine's -/
theorem am_good (hLK : am_LK) : ∀ n, am_Good l G X (am_run X n) := by
  intro n
  induction n with
  | zero => intro d mid pc lv st M r h; cases h
  | succ n ih => exact am_good_step hLK ih
end
