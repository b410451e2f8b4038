/-! steps that make cells, and the two that ask for a kind -/
theorem am_sz_nw (M : am_M) (s : Nat × Nat) : am_sz (am_nw M s) = am_sz M + s.2 := by
  unfold am_sz am_nw
  simp
theorem am_len_nw (M : am_M) (s : Nat × Nat) : (am_nw M s).1.length = M.1.length + 1 := by
  unfold am_nw
  simp
theorem am_wf_nw {M : am_M} (s : Nat × Nat) (h : am_wf M) : am_wf (am_nw M s) := by
  intro k i r hr
  rw [am_len_nw]
  have hr : am_z M.2.2.2 M.1.length none k i = some r := hr
  unfold am_z at hr
  split at hr
  · cases hr
  · have := h k i r hr
    omega
theorem am_wfs_up {n m : Nat} {st : List am_V} (h : am_wfs n st) (hm : n ≤ m) : am_wfs m st := fun v hv r hr => Nat.lt_of_lt_of_le (h v hv r hr) hm
theorem am_wfl_up {n m : Nat} {lv : List (Nat × am_V)} (h : am_wfl n lv) (hm : n ≤ m) : am_wfl m lv := fun v hv r hr => Nat.lt_of_lt_of_le (h v hv r hr) hm
theorem am_ws_nw {G : am_G} {a a' : Nat → Nat} {M : am_M} {s : Nat × Nat} {q : Nat} (hw : am_wf M) (ha : am_ag M.1.length a a') (hq : a' M.1.length = q) : am_ws G a' (am_nw M s) = am_ws G a M ++ [(q, am_ce G a' (am_nw M s) M.1.length s)] := by
  apply List.ext_getElem?
  intro i
  have hl : (am_ws G a M).length = M.1.length := by unfold am_ws; rw [List.length_mapIdx]
  unfold am_ws at hl ⊢
  by_cases hi : i < M.1.length
  · rw [List.getElem?_append_left (by rw [hl]; exact hi), List.getElem?_mapIdx, List.getElem?_mapIdx]
    have e1 : (am_nw M s).1[i]? = M.1[i]? := List.getElem?_append_left hi
    rw [e1]
    cases hs : M.1[i]? with
    | none => rfl
    | some s' =>
      simp only [Option.map_some]
      rw [ha i hi, am_ce_congr (M := M) (am_z_ne (by omega)) (am_z_ne (by omega)) (am_z_ne (by omega)), am_ce_ag hw ha]
  · rw [List.getElem?_append_right (by rw [hl]; omega), List.getElem?_mapIdx, hl]
    by_cases he : i = M.1.length
    · subst he
      have e1 : (am_nw M s).1[M.1.length]? = some s := by unfold am_nw; simp
      rw [e1, Nat.sub_self]
      simp only [Option.map_some, hq]
      rfl
    · have e1 : (am_nw M s).1[i]? = none := List.getElem?_eq_none (by rw [am_len_nw]; omega)
      rw [e1]
      have : ∃ d, i - M.1.length = d + 1 := ⟨i - M.1.length - 1, by omega⟩
      obtain ⟨d, hd⟩ := this
      rw [hd]
      rfl
section
variable {l : Launch} {G : am_G} {X : Nat × (Nat → Int)} {mid pc pc' : Nat} {lv : List (Nat × am_V)} {st st0 : List am_V} {M : am_M}
theorem am_Stp.nw (sh : Nat × Nat) (hw : am_wfs M.1.length st → am_wfs M.1.length st0)
    (hr : ∀ (p : Program) (e : Env) (R : Room) (s : State) (m : MethodId) (args : Array Value) (below : List Frame) (meth : Method) (c : Code) (A : Nat → Prop) (Q : State → Prop) (a : Nat → Nat) (ls : Array Slot) (H : Heap) (locs : List Loc) (cells slots : Nat),
      am_Cx G X p s m args meth c mid A → lv_has ls (am_l mid) (am_lv G a lv) → am_Wd G a M A s H locs → cells + 1 ≤ R.cells → slots + sh.2 ≤ R.slots →
      (∀ (q : Nat) (H1 : Heap), va_P G.1 vwCl (am_ws G a M ++ [(q, am_ce G (fun i => if i = M.1.length then q else a i) (am_nw M sh) M.1.length sh)]) H1 → va_D A (am_ws G a M ++ [(q, am_ce G (fun i => if i = M.1.length then q else a i) (am_nw M sh) M.1.length sh)]) → va_S A s.heap H1 locs → W p l e R s m args below meth c H1 locs (cells + 1) (slots + sh.2) Q (F0 m pc' ls (.ref q :: am_sv G a st0))) →
      W p l e R s m args below meth c H locs cells slots Q (F0 m pc ls (am_sv G a st))) : am_Stp l G X mid pc lv st M pc' lv (.inr (.inr (.inl (some M.1.length))) :: st0) (am_nw M sh) := by
  refine ⟨⟨by rw [am_len_nw]; omega, by rw [am_sz_nw]; omega⟩, fun w1 w2 w3 => ⟨am_wf_nw sh w1, am_wfl_up w2 (by rw [am_len_nw]; omega), am_wfs_cons (am_wfv_r (fun k hk => by cases hk; rw [am_len_nw]; omega)) (am_wfs_up (hw w3) (by rw [am_len_nw]; omega))⟩, ?_⟩
  intro p e R s m args below meth c A Q a ls H locs cells slots C hl w1 w2 w3 hW h1 h2 k
  have d1 : (am_nw M sh).1.length - M.1.length = 1 := by rw [am_len_nw]; omega
  have d2 : am_sz (am_nw M sh) - am_sz M = sh.2 := by rw [am_sz_nw]; omega
  rw [d1] at h1 k
  rw [d2] at h2 k
  refine hr p e R s m args below meth c A Q a ls H locs cells slots C hl hW h1 h2 (fun q H1 q1 q2 q3 => ?_)
  have hag : am_ag M.1.length a (fun i => if i = M.1.length then q else a i) := fun i hi => by
    show (if i = M.1.length then q else a i) = a i
    rw [if_neg (by omega)]
  have hq : (fun i => if i = M.1.length then q else a i) M.1.length = q := by simp
  have hws := am_ws_nw (G := G) (s := sh) w1 hag hq
  have k9 := k _ ls H1 locs hag (by rw [am_lv_ag hag w2]; exact hl) ⟨by rw [hws]; exact q1, by rw [hws]; exact q2, q3⟩
  have e9 : am_sv G (fun i => if i = M.1.length then q else a i) (.inr (.inr (.inl (some M.1.length))) :: st0) = .ref q :: am_sv G a st0 := by
    show va_rf (some (if M.1.length = M.1.length then q else a M.1.length)) :: am_sv G _ st0 = _
    rw [if_pos rfl, am_sv_ag hag (hw w3)]
    rfl
  rw [e9] at k9
  exact k9
end
def am_df (c i : Nat) : Value := match am_ft c i with
  | 0 => .int 0
  | 3 => .int 0
  | 1 => .long 0
  | _ => .null
theorem am_df_ok {c i : Nat} {ty : FieldType} (h : am_fok (am_ft c i) ty = true) : defaultValue ty = am_df c i := by
  unfold am_df
  generalize am_ft c i = k at h
  unfold am_fok at h
  split at h
  · rfl
  · rfl
  · rfl
  · rfl
  · cases h
theorem am_o0i : Int32.ofInt 0 = 0 := by decide +kernel
theorem am_o0j : Int64.ofInt 0 = 0 := by decide +kernel
theorem am_ce_new {G : am_G} {a : Nat → Nat} {M : am_M} {sh : Nat × Nat} (h : sh.1 < 13) : am_ce G a (am_nw M sh) M.1.length sh = .inr (sh.1, (List.range sh.2).map (am_df sh.1)) := by
  rw [am_ceo h]
  congr 3
  funext i
  have e1 : (am_nw M sh).2.1 M.1.length i = 0 := by show am_z _ _ _ _ _ = _; unfold am_z; rw [if_pos rfl]
  have e2 : (am_nw M sh).2.2.1 M.1.length i = 0 := by show am_z _ _ _ _ _ = _; unfold am_z; rw [if_pos rfl]
  have e3 : (am_nw M sh).2.2.2 M.1.length i = none := by show am_z _ _ _ _ _ = _; unfold am_z; rw [if_pos rfl]
  unfold am_gf am_df
  rw [e1, e2, e3]
  generalize am_ft sh.1 i = t
  rcases t with _ | _ | _ | _ | t
  · show Value.int (Int32.ofInt 0) = Value.int 0; rw [am_o0i]
  · show Value.long (Int64.ofInt 0) = Value.long 0; rw [am_o0j]
  · rfl
  · show Value.int (Int32.ofInt 0) = Value.int 0; rw [am_o0i]
  · rfl
theorem am_findA {U : State} {G : am_G} {tys : List (ClassId × FieldType)} {cA : ClassId} {k : Nat} {ty : FieldType} {g : ClassId} (h1 : va_K G.1 vwCl (tys ++ [(cA, ty)]) U) (h2 : va_K G.1 vwCl tys U) (hk : tys[k]? = some (g, ty)) : cA = g := by
  have f1 := (h1.2 tys.length (cA, ty) (by simp)).2
  have f2 := (h2.2 k (g, ty) hk).2
  unfold va_RA at f1 f2
  cases ty with
  | object C =>
    obtain ⟨-, -, -, -, -, g1⟩ := f1
    obtain ⟨-, -, -, -, -, g2⟩ := f2
    exact Option.some.inj (g1.symm.trans g2)
  | _ => exact Option.some.inj (f1.symm.trans f2)
section
variable {l : Launch} {G : am_G} {X : Nat × (Nat → Int)} {mid pc n x : Nat} {lv : List (Nat × am_V)} {st : List am_V} {M : am_M} {q : Nat × List (Nat × am_V) × List am_V × am_M}
theorem am_k_new {v : Nat} (hd : decode (am_b mid) pc = .ok (.new v, 3)) (hCO : am_COs) (hcl : Cond.classLink (am_y mid).cls v (am_cn x) ∈ am_tb) (h : am_s X pc lv st M (.new v) 3 x = some q) : am_Stp l G X mid pc lv st M q.1 q.2.1 q.2.2.1 q.2.2.2 := by
  simp only [am_s] at h
  split at h
  · rename_i hx13
    cases h
    refine am_Stp.nw (x, am_nf x) (fun w => w) (fun p e R s m args below meth c A Q a ls H locs cells slots C hl hW h1 h2 kk => ?_)
    obtain ⟨hx, hb, hml, hown, hts, hK, hnm, hA, hE⟩ := C
    obtain ⟨r, ty0, hr, hn, hin, hi1, hi2, hty, -, hok⟩ := hCO x hx13
    have hcn : am_cn x = r.1 := by unfold am_cn; rw [List.getD_eq_getElem?_getD, hr]; rfl
    rw [hcn] at hcl
    rw [← hn] at h2 kk
    refine va_new (T := r.2.1) (N := r.2.2) (C := r.1) (ci := x) (fs := (List.range r.2.2).map (am_df x)) hx hb hts hin ty0 hty hown (hts _ hcl) (hts _ hi1) (hts _ hi2) hK hW.1 hW.2.1 hW.2.2 hA hr (fun j hj => ?_) h1 h2 hd (fun q H1 q1 q2 q3 => ?_)
    · rw [am_df_ok (hok j hj)]
      unfold vp_V
      rw [List.getD_eq_getElem?_getD, List.getElem?_map, List.getElem?_range hj]
      rfl
    · have hce := am_ce_new (G := G) (a := fun i => if i = M.1.length then q else a i) (M := M) (sh := (x, r.2.2)) hx13
      refine kk q H1 ?_ ?_ q3
      · rw [hce]; exact q1
      · rw [hce]; exact q2
  · cases h
theorem am_k_newarray {v : ArrayType} (hd : decode (am_b mid) pc = .ok (.newarray v, 2)) (hac : ∀ t : FieldType, t = .int ∨ t = .long ∨ t = .boolean → Cond.arrayClass t ∈ am_tb) (h : am_s X pc lv st M (.newarray v) 2 x = some q) : am_Stp l G X mid pc lv st M q.1 q.2.1 q.2.2.1 q.2.2.2 := by
  simp only [am_s] at h
  split at h
  · rename_i z st'
    split at h
    · rename_i hz
      have hz3 : z < 2147483648 := by omega
      split at h
      · cases h
        refine am_Stp.nw (20, z.toNat) (fun w => am_wfs_tl w) (fun p e R s m args below meth c A Q a ls H locs cells slots C hl hW h1 h2 kk => ?_)
        obtain ⟨hx, hb, hml, hown, hts, hK, hnm, hA, hE⟩ := C
        refine va_newa (a0 := (z.toNat, .inl (fun _ => 0))) (ty := .int) (atype := .int) hx hb (hts _ (hac .int (Or.inl rfl))) rfl hK hW.1 hW.2.1 hW.2.2 hA (fun cA => rfl) (am_nneg hz.1 hz3) (am_clamp hz.1 hz3) (by show z.toNat * 4 ≤ _; omega) h1 h2 hd (fun q cA H1 q0 q1 q2 q3 => ?_)
        have hcA := am_findA q0 hK (k := 0) rfl
        subst hcA
        have hce : am_ce G (fun i => if i = M.1.length then q else a i) (am_nw M (20, z.toNat)) M.1.length (20, z.toNat) = .inl (G.2.1 0, z.toNat, .inl (fun _ => 0)) := by
          rw [am_ce20 rfl]
          congr 4
          funext i
          show Int32.ofInt (am_z _ _ _ _ _) = _
          unfold am_z
          rw [if_pos rfl, am_o0i]
        exact kk q H1 (by rw [hce]; exact q1) (by rw [hce]; exact q2) q3
      · cases h
        refine am_Stp.nw (21, z.toNat) (fun w => am_wfs_tl w) (fun p e R s m args below meth c A Q a ls H locs cells slots C hl hW h1 h2 kk => ?_)
        obtain ⟨hx, hb, hml, hown, hts, hK, hnm, hA, hE⟩ := C
        refine va_newa (a0 := (z.toNat, .inr (.inl (fun _ => 0)))) (ty := .long) (atype := .long) hx hb (hts _ (hac .long (Or.inr (Or.inl rfl)))) rfl hK hW.1 hW.2.1 hW.2.2 hA (fun cA => rfl) (am_nneg hz.1 hz3) (am_clamp hz.1 hz3) (by show z.toNat * 8 ≤ _; omega) h1 h2 hd (fun q cA H1 q0 q1 q2 q3 => ?_)
        have hcA := am_findA q0 hK (k := 1) rfl
        subst hcA
        have hce : am_ce G (fun i => if i = M.1.length then q else a i) (am_nw M (21, z.toNat)) M.1.length (21, z.toNat) = .inl (G.2.1 1, z.toNat, .inr (.inl (fun _ => 0))) := by
          rw [am_ce21 rfl]
          congr 5
          funext i
          show Int64.ofInt (am_z _ _ _ _ _) = _
          unfold am_z
          rw [if_pos rfl, am_o0j]
        exact kk q H1 (by rw [hce]; exact q1) (by rw [hce]; exact q2) q3
      · cases h
        refine am_Stp.nw (22, z.toNat) (fun w => am_wfs_tl w) (fun p e R s m args below meth c A Q a ls H locs cells slots C hl hW h1 h2 kk => ?_)
        obtain ⟨hx, hb, hml, hown, hts, hK, hnm, hA, hE⟩ := C
        refine va_newa (a0 := (z.toNat, .inl (fun _ => 0))) (ty := .boolean) (atype := .boolean) hx hb (hts _ (hac .boolean (Or.inr (Or.inr rfl)))) rfl hK hW.1 hW.2.1 hW.2.2 hA (fun cA => rfl) (am_nneg hz.1 hz3) (am_clamp hz.1 hz3) (by show z.toNat * 1 ≤ _; omega) h1 h2 hd (fun q cA H1 q0 q1 q2 q3 => ?_)
        have hcA := am_findA q0 hK (k := 2) rfl
        subst hcA
        have hce : am_ce G (fun i => if i = M.1.length then q else a i) (am_nw M (22, z.toNat)) M.1.length (22, z.toNat) = .inl (G.2.1 2, z.toNat, .inl (fun _ => 0)) := by
          rw [am_ce22 rfl]
          congr 4
          funext i
          show Int32.ofInt (am_z _ _ _ _ _) = _
          unfold am_z
          rw [if_pos rfl, am_o0i]
        exact kk q H1 (by rw [hce]; exact q1) (by rw [hce]; exact q2) q3
      · cases h
    · cases h
  · cases h
theorem am_k_anewarray {v : Nat} (hd : decode (am_b mid) pc = .ok (.anewarray v, 3)) (hcl : Cond.classLink (am_y mid).cls v RX4 ∈ am_tb) (h : am_s X pc lv st M (.anewarray v) 3 x = some q) : am_Stp l G X mid pc lv st M q.1 q.2.1 q.2.2.1 q.2.2.2 := by
  simp only [am_s] at h
  split at h
  · rename_i z st'
    split at h
    · rename_i hz
      have hz3 : z < 2147483648 := by omega
      cases h
      refine am_Stp.nw (24, z.toNat) (fun w => am_wfs_tl w) (fun p e R s m args below meth c A Q a ls H locs cells slots C hl hW h1 h2 kk => ?_)
      obtain ⟨hx, hb, hml, hown, hts, hK, hnm, hA, hE1, hE2, hE3, hE4, hE5, hE6⟩ := C
      refine va_newq (C := RX4) hx hb hown (hts _ hcl) hE4 hK hW.1 hW.2.1 hW.2.2 hA (am_nneg hz.1 hz3) (am_clamp hz.1 hz3) (by omega) h1 h2 hd (fun q cA H1 q0 q1 q2 q3 => ?_)
      have hcA := am_findA q0 hK (k := 4) rfl
      subst hcA
      have hce : am_ce G (fun i => if i = M.1.length then q else a i) (am_nw M (24, z.toNat)) M.1.length (24, z.toNat) = .inl (G.2.1 4, z.toNat, .inr (.inr (.inr (.inr (fun _ => none))))) := by
        rw [am_ce24 rfl]
        congr 7
        funext i
        show (am_z _ _ _ _ _ : Option Nat).map _ = _
        unfold am_z
        rw [if_pos rfl]
        rfl
      exact kk q H1 (by rw [hce]; exact q1) (by rw [hce]; exact q2) q3
    · cases h
  · cases h
theorem am_cn_of {c : Nat} {r : vw_C} (hr : vwCl[c]? = some r) : am_cn c = r.1 := by unfold am_cn; rw [List.getD_eq_getElem?_getD, hr]; rfl
theorem am_mem_kin {c : Nat} (h : am_mem c = true) : c ∈ am_kin ∧ c < 13 := by
  unfold am_mem at h
  simp only [Bool.or_eq_true, beq_iff_eq] at h
  unfold am_kin
  simp only [List.mem_cons, List.not_mem_nil, or_false]
  omega
theorem am_k_aastore (hd : decode (am_b mid) pc = .ok (.aastore, 1)) (hCO : am_COs) (h : am_s X pc lv st M .aastore 1 x = some q) : am_Stp l G X mid pc lv st M q.1 q.2.1 q.2.2.1 q.2.2.2 := by
  simp only [am_s] at h
  split at h
  · rename_i v j k st'
    split at h
    · rename_i sh sv hs hv
      split at h
      · rename_i hc
        cases h
        refine am_Stp.put rfl (fun w1 w3 => ⟨am_wf_pR w1 (fun r hr => by cases hr; exact (List.getElem?_eq_some_iff.mp hv).1), am_wfs_tl (am_wfs_tl (am_wfs_tl w3))⟩) (fun p e R s m args below meth c A Q a ls H locs cells slots C hl w3 hW kk => ?_)
        obtain ⟨hx, hb, hml, hown, hts, hK, hnm, hA, hE1, hE2, hE3⟩ := C
        obtain ⟨v1, v2⟩ := am_vp hc.2.1
        obtain ⟨hk1, hk2⟩ := am_mem_kin hc.2.2
        obtain ⟨r, ty0, hr, -⟩ := hCO sv.1 hk2
        have he := am_ws_get (G := G) (a := a) hs
        rw [am_ce24 hc.1] at he
        have hev := am_ws_get (G := G) (a := a) hv
        rw [am_ceo hk2] at hev
        have fin : ∀ (H1 : Heap) (locs1 : List Loc), va_P G.1 vwCl ((am_ws G a M).set k (a k, .inl (G.2.1 4, sh.2, .inr (.inr (.inr (.inr (va_up (fun i => (M.2.2.2 k i).map a) (Int32.ofInt j).toNatClampNeg (some (a v))))))))) H1 → va_D A ((am_ws G a M).set k (a k, .inl (G.2.1 4, sh.2, .inr (.inr (.inr (.inr (va_up (fun i => (M.2.2.2 k i).map a) (Int32.ofInt j).toNatClampNeg (some (a v))))))))) → va_S A s.heap H1 locs1 → W p l e R s m args below meth c H1 locs1 cells slots Q (F0 m (pc + 1) ls (am_sv G a st')) := by
          intro H1 locs1 q1 q2 q3
          have hset : (am_ws G a M).set k (a k, .inl (G.2.1 4, sh.2, .inr (.inr (.inr (.inr (va_up (fun i => (M.2.2.2 k i).map a) (Int32.ofInt j).toNatClampNeg (some (a v)))))))) = am_ws G a (am_pR M k j.toNat (some v)) := by
            refine am_ws_set (M := M) (M' := am_pR M k j.toNat (some v)) rfl hs am_offR ?_
            rw [am_ce24 hc.1, v2]
            congr 7
            funext i
            show va_up (fun i => (M.2.2.2 k i).map a) j.toNat (some (a v)) i = (am_up M.2.2.2 k j.toNat (some v) k i).map a
            rw [am_up_row]
            unfold va_up
            by_cases e0 : i = j.toNat
            · rw [if_pos e0, if_pos e0]; rfl
            · rw [if_neg e0, if_neg e0]
          rw [hset] at q1 q2
          exact kk H1 locs1 ⟨q1, q2, q3⟩
        by_cases h4 : sv.1 = 4
        · rw [h4] at hr hev
          cases hr
          exact va_astq (r := (RX4, TX4, 3)) hx hb hK hW.1 hW.2.1 hW.2.2 k 4 v 4 he rfl hev rfl v1 hd fin
        · have hca := hE2 sv.1 hk1 h4
          rw [am_cn_of hr] at hca
          exact va_astqO (r := r) (E := RX4) hx hb hK hW.1 hW.2.1 hW.2.2 k 4 v sv.1 he rfl hca hev hr v1 hd fin
      · cases h
    · cases h
  · cases h
theorem am_k_instanceof {v : Nat} (hd : decode (am_b mid) pc = .ok (.instanceof v, 3)) (hCO : am_COs) (hx5 : x = 5 ∨ x = 6 ∨ x = 8) (hcl : Cond.classLink (am_y mid).cls v (am_cn x) ∈ am_tb) (h : am_s X pc lv st M (.instanceof v) 3 x = some q) : am_Stp l G X mid pc lv st M q.1 q.2.1 q.2.2.1 q.2.2.2 := by
  simp only [am_s] at h
  split at h
  · rename_i k st'
    split at h
    · rename_i sh hs
      split at h
      · rename_i hc
        obtain ⟨bb, hio, rfl⟩ := Option.map_eq_some_iff.mp h
        refine am_Stp.pure (fun w2 w3 => am_wfs_cons (am_wfv_i _ _) (am_wfs_tl w3)) (fun p e R s m args below meth c A Q a ls H locs cells slots C hl hW kk => ?_)
        obtain ⟨hx, hb, hml, hown, hts, hK, hnm, hA, hE1, hE2, hE3, hE4⟩ := C
        obtain ⟨hk1, hk2⟩ := am_mem_kin hc
        obtain ⟨r, ty0, hr, -⟩ := hCO sh.1 hk2
        have he := am_ws_get (G := G) (a := a) hs
        rw [am_ceo hk2] at he
        have hrv := va_recv hK hW.1 hr he
        have hxm : x ∈ [5, 6, 8] := by simp only [List.mem_cons, List.not_mem_nil, or_false]; exact hx5
        by_cases hsame : sh.1 = x
        · have hb1 : bb = true := by
            rw [hsame] at hio
            rcases hx5 with rfl | rfl | rfl <;> (cases hio; rfl)
          subst hb1
          rw [hsame] at hr
          rw [am_cn_of hr] at hcl
          exact va_instE hx hb hown (hts _ hcl) hrv hd kk
        · have h3 := hE3 x hxm sh.1 hk1 hsame
          rw [hio] at h3
          cases bb with
          | true =>
            rw [am_cn_of hr] at h3
            exact va_instY hx hb hown (hts _ hcl) h3 hrv hd kk
          | false =>
            rw [am_cn_of hr] at h3
            exact va_instNo hx hb hown (hts _ hcl) h3 hrv hd kk
      · cases h
    · cases h
  · cases h
end
