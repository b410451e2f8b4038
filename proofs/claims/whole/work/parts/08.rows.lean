/-! steps over rows, and those that make cells -/
section
variable {l : Launch} {G : am_G} {X : Nat × (Nat → Int)} {mid pc n x : Nat} {lv : List (Nat × am_V)} {st : List am_V} {M : am_M} {q : Nat × List (Nat × am_V) × List am_V × am_M}

theorem am_k_iaload (hd : decode (am_b mid) pc = .ok (.iaload, 1)) (h : am_s X pc lv st M (.iaload) 1 x = some q) : am_Stp l G X mid pc lv st M q.1 q.2.1 q.2.2.1 q.2.2.2 := by
  simp only [am_s] at h
  split at h
  · rename_i j k st'
    split at h
    · rename_i sh hs
      split at h
      · rename_i hc
        cases h
        refine am_Stp.pureW (fun w1 w2 w3 => am_wfs_cons (am_wfv_i _ _) (am_wfs_tl (am_wfs_tl w3))) (fun p e R s m args below meth c A Q a ls H locs cells slots C hl hW kk => ?_)
        obtain ⟨hx, hb, hml, hown, hts, hK, hnm, hA, hE⟩ := C
        obtain ⟨v1, v2⟩ := am_vp hc.2
        have he := am_ws_get (G := G) (a := a) hs
        rw [am_ce20 hc.1] at he
        refine va_iald hx hb hK hW.1 k 0 he rfl v1 hd ?_
        rw [v2]
        exact kk
      · cases h
    · cases h
  · rename_i j ev st'
    split at h
    · rename_i hc
      obtain ⟨rfl, hc⟩ := hc
      cases h
      refine am_Stp.pure (fun _ w3 => am_wfs_cons (am_wfv_i _ _) (am_wfs_tl (am_wfs_tl w3))) (fun p e R s m args below meth c A Q a ls H locs cells slots C hl hW kk => ?_)
      obtain ⟨hx, hb, hml, hown, hts, hK, hnm, hA, hE1, hE2, hE3, hE4, hE5, ⟨adK, adV, hvk, had, hsr⟩, ⟨b, hb0, hbT⟩, hZ1, hZ2⟩ := C
      obtain ⟨v1, v2⟩ := am_vp hc
      have e1 : am_tr G a (.inr (.inr (.inr 0))) = .ref b := by
        show va_rf (G.2.2 0) = _
        rw [hb0]; rfl
      show W p l e R s m args below meth c H locs cells slots Q (F0 m pc ls (.int (Int32.ofInt j) :: am_tr G a (.inr (.inr (.inr 0))) :: am_sv G a st'))
      rw [e1]
      exact va_ti hx hb hbT hW.2.2 v1 (by rw [v2]; rfl) hd kk
    · cases h
  · cases h
theorem am_k_baload (hd : decode (am_b mid) pc = .ok (.baload, 1)) (h : am_s X pc lv st M (.baload) 1 x = some q) : am_Stp l G X mid pc lv st M q.1 q.2.1 q.2.2.1 q.2.2.2 := by
  simp only [am_s] at h
  split at h
  · rename_i j k st'
    split at h
    · rename_i sh hs
      split at h
      · rename_i hc
        cases h
        refine am_Stp.pureW (fun w1 w2 w3 => am_wfs_cons (am_wfv_i _ _) (am_wfs_tl (am_wfs_tl w3))) (fun p e R s m args below meth c A Q a ls H locs cells slots C hl hW kk => ?_)
        obtain ⟨hx, hb, hml, hown, hts, hK, hnm, hA, hE⟩ := C
        obtain ⟨v1, v2⟩ := am_vp hc.2
        have he := am_ws_get (G := G) (a := a) hs
        rw [am_ce22 hc.1] at he
        refine va_zald hx hb hK hW.1 k 2 he rfl v1 hd ?_
        rw [v2]
        exact kk
      · cases h
    · cases h
  · rename_i j ev st'
    split at h
    · rename_i hc
      obtain ⟨hc1, hc2, hc3, hc⟩ := hc
      cases h
      refine am_Stp.pure (fun _ w3 => am_wfs_cons (am_wfv_i _ _) (am_wfs_tl (am_wfs_tl w3))) (fun p e R s m args below meth c A Q a ls H locs cells slots C hl hW kk => ?_)
      obtain ⟨hx, hb, hml, hown, hts, hK, hnm, hA, hE1, hE2, hE3, hE4, hE5, ⟨adK, adV, hvk, had, hsr⟩, ⟨b, hb0, hbT⟩, hZ1, hZ2⟩ := C
      obtain ⟨i, hi⟩ : ∃ i, ev = 2 + 2 * i := ⟨ev / 2 - 1, by omega⟩
      subst hi
      have hi : i < 10 := by omega
      have hi2 : (2 + 2 * i) / 2 - 1 = i := by omega
      rw [hi2] at hc kk
      obtain ⟨v1, v2⟩ := am_vp hc
      have e1 : am_tr G a (.inr (.inr (.inr (2 + 2 * i)))) = .ref (adV i) := by
        show va_rf (G.2.2 (2 + 2 * i)) = _
        rw [(had i hi).2]; rfl
      have hlen : am_sl.getD i 0 = (am_strs.getD i []).length := by
        unfold am_sl
        rw [List.getD_eq_getElem?_getD, List.getD_eq_getElem?_getD, List.getElem?_map]
        cases am_strs[i]? <;> rfl
      have hT := (hvk.1 i hi).2.2.2
      rw [hlen] at hT
      show W p l e R s m args below meth c H locs cells slots Q (F0 m pc ls (.int (Int32.ofInt j) :: am_tr G a (.inr (.inr (.inr (2 + 2 * i)))) :: am_sv G a st'))
      rw [e1]
      refine va_tb hx hb hT hW.2.2 v1 ?_ hd kk
      rw [v2]
      show Value.int ((am_sb.getD i []).getD j.toNat 0) = .int (Int32.ofInt ((am_strs.getD i []).getD j.toNat 0))
      unfold am_sb
      congr 1
      simp only [List.getD_eq_getElem?_getD, List.getElem?_map]
      cases am_strs[i]? with
      | none => rfl
      | some t =>
        show ((t.map Int32.ofInt)[j.toNat]?).getD 0 = Int32.ofInt ((t[j.toNat]?).getD 0)
        rw [List.getElem?_map]
        cases t[j.toNat]? <;> rfl
    · cases h
  · cases h
theorem am_k_laload (hd : decode (am_b mid) pc = .ok (.laload, 1)) (h : am_s X pc lv st M (.laload) 1 x = some q) : am_Stp l G X mid pc lv st M q.1 q.2.1 q.2.2.1 q.2.2.2 := by
  simp only [am_s] at h
  split at h
  · rename_i j k st'
    split at h
    · rename_i sh hs
      split at h
      · rename_i hc
        cases h
        refine am_Stp.pureW (fun w1 w2 w3 => am_wfs_cons (am_wfv_j _ _) (am_wfs_tl (am_wfs_tl w3))) (fun p e R s m args below meth c A Q a ls H locs cells slots C hl hW kk => ?_)
        obtain ⟨hx, hb, hml, hown, hts, hK, hnm, hA, hE⟩ := C
        obtain ⟨v1, v2⟩ := am_vp hc.2
        have he := am_ws_get (G := G) (a := a) hs
        rw [am_ce21 hc.1] at he
        refine va_lald hx hb hK hW.1 k 1 he rfl v1 hd ?_
        rw [v2]
        exact kk
      · cases h
    · cases h
  · cases h
theorem am_aald {p : Program} {e : Env} {R : Room} {s : State} {m : MethodId} {args : Array Value} {below : List Frame} {meth : Method} {c : Code} {H : Heap} {locs : List Loc} {cells slots : Nat} {Q : State → Prop} {cc : ByteArray} {ls : Array Slot} {rest : List Value} {ws : va_W} {ad : Nat} (hx : p.tables.exec = Jvm.exec) (hb : c.code = cc) (hK : va_K G.1 vwCl (am_tys G) s) (hP : va_P G.1 vwCl ws H) (q0 t0 : Nat) {cA : ClassId} {nn : Nat} {f : Nat → Option Nat} (ha : ws[q0]? = some (ad, .inl (cA, nn, .inr (.inr (.inr (.inr f)))))) {ty : FieldType} (ht : (am_tys G)[t0]? = some (cA, ty)) (hty : ty.isReference = true) {i : Int32} (hin : vp_in i nn) (hdg : decode cc pc = .ok (.aaload, 1))
    (kk : W p l e R s m args below meth c H locs cells slots Q (F0 m (pc + 1) ls (va_rf (f i.toNatClampNeg) :: rest))) : W p l e R s m args below meth c H locs cells slots Q (F0 m pc ls (.int i :: .ref ad :: rest)) := by
  have hc : H[ad]? = some (vp_cell cA (nn, .inr (.inr (.inr (.inr f))))) := hP q0 _ ha
  have hlt : i.toNatClampNeg < nn := Nat.not_le.mp fun q => hin (Or.inr q)
  have hz : (arrV cA nn (fun j => va_rf (f j))).slots.size = nn := arrV_size cA nn _
  refine W.aald hx hb hc ((hK.2 t0 _ ht).1 nn (fun j => va_rf (f j))) hty (by show (arrV cA nn (fun j => va_rf (f j))).vm ≠ _; exact fun q => by cases q) (by show ¬ (i < 0 ∨ (arrV cA nn (fun j => va_rf (f j))).slots.size ≤ i.toNatClampNeg); rw [hz]; exact hin) (v := va_rf (f i.toNatClampNeg)) ?_ rfl rfl hdg kk
  show (arrV cA nn (fun j => va_rf (f j))).slots[i.toNatClampNeg]? = _
  simp [arrV, hlt]
theorem am_k_aaload (hd : decode (am_b mid) pc = .ok (.aaload, 1)) (h : am_s X pc lv st M (.aaload) 1 x = some q) : am_Stp l G X mid pc lv st M q.1 q.2.1 q.2.2.1 q.2.2.2 := by
  simp only [am_s] at h
  split at h
  · rename_i j k st'
    split at h
    · rename_i sh hs
      split at h
      · rename_i hc
        cases h
        refine am_Stp.pureW (fun w1 w2 w3 => am_wfs_cons (am_wfv_r (fun r hr => w1 _ _ r hr)) (am_wfs_tl (am_wfs_tl w3))) (fun p e R s m args below meth c A Q a ls H locs cells slots C hl hW kk => ?_)
        obtain ⟨hx, hb, hml, hown, hts, hK, hnm, hA, hE⟩ := C
        obtain ⟨v1, v2⟩ := am_vp hc.2
        have he := am_ws_get (G := G) (a := a) hs
        rcases hc.1 with h23 | h24
        · rw [am_ce23 h23] at he
          refine am_aald hx hb hK hW.1 k 3 he rfl rfl v1 hd ?_
          rw [v2]
          exact kk
        · rw [am_ce24 h24] at he
          refine am_aald hx hb hK hW.1 k 4 he rfl rfl v1 hd ?_
          rw [v2]
          exact kk
      · cases h
    · cases h
  · cases h
theorem am_k_iastore (hd : decode (am_b mid) pc = .ok (.iastore, 1)) (h : am_s X pc lv st M (.iastore) 1 x = some q) : am_Stp l G X mid pc lv st M q.1 q.2.1 q.2.2.1 q.2.2.2 := by
  simp only [am_s] at h
  split at h
  · rename_i v j k st'
    split at h
    · rename_i sh hs
      split at h
      · rename_i hc
        cases h
        refine am_Stp.put rfl (fun w1 w3 => ⟨fun k i r hr => w1 k i r hr, am_wfs_tl (am_wfs_tl (am_wfs_tl w3))⟩) (fun p e R s m args below meth c A Q a ls H locs cells slots C hl w3 hW kk => ?_)
        obtain ⟨hx, hb, hml, hown, hts, hK, hnm, hA, hE⟩ := C
        obtain ⟨v1, v2⟩ := am_vp hc.2
        have he := am_ws_get (G := G) (a := a) hs
        rw [am_ce20 hc.1] at he
        refine va_iast hx hb hK hW.1 hW.2.1 hW.2.2 k 0 he rfl v1 hd (fun H1 locs1 q1 q2 q3 => ?_)
        have hset : (am_ws G a M).set k (a k, .inl (G.2.1 0, sh.2, .inl (upd (fun i => Int32.ofInt (M.2.1 k i)) (Int32.ofInt j).toNatClampNeg (Int32.ofInt v)))) = am_ws G a (am_pI M k j.toNat v) := by
          refine am_ws_set (M := M) (M' := am_pI M k j.toNat v) rfl hs am_off ?_
          rw [am_ce20 hc.1, v2]
          congr 4
          funext i
          show upd (fun i => Int32.ofInt (M.2.1 k i)) j.toNat (Int32.ofInt v) i = Int32.ofInt (am_up M.2.1 k j.toNat v k i)
          rw [am_up_row]
          unfold upd
          by_cases e0 : i = j.toNat
          · rw [if_pos e0, if_pos e0]
          · rw [if_neg e0, if_neg e0]
        rw [hset] at q1 q2
        exact kk H1 locs1 ⟨q1, q2, q3⟩
      · cases h
    · cases h
  · cases h
theorem am_k_lastore (hd : decode (am_b mid) pc = .ok (.lastore, 1)) (h : am_s X pc lv st M (.lastore) 1 x = some q) : am_Stp l G X mid pc lv st M q.1 q.2.1 q.2.2.1 q.2.2.2 := by
  simp only [am_s] at h
  split at h
  · rename_i v j k st'
    split at h
    · rename_i sh hs
      split at h
      · rename_i hc
        cases h
        refine am_Stp.put rfl (fun w1 w3 => ⟨fun k i r hr => w1 k i r hr, am_wfs_tl (am_wfs_tl (am_wfs_tl w3))⟩) (fun p e R s m args below meth c A Q a ls H locs cells slots C hl w3 hW kk => ?_)
        obtain ⟨hx, hb, hml, hown, hts, hK, hnm, hA, hE⟩ := C
        obtain ⟨v1, v2⟩ := am_vp hc.2
        have he := am_ws_get (G := G) (a := a) hs
        rw [am_ce21 hc.1] at he
        refine va_last hx hb hK hW.1 hW.2.1 hW.2.2 k 1 he rfl v1 hd (fun H1 locs1 q1 q2 q3 => ?_)
        have hset : (am_ws G a M).set k (a k, .inl (G.2.1 1, sh.2, .inr (.inl (vp_updL (fun i => Int64.ofInt (M.2.2.1 k i)) (Int32.ofInt j).toNatClampNeg (Int64.ofInt v))))) = am_ws G a (am_pJ M k j.toNat v) := by
          refine am_ws_set (M := M) (M' := am_pJ M k j.toNat v) rfl hs am_offJ ?_
          rw [am_ce21 hc.1, v2]
          congr 5
          funext i
          show vp_updL (fun i => Int64.ofInt (M.2.2.1 k i)) j.toNat (Int64.ofInt v) i = Int64.ofInt (am_up M.2.2.1 k j.toNat v k i)
          rw [am_up_row]
          unfold vp_updL
          by_cases e0 : i = j.toNat
          · rw [if_pos e0, if_pos e0]
          · rw [if_neg e0, if_neg e0]
        rw [hset] at q1 q2
        exact kk H1 locs1 ⟨q1, q2, q3⟩
      · cases h
    · cases h
  · cases h
theorem am_k_bastore (hd : decode (am_b mid) pc = .ok (.bastore, 1)) (h : am_s X pc lv st M (.bastore) 1 x = some q) : am_Stp l G X mid pc lv st M q.1 q.2.1 q.2.2.1 q.2.2.2 := by
  simp only [am_s] at h
  split at h
  · rename_i v j k st'
    split at h
    · rename_i sh hs
      split at h
      · rename_i hc
        cases h
        refine am_Stp.put rfl (fun w1 w3 => ⟨fun k i r hr => w1 k i r hr, am_wfs_tl (am_wfs_tl (am_wfs_tl w3))⟩) (fun p e R s m args below meth c A Q a ls H locs cells slots C hl w3 hW kk => ?_)
        obtain ⟨hx, hb, hml, hown, hts, hK, hnm, hA, hE⟩ := C
        obtain ⟨v1, v2⟩ := am_vp hc.2.1
        have he := am_ws_get (G := G) (a := a) hs
        rw [am_ce22 hc.1] at he
        refine va_zast hx hb hK hW.1 hW.2.1 hW.2.2 k 2 he rfl v1 hd (fun H1 locs1 q1 q2 q3 => ?_)
        have hset : (am_ws G a M).set k (a k, .inl (G.2.1 2, sh.2, .inl (upd (fun i => Int32.ofInt (M.2.1 k i)) (Int32.ofInt j).toNatClampNeg (vp_nar .boolean (Int32.ofInt v))))) = am_ws G a (am_pI M k j.toNat v) := by
          refine am_ws_set (M := M) (M' := am_pI M k j.toNat v) rfl hs am_off ?_
          rw [am_ce22 hc.1, v2]
          congr 4
          funext i
          have hv : vp_nar .boolean (Int32.ofInt v) = Int32.ofInt v := by
            rcases hc.2.2 with rfl | rfl <;> decide +kernel
          rw [hv]
          show upd (fun i => Int32.ofInt (M.2.1 k i)) j.toNat (Int32.ofInt v) i = Int32.ofInt (am_up M.2.1 k j.toNat v k i)
          rw [am_up_row]
          unfold upd
          by_cases e0 : i = j.toNat
          · rw [if_pos e0, if_pos e0]
          · rw [if_neg e0, if_neg e0]
        rw [hset] at q1 q2
        exact kk H1 locs1 ⟨q1, q2, q3⟩
      · cases h
    · cases h
  · cases h
theorem am_k_arraylength (hd : decode (am_b mid) pc = .ok (.arraylength, 1)) (h : am_s X pc lv st M (.arraylength) 1 x = some q) : am_Stp l G X mid pc lv st M q.1 q.2.1 q.2.2.1 q.2.2.2 := by
  simp only [am_s] at h
  split at h
  · rename_i k st'
    split at h
    · rename_i sh hs
      split at h
      · rename_i hc
        cases h
        refine am_Stp.pure (fun w2 w3 => am_wfs_cons (am_wfv_i _ _) (am_wfs_tl w3)) (fun p e R s m args below meth c A Q a ls H locs cells slots C hl hW kk => ?_)
        obtain ⟨hx, hb, hml, hown, hts, hK, hnm, hA, hE⟩ := C
        have he := am_ws_get (G := G) (a := a) hs
        have hn : ∀ z : Nat, Int32.ofNat z = Int32.ofInt (z : Int) := fun z => (Int32.ofInt_eq_ofNat).symm
        have h5 : sh.1 = 20 ∨ sh.1 = 21 ∨ sh.1 = 22 ∨ sh.1 = 23 ∨ sh.1 = 24 := by omega
        rcases h5 with h5 | h5 | h5 | h5 | h5
        · rw [am_ce20 h5] at he
          exact va_alen hx hb hK hW.1 k 0 he rfl (hn _) hd kk
        · rw [am_ce21 h5] at he
          exact va_alen hx hb hK hW.1 k 1 he rfl (hn _) hd kk
        · rw [am_ce22 h5] at he
          exact va_alen hx hb hK hW.1 k 2 he rfl (hn _) hd kk
        · rw [am_ce23 h5] at he
          exact va_alen hx hb hK hW.1 k 3 he rfl (hn _) hd kk
        · rw [am_ce24 h5] at he
          exact va_alen hx hb hK hW.1 k 4 he rfl (hn _) hd kk
      · cases h
    · cases h
  · rename_i ev st'
    split at h
    · rename_i he
      subst he
      cases h
      refine am_Stp.pure (fun w2 w3 => am_wfs_cons (am_wfv_i _ _) (am_wfs_tl w3)) (fun p e R s m args below meth c A Q a ls H locs cells slots C hl hW kk => ?_)
      obtain ⟨hx, hb, hml, hown, hts, hK, hnm, hA, hE1, hE2, hE3, hE4, hE5, ⟨adK, adV, hvk, had, hsr⟩, ⟨b, hb0, hbT⟩, hZ1, hZ2⟩ := C
      have e1 : am_tr G a (.inr (.inr (.inr 0))) = .ref b := by
        show va_rf (G.2.2 0) = _
        rw [hb0]; rfl
      show W p l e R s m args below meth c H locs cells slots Q (F0 m pc ls (am_tr G a (.inr (.inr (.inr 0))) :: am_sv G a st'))
      rw [e1]
      exact va_tlen hx hb hbT hW.2.2 (Int32.ofInt_eq_ofNat).symm hd kk
    · split at h
      · rename_i hz hc
        cases h
        refine am_Stp.pure (fun w2 w3 => am_wfs_cons (am_wfv_i _ _) (am_wfs_tl w3)) (fun p e R s m args below meth c A Q a ls H locs cells slots C hl hW kk => ?_)
        obtain ⟨hx, hb, hml, hown, hts, hK, hnm, hA, hE1, hE2, hE3, hE4, hE5, ⟨adK, adV, hvk, had, hsr⟩, ⟨b, hb0, hbT⟩, hZ1, hZ2⟩ := C
        obtain ⟨i, hi⟩ : ∃ i, ev = 2 + 2 * i := ⟨ev / 2 - 1, by omega⟩
        subst hi
        have hi : i < 10 := by omega
        have hi2 : (2 + 2 * i) / 2 - 1 = i := by omega
        rw [hi2] at kk
        have e1 : am_tr G a (.inr (.inr (.inr (2 + 2 * i)))) = .ref (adV i) := by
          show va_rf (G.2.2 (2 + 2 * i)) = _
          rw [(had i hi).2]; rfl
        have hlen : am_sl.getD i 0 = (am_strs.getD i []).length := by
          unfold am_sl
          rw [List.getD_eq_getElem?_getD, List.getD_eq_getElem?_getD, List.getElem?_map]
          cases am_strs[i]? <;> rfl
        have hT := (hvk.1 i hi).2.2.2
        rw [hlen] at hT
        show W p l e R s m args below meth c H locs cells slots Q (F0 m pc ls (am_tr G a (.inr (.inr (.inr (2 + 2 * i)))) :: am_sv G a st'))
        rw [e1]
        exact va_tlen hx hb hT hW.2.2 (Int32.ofInt_eq_ofNat).symm hd kk
      · cases h
  · cases h
theorem am_k_ldc {v : Nat} (hd : decode (am_b mid) pc = .ok (.ldc v, 2)) (hS : ∃ j, j < 10 ∧ x = 1 + 2 * j ∧ ((am_y mid).cls, v, j) ∈ am_srs) (h : am_s X pc lv st M (.ldc v) 2 x = some q) : am_Stp l G X mid pc lv st M q.1 q.2.1 q.2.2.1 q.2.2.2 := by
  cases h
  refine am_Stp.pure (fun w2 w3 => am_wfs_cons (am_wfv_e _ _) w3) (fun p e R s m args below meth c A Q a ls H locs cells slots C hl hW kk => ?_)
  obtain ⟨hx, hb, hml, hown, hts, hK, hnm, hA, hE1, hE2, hE3, hE4, hE5, ⟨adK, adV, hvk, had, hsr⟩, ⟨b, hb0, hbT⟩, hZ1, hZ2⟩ := C
  obtain ⟨j, hj, rfl, hm⟩ := hS
  obtain ⟨tx, hR⟩ := hsr _ hm
  have e1 : am_tr G a (.inr (.inr (.inr (1 + 2 * j)))) = .ref (adK j) := by
    show va_rf (G.2.2 (1 + 2 * j)) = _
    rw [(had j hj).1]; rfl
  refine va_ldcS hx hb hown hR hd ?_
  rw [← e1]
  exact kk
theorem am_k_ldc_w {v : Nat} (hd : decode (am_b mid) pc = .ok (.ldc_w v, 3)) (hS : Cond.constant (am_y mid).cls v (Int32.ofInt x) ∈ am_tb) (h : am_s X pc lv st M (.ldc_w v) 3 x = some q) : am_Stp l G X mid pc lv st M q.1 q.2.1 q.2.2.1 q.2.2.2 := by
  cases h
  refine am_Stp.pure (fun w2 w3 => am_wfs_cons (am_wfv_i _ _) w3) (fun p e R s m args below meth c A Q a ls H locs cells slots C hl hW kk => ?_)
  obtain ⟨hx, hb, hml, hown, hts, hK, hnm, hA, hE⟩ := C
  exact lv_ldcw hx hb hown (hts _ hS) hd kk
theorem am_k_ldc2_w {v : Nat} (hd : decode (am_b mid) pc = .ok (.ldc2_w v, 3)) (hS : Cond.constantLong (am_y mid).cls v (Int64.ofInt (am_lcs.getD x 0)) ∈ am_tb) (h : am_s X pc lv st M (.ldc2_w v) 3 x = some q) : am_Stp l G X mid pc lv st M q.1 q.2.1 q.2.2.1 q.2.2.2 := by
  cases h
  refine am_Stp.pure (fun w2 w3 => am_wfs_cons (am_wfv_j _ _) w3) (fun p e R s m args below meth c A Q a ls H locs cells slots C hl hW kk => ?_)
  obtain ⟨hx, hb, hml, hown, hts, hK, hnm, hA, hE⟩ := C
  exact lv_ldc2 hx hb hown (hts _ hS) hd kk
theorem am_k_getstatic {v : Nat} (hd : decode (am_b mid) pc = .ok (.getstatic v, 3)) (hS : (x = 0 ∧ Cond.fieldLink (am_y mid).cls v "java/lang/String" "COMPACT_STRINGS" "Z" ∈ am_tb) ∨ (x = 1 ∧ Cond.fieldLink (am_y mid).cls v "jdk/internal/util/Preconditions" "SIOOBE_FORMATTER" "Ljava/util/function/BiFunction;" ∈ am_tb)) (h : am_s X pc lv st M (.getstatic v) 3 x = some q) : am_Stp l G X mid pc lv st M q.1 q.2.1 q.2.2.1 q.2.2.2 := by
  rcases hS with ⟨rfl, hS⟩ | ⟨rfl, hS⟩
  · cases h
    refine am_Stp.pure (fun w2 w3 => am_wfs_cons (am_wfv_i _ _) w3) (fun p e R s m args below meth c A Q a ls H locs cells slots C hl hW kk => ?_)
    obtain ⟨hx, hb, hml, hown, hts, hK, hnm, hA, hE1, hE2, hE3, hE4, hE5, ⟨adK, adV, hvk, had, hsr⟩, ⟨b, hb0, hbT⟩, hZ1, hZ2⟩ := C
    exact va_gets hx hb hZ1 hW.2.2 hown (hts _ hS) (fun _ h => h) hd kk
  · cases h
    refine am_Stp.pure (fun w2 w3 => am_wfs_cons (am_wfv_e _ _) w3) (fun p e R s m args below meth c A Q a ls H locs cells slots C hl hW kk => ?_)
    obtain ⟨hx, hb, hml, hown, hts, hK, hnm, hA, hE1, hE2, hE3, hE4, hE5, ⟨adK, adV, hvk, had, hsr⟩, ⟨b, hb0, hbT⟩, hZ1, hZ2⟩ := C
    exact va_gets hx hb hZ2 hW.2.2 hown (hts _ hS) (fun _ h => h) hd kk
theorem am_k_tableswitch {dflt lo hi : Int} {offs : Array Int} (hd : decode (am_b mid) pc = .ok (.tableswitch dflt lo hi offs, n)) (ht0 : 0 ≤ (pc : Int) + dflt) (ht1 : ∀ o ∈ offs.toList, 0 ≤ (pc : Int) + o) (h : am_s X pc lv st M (.tableswitch dflt lo hi offs) n x = some q) : am_Stp l G X mid pc lv st M q.1 q.2.1 q.2.2.1 q.2.2.2 := by
  simp only [am_s] at h
  split at h
  · rename_i z st'
    split at h
    · rename_i hc
      cases h
      exact am_Stp.pure (fun w2 w3 => am_wfs_tl w3) (fun p e R s m args below meth c A Q a ls H locs cells slots C hl hW kk => lv_tableOut C.1 C.2.1 hd hc (by omega) kk)
    · rename_i hc
      split at h
      · rename_i off ho
        cases h
        have h1 : 0 ≤ (pc : Int) + off := ht1 off (by
          have := Array.mem_of_getElem? ho
          exact Array.mem_toList_iff.mpr this)
        exact am_Stp.pure (fun w2 w3 => am_wfs_tl w3) (fun p e R s m args below meth c A Q a ls H locs cells slots C hl hW kk => lv_tableIn C.1 C.2.1 hd (fun q => hc (Or.inl q)) (fun q => hc (Or.inr q)) ho (by omega) kk)
      · cases h
  · cases h
theorem am_k_lookupswitch {dflt : Int} {ps : Array (Int × Int)} (hd : decode (am_b mid) pc = .ok (.lookupswitch dflt ps, n)) (hp : (ps.toList.zip (ps.toList.drop 1)).all (fun (a, next) => a.1 < next.1) = true) (ht : ∀ z : Int, 0 ≤ (pc : Int) + Op.lookupswitch.offset ps.toList dflt z) (h : am_s X pc lv st M (.lookupswitch dflt ps) n x = some q) : am_Stp l G X mid pc lv st M q.1 q.2.1 q.2.2.1 q.2.2.2 := by
  simp only [am_s] at h
  split at h
  · rename_i z st'
    cases h
    have h1 := ht (am_w z)
    exact am_Stp.pure (fun w2 w3 => am_wfs_tl w3) (fun p e R s m args below meth c A Q a ls H locs cells slots C hl hW kk => lv_lookup C.1 C.2.1 hd hp rfl (by show (pc : Int) + Op.lookupswitch.offset ps.toList dflt (am_w z) = _; omega) kk)
  · cases h
end
