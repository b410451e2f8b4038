/-! rows under rows -/
theorem am_len_mna (M : am_M) (n k : Nat) : (am_mna M n k).1.length = M.1.length + (1 + n) := by
  unfold am_mna
  simp
  omega
theorem am_sz_mna (M : am_M) (n k : Nat) : am_sz (am_mna M n k) = am_sz M + (n + n * k) := by
  unfold am_sz am_mna
  simp
theorem am_wf_mna {M : am_M} {n k : Nat} (h : am_wf M) : am_wf (am_mna M n k) := by
  intro q i r hr
  rw [am_len_mna]
  have hr : (if M.1.length ≤ q ∧ q < M.1.length + 1 + n then (if q = M.1.length ∧ i < n then some (M.1.length + 1 + i) else none) else M.2.2.2 q i) = some r := hr
  split at hr
  · split at hr
    · rename_i h1 h2
      have := Option.some.inj hr
      omega
    · cases hr
  · have := h q i r hr
    omega
theorem am_ws_mna {G : am_G} {a a' : Nat → Nat} {M : am_M} {n k q : Nat} {r : Nat → Nat} {f : Nat → va_E} (hw : am_wf M) (ha : am_ag M.1.length a a') (hq : a' M.1.length = q) (hr : ∀ j, j < n → a' (M.1.length + 1 + j) = r j) :
    am_ws G a' (am_mna M n k) = (am_ws G a M ++ [(q, .inl (G.2.1 3, n, .inr (.inr (.inr (.inr (fun i => if i < n then some (r i) else none))))))]) ++ va_pl ([] ++ (List.range n).map r) (vr_up f ([] ++ (List.range n).map r) (.inl (G.2.1 0, k, .inl (fun _ => 0)))) := by
  have hl : (am_ws G a M).length = M.1.length := by unfold am_ws; rw [List.length_mapIdx]
  have hl2 : (am_ws G a M ++ [(q, (.inl (G.2.1 3, n, .inr (.inr (.inr (.inr (fun i => if i < n then some (r i) else none))))) : va_E))]).length = M.1.length + 1 := by rw [List.length_append, hl]; rfl
  apply List.ext_getElem?
  intro i
  by_cases h1 : i < M.1.length
  · rw [List.getElem?_append_left (by rw [hl2]; omega), List.getElem?_append_left (by rw [hl]; exact h1)]
    unfold am_ws
    rw [List.getElem?_mapIdx, List.getElem?_mapIdx]
    have e1 : (am_mna M n k).1[i]? = M.1[i]? := List.getElem?_append_left h1
    rw [e1]
    cases hs : M.1[i]? with
    | none => rfl
    | some s' =>
      simp only [Option.map_some]
      have o1 : (am_mna M n k).2.1 i = M.2.1 i := by
        funext j
        show (if M.1.length ≤ i ∧ i < M.1.length + 1 + n then 0 else M.2.1 i j) = _
        rw [if_neg (by omega)]
      have o2 : (am_mna M n k).2.2.1 i = M.2.2.1 i := by
        funext j
        show (if M.1.length ≤ i ∧ i < M.1.length + 1 + n then 0 else M.2.2.1 i j) = _
        rw [if_neg (by omega)]
      have o3 : (am_mna M n k).2.2.2 i = M.2.2.2 i := by
        funext j
        show (if M.1.length ≤ i ∧ i < M.1.length + 1 + n then (if i = M.1.length ∧ j < n then some (M.1.length + 1 + j) else none) else M.2.2.2 i j) = _
        rw [if_neg (by omega)]
      rw [ha i h1, am_ce_congr (M := M) o1 o2 o3, am_ce_ag hw ha]
  · by_cases h2 : i = M.1.length
    · subst h2
      rw [List.getElem?_append_left (by rw [hl2]; omega), List.getElem?_append_right (by rw [hl]; omega), hl, Nat.sub_self]
      unfold am_ws
      rw [List.getElem?_mapIdx]
      have e1 : (am_mna M n k).1[M.1.length]? = some (23, n) := by unfold am_mna; simp
      rw [e1]
      simp only [Option.map_some, hq]
      rw [am_ce23 rfl]
      show some (q, (Sum.inl (G.2.1 3, n, Sum.inr (Sum.inr (Sum.inr (Sum.inr fun i => ((am_mna M n k).2.2.2 M.1.length i).map a')))) : va_E)) = some (q, _)
      congr 9
      funext j
      have e2 : (am_mna M n k).2.2.2 M.1.length j = if j < n then some (M.1.length + 1 + j) else none := by
        show (if M.1.length ≤ M.1.length ∧ M.1.length < M.1.length + 1 + n then (if M.1.length = M.1.length ∧ j < n then some (M.1.length + 1 + j) else none) else M.2.2.2 M.1.length j) = _
        rw [if_pos (by omega)]
        by_cases hj : j < n
        · rw [if_pos ⟨rfl, hj⟩, if_pos hj]
        · rw [if_neg (fun h => hj h.2), if_neg hj]
      rw [e2]
      by_cases hj : j < n
      · rw [if_pos hj, if_pos hj, Option.map_some, hr j hj]
      · rw [if_neg hj, if_neg hj]; rfl
    · rw [List.getElem?_append_right (by rw [hl2]; omega), hl2]
      obtain ⟨j, hj⟩ : ∃ j, i = M.1.length + 1 + j := ⟨i - M.1.length - 1, by omega⟩
      subst hj
      rw [show M.1.length + 1 + j - (M.1.length + 1) = j by omega]
      unfold am_ws va_pl
      rw [List.getElem?_mapIdx, List.nil_append, List.getElem?_map, List.getElem?_map]
      by_cases hjn : j < n
      · have e1 : (am_mna M n k).1[M.1.length + 1 + j]? = some (20, k) := by
          show (M.1 ++ (23, n) :: List.replicate n (20, k))[M.1.length + 1 + j]? = _
          rw [List.getElem?_append_right (by omega), show M.1.length + 1 + j - M.1.length = j + 1 by omega, List.getElem?_cons_succ, List.getElem?_replicate, if_pos hjn]
        rw [e1, List.getElem?_range hjn]
        simp only [Option.map_some]
        rw [hr j hjn, vr_up_in (List.mem_map.mpr ⟨j, List.mem_range.mpr hjn, rfl⟩), am_ce20 rfl]
        congr 6
        funext i
        have e3 : (am_mna M n k).2.1 (M.1.length + 1 + j) i = 0 := by
          show (if M.1.length ≤ M.1.length + 1 + j ∧ M.1.length + 1 + j < M.1.length + 1 + n then 0 else M.2.1 (M.1.length + 1 + j) i) = _
          rw [if_pos (by omega)]
        rw [e3, am_o0i]
      · have e1 : (am_mna M n k).1[M.1.length + 1 + j]? = none := List.getElem?_eq_none (by rw [am_len_mna]; omega)
        have e2 : (List.range n)[j]? = none := List.getElem?_eq_none (by rw [List.length_range]; omega)
        rw [e1, e2]
        rfl
section
variable {l : Launch} {G : am_G} {X : Nat × (Nat → Int)} {mid pc n x : Nat} {lv : List (Nat × am_V)} {st : List am_V} {M : am_M} {q : Nat × List (Nat × am_V) × List am_V × am_M}
theorem am_k_mna {v : Nat} (hd : decode (am_b mid) pc = .ok (.multianewarray v 2, 4)) (hcl : Cond.classLink (am_y mid).cls v ("[" ++ (FieldType.array .int).toString) ∈ am_tb) (hac : Cond.arrayClass .int ∈ am_tb) (h : am_s X pc lv st M (.multianewarray v 2) 4 x = some q) : am_Stp l G X mid pc lv st M q.1 q.2.1 q.2.2.1 q.2.2.2 := by
  simp only [am_s] at h
  split at h
  · rename_i k z st'
    split at h
    · rename_i hz
      cases h
      refine ⟨⟨by rw [am_len_mna]; omega, by rw [am_sz_mna]; omega⟩, fun w1 w2 w3 => ⟨am_wf_mna w1, am_wfl_up w2 (by rw [am_len_mna]; omega), am_wfs_cons (am_wfv_r (fun k hk => by cases hk; rw [am_len_mna]; omega)) (am_wfs_up (am_wfs_tl (am_wfs_tl w3)) (by rw [am_len_mna]; omega))⟩, ?_⟩
      intro p e R s m args below meth c A Q a ls H locs cells slots C hl w1 w2 w3 hW h1 h2 kk
      have d1 : (am_mna M z.toNat k.toNat).1.length - M.1.length = 1 + z.toNat := by rw [am_len_mna]; omega
      have d2 : am_sz (am_mna M z.toNat k.toNat) - am_sz M = z.toNat + z.toNat * k.toNat := by rw [am_sz_mna]; omega
      rw [d1] at h1 kk
      rw [d2] at h2 kk
      obtain ⟨hx, hb, hml, hown, hts, hK, hnm, hA, hE1, hE2, hE3, hE4, hE5, hE6⟩ := C
      have hcy : s.vm.findClass (FieldType.array .int).toString = some (G.2.1 0) := (hK.2 0 (G.2.1 0, .int) rfl).2
      refine va_mna (X := am_ws G a M) (L := []) (f := fun _ => .inl (0, 0, .inl (fun _ => 0))) (ty := .int) (z := (k.toNat, .inl (fun _ => 0))) hx hb hown (hts _ hcl) hE5 (hts _ hac) hcy hK (by rw [show va_pl [] _ = [] from rfl, List.append_nil]; exact hW.1) (by rw [show va_pl [] _ = [] from rfl, List.append_nil]; exact hW.2.1) hW.2.2 hA (am_nneg hz.2.2.1 (by omega)) (am_nneg hz.1 (by omega)) (am_clamp hz.2.2.1 (by omega)) (am_clamp hz.1 (by omega)) (by omega) (by show k.toNat * 4 ≤ _; omega) (by omega) rfl rfl h1 h2 (fun c => by rw [vp_cell_i]; exact arrV_new c _ _) hd (fun q r cA H1 hinj _ hK2 q1 q2 q3 => ?_)
      have hcA := am_findA hK2 hK (k := 3) rfl
      subst hcA
      have hag : am_ag M.1.length a (fun i => if i = M.1.length then q else if M.1.length < i then r (i - M.1.length - 1) else a i) := fun i hi => by
        show (if i = M.1.length then q else if M.1.length < i then r (i - M.1.length - 1) else a i) = a i
        rw [if_neg (by omega), if_neg (by omega)]
      have hq : (fun i => if i = M.1.length then q else if M.1.length < i then r (i - M.1.length - 1) else a i) M.1.length = q := by simp
      have hr : ∀ j, j < z.toNat → (fun i => if i = M.1.length then q else if M.1.length < i then r (i - M.1.length - 1) else a i) (M.1.length + 1 + j) = r j := fun j _ => by
        show (if M.1.length + 1 + j = M.1.length then q else if M.1.length < M.1.length + 1 + j then r (M.1.length + 1 + j - M.1.length - 1) else a (M.1.length + 1 + j)) = r j
        rw [if_neg (by omega), if_pos (by omega), show M.1.length + 1 + j - M.1.length - 1 = j by omega]
      have hws := am_ws_mna (G := G) (k := k.toNat) (f := fun _ => .inl (0, 0, .inl (fun _ => 0))) w1 hag hq hr
      have k9 := kk _ ls H1 locs hag (by rw [am_lv_ag hag w2]; exact hl) ⟨by rw [hws]; exact q1, by rw [hws]; exact q2, q3⟩
      have e9 : am_sv G (fun i => if i = M.1.length then q else if M.1.length < i then r (i - M.1.length - 1) else a i) (.inr (.inr (.inl (some M.1.length))) :: st') = .ref q :: am_sv G a st' := by
        show va_rf (some (if M.1.length = M.1.length then q else if M.1.length < M.1.length then r (M.1.length - M.1.length - 1) else a M.1.length)) :: am_sv G _ st' = _
        rw [if_pos rfl, am_sv_ag hag (am_wfs_tl (am_wfs_tl w3))]
        rfl
      rw [e9] at k9
      rw [Nat.add_assoc, Nat.add_assoc]
      exact k9
    · cases h
  · cases h
end
