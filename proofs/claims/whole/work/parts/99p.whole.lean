/-! THE START: what holds behind it -/
theorem y_I {M : am_M} {q : Nat × Nat × Int} (h : y_ckI.all (fun q => decide (M.2.1 q.1 q.2.1 = q.2.2)) = true) (hq : q ∈ y_ckI) : M.2.1 q.1 q.2.1 = q.2.2 := of_decide_eq_true (List.all_eq_true.mp h q hq)
theorem y_R {M : am_M} {q : Nat × Nat × Nat} (h : y_ckR.all (fun q => decide (M.2.2.2 q.1 q.2.1 = some q.2.2)) = true) (hq : q ∈ y_ckR) : M.2.2.2 q.1 q.2.1 = some q.2.2 := of_decide_eq_true (List.all_eq_true.mp h q hq)
theorem y_S0 : (List.range 124).all (fun k => Nat.ble (am_S0.getD k []).length (am_S.getD k (0, 0)).2) = true := by decide +kernel
theorem y_Rf {M : am_M} (hP : am_P M) (h1 : M.1 = am_S) (hc : (List.range 124).all (fun k => (List.range (am_S.getD k (0, 0)).2).all (fun i => am_mut k i || decide (M.2.2.2 k i = (am_S0.getD k []).getD i none))) = true) : M.2.2.2 = am_Rf M.2.2.2 := by
  funext k i
  show M.2.2.2 k i = (if am_mut k i = true then M.2.2.2 k i else (am_S0.getD k []).getD i none)
  by_cases hm : am_mut k i = true
  · rw [if_pos hm]
  · rw [if_neg hm]
    have hk : k < 124 := by
      by_cases e : k < 124
      · exact e
      · exact absurd (am_mut_ge (by omega)) hm
    by_cases hi : i < (am_S.getD k (0, 0)).2
    · have h2 := List.all_eq_true.mp (List.all_eq_true.mp hc k (List.mem_range.mpr hk)) i (List.mem_range.mpr hi)
      rw [Bool.or_eq_true] at h2
      rcases h2 with h2 | h2
      · exact absurd h2 hm
      · exact of_decide_eq_true h2
    · have h3 := List.all_eq_true.mp y_S0 k (List.mem_range.mpr hk)
      have h3 := Nat.le_of_ble_eq_true h3
      have e2 : (am_S0.getD k []).getD i none = none := by
        rw [List.getD_eq_getElem?_getD, List.getElem?_eq_none (by omega)]; rfl
      rw [e2]
      refine hP k i (fun s hs => ?_)
      rw [h1] at hs
      have e3 : am_S.getD k (0, 0) = s := by rw [List.getD_eq_getElem?_getD, hs]; rfl
      rw [← e3]; omega
theorem y_0 {M : am_M} (hI : y_ckI.all (fun q => decide (M.2.1 q.1 q.2.1 = q.2.2)) = true) (hR : y_ckR.all (fun q => decide (M.2.2.2 q.1 q.2.1 = some q.2.2)) = true) (h8 : (List.range 178).all (fun i => decide (M.2.1 108 i = if i = 24 then -1 else 0)) = true) : y_iv 0 [] M.2.1 M.2.2.2 := by
  have e24 : M.2.1 108 24 = -1 := of_decide_eq_true (List.all_eq_true.mp h8 24 (List.mem_range.mpr (by omega)))
  have e : ∀ i, i < 178 → i ≠ 24 → M.2.1 108 i = 0 := by
    intro i hi h
    have := of_decide_eq_true (List.all_eq_true.mp h8 i (List.mem_range.mpr hi))
    rw [if_neg h] at this
    exact this
  have hmany : sp_many (M.2.1 108) = 0 := if_pos e24
  have hok : r_ok (M.2.1 108) (80050 * ((0 : Nat) : Int)) := by
    refine ⟨by rw [e 0 (by omega) (by omega)]; omega, fun m hm => by rw [e (1 + m) (by omega) (by omega)]; omega, fun m hm => Or.inl (e (7 + m) (by omega) (by omega)), fun m hm => Or.inl (e (13 + m) (by omega) (by omega)), by rw [e 19 (by omega) (by omega)]; omega, by rw [e 20 (by omega) (by omega)]; omega, by rw [e 21 (by omega) (by omega)]; omega, by rw [e 22 (by omega) (by omega)]; omega, by rw [e 23 (by omega) (by omega)]; omega, by rw [e24]; omega, ?_, ?_, ?_, ?_, ?_, ?_, ?_, ?_, ?_, ?_⟩
    · intro m hm; rw [e (26 + m) (by omega) (by omega)]; omega
    · intro m hm; rw [e (32 + m) (by omega) (by omega)]; omega
    · intro m hm; rw [e (38 + m) (by omega) (by omega)]; omega
    · intro m hm; rw [e (44 + m) (by omega) (by omega)]; omega
    · intro m hm; rw [e (50 + m) (by omega) (by omega)]; omega
    · intro m hm; rw [e (56 + m) (by omega) (by omega)]; omega
    · intro m hm; rw [e (62 + m) (by omega) (by omega)]; omega
    · intro m hm; rw [e (68 + m) (by omega) (by omega)]; omega
    · intro m hm; rw [e (168 + m) (by omega) (by omega)]; omega
    · intro m hm; rw [e (173 + m) (by omega) (by omega)]; omega
  have hps : ps_rel (M.2.1 108) [] := ⟨hmany, fun k hk => by simp [ps_fl] at hk, ⟨by simp, fun x hx => by simp at hx, by simp [ps_codes]⟩⟩
  have i4 : M.2.1 107 4 = 0 := (y_I (q := (107, 4, 0)) hI (by simp [y_ckI]))
  have c19 : (M.2.1 108 19).toNat = 0 := by rw [e 19 (by omega) (by omega)]; rfl
  have c20 : (M.2.1 108 20).toNat = 0 := by rw [e 20 (by omega) (by omega)]; rfl
  have hb0 : am_bits (fun _ => false) 6 = 0 := rfl
  have r15 : M.2.2.2 1 5 = some 12 := (y_R (q := (1, 5, 12)) hR (by simp [y_ckR]))
  have r355 : M.2.2.2 35 5 = some 46 := (y_R (q := (35, 5, 46)) hR (by simp [y_ckR]))
  have r07 : M.2.2.2 0 7 = some 102 := (y_R (q := (0, 7, 102)) hR (by simp [y_ckR]))
  have r4 : ∀ m, m < 6 → M.2.2.2 4 m = some 34 := by
    intro m hm
    rcases (show m = 0 ∨ m = 1 ∨ m = 2 ∨ m = 3 ∨ m = 4 ∨ m = 5 by omega) with rfl | rfl | rfl | rfl | rfl | rfl
    · exact (y_R (q := (4, 0, 34)) hR (by simp [y_ckR]))
    · exact (y_R (q := (4, 1, 34)) hR (by simp [y_ckR]))
    · exact (y_R (q := (4, 2, 34)) hR (by simp [y_ckR]))
    · exact (y_R (q := (4, 3, 34)) hR (by simp [y_ckR]))
    · exact (y_R (q := (4, 4, 34)) hR (by simp [y_ckR]))
    · exact (y_R (q := (4, 5, 34)) hR (by simp [y_ckR]))
  have r38 : ∀ m, m < 6 → M.2.2.2 38 m = some 68 := by
    intro m hm
    rcases (show m = 0 ∨ m = 1 ∨ m = 2 ∨ m = 3 ∨ m = 4 ∨ m = 5 by omega) with rfl | rfl | rfl | rfl | rfl | rfl
    · exact (y_R (q := (38, 0, 68)) hR (by simp [y_ckR]))
    · exact (y_R (q := (38, 1, 68)) hR (by simp [y_ckR]))
    · exact (y_R (q := (38, 2, 68)) hR (by simp [y_ckR]))
    · exact (y_R (q := (38, 3, 68)) hR (by simp [y_ckR]))
    · exact (y_R (q := (38, 4, 68)) hR (by simp [y_ckR]))
    · exact (y_R (q := (38, 5, 68)) hR (by simp [y_ckR]))
  have hcom : sp_come (M.2.1 108) = 5 := if_pos e24
  refine ⟨⟨hok, ?_, by rw [e24, e 21 (by omega) (by omega)]; rfl, by rw [e 0 (by omega) (by omega)]; omega⟩, Or.inl i4, fun h => by rw [i4] at h; omega, fun _ => r355, by rw [show M.2.1 107 32 = 0 from (y_I (q := (107, 32, 0)) hI (by simp [y_ckI]))]; omega, by rw [show M.2.1 107 27 = 0 from (y_I (q := (107, 27, 0)) hI (by simp [y_ckI]))]; omega, ⟨?_, ⟨?_, fun h => by rw [i4] at h; omega⟩, ⟨?_, fun i hi hr => ?_⟩, ?_, ?_⟩, Nat.zero_le _, Nat.zero_le _⟩
  · intro k hk
    rw [hmany] at hk
    exact absurd hk (Nat.not_lt_zero _)
  · refine ⟨⟨?_, ?_, ?_, ?_, ?_⟩, ⟨?_, ?_, ?_, ?_⟩, ⟨?_, ?_⟩, ?_, ?_, ?_, 12, r15, ⟨⟨rfl, rfl, rfl, rfl, rfl⟩, rfl, rfl, rfl, rfl⟩, Or.inl rfl, ?_, [], ⟨?_, fun i hi => by simp at hi, fun k hk => by simp [ps_codes] at hk⟩, hps⟩
    · rw [e 19 (by omega) (by omega)]; exact (y_I (q := (1, 2, 0)) hI (by simp [y_ckI]))
    · rw [e 20 (by omega) (by omega)]; exact (y_I (q := (1, 4, 0)) hI (by simp [y_ckI]))
    · rw [e 21 (by omega) (by omega)]; exact (y_I (q := (1, 6, 0)) hI (by simp [y_ckI]))
    · rw [e 23 (by omega) (by omega)]; exact (y_I (q := (1, 8, 0)) hI (by simp [y_ckI]))
    · rw [e 22 (by omega) (by omega)]; exact (y_I (q := (1, 10, 0)) hI (by simp [y_ckI]))
    · rw [e 0 (by omega) (by omega)]; exact (y_I (q := (2, 0, 0)) hI (by simp [y_ckI]))
    · refine ((y_I (q := (2, 1, 0)) hI (by simp [y_ckI])) : M.2.1 2 1 = 0).trans (hb0.symm.trans (am_bits_cg 6 (fun x hx => ?_)))
      unfold sp_hp
      rw [c19]; rfl
    · refine ((y_I (q := (2, 2, 0)) hI (by simp [y_ckI])) : M.2.1 2 2 = 0).trans (hb0.symm.trans (am_bits_cg 6 (fun x hx => ?_)))
      unfold sp_dp
      rw [c20]; rfl
    · intro m hm; rw [c19] at hm; exact absurd hm (Nat.not_lt_zero _)
    · intro i hi; rw [e 23 (by omega) (by omega)] at hi; exact absurd hi (Nat.not_lt_zero _)
    · intro i hi; rw [e 22 (by omega) (by omega)] at hi; exact absurd hi (Nat.not_lt_zero _)
    · intro b hb; rw [c20] at hb; exact absurd hb (Nat.not_lt_zero _)
    · intro m b hm hb; rw [c19] at hm; exact absurd hm (Nat.not_lt_zero _)
    · intro m hm; rw [c19] at hm; exact absurd hm (Nat.not_lt_zero _)
    · rw [hcom]; exact (y_I (q := (12, 0, 5)) hI (by simp [y_ckI]))
    · exact (y_I (q := (12, 2, 0)) hI (by simp [y_ckI]))
  · rw [i4]; exact (y_I (q := (0, 8, 0)) hI (by simp [y_ckI]))
  · rw [show M.2.1 107 32 = 0 from (y_I (q := (107, 32, 0)) hI (by simp [y_ckI]))]; exact (y_I (q := (99, 0, 0)) hI (by simp [y_ckI]))
  · rw [show M.2.1 107 32 = 0 from (y_I (q := (107, 32, 0)) hI (by simp [y_ckI]))] at hr; omega
  · intro a m ha hm
    rcases ha with rfl | rfl
    · exact ⟨34, 4, r4 m hm, rfl, rfl⟩
    · exact ⟨68, 4, r38 m hm, rfl, rfl⟩
  · refine ⟨102, r07, ⟨⟨rfl, rfl, rfl, rfl, rfl⟩, rfl, rfl, rfl, rfl⟩, Or.inl rfl, ?_, ?_⟩
    · intro e he
      rw [r15, r355] at he
      rcases he with he | he
      · have := Option.some.inj he; omega
      · have := Option.some.inj he; omega
    · intro a m k ha hm hk
      rcases ha with rfl | rfl
      · rw [r4 m hm] at hk; have := Option.some.inj hk; omega
      · rw [r38 m hm] at hk; have := Option.some.inj hk; omega
theorem y_M {M : am_M} (hP : am_P M) (hc : y_ck M = true) : ∃ I J ρ, M = am_mm [] I J ρ ∧ y_iv 0 [] I ρ := by
  unfold y_ck at hc
  rw [Bool.and_eq_true, Bool.and_eq_true, Bool.and_eq_true, Bool.and_eq_true] at hc
  obtain ⟨h1, h2, h3, h4, h5⟩ := hc
  have h1 := of_decide_eq_true h1
  refine ⟨M.2.1, M.2.2.1, M.2.2.2, ?_, y_0 h2 h3 h4⟩
  obtain ⟨A, I, J, ρ⟩ := M
  have h1 : A = am_S := h1
  have hr : ρ = am_Rf ρ := y_Rf (M := (A, I, J, ρ)) hP h1 h5
  show (A, I, J, ρ) = (am_S ++ [], I, J, am_Rf ρ)
  rw [List.append_nil, h1, ← hr]
theorem am_P_0 : am_P am_M0 := fun _ _ _ => rfl
theorem y_kd {M1 : am_M} {s : Nat × Nat} (h : s.1 < 13) : am_kd (am_nw M1 s) (.inr (.inr (.inl (some M1.1.length)))) = some s.1 := by
  show (match (M1.1 ++ [s])[M1.1.length]? with
    | some s => if s.1 < 13 then some s.1 else none
    | none => none) = some s.1
  rw [List.getElem?_append_right (Nat.le_refl _), Nat.sub_self]
  exact if_pos h
theorem y_szS : (am_S.map (fun q => q.2)).sum ≤ 7000000 := by decide +kernel
theorem rn_124 : ∀ k, k < 124 → rn_p k < 124 := by decide +kernel
theorem y_rnsh {M : am_M} (hl : M.1.length = 124) (k : Nat) : M.1[rn_p k]? = (y_ren M).1[k]? := by
  show M.1[rn_p k]? = ((List.range 124).map (fun k => M.1.getD (rn_p k) (0, 0)))[k]?
  by_cases hk : k < 124
  · have h2 := rn_124 k hk
    rw [List.getElem?_map, List.getElem?_range hk]
    show _ = some (M.1.getD (rn_p k) (0, 0))
    rw [List.getD_eq_getElem?_getD, List.getElem?_eq_getElem (by omega)]
    rfl
  · rw [rn_ge (by omega), List.getElem?_eq_none (by omega), List.getElem?_eq_none (by rw [List.length_map, List.length_range]; omega)]
theorem y_rn {M : am_M} (hl : M.1.length = 124) (hs : (M.1.map (fun q => q.2)).sum = ((y_ren M).1.map (fun q => q.2)).sum) : rn_M (y_ren M) M := by
  have h0 : (y_ren M).1.length = 124 := by
    show ((List.range 124).map (fun k => M.1.getD (rn_p k) (0, 0))).length = 124
    rw [List.length_map, List.length_range]
  refine ⟨by rw [hl, h0], by rw [h0]; omega, y_rnsh hl, fun k j => rfl, fun k j => rfl, fun k j => ?_, hs⟩
  show M.2.2.2 (rn_p k) j = ((M.2.2.2 (rn_p k) j).map rn_i).map rn_p
  cases M.2.2.2 (rn_p k) j with
  | none => rfl
  | some a =>
    show some a = some (rn_p (rn_i a))
    rw [rn_pi]
theorem y_renP {M : am_M} (hP : am_P M) (hl : M.1.length = 124) : am_P (y_ren M) := by
  intro k i h
  show (M.2.2.2 (rn_p k) i).map rn_i = none
  rw [hP (rn_p k) i (fun s hs => h s (by rw [← y_rnsh hl k]; exact hs))]
  rfl
theorem y_run (X : Nat × (Nat → Int)) (hX : ∀ j, -2147483648 ≤ X.2 j ∧ X.2 j < 2147483648) (hL : X.1 ≤ 320) : am_E X 2000 0 0 [(0, .inr (.inr (.inr 0)))] [] am_M0 (fun r => ∃ M', r = (some (.inl 1), M') ∧ M'.1.length ≤ 449 ∧ (M'.1.map (fun q => q.2)).sum ≤ 7009100) := by
  obtain ⟨M1, M, f1, f2, hl, hck⟩ := y_ck_of y_all
  have g1 : am_run X 4000 1999 87 0 [(0, .inr (.inr (.inl (some 0))))] [] (am_nw am_M0 (11, am_nf 11)) = some (none, M1) := am_run_free X 4000 _ _ _ _ _ _ _ f1
  have g2 : am_run X 4000 1999 125 0 [(0, .inr (.inr (.inl (some M1.1.length))))] [] (am_nw M1 (12, am_nf 12)) = some (none, M) := am_run_free X 4000 _ _ _ _ _ _ _ f2
  have P1 : am_P M1 := am_run_P X 4000 _ _ _ _ _ _ _ (am_P_nw am_P_0) g1
  have P2 : am_P M := am_run_P X 4000 _ _ _ _ _ _ _ (am_P_nw P1) g2
  unfold y_cks at hck
  rw [Bool.and_eq_true, Bool.and_eq_true] at hck
  obtain ⟨q1, q2, q3⟩ := hck
  have q1 := of_decide_eq_true q1
  have q2 := of_decide_eq_true q2
  obtain ⟨I, J, ρ, hr, hiv⟩ := y_M (y_renP P2 q1) q3
  have hrn := y_rn q1 (q2.trans (congrArg (fun L => (L.map (fun q => q.2)).sum) (show am_S = (y_ren M).1 by rw [hr]; exact (List.append_nil _).symm)))
  rw [hr] at hrn
  refine am_e_ss 2 (q := (4, [(0, .inr (.inr (.inr 0)))], [.inr (.inr (.inl (some 0))), .inr (.inr (.inl (some 0)))], am_nw am_M0 (11, am_nf 11))) rfl ?_
  refine am_e_special (Q := fun r => r = (none, M1)) rfl rfl (Nat.le_of_ble_eq_true rfl) rfl rfl (by decide) (Nat.le_of_ble_eq_true rfl) (Nat.le_of_ble_eq_true rfl) ⟨4000, _, g1, rfl⟩ ?_
  rintro r rfl
  show am_E X 2000 0 7 [(0, .inr (.inr (.inr 0)))] [.inr (.inr (.inl (some 0)))] M1 _
  refine am_e_ss 3 (q := (12, [(1, .inr (.inr (.inl (some 0)))), (0, .inr (.inr (.inr 0)))], [.inr (.inr (.inl (some M1.1.length))), .inr (.inr (.inl (some M1.1.length)))], am_nw M1 (12, am_nf 12))) rfl ?_
  refine am_e_special (Q := fun r => r = (none, M)) rfl rfl (Nat.le_of_ble_eq_true rfl) (y_kd (by decide)) rfl (by decide) (Nat.le_of_ble_eq_true rfl) (Nat.le_of_ble_eq_true rfl) ⟨4000, _, g2, rfl⟩ ?_
  rintro r rfl
  show am_E X 2000 0 15 [(1, .inr (.inr (.inl (some 0)))), (0, .inr (.inr (.inr 0)))] [.inr (.inr (.inl (some M1.1.length)))] M _
  rw [hl]
  refine am_e_ss 3 (q := (18, [(3, .inl 0), (2, .inr (.inr (.inl (some 107)))), (1, .inr (.inr (.inl (some 0)))), (0, .inr (.inr (.inr 0)))], [], M)) rfl ?_
  refine (rn_E hrn (y_loop (n := 0) (i := 0) hX hL rfl hiv (by omega))).imp ?_
  rintro r ⟨r0, ⟨D', I', J', ρ', rfl, h2, h3⟩, h4, h5⟩
  have hz := y_szS
  have h6 := h5.len
  have h7 := h5.sz
  have h6 : r.2.1.length = (am_S ++ D').length := h6
  have h7 : (r.2.1.map (fun q => q.2)).sum = ((am_S ++ D').map (fun q => q.2)).sum := h7
  rw [List.length_append, am_S_124] at h6
  rw [List.map_append, List.sum_append] at h7
  exact ⟨r.2, Prod.ext h4 rfl, by omega, by omega⟩
theorem whole_start {p : Program} {e : Env} {s : State} {m : MethodId} {below : List Frame} {meth : Method} {c : Code} (l : Launch) {b L : Nat} {xs : Nat → Int32} (hL : L ≤ 320) (C0 : lw_At p s m meth c b L xs) : W p l e room_1 s m #[Value.ref b] below meth c s.heap [] 0 0 (lw_Z below #[Value.ref b] s) (entryFrame m ([Value.ref b] : List Value).toArray 4) := by
  refine am_whole l C0 ?_
  obtain ⟨n, r, h1, M', rfl, h2, h3⟩ := y_run (L, fun j => (xs j).toInt) (fun j => y_i32 (xs j)) hL
  refine ⟨n, _, h1, ?_, ?_⟩
  · show M'.1.length ≤ 600000
    omega
  · show (M'.1.map (fun q => q.2)).sum ≤ 7302250
    omega
