/-! THE REFERENCE: a clause -/
def pt_le (R : pt_R) : Prop := ∀ L, R.2 = some L → L.length ≤ R.1
def pt_lt (R : pt_R) : Prop := ∀ L, R.2 = some L → L.length < R.1
theorem r_cs_le {I0 I : Nat → Nat → Int} {hs : Nat → Int} {z a : Nat} {w e : Int} {R : pt_R} (h : r_cs I0 I hs z a w e R) : pt_le R := by
  intro L e2
  obtain ⟨p, _ | M⟩ := R
  · cases e2
  · cases e2; exact h.2.2.2.2.2.2.2
theorem pt_lt_ms {h : Nat → Int} {s : Int} {R : pt_R} (hl : pt_le R) : pt_lt (pt_bd R (fun p L => pt_ms h s p L)) := by
  intro L e2
  obtain ⟨p, _ | M⟩ := R
  · cases e2
  · have e2 : (pt_ms h s p M).2 = some L := e2
    show L.length < (pt_ms h s p M).1
    have := hl M rfl
    have this : M.length ≤ p := this
    unfold pt_ms at e2 ⊢
    split at e2
    · rename_i c; cases e2; rw [if_pos c]; show _ < p + 1; omega
    · cases e2
theorem pt_lt_pre {F : Nat → pt_R} {z : Nat} {m : Int} {R : pt_R} (hF : pt_ok z m F) (hl : pt_lt R) : pt_lt (pt_bd R (fun p L => pt_pre L (F p))) := by
  intro L e2
  obtain ⟨p, _ | M⟩ := R
  · cases e2
  · exact pt_pre_lt hF (hl M rfl) L e2
def pt_mc (h : Nat → Int) (ws : List Int) (kd : Int) (p : Nat) (L : List Int) : pt_R := match pt_w h ws p with
  | (q, false) => (q, none)
  | (q, true) => match pt_num h q with
    | (r, none) => (r, none)
    | (r, some n) => if ¬ h r = 32 then (r, none) else match pt_E h (pt_F h 5) (r + 1) with
      | (t, none) => (t, none)
      | (t, some M) => (t, some (L ++ M ++ [kd - n]))
theorem pt_mc_of {h : Nat → Int} {ws : List Int} {kd v : Int} {p : Nat} {L : List Int} (hw : ∀ p2 L2 q v2, pt_sp h ws (p, some L) = (p2, some L2) → pt_num h p2 = (q, some v2) → v = v2) : pt_bd (pt_bd (pt_bd (pt_bd (pt_sp h ws (p, some L)) (fun p L => pt_ns h p L)) (fun p L => pt_ms h 32 p L)) (fun p L => pt_pre L (pt_E h (pt_F h 5) p))) (fun p L => (p, some (L ++ [kd - v]))) = pt_mc h ws kd p L := by
  unfold pt_mc
  rw [pt_sp_w] at hw ⊢
  rcases hW : pt_w h ws p with ⟨q, _ | _⟩
  · rfl
  · rw [hW] at hw
    show pt_bd (pt_bd (pt_bd (pt_ns h q L) _) _) _ = (match pt_num h q with
      | (r, none) => (r, none)
      | (r, some n) => if ¬ h r = 32 then (r, none) else match pt_E h (pt_F h 5) (r + 1) with
        | (t, none) => (t, none)
        | (t, some M) => (t, some (L ++ M ++ [kd - n])))
    unfold pt_ns
    rcases hN : pt_num h q with ⟨r, _ | n⟩
    · rfl
    · have ev := hw q L r n rfl hN
      subst ev
      show pt_bd (pt_bd (pt_ms h 32 r L) _) _ = (if ¬ h r = 32 then (r, none) else _)
      unfold pt_ms
      by_cases c : h r = 32
      · rw [if_pos c, if_neg (fun f => f c)]
        show pt_bd (pt_pre L (pt_E h (pt_F h 5) (r + 1))) _ = _
        rcases pt_E h (pt_F h 5) (r + 1) with ⟨t, _ | M⟩
        · rfl
        · rfl
      · rw [if_neg c, if_pos c]
        rfl
def pt_cr (h : Nat → Int) (p : Nat) (L : List Int) : pt_R := match pt_cl h p with
  | (q, none) => (q, none)
  | (q, some x) => (q, some (L ++ ps_fl [x]))
def pt_wn (h : Nat → Int) (p : Nat) (w : Int) : Int := match (pt_cl h p).2 with
  | none => w
  | some x => if x.1 = 3 then x.2.1 else w
theorem pt_w_snoc {h : Nat → Int} {s : Int} : ∀ {ws : List Int} {p : Nat}, pt_w h (ws ++ [s]) p = (match pt_w h ws p with
  | (q, false) => (q, false)
  | (q, true) => if h q = s then (q + 1, true) else (q, false)) := by
  intro ws
  induction ws with
  | nil => intro p; rfl
  | cons c ws ih =>
    intro p
    show (if h p = c then pt_w h (ws ++ [s]) (p + 1) else (p, false)) = (match (if h p = c then pt_w h ws (p + 1) else (p, false)) with
      | (q, false) => (q, false)
      | (q, true) => if h q = s then (q + 1, true) else (q, false))
    by_cases e : h p = c
    · rw [if_pos e, if_pos e]; exact ih
    · rw [if_neg e, if_neg e]
theorem ps_fl1 {x : ps_C} : ps_fl [x] = if x.1 = 3 then [] else x.2.2 ++ [ps_kd x.1 - x.2.1] := by
  unfold ps_fl
  rw [List.flatMap_cons, List.flatMap_nil, List.append_nil]
theorem pt_cr_mc {h : Nat → Int} {v w0 : Int} {ws : List Int} {p p2 : Nat} {L : List Int} (hw : pt_word h p = pt_wv v (pt_w h ws p2)) (hv : ¬ v = 3) : pt_cr h p L = pt_mc h (ws ++ [32]) (ps_kd v) p2 L ∧ pt_wn h p w0 = w0 := by
  unfold pt_cr pt_wn pt_cl pt_mc
  rw [hw, pt_w_snoc]
  rcases pt_w h ws p2 with ⟨q, _ | _⟩
  · exact ⟨rfl, rfl⟩
  · rw [show pt_wv v (q, true) = (q, some v) from rfl]
    dsimp only
    by_cases c : h q = 32
    · rw [if_pos c, if_neg (fun f => f c)]
      dsimp only
      rcases pt_num h (q + 1) with ⟨r, _ | n⟩
      · exact ⟨rfl, rfl⟩
      · dsimp only
        rw [if_neg hv]
        by_cases c2 : h r = 32
        · rw [if_neg (fun f => f c2), if_neg (fun f => f c2)]
          rcases pt_E h (pt_F h 5) (r + 1) with ⟨t, _ | M⟩
          · exact ⟨rfl, rfl⟩
          · refine ⟨?_, if_neg hv⟩
            dsimp only
            rw [ps_fl1, if_neg hv, List.append_assoc]
        · rw [if_pos c2, if_pos c2]
          exact ⟨rfl, rfl⟩
    · rw [if_neg c, if_pos c]
      exact ⟨rfl, rfl⟩
theorem pt_sp_snoc {h : Nat → Int} {ws : List Int} {p : Nat} {L : List Int} : pt_sp h (ws ++ [32]) (p, some L) = (match pt_w h ws p with
  | (q, false) => (q, none)
  | (q, true) => if h q = 32 then (q + 1, some L) else (q, none)) := by
  rw [pt_sp_w, pt_w_snoc]
  rcases pt_w h ws p with ⟨q, _ | _⟩
  · rfl
  · dsimp only
    by_cases c : h q = 32
    · simp [c]
    · simp [c]
/-- the clause 'come' -/
theorem pt_cr_come {h : Nat → Int} {w0 v : Int} {ws : List Int} {p p2 : Nat} {L : List Int} (hw : pt_word h p = pt_wv 3 (pt_w h ws p2)) (hv : ∀ p3 L2 q v2, pt_sp h (ws ++ [32]) (p2, some L) = (p3, some L2) → pt_num h p3 = (q, some v2) → v = v2) : pt_cr h p L = pt_bd (pt_sp h (ws ++ [32]) (p2, some L)) (fun p L => pt_ns h p L) ∧ pt_wn h p w0 = (match (pt_cr h p L).2 with
  | none => w0
  | some _ => v) := by
  have key : ∃ q o, pt_cl h p = (q, o) ∧ pt_bd (pt_sp h (ws ++ [32]) (p2, some L)) (fun p L => pt_ns h p L) = (q, match o with
      | none => none
      | some _ => some L) ∧ (∀ x, o = some x → x.1 = 3 ∧ x.2.1 = v) := by
    unfold pt_cl
    rw [pt_sp_snoc] at hv ⊢
    rw [hw]
    rcases hW : pt_w h ws p2 with ⟨q, _ | _⟩
    · exact ⟨q, none, rfl, rfl, fun x e => by cases e⟩
    · rw [hW] at hv
      rw [show pt_wv 3 (q, true) = (q, some 3) from rfl]
      dsimp only at hv ⊢
      by_cases c : h q = 32
      · rw [if_pos c] at hv
        rw [if_pos c, if_neg (fun f => f c)]
        show ∃ q1 o, _ ∧ pt_ns h (q + 1) L = _ ∧ _
        unfold pt_ns
        rcases hN : pt_num h (q + 1) with ⟨r, _ | n⟩
        · exact ⟨r, none, rfl, rfl, fun x e => by cases e⟩
        · have ev := hv (q + 1) L r n rfl hN
          exact ⟨r, some (3, n, []), if_pos rfl, rfl, fun x e => by cases e; exact ⟨rfl, ev.symm⟩⟩
      · rw [if_neg c, if_pos c]
        exact ⟨q, none, rfl, rfl, fun x e => by cases e⟩
  obtain ⟨q, o, e1, e2, e3⟩ := key
  rw [e2]
  unfold pt_cr pt_wn
  rw [e1]
  cases o with
  | none => exact ⟨rfl, rfl⟩
  | some x =>
    obtain ⟨x1, x2⟩ := e3 x rfl
    dsimp only
    rw [ps_fl1, if_pos x1, if_pos x1, List.append_nil]
    exact ⟨rfl, x2⟩
theorem r_cs_w {I0 I : Nat → Nat → Int} {hs : Nat → Int} {z a : Nat} {w w2 e : Int} {R : pt_R} (h : r_cs I0 I hs z a w e R) : r_cs I0 (am_up I 108 (168 + a) w2) hs z a w2 e R := by
  obtain ⟨h1, ⟨t6, t7, tz, tp, th, te, tb⟩, h3, h4, h5, h6⟩ := h
  have ha := h3.2
  have e7 : ∀ i, am_up I 108 (168 + a) w2 107 i = I 107 i := fun i => am_up_ne2 (Or.inl (by decide))
  have e8 : ∀ i, i ≠ 168 + a → am_up I 108 (168 + a) w2 108 i = I 108 i := fun i hi => am_up_ne2 (Or.inr hi)
  refine ⟨fun c i hk => ?_, ⟨(e7 _).trans t6, (e7 _).trans t7, tz, tp, fun i hi => (e8 _ (by omega)).trans (th i hi), te, tb⟩, ⟨(e7 _).trans h3.1, h3.2⟩, am_up_at2, (e7 _).trans h5, ?_⟩
  · have h0 := h1 c i hk
    unfold r_pk at hk
    rw [am_up_ne2 (by omega)]
    exact h0
  · obtain ⟨q, _ | L⟩ := R
    · obtain ⟨h6, h7, h8⟩ := h6
      exact ⟨(e7 _).trans h6, by rw [e8 _ (by omega)]; exact h7, by rw [e8 _ (by omega)]; exact h8⟩
    · obtain ⟨h6, ⟨h7, h8⟩, h9⟩ := h6
      exact ⟨(e7 _).trans h6, ⟨(e8 _ (by omega)).trans h7, fun i hi => (e8 _ (by omega)).trans (h8 i hi)⟩, h9⟩
theorem r_much6 {X : Nat × (Nat → Int)} {D : List (Nat × Nat)} {I J : Nat → Nat → Int} {ρ : Nat → Nat → Option Nat} (d : Nat) {I0 : Nat → Nat → Int} {hs : Nat → Int} {z a p : Nat} {w : Int} {L : List Int} (hcs : r_cs I0 I hs z a w 0 (p, some L))  : am_E X (d + 23) 144 0 [(0, .inr (.inr (.inl (some 107)))), (1, .inl (-10)), (2, .inr (.inr (.inr 13)))] [] (am_mm D I J ρ) (fun r => ∃ K, r = (none, am_mm D K J ρ) ∧ r_cs I0 K hs z a w 0 ((pt_mc hs [105, 107, 101, 32] (-10) p L))) := by
  have h8 : I 107 8 = 0 := hcs.2.2.2.2.2.1
  have t6 : I 107 6 = (p : Int) := hcs.2.1.1
  have tb := hcs.2.1.2.2.2.2.2.2
  have tbp := tb p
  have tz := hcs.2.1.2.2.1
  have tpz : p ≤ z := hcs.2.1.2.2.2.1
  have ed : I 107 9 = 0 := hcs.2.2.2.2.1
  have te := hcs.2.1.2.2.2.2.2.1
  have ha5 := hcs.2.2.1.2
  have h5 : I 107 5 = (a : Int) := hcs.2.2.1.1
  refine am_e_ss 2 (q := (2, [(0, .inr (.inr (.inl (some 107)))), (1, .inl (-10)), (2, .inr (.inr (.inr 13)))], [.inr (.inr (.inr 13)), .inr (.inr (.inl (some 107)))], (am_mm D I J ρ))) rfl ?_
  refine am_e_virtual (Q := fun r => ∃ K60, r = (none, (am_mm D K60 J ρ)) ∧ r_cs I0 K60 hs z a w 0 ((pt_sp hs [105, 107, 101, 32] (p, some L)))) rfl rfl (Nat.le_of_ble_eq_true rfl) rfl rfl (Nat.le_of_ble_eq_true rfl) (Nat.le_of_ble_eq_true rfl) (r_spells6 _ hcs) ?_
  rintro r ⟨K60, rfl, g60⟩
  show am_E _ _ _ 5 [(0, .inr (.inr (.inl (some 107)))), (1, .inl (-10)), (2, .inr (.inr (.inr 13)))] [] (am_mm D K60 J ρ) _
  refine am_e_ss 1 (q := (6, [(0, .inr (.inr (.inl (some 107)))), (1, .inl (-10)), (2, .inr (.inr (.inr 13)))], [.inr (.inr (.inl (some 107)))], (am_mm D K60 J ρ))) rfl ?_
  refine am_e_virtual (Q := fun r => ∃ v61 K61, r = (some (.inl v61), (am_mm D K61 J ρ)) ∧ r_cs I0 K61 hs z a w 0 ((pt_bd ((pt_sp hs [105, 107, 101, 32] (p, some L))) (fun p L => pt_ns hs p L))) ∧ (0 ≤ v61 ∧ v61 ≤ 99) ∧ ∀ p3 L3 q3 v3, (pt_sp hs [105, 107, 101, 32] (p, some L)) = (p3, some L3) → pt_num hs p3 = (q3, some v3) → v61 = v3) rfl rfl (Nat.le_of_ble_eq_true rfl) rfl rfl (Nat.le_of_ble_eq_true rfl) (Nat.le_of_ble_eq_true rfl) (r_figC _ g60) ?_
  rintro r ⟨v61, K61, rfl, g61, hv61, hw61⟩
  show am_E _ _ _ 9 [(0, .inr (.inr (.inl (some 107)))), (1, .inl (-10)), (2, .inr (.inr (.inr 13)))] [.inl v61] (am_mm D K61 J ρ) _
  refine am_e_ss 3 (q := (13, [(3, .inl v61), (0, .inr (.inr (.inl (some 107)))), (1, .inl (-10)), (2, .inr (.inr (.inr 13)))], [.inl 32, .inr (.inr (.inl (some 107)))], (am_mm D K61 J ρ))) rfl ?_
  refine am_e_virtual (Q := fun r => ∃ K62, r = (none, (am_mm D K62 J ρ)) ∧ r_cs I0 K62 hs z a w 0 ((pt_bd ((pt_bd ((pt_sp hs [105, 107, 101, 32] (p, some L))) (fun p L => pt_ns hs p L))) (fun p L => pt_ms hs 32 p L)))) rfl rfl (Nat.le_of_ble_eq_true rfl) rfl rfl (Nat.le_of_ble_eq_true rfl) (Nat.le_of_ble_eq_true rfl) (r_mustC _ g61 (s := 32) (by decide)) ?_
  rintro r ⟨K62, rfl, g62⟩
  show am_E _ _ _ 16 [(3, .inl v61), (0, .inr (.inr (.inl (some 107)))), (1, .inl (-10)), (2, .inr (.inr (.inr 13)))] [] (am_mm D K62 J ρ) _
  refine am_e_ss 1 (q := (17, [(3, .inl v61), (0, .inr (.inr (.inl (some 107)))), (1, .inl (-10)), (2, .inr (.inr (.inr 13)))], [.inr (.inr (.inl (some 107)))], (am_mm D K62 J ρ))) rfl ?_
  refine am_e_virtual (Q := fun r => ∃ K63, r = (none, (am_mm D K63 J ρ)) ∧ r_cs I0 K63 hs z a w 0 ((pt_bd ((pt_bd ((pt_bd ((pt_sp hs [105, 107, 101, 32] (p, some L))) (fun p L => pt_ns hs p L))) (fun p L => pt_ms hs 32 p L))) (fun p L => pt_pre L (pt_E hs (pt_F hs 5) p))))) rfl rfl (Nat.le_of_ble_eq_true rfl) rfl rfl (Nat.le_of_ble_eq_true rfl) (Nat.le_of_ble_eq_true rfl) ((r_any te) _ _ _ ((pt_bd ((pt_bd ((pt_sp hs [105, 107, 101, 32] (p, some L))) (fun p L => pt_ns hs p L))) (fun p L => pt_ms hs 32 p L))) (by omega) g62) ?_
  rintro r ⟨K63, rfl, g63⟩
  show am_E _ _ _ 20 [(3, .inl v61), (0, .inr (.inr (.inl (some 107)))), (1, .inl (-10)), (2, .inr (.inr (.inr 13)))] [] (am_mm D K63 J ρ) _
  refine am_e_ss 4 (q := (24, [(3, .inl v61), (0, .inr (.inr (.inl (some 107)))), (1, .inl (-10)), (2, .inr (.inr (.inr 13)))], [.inl ((-10) - v61), .inr (.inr (.inl (some 107)))], (am_mm D K63 J ρ))) rfl ?_
  refine am_e_virtual (Q := fun r => ∃ K64, r = (none, (am_mm D K64 J ρ)) ∧ r_cs I0 K64 hs z a w 0 ((pt_bd ((pt_bd ((pt_bd ((pt_bd ((pt_sp hs [105, 107, 101, 32] (p, some L))) (fun p L => pt_ns hs p L))) (fun p L => pt_ms hs 32 p L))) (fun p L => pt_pre L (pt_E hs (pt_F hs 5) p)))) (fun p9 L9 => (p9, some (L9 ++ [((-10) - v61)])))))) rfl rfl (Nat.le_of_ble_eq_true rfl) rfl rfl (Nat.le_of_ble_eq_true rfl) (Nat.le_of_ble_eq_true rfl) (r_emitsC _ g63 (s := ((-10) - v61)) (pt_lt_pre (pt_E_ok (by decide) (pt_F_ok te 5)) (pt_lt_ms (r_cs_le g61)))) ?_
  rintro r ⟨K64, rfl, g64⟩
  show am_E _ _ _ 27 [(3, .inl v61), (0, .inr (.inr (.inl (some 107)))), (1, .inl (-10)), (2, .inr (.inr (.inr 13)))] [] (am_mm D K64 J ρ) _
  refine am_e_return rfl rfl ?_
  rw [pt_mc_of hw61] at g64
  exact ⟨_, rfl, g64⟩
theorem r_much7 {X : Nat × (Nat → Int)} {D : List (Nat × Nat)} {I J : Nat → Nat → Int} {ρ : Nat → Nat → Option Nat} (d : Nat) {I0 : Nat → Nat → Int} {hs : Nat → Int} {z a p : Nat} {w : Int} {L : List Int} (hcs : r_cs I0 I hs z a w 0 (p, some L))  : am_E X (d + 23) 144 0 [(0, .inr (.inr (.inl (some 107)))), (1, .inl (-200)), (2, .inr (.inr (.inr 15)))] [] (am_mm D I J ρ) (fun r => ∃ K, r = (none, am_mm D K J ρ) ∧ r_cs I0 K hs z a w 0 ((pt_mc hs [111, 97, 116, 104, 32] (-200) p L))) := by
  have h8 : I 107 8 = 0 := hcs.2.2.2.2.2.1
  have t6 : I 107 6 = (p : Int) := hcs.2.1.1
  have tb := hcs.2.1.2.2.2.2.2.2
  have tbp := tb p
  have tz := hcs.2.1.2.2.1
  have tpz : p ≤ z := hcs.2.1.2.2.2.1
  have ed : I 107 9 = 0 := hcs.2.2.2.2.1
  have te := hcs.2.1.2.2.2.2.2.1
  have ha5 := hcs.2.2.1.2
  have h5 : I 107 5 = (a : Int) := hcs.2.2.1.1
  refine am_e_ss 2 (q := (2, [(0, .inr (.inr (.inl (some 107)))), (1, .inl (-200)), (2, .inr (.inr (.inr 15)))], [.inr (.inr (.inr 15)), .inr (.inr (.inl (some 107)))], (am_mm D I J ρ))) rfl ?_
  refine am_e_virtual (Q := fun r => ∃ K65, r = (none, (am_mm D K65 J ρ)) ∧ r_cs I0 K65 hs z a w 0 ((pt_sp hs [111, 97, 116, 104, 32] (p, some L)))) rfl rfl (Nat.le_of_ble_eq_true rfl) rfl rfl (Nat.le_of_ble_eq_true rfl) (Nat.le_of_ble_eq_true rfl) (r_spells7 _ hcs) ?_
  rintro r ⟨K65, rfl, g65⟩
  show am_E _ _ _ 5 [(0, .inr (.inr (.inl (some 107)))), (1, .inl (-200)), (2, .inr (.inr (.inr 15)))] [] (am_mm D K65 J ρ) _
  refine am_e_ss 1 (q := (6, [(0, .inr (.inr (.inl (some 107)))), (1, .inl (-200)), (2, .inr (.inr (.inr 15)))], [.inr (.inr (.inl (some 107)))], (am_mm D K65 J ρ))) rfl ?_
  refine am_e_virtual (Q := fun r => ∃ v66 K66, r = (some (.inl v66), (am_mm D K66 J ρ)) ∧ r_cs I0 K66 hs z a w 0 ((pt_bd ((pt_sp hs [111, 97, 116, 104, 32] (p, some L))) (fun p L => pt_ns hs p L))) ∧ (0 ≤ v66 ∧ v66 ≤ 99) ∧ ∀ p3 L3 q3 v3, (pt_sp hs [111, 97, 116, 104, 32] (p, some L)) = (p3, some L3) → pt_num hs p3 = (q3, some v3) → v66 = v3) rfl rfl (Nat.le_of_ble_eq_true rfl) rfl rfl (Nat.le_of_ble_eq_true rfl) (Nat.le_of_ble_eq_true rfl) (r_figC _ g65) ?_
  rintro r ⟨v66, K66, rfl, g66, hv66, hw66⟩
  show am_E _ _ _ 9 [(0, .inr (.inr (.inl (some 107)))), (1, .inl (-200)), (2, .inr (.inr (.inr 15)))] [.inl v66] (am_mm D K66 J ρ) _
  refine am_e_ss 3 (q := (13, [(3, .inl v66), (0, .inr (.inr (.inl (some 107)))), (1, .inl (-200)), (2, .inr (.inr (.inr 15)))], [.inl 32, .inr (.inr (.inl (some 107)))], (am_mm D K66 J ρ))) rfl ?_
  refine am_e_virtual (Q := fun r => ∃ K67, r = (none, (am_mm D K67 J ρ)) ∧ r_cs I0 K67 hs z a w 0 ((pt_bd ((pt_bd ((pt_sp hs [111, 97, 116, 104, 32] (p, some L))) (fun p L => pt_ns hs p L))) (fun p L => pt_ms hs 32 p L)))) rfl rfl (Nat.le_of_ble_eq_true rfl) rfl rfl (Nat.le_of_ble_eq_true rfl) (Nat.le_of_ble_eq_true rfl) (r_mustC _ g66 (s := 32) (by decide)) ?_
  rintro r ⟨K67, rfl, g67⟩
  show am_E _ _ _ 16 [(3, .inl v66), (0, .inr (.inr (.inl (some 107)))), (1, .inl (-200)), (2, .inr (.inr (.inr 15)))] [] (am_mm D K67 J ρ) _
  refine am_e_ss 1 (q := (17, [(3, .inl v66), (0, .inr (.inr (.inl (some 107)))), (1, .inl (-200)), (2, .inr (.inr (.inr 15)))], [.inr (.inr (.inl (some 107)))], (am_mm D K67 J ρ))) rfl ?_
  refine am_e_virtual (Q := fun r => ∃ K68, r = (none, (am_mm D K68 J ρ)) ∧ r_cs I0 K68 hs z a w 0 ((pt_bd ((pt_bd ((pt_bd ((pt_sp hs [111, 97, 116, 104, 32] (p, some L))) (fun p L => pt_ns hs p L))) (fun p L => pt_ms hs 32 p L))) (fun p L => pt_pre L (pt_E hs (pt_F hs 5) p))))) rfl rfl (Nat.le_of_ble_eq_true rfl) rfl rfl (Nat.le_of_ble_eq_true rfl) (Nat.le_of_ble_eq_true rfl) ((r_any te) _ _ _ ((pt_bd ((pt_bd ((pt_sp hs [111, 97, 116, 104, 32] (p, some L))) (fun p L => pt_ns hs p L))) (fun p L => pt_ms hs 32 p L))) (by omega) g67) ?_
  rintro r ⟨K68, rfl, g68⟩
  show am_E _ _ _ 20 [(3, .inl v66), (0, .inr (.inr (.inl (some 107)))), (1, .inl (-200)), (2, .inr (.inr (.inr 15)))] [] (am_mm D K68 J ρ) _
  refine am_e_ss 4 (q := (24, [(3, .inl v66), (0, .inr (.inr (.inl (some 107)))), (1, .inl (-200)), (2, .inr (.inr (.inr 15)))], [.inl ((-200) - v66), .inr (.inr (.inl (some 107)))], (am_mm D K68 J ρ))) rfl ?_
  refine am_e_virtual (Q := fun r => ∃ K69, r = (none, (am_mm D K69 J ρ)) ∧ r_cs I0 K69 hs z a w 0 ((pt_bd ((pt_bd ((pt_bd ((pt_bd ((pt_sp hs [111, 97, 116, 104, 32] (p, some L))) (fun p L => pt_ns hs p L))) (fun p L => pt_ms hs 32 p L))) (fun p L => pt_pre L (pt_E hs (pt_F hs 5) p)))) (fun p9 L9 => (p9, some (L9 ++ [((-200) - v66)])))))) rfl rfl (Nat.le_of_ble_eq_true rfl) rfl rfl (Nat.le_of_ble_eq_true rfl) (Nat.le_of_ble_eq_true rfl) (r_emitsC _ g68 (s := ((-200) - v66)) (pt_lt_pre (pt_E_ok (by decide) (pt_F_ok te 5)) (pt_lt_ms (r_cs_le g66)))) ?_
  rintro r ⟨K69, rfl, g69⟩
  show am_E _ _ _ 27 [(3, .inl v66), (0, .inr (.inr (.inl (some 107)))), (1, .inl (-200)), (2, .inr (.inr (.inr 15)))] [] (am_mm D K69 J ρ) _
  refine am_e_return rfl rfl ?_
  rw [pt_mc_of hw66] at g69
  exact ⟨_, rfl, g69⟩
theorem r_much8 {X : Nat × (Nat → Int)} {D : List (Nat × Nat)} {I J : Nat → Nat → Int} {ρ : Nat → Nat → Option Nat} (d : Nat) {I0 : Nat → Nat → Int} {hs : Nat → Int} {z a p : Nat} {w : Int} {L : List Int} (hcs : r_cs I0 I hs z a w 0 (p, some L))  : am_E X (d + 23) 144 0 [(0, .inr (.inr (.inl (some 107)))), (1, .inl (-400)), (2, .inr (.inr (.inr 17)))] [] (am_mm D I J ρ) (fun r => ∃ K, r = (none, am_mm D K J ρ) ∧ r_cs I0 K hs z a w 0 ((pt_mc hs [114, 101, 97, 100, 32] (-400) p L))) := by
  have h8 : I 107 8 = 0 := hcs.2.2.2.2.2.1
  have t6 : I 107 6 = (p : Int) := hcs.2.1.1
  have tb := hcs.2.1.2.2.2.2.2.2
  have tbp := tb p
  have tz := hcs.2.1.2.2.1
  have tpz : p ≤ z := hcs.2.1.2.2.2.1
  have ed : I 107 9 = 0 := hcs.2.2.2.2.1
  have te := hcs.2.1.2.2.2.2.2.1
  have ha5 := hcs.2.2.1.2
  have h5 : I 107 5 = (a : Int) := hcs.2.2.1.1
  refine am_e_ss 2 (q := (2, [(0, .inr (.inr (.inl (some 107)))), (1, .inl (-400)), (2, .inr (.inr (.inr 17)))], [.inr (.inr (.inr 17)), .inr (.inr (.inl (some 107)))], (am_mm D I J ρ))) rfl ?_
  refine am_e_virtual (Q := fun r => ∃ K70, r = (none, (am_mm D K70 J ρ)) ∧ r_cs I0 K70 hs z a w 0 ((pt_sp hs [114, 101, 97, 100, 32] (p, some L)))) rfl rfl (Nat.le_of_ble_eq_true rfl) rfl rfl (Nat.le_of_ble_eq_true rfl) (Nat.le_of_ble_eq_true rfl) (r_spells8 _ hcs) ?_
  rintro r ⟨K70, rfl, g70⟩
  show am_E _ _ _ 5 [(0, .inr (.inr (.inl (some 107)))), (1, .inl (-400)), (2, .inr (.inr (.inr 17)))] [] (am_mm D K70 J ρ) _
  refine am_e_ss 1 (q := (6, [(0, .inr (.inr (.inl (some 107)))), (1, .inl (-400)), (2, .inr (.inr (.inr 17)))], [.inr (.inr (.inl (some 107)))], (am_mm D K70 J ρ))) rfl ?_
  refine am_e_virtual (Q := fun r => ∃ v71 K71, r = (some (.inl v71), (am_mm D K71 J ρ)) ∧ r_cs I0 K71 hs z a w 0 ((pt_bd ((pt_sp hs [114, 101, 97, 100, 32] (p, some L))) (fun p L => pt_ns hs p L))) ∧ (0 ≤ v71 ∧ v71 ≤ 99) ∧ ∀ p3 L3 q3 v3, (pt_sp hs [114, 101, 97, 100, 32] (p, some L)) = (p3, some L3) → pt_num hs p3 = (q3, some v3) → v71 = v3) rfl rfl (Nat.le_of_ble_eq_true rfl) rfl rfl (Nat.le_of_ble_eq_true rfl) (Nat.le_of_ble_eq_true rfl) (r_figC _ g70) ?_
  rintro r ⟨v71, K71, rfl, g71, hv71, hw71⟩
  show am_E _ _ _ 9 [(0, .inr (.inr (.inl (some 107)))), (1, .inl (-400)), (2, .inr (.inr (.inr 17)))] [.inl v71] (am_mm D K71 J ρ) _
  refine am_e_ss 3 (q := (13, [(3, .inl v71), (0, .inr (.inr (.inl (some 107)))), (1, .inl (-400)), (2, .inr (.inr (.inr 17)))], [.inl 32, .inr (.inr (.inl (some 107)))], (am_mm D K71 J ρ))) rfl ?_
  refine am_e_virtual (Q := fun r => ∃ K72, r = (none, (am_mm D K72 J ρ)) ∧ r_cs I0 K72 hs z a w 0 ((pt_bd ((pt_bd ((pt_sp hs [114, 101, 97, 100, 32] (p, some L))) (fun p L => pt_ns hs p L))) (fun p L => pt_ms hs 32 p L)))) rfl rfl (Nat.le_of_ble_eq_true rfl) rfl rfl (Nat.le_of_ble_eq_true rfl) (Nat.le_of_ble_eq_true rfl) (r_mustC _ g71 (s := 32) (by decide)) ?_
  rintro r ⟨K72, rfl, g72⟩
  show am_E _ _ _ 16 [(3, .inl v71), (0, .inr (.inr (.inl (some 107)))), (1, .inl (-400)), (2, .inr (.inr (.inr 17)))] [] (am_mm D K72 J ρ) _
  refine am_e_ss 1 (q := (17, [(3, .inl v71), (0, .inr (.inr (.inl (some 107)))), (1, .inl (-400)), (2, .inr (.inr (.inr 17)))], [.inr (.inr (.inl (some 107)))], (am_mm D K72 J ρ))) rfl ?_
  refine am_e_virtual (Q := fun r => ∃ K73, r = (none, (am_mm D K73 J ρ)) ∧ r_cs I0 K73 hs z a w 0 ((pt_bd ((pt_bd ((pt_bd ((pt_sp hs [114, 101, 97, 100, 32] (p, some L))) (fun p L => pt_ns hs p L))) (fun p L => pt_ms hs 32 p L))) (fun p L => pt_pre L (pt_E hs (pt_F hs 5) p))))) rfl rfl (Nat.le_of_ble_eq_true rfl) rfl rfl (Nat.le_of_ble_eq_true rfl) (Nat.le_of_ble_eq_true rfl) ((r_any te) _ _ _ ((pt_bd ((pt_bd ((pt_sp hs [114, 101, 97, 100, 32] (p, some L))) (fun p L => pt_ns hs p L))) (fun p L => pt_ms hs 32 p L))) (by omega) g72) ?_
  rintro r ⟨K73, rfl, g73⟩
  show am_E _ _ _ 20 [(3, .inl v71), (0, .inr (.inr (.inl (some 107)))), (1, .inl (-400)), (2, .inr (.inr (.inr 17)))] [] (am_mm D K73 J ρ) _
  refine am_e_ss 4 (q := (24, [(3, .inl v71), (0, .inr (.inr (.inl (some 107)))), (1, .inl (-400)), (2, .inr (.inr (.inr 17)))], [.inl ((-400) - v71), .inr (.inr (.inl (some 107)))], (am_mm D K73 J ρ))) rfl ?_
  refine am_e_virtual (Q := fun r => ∃ K74, r = (none, (am_mm D K74 J ρ)) ∧ r_cs I0 K74 hs z a w 0 ((pt_bd ((pt_bd ((pt_bd ((pt_bd ((pt_sp hs [114, 101, 97, 100, 32] (p, some L))) (fun p L => pt_ns hs p L))) (fun p L => pt_ms hs 32 p L))) (fun p L => pt_pre L (pt_E hs (pt_F hs 5) p)))) (fun p9 L9 => (p9, some (L9 ++ [((-400) - v71)])))))) rfl rfl (Nat.le_of_ble_eq_true rfl) rfl rfl (Nat.le_of_ble_eq_true rfl) (Nat.le_of_ble_eq_true rfl) (r_emitsC _ g73 (s := ((-400) - v71)) (pt_lt_pre (pt_E_ok (by decide) (pt_F_ok te 5)) (pt_lt_ms (r_cs_le g71)))) ?_
  rintro r ⟨K74, rfl, g74⟩
  show am_E _ _ _ 27 [(3, .inl v71), (0, .inr (.inr (.inl (some 107)))), (1, .inl (-400)), (2, .inr (.inr (.inr 17)))] [] (am_mm D K74 J ρ) _
  refine am_e_return rfl rfl ?_
  rw [pt_mc_of hw71] at g74
  exact ⟨_, rfl, g74⟩
theorem r_clauseL {X : Nat × (Nat → Int)} {D : List (Nat × Nat)} {I J : Nat → Nat → Int} {ρ : Nat → Nat → Option Nat} (d : Nat) {I0 : Nat → Nat → Int} {hs : Nat → Int} {z a p : Nat} {w : Int} {L : List Int} (hcs : r_cs I0 I hs z a w 0 (p, some L)) (h108 : hs p = 108) : am_E X (d + 24) 145 0 [(0, .inr (.inr (.inl (some 107))))] [] (am_mm D I J ρ) (fun r => ∃ K w2, r = (none, am_mm D K J ρ) ∧ r_cs I0 K hs z a w2 0 ((pt_cr hs p L)) ∧ w2 = pt_wn hs p w) := by
  have h8 : I 107 8 = 0 := hcs.2.2.2.2.2.1
  have t6 : I 107 6 = (p : Int) := hcs.2.1.1
  have tb := hcs.2.1.2.2.2.2.2.2
  have tbp := tb p
  have tz := hcs.2.1.2.2.1
  have tpz : p ≤ z := hcs.2.1.2.2.2.1
  have ed : I 107 9 = 0 := hcs.2.2.2.2.1
  have te := hcs.2.1.2.2.2.2.2.1
  have ha5 := hcs.2.2.1.2
  have h5 : I 107 5 = (a : Int) := hcs.2.2.1.1
  refine am_e_ss 2 (q := (3, [(0, .inr (.inr (.inl (some 107))))], [.inl 108, .inr (.inr (.inl (some 107)))], (am_mm D I J ρ))) rfl ?_
  refine am_e_virtual (Q := fun r => ∃ K75, r = (none, (am_mm D K75 J ρ)) ∧ r_cs I0 K75 hs z a w 0 ((pt_bd (p, some L) (fun p L => pt_ms hs 108 p L)))) rfl rfl (Nat.le_of_ble_eq_true rfl) rfl rfl (Nat.le_of_ble_eq_true rfl) (Nat.le_of_ble_eq_true rfl) (r_mustC _ hcs (s := 108) (by decide)) ?_
  rintro r ⟨K75, rfl, g75⟩
  have g75 : r_cs I0 K75 hs z a w 0 ((p + 1, some L)) := by
    have g0 : r_cs I0 K75 hs z a w 0 ((pt_ms hs 108 p L)) := g75
    unfold pt_ms at g0
    rw [if_pos h108] at g0; exact g0
  have tb1 := tb (p + 1)
  show am_E _ _ _ 6 [(0, .inr (.inr (.inl (some 107))))] [] (am_mm D K75 J ρ) _
  refine am_e_ss 1 (q := (7, [(0, .inr (.inr (.inl (some 107))))], [.inr (.inr (.inl (some 107)))], (am_mm D K75 J ρ))) rfl ?_
  refine am_e_virtual (Q := fun r => r = (some (.inl ((hs (p + 1)))), (am_mm D K75 J ρ))) rfl rfl (Nat.le_of_ble_eq_true rfl) rfl rfl (Nat.le_of_ble_eq_true rfl) (Nat.le_of_ble_eq_true rfl) (r_hereC _ g75) ?_
  rintro r rfl
  show am_E _ _ _ 10 [(0, .inr (.inr (.inl (some 107))))] [.inl ((hs (p + 1)))] (am_mm D K75 J ρ) _
  refine am_e_ss 1 (q := (12, [(0, .inr (.inr (.inl (some 107))))], [.inl 105, .inl ((hs (p + 1)))], (am_mm D K75 J ρ))) rfl ?_
  refine am_e_icmp2 rfl ⟨by omega, by omega⟩ ⟨by omega, by omega⟩ (fun (hw1 : ¬ (hs (p + 1)) = 105) => ?_) (fun (hw1 : ¬ (¬ (hs (p + 1)) = 105)) => ?_)
  · show am_E _ _ _ 26 [(0, .inr (.inr (.inl (some 107))))] [] (am_mm D K75 J ρ) _
    refine am_e_ss 3 (q := (32, [(0, .inr (.inr (.inl (some 107))))], [.inr (.inr (.inr 15)), .inl (-200), .inr (.inr (.inl (some 107)))], (am_mm D K75 J ρ))) rfl ?_
    refine am_e_virtual (Q := fun r => ∃ K76, r = (none, (am_mm D K76 J ρ)) ∧ r_cs I0 K76 hs z a w 0 ((pt_mc hs [111, 97, 116, 104, 32] (-200) (p + 1) L))) rfl rfl (Nat.le_of_ble_eq_true rfl) rfl rfl (Nat.le_of_ble_eq_true rfl) (Nat.le_of_ble_eq_true rfl) (r_much7 _ g75) ?_
    rintro r ⟨K76, rfl, g76⟩
    show am_E _ _ _ 35 [(0, .inr (.inr (.inl (some 107))))] [] (am_mm D K76 J ρ) _
    refine am_e_return rfl rfl ?_
    have ew : pt_word hs p = pt_wv 1 (pt_w hs [111, 97, 116, 104] (p + 1)) := by
      unfold pt_word
      rw [if_neg (by omega), if_neg (by omega), if_pos h108, if_neg (by omega)]
    obtain ⟨e1, e2⟩ := pt_cr_mc (L := L) (w0 := w) ew (by decide)
    exact ⟨_, w, rfl, by rw [e1]; exact g76, e2.symm⟩
  · show am_E _ _ _ 15 [(0, .inr (.inr (.inl (some 107))))] [] (am_mm D K75 J ρ) _
    refine am_e_ss 3 (q := (20, [(0, .inr (.inr (.inl (some 107))))], [.inr (.inr (.inr 13)), .inl (-10), .inr (.inr (.inl (some 107)))], (am_mm D K75 J ρ))) rfl ?_
    refine am_e_virtual (Q := fun r => ∃ K77, r = (none, (am_mm D K77 J ρ)) ∧ r_cs I0 K77 hs z a w 0 ((pt_mc hs [105, 107, 101, 32] (-10) (p + 1) L))) rfl rfl (Nat.le_of_ble_eq_true rfl) rfl rfl (Nat.le_of_ble_eq_true rfl) (Nat.le_of_ble_eq_true rfl) (r_much6 _ g75) ?_
    rintro r ⟨K77, rfl, g77⟩
    show am_E _ _ _ 23 [(0, .inr (.inr (.inl (some 107))))] [] (am_mm D K77 J ρ) _
    refine am_e_ss 1 (q := (35, [(0, .inr (.inr (.inl (some 107))))], [], (am_mm D K77 J ρ))) rfl ?_
    refine am_e_return rfl rfl ?_
    have ew : pt_word hs p = pt_wv 0 (pt_w hs [105, 107, 101] (p + 1)) := by
      unfold pt_word
      rw [if_neg (by omega), if_neg (by omega), if_pos h108, if_pos (by omega)]
    obtain ⟨e1, e2⟩ := pt_cr_mc (L := L) (w0 := w) ew (by decide)
    exact ⟨_, w, rfl, by rw [e1]; exact g77, e2.symm⟩
theorem r_cs_01 {I0 I : Nat → Nat → Int} {hs : Nat → Int} {z a : Nat} {w e : Int} {R : pt_R} (h : r_cs I0 I hs z a w e R) : I 107 8 = 0 ∨ I 107 8 = 1 := by
  obtain ⟨p, _ | M⟩ := R
  · exact Or.inr h.2.2.2.2.2.1
  · exact Or.inl h.2.2.2.2.2.1
theorem r_clause {X : Nat × (Nat → Int)} {D : List (Nat × Nat)} {I J : Nat → Nat → Int} {ρ : Nat → Nat → Option Nat} (d : Nat) {I0 : Nat → Nat → Int} {hs : Nat → Int} {z a p : Nat} {w : Int} {L : List Int} (hcs : r_cs I0 I hs z a w 0 (p, some L))  : am_E X (d + 25) 146 0 [(0, .inr (.inr (.inl (some 107))))] [] (am_mm D I J ρ) (fun r => ∃ K w2, r = (none, am_mm D K J ρ) ∧ r_cs I0 K hs z a w2 0 ((pt_cr hs p L)) ∧ w2 = pt_wn hs p w) := by
  have h8 : I 107 8 = 0 := hcs.2.2.2.2.2.1
  have t6 : I 107 6 = (p : Int) := hcs.2.1.1
  have tb := hcs.2.1.2.2.2.2.2.2
  have tbp := tb p
  have tz := hcs.2.1.2.2.1
  have tpz : p ≤ z := hcs.2.1.2.2.2.1
  have ed : I 107 9 = 0 := hcs.2.2.2.2.1
  have te := hcs.2.1.2.2.2.2.2.1
  have ha5 := hcs.2.2.1.2
  have h5 : I 107 5 = (a : Int) := hcs.2.2.1.1
  refine am_e_ss 1 (q := (1, [(0, .inr (.inr (.inl (some 107))))], [.inr (.inr (.inl (some 107)))], (am_mm D I J ρ))) rfl ?_
  refine am_e_virtual (Q := fun r => r = (some (.inl ((hs p))), (am_mm D I J ρ))) rfl rfl (Nat.le_of_ble_eq_true rfl) rfl rfl (Nat.le_of_ble_eq_true rfl) (Nat.le_of_ble_eq_true rfl) (r_hereC _ hcs) ?_
  rintro r rfl
  show am_E _ _ _ 4 [(0, .inr (.inr (.inl (some 107))))] [.inl ((hs p))] (am_mm D I J ρ) _
  rcases (show ((hs p) = 99) ∨ ((hs p) = 108) ∨ ((hs p) = 114) ∨ (¬ (hs p) = 99 ∧ ¬ (hs p) = 108 ∧ ¬ (hs p) = 114) by omega) with hw1 | hw1 | hw1 | hw1
  · refine am_e_look (t := 59) (off := 55) rfl ⟨by omega, by omega⟩ (by rw [hw1]; rfl) rfl ?_
    refine am_e_ss 2 (q := (62, [(0, .inr (.inr (.inl (some 107))))], [.inr (.inr (.inr 19)), .inr (.inr (.inl (some 107)))], (am_mm D I J ρ))) rfl ?_
    refine am_e_virtual (Q := fun r => ∃ K78, r = (none, (am_mm D K78 J ρ)) ∧ r_cs I0 K78 hs z a w 0 ((pt_sp hs [99, 111, 109, 101, 32] (p, some L)))) rfl rfl (Nat.le_of_ble_eq_true rfl) rfl rfl (Nat.le_of_ble_eq_true rfl) (Nat.le_of_ble_eq_true rfl) (r_spells9 _ hcs) ?_
    rintro r ⟨K78, rfl, g78⟩
    show am_E _ _ _ 65 [(0, .inr (.inr (.inl (some 107))))] [] (am_mm D K78 J ρ) _
    refine am_e_ss 1 (q := (66, [(0, .inr (.inr (.inl (some 107))))], [.inr (.inr (.inl (some 107)))], (am_mm D K78 J ρ))) rfl ?_
    refine am_e_virtual (Q := fun r => ∃ v79 K79, r = (some (.inl v79), (am_mm D K79 J ρ)) ∧ r_cs I0 K79 hs z a w 0 ((pt_bd ((pt_sp hs [99, 111, 109, 101, 32] (p, some L))) (fun p L => pt_ns hs p L))) ∧ (0 ≤ v79 ∧ v79 ≤ 99) ∧ ∀ p3 L3 q3 v3, (pt_sp hs [99, 111, 109, 101, 32] (p, some L)) = (p3, some L3) → pt_num hs p3 = (q3, some v3) → v79 = v3) rfl rfl (Nat.le_of_ble_eq_true rfl) rfl rfl (Nat.le_of_ble_eq_true rfl) (Nat.le_of_ble_eq_true rfl) (r_figC _ g78) ?_
    rintro r ⟨v79, K79, rfl, g79, hv79, hw79⟩
    show am_E _ _ _ 69 [(0, .inr (.inr (.inl (some 107))))] [.inl v79] (am_mm D K79 J ρ) _
    refine am_e_ss 1 (q := (70, [(1, .inl v79), (0, .inr (.inr (.inl (some 107))))], [], (am_mm D K79 J ρ))) rfl ?_
    have u5 : K79 107 5 = (a : Int) := g79.2.2.1.1
    have u8 : K79 107 8 = 0 ∨ K79 107 8 = 1 := r_cs_01 g79
    refine am_e_ss 2 (q := (74, [(1, .inl v79), (0, .inr (.inr (.inl (some 107))))], [.inl ((K79 107 8))], (am_mm D K79 J ρ))) rfl ?_
    refine am_e_if2 rfl ⟨by omega, by omega⟩ (fun (hw2 : ¬ (K79 107 8) = 0) => ?_) (fun (hw2 : ¬ (¬ (K79 107 8) = 0)) => ?_)
    · show am_E _ _ _ 99 [(1, .inl v79), (0, .inr (.inr (.inl (some 107))))] [] (am_mm D K79 J ρ) _
      refine am_e_return rfl rfl ?_
      have ew : pt_word hs p = pt_wv 3 (pt_w hs [99, 111, 109, 101] p) := by
        unfold pt_word
        rw [if_neg (by omega), if_pos (by omega)]
      obtain ⟨e1, e2⟩ := pt_cr_come (L := L) (w0 := w) (v := v79) ew hw79
      have g0 : r_cs I0 K79 hs z a w 0 ((pt_bd (pt_sp hs ([99, 111, 109, 101] ++ [32]) (p, some L)) (fun p L => pt_ns hs p L))) := g79
      rw [← e1] at g0
      rcases hR : pt_cr hs p L with ⟨q, _ | M⟩
      · rw [hR] at e2 g0; exact ⟨_, w, rfl, g0, e2.symm⟩
      · rw [hR] at g0; exfalso; have := g0.2.2.2.2.2.1; omega
    · show am_E _ _ _ 77 [(1, .inl v79), (0, .inr (.inr (.inl (some 107))))] [] (am_mm D K79 J ρ) _
      refine am_e_ss 7 (q := (90, [(1, .inl v79), (0, .inr (.inr (.inl (some 107))))], [.inl v79, .inl (168 + (K79 107 5)), .inr (.inr (.inl (some 108)))], (am_mm D K79 J ρ))) rfl ?_
      refine am_e_iastore (m := 878) rfl rfl (by omega) (by omega) (by omega) ?_
      show am_E _ _ _ 91 [(1, .inl v79), (0, .inr (.inr (.inl (some 107))))] [] (am_mm D (am_up K79 108 ((168 + (K79 107 5))).toNat v79) J ρ) _
      refine am_e_ss 1 (q := (99, [(1, .inl v79), (0, .inr (.inr (.inl (some 107))))], [], (am_mm D (am_up K79 108 ((168 + (K79 107 5))).toNat v79) J ρ))) rfl ?_
      refine am_e_return rfl rfl ?_
      have ew : pt_word hs p = pt_wv 3 (pt_w hs [99, 111, 109, 101] p) := by
        unfold pt_word
        rw [if_neg (by omega), if_pos (by omega)]
      obtain ⟨e1, e2⟩ := pt_cr_come (L := L) (w0 := w) (v := v79) ew hw79
      have g0 : r_cs I0 K79 hs z a w 0 ((pt_bd (pt_sp hs ([99, 111, 109, 101] ++ [32]) (p, some L)) (fun p L => pt_ns hs p L))) := g79
      rw [← e1] at g0
      rcases hR : pt_cr hs p L with ⟨q, _ | M⟩
      · rw [hR] at g0; exfalso; have := g0.2.2.2.2.2.1; omega
      · rw [hR] at e2 g0
        have h52 : K79 107 5 = (a : Int) := g0.2.2.1.1
        rw [show (168 + K79 107 5).toNat = 168 + a by omega]
        exact ⟨_, _, rfl, r_cs_w g0, e2.symm⟩
  · refine am_e_look (t := 40) (off := 36) rfl ⟨by omega, by omega⟩ (by rw [hw1]; rfl) rfl ?_
    refine am_e_ss 1 (q := (41, [(0, .inr (.inr (.inl (some 107))))], [.inr (.inr (.inl (some 107)))], (am_mm D I J ρ))) rfl ?_
    refine am_e_virtual (Q := fun r => ∃ K80 w80, r = (none, (am_mm D K80 J ρ)) ∧ r_cs I0 K80 hs z a w80 0 ((pt_cr hs p L)) ∧ w80 = pt_wn hs p w) rfl rfl (Nat.le_of_ble_eq_true rfl) rfl rfl (Nat.le_of_ble_eq_true rfl) (Nat.le_of_ble_eq_true rfl) (r_clauseL _ hcs (by omega)) ?_
    rintro r ⟨K80, w80, rfl, g80, hw80⟩
    show am_E _ _ _ 44 [(0, .inr (.inr (.inl (some 107))))] [] (am_mm D K80 J ρ) _
    refine am_e_ss 1 (q := (99, [(0, .inr (.inr (.inl (some 107))))], [], (am_mm D K80 J ρ))) rfl ?_
    refine am_e_return rfl rfl ?_
    exact ⟨_, _, rfl, g80, hw80⟩
  · refine am_e_look (t := 47) (off := 43) rfl ⟨by omega, by omega⟩ (by rw [hw1]; rfl) rfl ?_
    refine am_e_ss 3 (q := (53, [(0, .inr (.inr (.inl (some 107))))], [.inr (.inr (.inr 17)), .inl (-400), .inr (.inr (.inl (some 107)))], (am_mm D I J ρ))) rfl ?_
    refine am_e_virtual (Q := fun r => ∃ K81, r = (none, (am_mm D K81 J ρ)) ∧ r_cs I0 K81 hs z a w 0 ((pt_mc hs [114, 101, 97, 100, 32] (-400) (p) L))) rfl rfl (Nat.le_of_ble_eq_true rfl) rfl rfl (Nat.le_of_ble_eq_true rfl) (Nat.le_of_ble_eq_true rfl) (r_much8 _ hcs) ?_
    rintro r ⟨K81, rfl, g81⟩
    show am_E _ _ _ 56 [(0, .inr (.inr (.inl (some 107))))] [] (am_mm D K81 J ρ) _
    refine am_e_ss 1 (q := (99, [(0, .inr (.inr (.inl (some 107))))], [], (am_mm D K81 J ρ))) rfl ?_
    refine am_e_return rfl rfl ?_
    have ew : pt_word hs p = pt_wv 2 (pt_w hs [114, 101, 97, 100] p) := if_pos (by omega)
    obtain ⟨e1, e2⟩ := pt_cr_mc (L := L) (w0 := w) ew (by decide)
    exact ⟨_, w, rfl, by rw [e1]; exact g81, e2.symm⟩
  · refine am_e_look (t := 94) (off := 90) rfl ⟨by omega, by omega⟩ (by simp only [Op.lookupswitch.offset]; first | (simp; omega) | ((repeat' split) <;> omega)) rfl ?_
    refine am_e_ss 3 (q := (99, [(0, .inr (.inr (.inl (some 107))))], [], (am_mm D (am_up I 107 8 1) J ρ))) rfl ?_
    refine am_e_return rfl rfl ?_
    have ew : pt_cl hs p = (p, none) := by
      unfold pt_cl pt_word
      rw [if_neg (by omega), if_neg (by omega), if_neg (by omega)]
    exact ⟨_, w, rfl, by unfold pt_cr; rw [ew]; exact r_cs_b hcs, by unfold pt_wn; rw [ew]⟩
