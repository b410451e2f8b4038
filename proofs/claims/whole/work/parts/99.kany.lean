/-! THE CLASS: F, T and E of a text -/
theorem am_bi_so {α : Type} {o : Option α} {L : α} (h : o = some L) : am_bi (o.isSome = true) = 1 := am_bi_t (by rw [h]; rfl)
theorem am_bi_no {α : Type} {o : Option α} (h : o = none) : am_bi (o.isSome = true) = 0 := am_bi_f (by rw [h]; exact (show ¬ (false = true) by decide))
theorem k_test {X : Nat × (Nat → Int)} {D : List (Nat × Nat)} {I J : Nat → Nat → Int} {ρ : Nat → Nat → Option Nat} (d : Nat) {I0 : Nat → Nat → Int} {hs : Nat → Int} {z c p : Nat} {L : List Int} (hsh : k_sh D ρ c) (hcs : k_cs I0 I hs z c (p, some L))  : am_E X (d + 5) 15 0 [(0, .inr (.inr (.inl (some c))))] [] (am_mm D I J ρ) (fun r => ∃ K, r = (some (.inl (am_bi ((pt_tst hs p).2.isSome = true))), am_mm D K J ρ) ∧ k_cs I0 K hs z c ((pt_pre L (pt_tst hs p)))) := by
  have hclk0 := hsh.1
  have hr8 := hsh.2
  have hclk := hclk0
  obtain ⟨⟨hsc, hs1, hs2, hs3, hs4⟩, hr1, hr2, hr3, hr4⟩ := hclk
  have p1 : I c 1 = (p : Int) := hcs.2.1.1
  have s9 : I c 9 = (z : Int) := hcs.2.1.2.1
  have tz := hcs.2.1.2.2.1
  have tpz : p ≤ z := hcs.2.1.2.2.2.1
  have th := hcs.2.1.2.2.2.2.1
  have te := hcs.2.1.2.2.2.2.2.1
  have tb := hcs.2.1.2.2.2.2.2.2
  have tbp := tb p
  have hc18 := hcs.2.2.1
  have n3 : I c 3 = (L.length : Int) := hcs.2.2.2.1
  have hll : L.length ≤ p := hcs.2.2.2.2.2
  refine am_e_ss 2 (q := (3, [(0, .inr (.inr (.inl (some c))))], [.inr (.inr (.inr 9)), .inr (.inr (.inl (some c)))], (am_mm D I J ρ))) rfl ?_
  refine am_e_virtual (Q := fun r => ∃ K113, r = (some (.inl ((pt_wh (hs p)))), (am_mm D K113 J ρ)) ∧ k_cs I0 K113 hs z c ((if (pt_wh (hs p)) = -1 then p else p + 1, some L))) rfl rfl (Nat.le_of_ble_eq_true rfl) (am_kd_of hsc (by decide)) rfl (Nat.le_of_ble_eq_true rfl) (Nat.le_of_ble_eq_true rfl) (k_wh _ hsh hcs) ?_
  rintro r ⟨K113, rfl, g113⟩
  have gb113 := pt_wh_b (hs p)
  show am_E _ _ _ 6 [(0, .inr (.inr (.inl (some c))))] [.inl ((pt_wh (hs p)))] (am_mm D K113 J ρ) _
  refine am_e_ss 2 (q := (8, [(1, .inl ((pt_wh (hs p)))), (0, .inr (.inr (.inl (some c))))], [.inl ((pt_wh (hs p)))], (am_mm D K113 J ρ))) rfl ?_
  refine am_e_if2 rfl ⟨by omega, by omega⟩ (fun (hw1 : 0 ≤ (pt_wh (hs p))) => ?_) (fun (hw1 : ¬ (0 ≤ (pt_wh (hs p)))) => ?_)
  · show am_E _ _ _ 13 [(1, .inl ((pt_wh (hs p)))), (0, .inr (.inr (.inl (some c))))] [] (am_mm D K113 J ρ) _
    rw [if_neg (by omega)] at g113
    have tc1 := tb (p + 1)
    show am_E _ _ _ 13 [(1, .inl ((pt_wh (hs p)))), (0, .inr (.inr (.inl (some c))))] [] (am_mm D K113 J ρ) _
    refine am_e_ss 2 (q := (16, [(1, .inl ((pt_wh (hs p)))), (0, .inr (.inr (.inl (some c))))], [.inr (.inr (.inr 11)), .inr (.inr (.inl (some c)))], (am_mm D K113 J ρ))) rfl ?_
    refine am_e_virtual (Q := fun r => ∃ K114, r = (some (.inl ((pt_hw (hs (p + 1))))), (am_mm D K114 J ρ)) ∧ k_cs I0 K114 hs z c ((if (pt_hw (hs (p + 1))) = -1 then p + 1 else p + 1 + 1, some L))) rfl rfl (Nat.le_of_ble_eq_true rfl) (am_kd_of hsc (by decide)) rfl (Nat.le_of_ble_eq_true rfl) (Nat.le_of_ble_eq_true rfl) (k_hw _ hsh g113) ?_
    rintro r ⟨K114, rfl, g114⟩
    have gb114 := pt_hw_b (hs (p + 1))
    show am_E _ _ _ 19 [(1, .inl ((pt_wh (hs p)))), (0, .inr (.inr (.inl (some c))))] [.inl ((pt_hw (hs (p + 1))))] (am_mm D K114 J ρ) _
    refine am_e_ss 2 (q := (21, [(2, .inl ((pt_hw (hs (p + 1))))), (1, .inl ((pt_wh (hs p)))), (0, .inr (.inr (.inl (some c))))], [.inl ((pt_hw (hs (p + 1))))], (am_mm D K114 J ρ))) rfl ?_
    refine am_e_if2 rfl ⟨by omega, by omega⟩ (fun (hw2 : 0 ≤ (pt_hw (hs (p + 1)))) => ?_) (fun (hw2 : ¬ (0 ≤ (pt_hw (hs (p + 1))))) => ?_)
    · show am_E _ _ _ 26 [(2, .inl ((pt_hw (hs (p + 1))))), (1, .inl ((pt_wh (hs p)))), (0, .inr (.inr (.inl (some c))))] [] (am_mm D K114 J ρ) _
      rw [if_neg (by omega)] at g114
      have tc2 := tb (p + 1 + 1)
      show am_E _ _ _ 26 [(2, .inl ((pt_hw (hs (p + 1))))), (1, .inl ((pt_wh (hs p)))), (0, .inr (.inr (.inl (some c))))] [] (am_mm D K114 J ρ) _
      refine am_e_ss 1 (q := (27, [(2, .inl ((pt_hw (hs (p + 1))))), (1, .inl ((pt_wh (hs p)))), (0, .inr (.inr (.inl (some c))))], [.inr (.inr (.inl (some c)))], (am_mm D K114 J ρ))) rfl ?_
      refine am_e_virtual (Q := fun r => ∃ K115, r = (some (.inl (((pt_num hs (p + 1 + 1)).2.getD (-1)))), (am_mm D K115 J ρ)) ∧ k_cs I0 K115 hs z c (((pt_num hs (p + 1 + 1)).1, some L))) rfl rfl (Nat.le_of_ble_eq_true rfl) (am_kd_of hsc (by decide)) rfl (Nat.le_of_ble_eq_true rfl) (Nat.le_of_ble_eq_true rfl) (k_num _ hsh g114) ?_
      rintro r ⟨K115, rfl, g115⟩
      have gb115 := pt_num_b te (p + 1 + 1)
      show am_E _ _ _ 30 [(2, .inl ((pt_hw (hs (p + 1))))), (1, .inl ((pt_wh (hs p)))), (0, .inr (.inr (.inl (some c))))] [.inl (((pt_num hs (p + 1 + 1)).2.getD (-1)))] (am_mm D K115 J ρ) _
      refine am_e_ss 2 (q := (32, [(3, .inl (((pt_num hs (p + 1 + 1)).2.getD (-1)))), (2, .inl ((pt_hw (hs (p + 1))))), (1, .inl ((pt_wh (hs p)))), (0, .inr (.inr (.inl (some c))))], [.inl (((pt_num hs (p + 1 + 1)).2.getD (-1)))], (am_mm D K115 J ρ))) rfl ?_
      refine am_e_if2 rfl ⟨by omega, by omega⟩ (fun (hw3 : 0 ≤ ((pt_num hs (p + 1 + 1)).2.getD (-1))) => ?_) (fun (hw3 : ¬ (0 ≤ ((pt_num hs (p + 1 + 1)).2.getD (-1)))) => ?_)
      · show am_E _ _ _ 37 [(3, .inl (((pt_num hs (p + 1 + 1)).2.getD (-1)))), (2, .inl ((pt_hw (hs (p + 1))))), (1, .inl ((pt_wh (hs p)))), (0, .inr (.inr (.inl (some c))))] [] (am_mm D K115 J ρ) _
        obtain ⟨q, v, hN, hev⟩ := gb115.2.2.1 (by omega)
        have hq := pt_num_ok te hN
        rw [hN] at g115
        have g115 : k_cs I0 K115 hs z c ((q, some L)) := g115
        show am_E _ _ _ 37 [(3, .inl (((pt_num hs (p + 1 + 1)).2.getD (-1)))), (2, .inl ((pt_hw (hs (p + 1))))), (1, .inl ((pt_wh (hs p)))), (0, .inr (.inr (.inl (some c))))] [] (am_mm D K115 J ρ) _
        refine am_e_ss 10 (q := (48, [(3, .inl (((pt_num hs (p + 1 + 1)).2.getD (-1)))), (2, .inl ((pt_hw (hs (p + 1))))), (1, .inl ((pt_wh (hs p)))), (0, .inr (.inr (.inl (some c))))], [.inl (((((pt_wh (hs p)) * 3) + (pt_hw (hs (p + 1)))) * 100) + ((pt_num hs (p + 1 + 1)).2.getD (-1))), .inr (.inr (.inl (some c)))], (am_mm D K115 J ρ))) rfl ?_
        refine am_e_virtual (Q := fun r => ∃ K116, r = (none, (am_mm D K116 J ρ)) ∧ k_cs I0 K116 hs z c ((q, some (L ++ [(pt_wh (hs p) + 8 * pt_hw (hs (p + 1)) + 32 * v)])))) rfl rfl (Nat.le_of_ble_eq_true rfl) (am_kd_of hsc (by decide)) rfl (Nat.le_of_ble_eq_true rfl) (Nat.le_of_ble_eq_true rfl) (k_put _ hsh g115 (s := (pt_wh (hs p) + 8 * pt_hw (hs (p + 1)) + 32 * v)) (by omega) (by rw [hev]; exact ps_tr_mk (by omega) (by omega) (by omega))) ?_
        rintro r ⟨K116, rfl, g116⟩
        show am_E _ _ _ 51 [(3, .inl (((pt_num hs (p + 1 + 1)).2.getD (-1)))), (2, .inl ((pt_hw (hs (p + 1))))), (1, .inl ((pt_wh (hs p)))), (0, .inr (.inr (.inl (some c))))] [] (am_mm D K116 J ρ) _
        refine am_e_ss 1 (q := (52, [(3, .inl (((pt_num hs (p + 1 + 1)).2.getD (-1)))), (2, .inl ((pt_hw (hs (p + 1))))), (1, .inl ((pt_wh (hs p)))), (0, .inr (.inr (.inl (some c))))], [.inl 1], (am_mm D K116 J ρ))) rfl ?_
        refine am_e_ireturn rfl rfl ?_
        have et : pt_tst hs p = (q, some [pt_wh (hs p) + 8 * pt_hw (hs (p + 1)) + 32 * v]) := by
          unfold pt_tst
          rw [if_neg (by omega), if_neg (by omega), show pt_num hs (p + 2) = (q, some v) from hN]
        rw [et]
        exact ⟨_, by rw [am_bi_so rfl], g116⟩
      · show am_E _ _ _ 35 [(3, .inl (((pt_num hs (p + 1 + 1)).2.getD (-1)))), (2, .inl ((pt_hw (hs (p + 1))))), (1, .inl ((pt_wh (hs p)))), (0, .inr (.inr (.inl (some c))))] [] (am_mm D K115 J ρ) _
        refine am_e_ss 1 (q := (36, [(3, .inl (((pt_num hs (p + 1 + 1)).2.getD (-1)))), (2, .inl ((pt_hw (hs (p + 1))))), (1, .inl ((pt_wh (hs p)))), (0, .inr (.inr (.inl (some c))))], [.inl 0], (am_mm D K115 J ρ))) rfl ?_
        refine am_e_ireturn rfl rfl ?_
        obtain ⟨q, hN⟩ := gb115.2.2.2 (by omega)
        rw [hN] at g115
        have et : pt_tst hs p = (q, none) := by
          unfold pt_tst
          rw [if_neg (by omega), if_neg (by omega), show pt_num hs (p + 2) = (q, none) from hN]
        rw [et]
        exact ⟨_, by rw [am_bi_no rfl], k_cs_no g115⟩
    · show am_E _ _ _ 24 [(2, .inl ((pt_hw (hs (p + 1))))), (1, .inl ((pt_wh (hs p)))), (0, .inr (.inr (.inl (some c))))] [] (am_mm D K114 J ρ) _
      refine am_e_ss 1 (q := (25, [(2, .inl ((pt_hw (hs (p + 1))))), (1, .inl ((pt_wh (hs p)))), (0, .inr (.inr (.inl (some c))))], [.inl 0], (am_mm D K114 J ρ))) rfl ?_
      refine am_e_ireturn rfl rfl ?_
      have et : pt_tst hs p = (p + 1, none) := by
        unfold pt_tst
        rw [if_neg (by omega)]; exact if_pos (by omega)
      rw [if_pos (by omega)] at g114
      rw [et]
      exact ⟨_, by rw [am_bi_no rfl], k_cs_no g114⟩
  · show am_E _ _ _ 11 [(1, .inl ((pt_wh (hs p)))), (0, .inr (.inr (.inl (some c))))] [] (am_mm D K113 J ρ) _
    refine am_e_ss 1 (q := (12, [(1, .inl ((pt_wh (hs p)))), (0, .inr (.inr (.inl (some c))))], [.inl 0], (am_mm D K113 J ρ))) rfl ?_
    refine am_e_ireturn rfl rfl ?_
    have et : pt_tst hs p = (p, none) := if_pos (by omega)
    rw [if_pos (by omega)] at g113
    rw [et]
    exact ⟨_, by rw [am_bi_no rfl], k_cs_no g113⟩
/-! the flat loop over F: a: a second F of this T comes, b: a second T -/
def pt_V (h : Nat → Int) (F : Nat → pt_R) (a b : Bool) (p : Nat) (L : List Int) : pt_R := match F p with
  | (q, none) => (q, none)
  | (q, some L2) => match pt_lp h F 38 (-2) 101 q (L ++ L2 ++ (if a = true then [-2] else [])) with
    | (r, none) => (r, none)
    | (r, some M) => pt_lp h (pt_jn h F 38 (-2)) 124 (-3) 101 r (M ++ (if b = true then [-3] else []))
theorem pt_lp_fuel {h : Nat → Int} {F : Nat → pt_R} {z : Nat} {m s j : Int} (hz : ∀ i, z ≤ i → h i = -1) (hs : 0 ≤ s) (hF : pt_ok z m F) : ∀ n n' p L, z < n + p → z < n' + p → pt_lp h F s j n p L = pt_lp h F s j n' p L := by
  intro n
  induction n with
  | zero =>
    intro n' p L h1 h2
    cases n' with
    | zero => rfl
    | succ n' => exact (if_pos (by have := hz p (by omega); omega)).symm
  | succ n ih =>
    intro n' p L h1 h2
    cases n' with
    | zero => exact if_pos (by have := hz p (by omega); omega)
    | succ n' =>
      unfold pt_lp
      by_cases e : h p = s
      · rw [if_neg (fun f => f e), if_neg (fun f => f e)]
        rcases hE : F (p + 1) with ⟨q, _ | L2⟩
        · rfl
        · have hq := hF _ _ _ hE
          exact ih n' q _ (by omega) (by omega)
      · rw [if_pos e, if_pos e]
section
variable {h : Nat → Int} {F : Nat → pt_R} {z p q : Nat} {m : Int} {L L2 : List Int} {a b : Bool}
theorem pt_V_no (e : F p = (q, none)) : pt_V h F a b p L = (q, none) := by
  unfold pt_V; rw [e]
theorem pt_V_and (hz : ∀ i, z ≤ i → h i = -1) (hz1 : z ≤ 100) (hF : pt_ok z m F) (e : F p = (q, some L2)) (hq : h q = 38) : pt_V h F a b p L = pt_V h F true b (q + 1) (L ++ L2 ++ (if a = true then [-2] else [])) := by
  have hq0 := hF _ _ _ e
  unfold pt_V
  rw [e]
  show (match pt_lp h F 38 (-2) (100 + 1) q (L ++ L2 ++ (if a = true then [-2] else [])) with
    | (r, none) => (r, none)
    | (r, some M) => _) = _
  unfold pt_lp
  rw [if_neg (fun f => f hq)]
  rcases hE : F (q + 1) with ⟨r, _ | L3⟩
  · rfl
  · have hr := hF _ _ _ hE
    show (match pt_lp h F 38 (-2) 100 r _ with
      | (r, none) => (r, none)
      | (r, some M) => _) = _
    rw [pt_lp_fuel hz (by decide) hF 100 101 r _ (by omega) (by omega)]
    rfl
theorem pt_V_or (hz : ∀ i, z ≤ i → h i = -1) (hz1 : z ≤ 100) (hm : 1 ≤ m) (hF : pt_ok z m F) (e : F p = (q, some L2)) (hq : h q = 124) : pt_V h F a b p L = pt_V h F false true (q + 1) (L ++ L2 ++ (if a = true then [-2] else []) ++ (if b = true then [-3] else [])) := by
  have hq0 := hF _ _ _ e
  have hG := pt_jn_ok (h := h) (s := 38) (j := -2) (Or.inl rfl) hm hF
  generalize hA : L ++ L2 ++ (if a = true then [-2] else []) = A
  generalize hB : A ++ (if b = true then [-3] else []) = B
  have e1 : pt_V h F a b p L = pt_lp h (pt_jn h F 38 (-2)) 124 (-3) (100 + 1) q B := by
    unfold pt_V
    rw [e]
    show (match pt_lp h F 38 (-2) (100 + 1) q (L ++ L2 ++ (if a = true then [-2] else [])) with
      | (r, none) => (r, none)
      | (r, some M) => _) = _
    rw [hA, show pt_lp h F 38 (-2) (100 + 1) q A = (q, some A) from if_pos (by omega)]
    show pt_lp h (pt_jn h F 38 (-2)) 124 (-3) 101 q (A ++ _) = _
    rw [hB]
  rw [e1]
  rw [show pt_lp h (pt_jn h F 38 (-2)) 124 (-3) (100 + 1) q B = _ from if_neg (fun f => f hq)]
  unfold pt_V
  rcases hE : F (q + 1) with ⟨r, _ | L3⟩
  · rw [show pt_jn h F 38 (-2) (q + 1) = (r, none) by unfold pt_jn; rw [hE]]
  · have hr := hF _ _ _ hE
    have e2 : pt_jn h F 38 (-2) (q + 1) = pt_lp h F 38 (-2) 101 r L3 := by unfold pt_jn; rw [hE]
    have e3 : pt_lp h F 38 (-2) 101 r (B ++ L3 ++ (if false = true then [-2] else [])) = pt_pre B (pt_lp h F 38 (-2) 101 r L3) := by
      rw [if_neg (by decide), List.append_nil, pt_lp_pre]
    dsimp only
    rw [e3]
    rcases hJ : pt_lp h F 38 (-2) 101 r L3 with ⟨t, _ | M⟩
    · rw [e2, hJ]; rfl
    · rw [e2, hJ]
      have ht := hG _ _ _ (e2.trans hJ)
      show pt_lp h (pt_jn h F 38 (-2)) 124 (-3) 100 t (B ++ M ++ [-3]) = pt_lp h (pt_jn h F 38 (-2)) 124 (-3) 101 t (B ++ M ++ (if true = true then [-3] else []))
      rw [if_pos rfl]
      exact pt_lp_fuel hz (by decide) hG _ _ _ _ (by omega) (by omega)
theorem pt_V_end (e : F p = (q, some L2)) (hq : ¬ h q = 38) (hq2 : ¬ h q = 124) : pt_V h F a b p L = (q, some (L ++ L2 ++ (if a = true then [-2] else []) ++ (if b = true then [-3] else []))) := by
  unfold pt_V
  rw [e]
  show (match pt_lp h F 38 (-2) (100 + 1) q (L ++ L2 ++ (if a = true then [-2] else [])) with
    | (r, none) => (r, none)
    | (r, some M) => _) = _
  rw [show pt_lp h F 38 (-2) (100 + 1) q (L ++ L2 ++ (if a = true then [-2] else [])) = (q, some (L ++ L2 ++ (if a = true then [-2] else []))) from if_pos hq]
  exact if_pos hq2
theorem pt_V_E : pt_V h F false false p L = pt_pre L (pt_E h F p) := by
  unfold pt_V pt_E
  show _ = pt_pre L (match pt_jn h F 38 (-2) p with
    | (q, none) => (q, none)
    | (q, some L) => pt_lp h (pt_jn h F 38 (-2)) 124 (-3) 101 q L)
  rcases hE : F p with ⟨r, _ | L3⟩
  · rw [show pt_jn h F 38 (-2) p = (r, none) by unfold pt_jn; rw [hE]]; rfl
  · rw [show pt_jn h F 38 (-2) p = pt_lp h F 38 (-2) 101 r L3 by unfold pt_jn; rw [hE]]
    dsimp only
    rw [if_neg (by decide), if_neg (by decide), List.append_nil, pt_lp_pre]
    rcases pt_lp h F 38 (-2) 101 r L3 with ⟨t, _ | M⟩
    · rfl
    · show pt_lp h _ 124 (-3) 101 t (L ++ M ++ []) = _
      rw [List.append_nil, pt_lp_pre]
end
theorem pt_F_end {h : Nat → Int} {p : Nat} (e : h p = -1) : ∀ l, pt_F h l p = (p, none) := by
  have ht : pt_tst h p = (p, none) := if_pos (by rw [e]; rfl)
  intro l
  cases l with
  | zero => exact (if_neg (by omega)).trans ht
  | succ l => exact (if_neg (by omega)).trans ((if_neg (by omega)).trans ht)
def k_FC (X : Nat × (Nat → Int)) (D : List (Nat × Nat)) (J : Nat → Nat → Int) (ρ : Nat → Nat → Option Nat) (hs : Nat → Int) (z c : Nat) (o : Int) (n mid : Nat) (F : Nat → pt_R) : Prop := ∀ d I0 I p L, n ≤ d → k_cs I0 I hs z c (p, some L) → am_E X d mid 0 [(0, .inr (.inr (.inl (some c)))), (1, .inl o)] [] (am_mm D I J ρ) (fun r => ∃ K, r = (some (.inl (am_bi ((F p).2.isSome = true))), am_mm D K J ρ) ∧ k_cs I0 K hs z c (pt_pre L (F p)))
theorem k_any_l {X : Nat × (Nat → Int)} {D : List (Nat × Nat)} {I J : Nat → Nat → Int} {ρ : Nat → Nat → Option Nat} (d : Nat) {I0 : Nat → Nat → Int} {hs : Nat → Int} {z c p : Nat} {L : List Int} (hsh : k_sh D ρ c) (hcs : k_cs I0 I hs z c (p, some L)) {l n : Nat} {o m : Int} (hF : k_FC X D J ρ hs z c o n 14 (pt_F hs l)) (hok : pt_ok z m (pt_F hs l)) (hm : 1 ≤ m) {a b : Bool} {i : Nat} (hn : n ≤ d + 1) (hi : i ≤ p) (hinv : L.length + a.toNat + b.toNat ≤ p) : am_E X (d + 2) 13 7 [(4, .inl (i : Int)), (3, .inl ((am_bi (b = true)))), (2, .inl ((am_bi (a = true)))), (1, .inl o), (0, .inr (.inr (.inl (some c))))] [] (am_mm D I J ρ) (fun r => ∃ K, r = (some (.inl (am_bi ((pt_V hs (pt_F hs l) a b p L).2.isSome = true))), am_mm D K J ρ) ∧ k_cs I0 K hs z c ((pt_V hs (pt_F hs l) a b p L))) := by
  have hclk0 := hsh.1
  have hr8 := hsh.2
  have hclk := hclk0
  obtain ⟨⟨hsc, hs1, hs2, hs3, hs4⟩, hr1, hr2, hr3, hr4⟩ := hclk
  have p1 : I c 1 = (p : Int) := hcs.2.1.1
  have s9 : I c 9 = (z : Int) := hcs.2.1.2.1
  have tz := hcs.2.1.2.2.1
  have tpz : p ≤ z := hcs.2.1.2.2.2.1
  have th := hcs.2.1.2.2.2.2.1
  have te := hcs.2.1.2.2.2.2.2.1
  have tb := hcs.2.1.2.2.2.2.2.2
  have tbp := tb p
  have hc18 := hcs.2.2.1
  have n3 : I c 3 = (L.length : Int) := hcs.2.2.2.1
  have hll : L.length ≤ p := hcs.2.2.2.2.2
  refine am_e_ss 2 (q := (11, [(4, .inl (i : Int)), (3, .inl ((am_bi (b = true)))), (2, .inl ((am_bi (a = true)))), (1, .inl o), (0, .inr (.inr (.inl (some c))))], [.inl 100, .inl (i : Int)], (am_mm D I J ρ))) rfl ?_
  refine am_e_icmp2 rfl ⟨by omega, by omega⟩ ⟨by omega, by omega⟩ (fun (hw1 : 100 ≤ (i : Int)) => ?_) (fun (hw1 : ¬ (100 ≤ (i : Int))) => ?_)
  · show am_E _ _ _ 74 [(4, .inl (i : Int)), (3, .inl ((am_bi (b = true)))), (2, .inl ((am_bi (a = true)))), (1, .inl o), (0, .inr (.inr (.inl (some c))))] [] (am_mm D I J ρ) _
    refine am_e_ss 1 (q := (75, [(4, .inl (i : Int)), (3, .inl ((am_bi (b = true)))), (2, .inl ((am_bi (a = true)))), (1, .inl o), (0, .inr (.inr (.inl (some c))))], [.inl 0], (am_mm D I J ρ))) rfl ?_
    refine am_e_ireturn rfl rfl ?_
    have eV := pt_V_no (h := hs) (a := a) (b := b) (L := L) (pt_F_end (te p (by omega)) l)
    rw [eV]
    exact ⟨_, by rw [am_bi_no rfl], k_cs_no hcs⟩
  · show am_E _ _ _ 14 [(4, .inl (i : Int)), (3, .inl ((am_bi (b = true)))), (2, .inl ((am_bi (a = true)))), (1, .inl o), (0, .inr (.inr (.inl (some c))))] [] (am_mm D I J ρ) _
    refine am_e_ss 2 (q := (16, [(4, .inl (i : Int)), (3, .inl ((am_bi (b = true)))), (2, .inl ((am_bi (a = true)))), (1, .inl o), (0, .inr (.inr (.inl (some c))))], [.inl o, .inr (.inr (.inl (some c)))], (am_mm D I J ρ))) rfl ?_
    refine am_e_virtual (Q := fun r => ∃ K117, r = (some (.inl ((am_bi ((pt_F hs l p).2.isSome = true)))), (am_mm D K117 J ρ)) ∧ k_cs I0 K117 hs z c ((pt_pre L (pt_F hs l p)))) rfl rfl (Nat.le_of_ble_eq_true rfl) (am_kd_of hsc (by decide)) rfl (Nat.le_of_ble_eq_true rfl) (Nat.le_of_ble_eq_true rfl) (hF _ _ _ p L (by omega) hcs) ?_
    rintro r ⟨K117, rfl, g117⟩
    show am_E _ _ _ 19 [(4, .inl (i : Int)), (3, .inl ((am_bi (b = true)))), (2, .inl ((am_bi (a = true)))), (1, .inl o), (0, .inr (.inr (.inl (some c))))] [.inl ((am_bi ((pt_F hs l p).2.isSome = true)))] (am_mm D K117 J ρ) _
    refine am_e_ifne rfl (fun hw2 => ?_) (fun hw2 => ?_)
    · show am_E _ _ _ 24 [(4, .inl (i : Int)), (3, .inl ((am_bi (b = true)))), (2, .inl ((am_bi (a = true)))), (1, .inl o), (0, .inr (.inr (.inl (some c))))] [] (am_mm D K117 J ρ) _
      obtain ⟨q, L2, hE⟩ : ∃ q L2, pt_F hs l p = (q, some L2) := by
        rcases hE : pt_F hs l p with ⟨q, _ | L2⟩
        · exfalso; rw [hE] at hw2; exact absurd hw2 (show ¬ (false = true) by decide)
        · exact ⟨q, L2, rfl⟩
      have hq := hok _ _ _ hE
      rw [hE] at g117
      have g117 : k_cs I0 K117 hs z c ((q, some (L ++ L2))) := g117
      have tq := tb q
      have hlen : (L ++ L2).length + a.toNat + b.toNat ≤ q := by rw [List.length_append]; omega
      have hat : a = true → a.toNat = 1 := fun e => by rw [e]; rfl
      have hbt : b = true → b.toNat = 1 := fun e => by rw [e]; rfl
      show am_E _ _ _ 24 [(4, .inl (i : Int)), (3, .inl ((am_bi (b = true)))), (2, .inl ((am_bi (a = true)))), (1, .inl o), (0, .inr (.inr (.inl (some c))))] [] (am_mm D K117 J ρ) _
      refine am_e_ss 1 (q := (25, [(4, .inl (i : Int)), (3, .inl ((am_bi (b = true)))), (2, .inl ((am_bi (a = true)))), (1, .inl o), (0, .inr (.inr (.inl (some c))))], [.inl ((am_bi (a = true)))], (am_mm D K117 J ρ))) rfl ?_
      refine am_e_ifeq rfl (fun hw3 => ?_) (fun hw3 => ?_)
      · show am_E _ _ _ 34 [(4, .inl (i : Int)), (3, .inl ((am_bi (b = true)))), (2, .inl ((am_bi (a = true)))), (1, .inl o), (0, .inr (.inr (.inl (some c))))] [] (am_mm D K117 J ρ) _
        refine am_e_ss 2 (q := (37, [(4, .inl (i : Int)), (3, .inl ((am_bi (b = true)))), (2, .inl ((am_bi (a = true)))), (1, .inl o), (0, .inr (.inr (.inl (some c))))], [.inl 38, .inr (.inr (.inl (some c)))], (am_mm D K117 J ρ))) rfl ?_
        refine am_e_virtual (Q := fun r => ∃ K118, r = (some (.inl ((am_bi (hs q = 38)))), (am_mm D K118 J ρ)) ∧ k_cs I0 K118 hs z c (((if hs q = 38 then q + 1 else q), some (L ++ L2)))) rfl rfl (Nat.le_of_ble_eq_true rfl) (am_kd_of hsc (by decide)) rfl (Nat.le_of_ble_eq_true rfl) (Nat.le_of_ble_eq_true rfl) (k_take _ hsh g117 (s := 38) (by decide)) ?_
        rintro r ⟨K118, rfl, g118⟩
        show am_E _ _ _ 40 [(4, .inl (i : Int)), (3, .inl ((am_bi (b = true)))), (2, .inl ((am_bi (a = true)))), (1, .inl o), (0, .inr (.inr (.inl (some c))))] [.inl ((am_bi (hs q = 38)))] (am_mm D K118 J ρ) _
        refine am_e_ss 2 (q := (42, [(2, .inl ((am_bi (hs q = 38)))), (4, .inl (i : Int)), (3, .inl ((am_bi (b = true)))), (1, .inl o), (0, .inr (.inr (.inl (some c))))], [.inl ((am_bi (hs q = 38)))], (am_mm D K118 J ρ))) rfl ?_
        refine am_e_ifne rfl (fun hw4 => ?_) (fun hw4 => ?_)
        · show am_E _ _ _ 68 [(2, .inl ((am_bi (hs q = 38)))), (4, .inl (i : Int)), (3, .inl ((am_bi (b = true)))), (1, .inl o), (0, .inr (.inr (.inl (some c))))] [] (am_mm D K118 J ρ) _
          refine am_e_ss 2 (q := (7, [(4, .inl ((i : Int) + 1)), (2, .inl ((am_bi (hs q = 38)))), (3, .inl ((am_bi (b = true)))), (1, .inl o), (0, .inr (.inr (.inl (some c))))], [], (am_mm D K118 J ρ))) rfl ?_
          have eV := pt_V_and (a := a) (b := b) (L := L) te tz hok hE hw4
          rw [if_neg (by assumption), List.append_nil] at eV
          rw [eV]
          rw [if_pos hw4] at g118
          rw [(am_bi_t hw4).trans (am_bi_t (rfl : true = true)).symm]
          exact am_less (lv := [(4, .inl ((i + 1) : Int)), (3, .inl ((am_bi (b = true)))), (2, .inl ((am_bi (true = true)))), (1, .inl o), (0, .inr (.inr (.inl (some c))))]) rfl (List.forall_mem_cons.mpr ⟨rfl, List.forall_mem_cons.mpr ⟨rfl, List.forall_mem_cons.mpr ⟨rfl, List.forall_mem_cons.mpr ⟨rfl, List.forall_mem_cons.mpr ⟨rfl, List.forall_mem_nil _⟩⟩⟩⟩⟩) (k_any_l d (a := true) (b := b) (i := i + 1) (p := q + 1) (L := (L ++ L2)) hsh g118 hF hok hm hn (by omega) (by show _ + 1 + _ ≤ _; omega))
        · show am_E _ _ _ 45 [(2, .inl ((am_bi (hs q = 38)))), (4, .inl (i : Int)), (3, .inl ((am_bi (b = true)))), (1, .inl o), (0, .inr (.inr (.inl (some c))))] [] (am_mm D K118 J ρ) _
          rw [if_neg hw4] at g118
          have g118 : k_cs I0 K118 hs z c ((q, some (L ++ L2))) := g118
          show am_E _ _ _ 45 [(2, .inl ((am_bi (hs q = 38)))), (4, .inl (i : Int)), (3, .inl ((am_bi (b = true)))), (1, .inl o), (0, .inr (.inr (.inl (some c))))] [] (am_mm D K118 J ρ) _
          refine am_e_ss 1 (q := (46, [(2, .inl ((am_bi (hs q = 38)))), (4, .inl (i : Int)), (3, .inl ((am_bi (b = true)))), (1, .inl o), (0, .inr (.inr (.inl (some c))))], [.inl ((am_bi (b = true)))], (am_mm D K118 J ρ))) rfl ?_
          refine am_e_ifeq rfl (fun hw5 => ?_) (fun hw5 => ?_)
          · show am_E _ _ _ 55 [(2, .inl ((am_bi (hs q = 38)))), (4, .inl (i : Int)), (3, .inl ((am_bi (b = true)))), (1, .inl o), (0, .inr (.inr (.inl (some c))))] [] (am_mm D K118 J ρ) _
            refine am_e_ss 2 (q := (58, [(2, .inl ((am_bi (hs q = 38)))), (4, .inl (i : Int)), (3, .inl ((am_bi (b = true)))), (1, .inl o), (0, .inr (.inr (.inl (some c))))], [.inl 124, .inr (.inr (.inl (some c)))], (am_mm D K118 J ρ))) rfl ?_
            refine am_e_virtual (Q := fun r => ∃ K119, r = (some (.inl ((am_bi (hs q = 124)))), (am_mm D K119 J ρ)) ∧ k_cs I0 K119 hs z c (((if hs q = 124 then q + 1 else q), some (L ++ L2)))) rfl rfl (Nat.le_of_ble_eq_true rfl) (am_kd_of hsc (by decide)) rfl (Nat.le_of_ble_eq_true rfl) (Nat.le_of_ble_eq_true rfl) (k_take _ hsh g118 (s := 124) (by decide)) ?_
            rintro r ⟨K119, rfl, g119⟩
            show am_E _ _ _ 61 [(2, .inl ((am_bi (hs q = 38)))), (4, .inl (i : Int)), (3, .inl ((am_bi (b = true)))), (1, .inl o), (0, .inr (.inr (.inl (some c))))] [.inl ((am_bi (hs q = 124)))] (am_mm D K119 J ρ) _
            refine am_e_ss 2 (q := (63, [(3, .inl ((am_bi (hs q = 124)))), (2, .inl ((am_bi (hs q = 38)))), (4, .inl (i : Int)), (1, .inl o), (0, .inr (.inr (.inl (some c))))], [.inl ((am_bi (hs q = 124)))], (am_mm D K119 J ρ))) rfl ?_
            refine am_e_ifne rfl (fun hw6 => ?_) (fun hw6 => ?_)
            · show am_E _ _ _ 68 [(3, .inl ((am_bi (hs q = 124)))), (2, .inl ((am_bi (hs q = 38)))), (4, .inl (i : Int)), (1, .inl o), (0, .inr (.inr (.inl (some c))))] [] (am_mm D K119 J ρ) _
              refine am_e_ss 2 (q := (7, [(4, .inl ((i : Int) + 1)), (3, .inl ((am_bi (hs q = 124)))), (2, .inl ((am_bi (hs q = 38)))), (1, .inl o), (0, .inr (.inr (.inl (some c))))], [], (am_mm D K119 J ρ))) rfl ?_
              have eV := pt_V_or (a := a) (b := b) (L := L) te tz hm hok hE hw6
              rw [if_neg (by assumption), List.append_nil] at eV
              rw [if_neg (by assumption), List.append_nil] at eV
              rw [eV]
              rw [if_pos hw6] at g119
              rw [(am_bi_f hw4).trans (am_bi_f (by decide : ¬ (false = true))).symm, (am_bi_t hw6).trans (am_bi_t (rfl : true = true)).symm]
              exact am_less (lv := [(4, .inl ((i + 1) : Int)), (3, .inl ((am_bi (true = true)))), (2, .inl ((am_bi (false = true)))), (1, .inl o), (0, .inr (.inr (.inl (some c))))]) rfl (List.forall_mem_cons.mpr ⟨rfl, List.forall_mem_cons.mpr ⟨rfl, List.forall_mem_cons.mpr ⟨rfl, List.forall_mem_cons.mpr ⟨rfl, List.forall_mem_cons.mpr ⟨rfl, List.forall_mem_nil _⟩⟩⟩⟩⟩) (k_any_l d (a := false) (b := true) (i := i + 1) (p := q + 1) (L := (L ++ L2)) hsh g119 hF hok hm hn (by omega) (by show _ + 0 + 1 ≤ _; omega))
            · show am_E _ _ _ 66 [(3, .inl ((am_bi (hs q = 124)))), (2, .inl ((am_bi (hs q = 38)))), (4, .inl (i : Int)), (1, .inl o), (0, .inr (.inr (.inl (some c))))] [] (am_mm D K119 J ρ) _
              refine am_e_ss 1 (q := (67, [(3, .inl ((am_bi (hs q = 124)))), (2, .inl ((am_bi (hs q = 38)))), (4, .inl (i : Int)), (1, .inl o), (0, .inr (.inr (.inl (some c))))], [.inl 1], (am_mm D K119 J ρ))) rfl ?_
              refine am_e_ireturn rfl rfl ?_
              have eV := pt_V_end (a := a) (b := b) (L := L) hE hw4 hw6
              rw [if_neg (by assumption), List.append_nil] at eV
              rw [if_neg (by assumption), List.append_nil] at eV
              rw [eV]
              rw [if_neg hw6] at g119
              exact ⟨_, by rw [am_bi_so rfl], g119⟩
          · show am_E _ _ _ 49 [(2, .inl ((am_bi (hs q = 38)))), (4, .inl (i : Int)), (3, .inl ((am_bi (b = true)))), (1, .inl o), (0, .inr (.inr (.inl (some c))))] [] (am_mm D K118 J ρ) _
            refine am_e_ss 2 (q := (52, [(2, .inl ((am_bi (hs q = 38)))), (4, .inl (i : Int)), (3, .inl ((am_bi (b = true)))), (1, .inl o), (0, .inr (.inr (.inl (some c))))], [.inl (-3), .inr (.inr (.inl (some c)))], (am_mm D K118 J ρ))) rfl ?_
            refine am_e_virtual (Q := fun r => ∃ K120, r = (none, (am_mm D K120 J ρ)) ∧ k_cs I0 K120 hs z c ((q, some ((L ++ L2) ++ [(-3)])))) rfl rfl (Nat.le_of_ble_eq_true rfl) (am_kd_of hsc (by decide)) rfl (Nat.le_of_ble_eq_true rfl) (Nat.le_of_ble_eq_true rfl) (k_put _ hsh g118 (s := (-3)) (by have := hbt (by assumption); omega) rfl) ?_
            rintro r ⟨K120, rfl, g120⟩
            show am_E _ _ _ 55 [(2, .inl ((am_bi (hs q = 38)))), (4, .inl (i : Int)), (3, .inl ((am_bi (b = true)))), (1, .inl o), (0, .inr (.inr (.inl (some c))))] [] (am_mm D K120 J ρ) _
            refine am_e_ss 2 (q := (58, [(2, .inl ((am_bi (hs q = 38)))), (4, .inl (i : Int)), (3, .inl ((am_bi (b = true)))), (1, .inl o), (0, .inr (.inr (.inl (some c))))], [.inl 124, .inr (.inr (.inl (some c)))], (am_mm D K120 J ρ))) rfl ?_
            refine am_e_virtual (Q := fun r => ∃ K121, r = (some (.inl ((am_bi (hs q = 124)))), (am_mm D K121 J ρ)) ∧ k_cs I0 K121 hs z c (((if hs q = 124 then q + 1 else q), some ((L ++ L2) ++ [(-3)])))) rfl rfl (Nat.le_of_ble_eq_true rfl) (am_kd_of hsc (by decide)) rfl (Nat.le_of_ble_eq_true rfl) (Nat.le_of_ble_eq_true rfl) (k_take _ hsh g120 (s := 124) (by decide)) ?_
            rintro r ⟨K121, rfl, g121⟩
            show am_E _ _ _ 61 [(2, .inl ((am_bi (hs q = 38)))), (4, .inl (i : Int)), (3, .inl ((am_bi (b = true)))), (1, .inl o), (0, .inr (.inr (.inl (some c))))] [.inl ((am_bi (hs q = 124)))] (am_mm D K121 J ρ) _
            refine am_e_ss 2 (q := (63, [(3, .inl ((am_bi (hs q = 124)))), (2, .inl ((am_bi (hs q = 38)))), (4, .inl (i : Int)), (1, .inl o), (0, .inr (.inr (.inl (some c))))], [.inl ((am_bi (hs q = 124)))], (am_mm D K121 J ρ))) rfl ?_
            refine am_e_ifne rfl (fun hw7 => ?_) (fun hw7 => ?_)
            · show am_E _ _ _ 68 [(3, .inl ((am_bi (hs q = 124)))), (2, .inl ((am_bi (hs q = 38)))), (4, .inl (i : Int)), (1, .inl o), (0, .inr (.inr (.inl (some c))))] [] (am_mm D K121 J ρ) _
              refine am_e_ss 2 (q := (7, [(4, .inl ((i : Int) + 1)), (3, .inl ((am_bi (hs q = 124)))), (2, .inl ((am_bi (hs q = 38)))), (1, .inl o), (0, .inr (.inr (.inl (some c))))], [], (am_mm D K121 J ρ))) rfl ?_
              have eV := pt_V_or (a := a) (b := b) (L := L) te tz hm hok hE hw7
              rw [if_neg (by assumption), List.append_nil] at eV
              rw [if_pos (by assumption)] at eV
              rw [eV]
              rw [if_pos hw7] at g121
              rw [(am_bi_f hw4).trans (am_bi_f (by decide : ¬ (false = true))).symm, (am_bi_t hw7).trans (am_bi_t (rfl : true = true)).symm]
              exact am_less (lv := [(4, .inl ((i + 1) : Int)), (3, .inl ((am_bi (true = true)))), (2, .inl ((am_bi (false = true)))), (1, .inl o), (0, .inr (.inr (.inl (some c))))]) rfl (List.forall_mem_cons.mpr ⟨rfl, List.forall_mem_cons.mpr ⟨rfl, List.forall_mem_cons.mpr ⟨rfl, List.forall_mem_cons.mpr ⟨rfl, List.forall_mem_cons.mpr ⟨rfl, List.forall_mem_nil _⟩⟩⟩⟩⟩) (k_any_l d (a := false) (b := true) (i := i + 1) (p := q + 1) (L := ((L ++ L2) ++ [(-3)])) hsh g121 hF hok hm hn (by omega) (by have := hbt (by assumption); rw [List.length_append, List.length_singleton]; show _ + 0 + 1 ≤ _; omega))
            · show am_E _ _ _ 66 [(3, .inl ((am_bi (hs q = 124)))), (2, .inl ((am_bi (hs q = 38)))), (4, .inl (i : Int)), (1, .inl o), (0, .inr (.inr (.inl (some c))))] [] (am_mm D K121 J ρ) _
              refine am_e_ss 1 (q := (67, [(3, .inl ((am_bi (hs q = 124)))), (2, .inl ((am_bi (hs q = 38)))), (4, .inl (i : Int)), (1, .inl o), (0, .inr (.inr (.inl (some c))))], [.inl 1], (am_mm D K121 J ρ))) rfl ?_
              refine am_e_ireturn rfl rfl ?_
              have eV := pt_V_end (a := a) (b := b) (L := L) hE hw4 hw7
              rw [if_neg (by assumption), List.append_nil] at eV
              rw [if_pos (by assumption)] at eV
              rw [eV]
              rw [if_neg hw7] at g121
              exact ⟨_, by rw [am_bi_so rfl], g121⟩
      · show am_E _ _ _ 28 [(4, .inl (i : Int)), (3, .inl ((am_bi (b = true)))), (2, .inl ((am_bi (a = true)))), (1, .inl o), (0, .inr (.inr (.inl (some c))))] [] (am_mm D K117 J ρ) _
        refine am_e_ss 2 (q := (31, [(4, .inl (i : Int)), (3, .inl ((am_bi (b = true)))), (2, .inl ((am_bi (a = true)))), (1, .inl o), (0, .inr (.inr (.inl (some c))))], [.inl (-2), .inr (.inr (.inl (some c)))], (am_mm D K117 J ρ))) rfl ?_
        refine am_e_virtual (Q := fun r => ∃ K122, r = (none, (am_mm D K122 J ρ)) ∧ k_cs I0 K122 hs z c ((q, some ((L ++ L2) ++ [(-2)])))) rfl rfl (Nat.le_of_ble_eq_true rfl) (am_kd_of hsc (by decide)) rfl (Nat.le_of_ble_eq_true rfl) (Nat.le_of_ble_eq_true rfl) (k_put _ hsh g117 (s := (-2)) (by have := hat (by assumption); omega) rfl) ?_
        rintro r ⟨K122, rfl, g122⟩
        show am_E _ _ _ 34 [(4, .inl (i : Int)), (3, .inl ((am_bi (b = true)))), (2, .inl ((am_bi (a = true)))), (1, .inl o), (0, .inr (.inr (.inl (some c))))] [] (am_mm D K122 J ρ) _
        refine am_e_ss 2 (q := (37, [(4, .inl (i : Int)), (3, .inl ((am_bi (b = true)))), (2, .inl ((am_bi (a = true)))), (1, .inl o), (0, .inr (.inr (.inl (some c))))], [.inl 38, .inr (.inr (.inl (some c)))], (am_mm D K122 J ρ))) rfl ?_
        refine am_e_virtual (Q := fun r => ∃ K123, r = (some (.inl ((am_bi (hs q = 38)))), (am_mm D K123 J ρ)) ∧ k_cs I0 K123 hs z c (((if hs q = 38 then q + 1 else q), some ((L ++ L2) ++ [(-2)])))) rfl rfl (Nat.le_of_ble_eq_true rfl) (am_kd_of hsc (by decide)) rfl (Nat.le_of_ble_eq_true rfl) (Nat.le_of_ble_eq_true rfl) (k_take _ hsh g122 (s := 38) (by decide)) ?_
        rintro r ⟨K123, rfl, g123⟩
        show am_E _ _ _ 40 [(4, .inl (i : Int)), (3, .inl ((am_bi (b = true)))), (2, .inl ((am_bi (a = true)))), (1, .inl o), (0, .inr (.inr (.inl (some c))))] [.inl ((am_bi (hs q = 38)))] (am_mm D K123 J ρ) _
        refine am_e_ss 2 (q := (42, [(2, .inl ((am_bi (hs q = 38)))), (4, .inl (i : Int)), (3, .inl ((am_bi (b = true)))), (1, .inl o), (0, .inr (.inr (.inl (some c))))], [.inl ((am_bi (hs q = 38)))], (am_mm D K123 J ρ))) rfl ?_
        refine am_e_ifne rfl (fun hw8 => ?_) (fun hw8 => ?_)
        · show am_E _ _ _ 68 [(2, .inl ((am_bi (hs q = 38)))), (4, .inl (i : Int)), (3, .inl ((am_bi (b = true)))), (1, .inl o), (0, .inr (.inr (.inl (some c))))] [] (am_mm D K123 J ρ) _
          refine am_e_ss 2 (q := (7, [(4, .inl ((i : Int) + 1)), (2, .inl ((am_bi (hs q = 38)))), (3, .inl ((am_bi (b = true)))), (1, .inl o), (0, .inr (.inr (.inl (some c))))], [], (am_mm D K123 J ρ))) rfl ?_
          have eV := pt_V_and (a := a) (b := b) (L := L) te tz hok hE hw8
          rw [if_pos (by assumption)] at eV
          rw [eV]
          rw [if_pos hw8] at g123
          rw [(am_bi_t hw8).trans (am_bi_t (rfl : true = true)).symm]
          exact am_less (lv := [(4, .inl ((i + 1) : Int)), (3, .inl ((am_bi (b = true)))), (2, .inl ((am_bi (true = true)))), (1, .inl o), (0, .inr (.inr (.inl (some c))))]) rfl (List.forall_mem_cons.mpr ⟨rfl, List.forall_mem_cons.mpr ⟨rfl, List.forall_mem_cons.mpr ⟨rfl, List.forall_mem_cons.mpr ⟨rfl, List.forall_mem_cons.mpr ⟨rfl, List.forall_mem_nil _⟩⟩⟩⟩⟩) (k_any_l d (a := true) (b := b) (i := i + 1) (p := q + 1) (L := ((L ++ L2) ++ [(-2)])) hsh g123 hF hok hm hn (by omega) (by have := hat (by assumption); rw [List.length_append, List.length_singleton]; show _ + 1 + _ ≤ _; omega))
        · show am_E _ _ _ 45 [(2, .inl ((am_bi (hs q = 38)))), (4, .inl (i : Int)), (3, .inl ((am_bi (b = true)))), (1, .inl o), (0, .inr (.inr (.inl (some c))))] [] (am_mm D K123 J ρ) _
          rw [if_neg hw8] at g123
          have g123 : k_cs I0 K123 hs z c ((q, some ((L ++ L2) ++ [(-2)]))) := g123
          show am_E _ _ _ 45 [(2, .inl ((am_bi (hs q = 38)))), (4, .inl (i : Int)), (3, .inl ((am_bi (b = true)))), (1, .inl o), (0, .inr (.inr (.inl (some c))))] [] (am_mm D K123 J ρ) _
          refine am_e_ss 1 (q := (46, [(2, .inl ((am_bi (hs q = 38)))), (4, .inl (i : Int)), (3, .inl ((am_bi (b = true)))), (1, .inl o), (0, .inr (.inr (.inl (some c))))], [.inl ((am_bi (b = true)))], (am_mm D K123 J ρ))) rfl ?_
          refine am_e_ifeq rfl (fun hw9 => ?_) (fun hw9 => ?_)
          · show am_E _ _ _ 55 [(2, .inl ((am_bi (hs q = 38)))), (4, .inl (i : Int)), (3, .inl ((am_bi (b = true)))), (1, .inl o), (0, .inr (.inr (.inl (some c))))] [] (am_mm D K123 J ρ) _
            refine am_e_ss 2 (q := (58, [(2, .inl ((am_bi (hs q = 38)))), (4, .inl (i : Int)), (3, .inl ((am_bi (b = true)))), (1, .inl o), (0, .inr (.inr (.inl (some c))))], [.inl 124, .inr (.inr (.inl (some c)))], (am_mm D K123 J ρ))) rfl ?_
            refine am_e_virtual (Q := fun r => ∃ K124, r = (some (.inl ((am_bi (hs q = 124)))), (am_mm D K124 J ρ)) ∧ k_cs I0 K124 hs z c (((if hs q = 124 then q + 1 else q), some ((L ++ L2) ++ [(-2)])))) rfl rfl (Nat.le_of_ble_eq_true rfl) (am_kd_of hsc (by decide)) rfl (Nat.le_of_ble_eq_true rfl) (Nat.le_of_ble_eq_true rfl) (k_take _ hsh g123 (s := 124) (by decide)) ?_
            rintro r ⟨K124, rfl, g124⟩
            show am_E _ _ _ 61 [(2, .inl ((am_bi (hs q = 38)))), (4, .inl (i : Int)), (3, .inl ((am_bi (b = true)))), (1, .inl o), (0, .inr (.inr (.inl (some c))))] [.inl ((am_bi (hs q = 124)))] (am_mm D K124 J ρ) _
            refine am_e_ss 2 (q := (63, [(3, .inl ((am_bi (hs q = 124)))), (2, .inl ((am_bi (hs q = 38)))), (4, .inl (i : Int)), (1, .inl o), (0, .inr (.inr (.inl (some c))))], [.inl ((am_bi (hs q = 124)))], (am_mm D K124 J ρ))) rfl ?_
            refine am_e_ifne rfl (fun hw10 => ?_) (fun hw10 => ?_)
            · show am_E _ _ _ 68 [(3, .inl ((am_bi (hs q = 124)))), (2, .inl ((am_bi (hs q = 38)))), (4, .inl (i : Int)), (1, .inl o), (0, .inr (.inr (.inl (some c))))] [] (am_mm D K124 J ρ) _
              refine am_e_ss 2 (q := (7, [(4, .inl ((i : Int) + 1)), (3, .inl ((am_bi (hs q = 124)))), (2, .inl ((am_bi (hs q = 38)))), (1, .inl o), (0, .inr (.inr (.inl (some c))))], [], (am_mm D K124 J ρ))) rfl ?_
              have eV := pt_V_or (a := a) (b := b) (L := L) te tz hm hok hE hw10
              rw [if_pos (by assumption)] at eV
              rw [if_neg (by assumption), List.append_nil] at eV
              rw [eV]
              rw [if_pos hw10] at g124
              rw [(am_bi_f hw8).trans (am_bi_f (by decide : ¬ (false = true))).symm, (am_bi_t hw10).trans (am_bi_t (rfl : true = true)).symm]
              exact am_less (lv := [(4, .inl ((i + 1) : Int)), (3, .inl ((am_bi (true = true)))), (2, .inl ((am_bi (false = true)))), (1, .inl o), (0, .inr (.inr (.inl (some c))))]) rfl (List.forall_mem_cons.mpr ⟨rfl, List.forall_mem_cons.mpr ⟨rfl, List.forall_mem_cons.mpr ⟨rfl, List.forall_mem_cons.mpr ⟨rfl, List.forall_mem_cons.mpr ⟨rfl, List.forall_mem_nil _⟩⟩⟩⟩⟩) (k_any_l d (a := false) (b := true) (i := i + 1) (p := q + 1) (L := ((L ++ L2) ++ [(-2)])) hsh g124 hF hok hm hn (by omega) (by have := hat (by assumption); rw [List.length_append, List.length_singleton]; show _ + 0 + 1 ≤ _; omega))
            · show am_E _ _ _ 66 [(3, .inl ((am_bi (hs q = 124)))), (2, .inl ((am_bi (hs q = 38)))), (4, .inl (i : Int)), (1, .inl o), (0, .inr (.inr (.inl (some c))))] [] (am_mm D K124 J ρ) _
              refine am_e_ss 1 (q := (67, [(3, .inl ((am_bi (hs q = 124)))), (2, .inl ((am_bi (hs q = 38)))), (4, .inl (i : Int)), (1, .inl o), (0, .inr (.inr (.inl (some c))))], [.inl 1], (am_mm D K124 J ρ))) rfl ?_
              refine am_e_ireturn rfl rfl ?_
              have eV := pt_V_end (a := a) (b := b) (L := L) hE hw8 hw10
              rw [if_pos (by assumption)] at eV
              rw [if_neg (by assumption), List.append_nil] at eV
              rw [eV]
              rw [if_neg hw10] at g124
              exact ⟨_, by rw [am_bi_so rfl], g124⟩
          · show am_E _ _ _ 49 [(2, .inl ((am_bi (hs q = 38)))), (4, .inl (i : Int)), (3, .inl ((am_bi (b = true)))), (1, .inl o), (0, .inr (.inr (.inl (some c))))] [] (am_mm D K123 J ρ) _
            refine am_e_ss 2 (q := (52, [(2, .inl ((am_bi (hs q = 38)))), (4, .inl (i : Int)), (3, .inl ((am_bi (b = true)))), (1, .inl o), (0, .inr (.inr (.inl (some c))))], [.inl (-3), .inr (.inr (.inl (some c)))], (am_mm D K123 J ρ))) rfl ?_
            refine am_e_virtual (Q := fun r => ∃ K125, r = (none, (am_mm D K125 J ρ)) ∧ k_cs I0 K125 hs z c ((q, some (((L ++ L2) ++ [(-2)]) ++ [(-3)])))) rfl rfl (Nat.le_of_ble_eq_true rfl) (am_kd_of hsc (by decide)) rfl (Nat.le_of_ble_eq_true rfl) (Nat.le_of_ble_eq_true rfl) (k_put _ hsh g123 (s := (-3)) (by have := hbt (by assumption); have := hat (by assumption); rw [List.length_append, List.length_singleton]; omega) rfl) ?_
            rintro r ⟨K125, rfl, g125⟩
            show am_E _ _ _ 55 [(2, .inl ((am_bi (hs q = 38)))), (4, .inl (i : Int)), (3, .inl ((am_bi (b = true)))), (1, .inl o), (0, .inr (.inr (.inl (some c))))] [] (am_mm D K125 J ρ) _
            refine am_e_ss 2 (q := (58, [(2, .inl ((am_bi (hs q = 38)))), (4, .inl (i : Int)), (3, .inl ((am_bi (b = true)))), (1, .inl o), (0, .inr (.inr (.inl (some c))))], [.inl 124, .inr (.inr (.inl (some c)))], (am_mm D K125 J ρ))) rfl ?_
            refine am_e_virtual (Q := fun r => ∃ K126, r = (some (.inl ((am_bi (hs q = 124)))), (am_mm D K126 J ρ)) ∧ k_cs I0 K126 hs z c (((if hs q = 124 then q + 1 else q), some (((L ++ L2) ++ [(-2)]) ++ [(-3)])))) rfl rfl (Nat.le_of_ble_eq_true rfl) (am_kd_of hsc (by decide)) rfl (Nat.le_of_ble_eq_true rfl) (Nat.le_of_ble_eq_true rfl) (k_take _ hsh g125 (s := 124) (by decide)) ?_
            rintro r ⟨K126, rfl, g126⟩
            show am_E _ _ _ 61 [(2, .inl ((am_bi (hs q = 38)))), (4, .inl (i : Int)), (3, .inl ((am_bi (b = true)))), (1, .inl o), (0, .inr (.inr (.inl (some c))))] [.inl ((am_bi (hs q = 124)))] (am_mm D K126 J ρ) _
            refine am_e_ss 2 (q := (63, [(3, .inl ((am_bi (hs q = 124)))), (2, .inl ((am_bi (hs q = 38)))), (4, .inl (i : Int)), (1, .inl o), (0, .inr (.inr (.inl (some c))))], [.inl ((am_bi (hs q = 124)))], (am_mm D K126 J ρ))) rfl ?_
            refine am_e_ifne rfl (fun hw11 => ?_) (fun hw11 => ?_)
            · show am_E _ _ _ 68 [(3, .inl ((am_bi (hs q = 124)))), (2, .inl ((am_bi (hs q = 38)))), (4, .inl (i : Int)), (1, .inl o), (0, .inr (.inr (.inl (some c))))] [] (am_mm D K126 J ρ) _
              refine am_e_ss 2 (q := (7, [(4, .inl ((i : Int) + 1)), (3, .inl ((am_bi (hs q = 124)))), (2, .inl ((am_bi (hs q = 38)))), (1, .inl o), (0, .inr (.inr (.inl (some c))))], [], (am_mm D K126 J ρ))) rfl ?_
              have eV := pt_V_or (a := a) (b := b) (L := L) te tz hm hok hE hw11
              rw [if_pos (by assumption)] at eV
              rw [if_pos (by assumption)] at eV
              rw [eV]
              rw [if_pos hw11] at g126
              rw [(am_bi_f hw8).trans (am_bi_f (by decide : ¬ (false = true))).symm, (am_bi_t hw11).trans (am_bi_t (rfl : true = true)).symm]
              exact am_less (lv := [(4, .inl ((i + 1) : Int)), (3, .inl ((am_bi (true = true)))), (2, .inl ((am_bi (false = true)))), (1, .inl o), (0, .inr (.inr (.inl (some c))))]) rfl (List.forall_mem_cons.mpr ⟨rfl, List.forall_mem_cons.mpr ⟨rfl, List.forall_mem_cons.mpr ⟨rfl, List.forall_mem_cons.mpr ⟨rfl, List.forall_mem_cons.mpr ⟨rfl, List.forall_mem_nil _⟩⟩⟩⟩⟩) (k_any_l d (a := false) (b := true) (i := i + 1) (p := q + 1) (L := (((L ++ L2) ++ [(-2)]) ++ [(-3)])) hsh g126 hF hok hm hn (by omega) (by have := hat (by assumption); have := hbt (by assumption); rw [List.length_append, List.length_singleton, List.length_append, List.length_singleton]; show _ + 0 + 1 ≤ _; omega))
            · show am_E _ _ _ 66 [(3, .inl ((am_bi (hs q = 124)))), (2, .inl ((am_bi (hs q = 38)))), (4, .inl (i : Int)), (1, .inl o), (0, .inr (.inr (.inl (some c))))] [] (am_mm D K126 J ρ) _
              refine am_e_ss 1 (q := (67, [(3, .inl ((am_bi (hs q = 124)))), (2, .inl ((am_bi (hs q = 38)))), (4, .inl (i : Int)), (1, .inl o), (0, .inr (.inr (.inl (some c))))], [.inl 1], (am_mm D K126 J ρ))) rfl ?_
              refine am_e_ireturn rfl rfl ?_
              have eV := pt_V_end (a := a) (b := b) (L := L) hE hw8 hw11
              rw [if_pos (by assumption)] at eV
              rw [if_pos (by assumption)] at eV
              rw [eV]
              rw [if_neg hw11] at g126
              exact ⟨_, by rw [am_bi_so rfl], g126⟩
    · show am_E _ _ _ 22 [(4, .inl (i : Int)), (3, .inl ((am_bi (b = true)))), (2, .inl ((am_bi (a = true)))), (1, .inl o), (0, .inr (.inr (.inl (some c))))] [] (am_mm D K117 J ρ) _
      refine am_e_ss 1 (q := (23, [(4, .inl (i : Int)), (3, .inl ((am_bi (b = true)))), (2, .inl ((am_bi (a = true)))), (1, .inl o), (0, .inr (.inr (.inl (some c))))], [.inl 0], (am_mm D K117 J ρ))) rfl ?_
      refine am_e_ireturn rfl rfl ?_
      rcases hE : pt_F hs l p with ⟨q, _ | L2⟩
      · rw [hE] at g117
        rw [pt_V_no (h := hs) (a := a) (b := b) (L := L) hE]
        exact ⟨_, by rw [am_bi_no rfl], g117⟩
      · exfalso; rw [hE] at hw2; exact hw2 rfl
termination_by z + 1 - p
decreasing_by all_goals omega
theorem k_anyT {X : Nat × (Nat → Int)} {D : List (Nat × Nat)} {I J : Nat → Nat → Int} {ρ : Nat → Nat → Option Nat} (d : Nat) {I0 : Nat → Nat → Int} {hs : Nat → Int} {z c p : Nat} {L : List Int} (hsh : k_sh D ρ c) (hcs : k_cs I0 I hs z c (p, some L)) {l n : Nat} {o m : Int} (hF : k_FC X D J ρ hs z c o n 14 (pt_F hs l)) (hok : pt_ok z m (pt_F hs l)) (hm : 1 ≤ m) (hn : n ≤ d + 1) : am_E X (d + 2) 13 0 [(0, .inr (.inr (.inl (some c)))), (1, .inl o)] [] (am_mm D I J ρ) (fun r => ∃ K, r = (some (.inl (am_bi ((pt_pre L (pt_E hs (pt_F hs l) p)).2.isSome = true))), am_mm D K J ρ) ∧ k_cs I0 K hs z c ((pt_pre L (pt_E hs (pt_F hs l) p)))) := by
  have hclk0 := hsh.1
  have hr8 := hsh.2
  have hclk := hclk0
  obtain ⟨⟨hsc, hs1, hs2, hs3, hs4⟩, hr1, hr2, hr3, hr4⟩ := hclk
  have p1 : I c 1 = (p : Int) := hcs.2.1.1
  have s9 : I c 9 = (z : Int) := hcs.2.1.2.1
  have tz := hcs.2.1.2.2.1
  have tpz : p ≤ z := hcs.2.1.2.2.2.1
  have th := hcs.2.1.2.2.2.2.1
  have te := hcs.2.1.2.2.2.2.2.1
  have tb := hcs.2.1.2.2.2.2.2.2
  have tbp := tb p
  have hc18 := hcs.2.2.1
  have n3 : I c 3 = (L.length : Int) := hcs.2.2.2.1
  have hll : L.length ≤ p := hcs.2.2.2.2.2
  refine am_e_ss 6 (q := (7, [(4, .inl 0), (3, .inl 0), (2, .inl 0), (0, .inr (.inr (.inl (some c)))), (1, .inl o)], [], (am_mm D I J ρ))) rfl ?_
  have ee := k_any_l (a := false) (b := false) (i := 0) d hsh hcs hF hok hm hn (by omega) hll
  rw [show am_bi (false = true) = 0 from am_bi_f (by decide), pt_V_E] at ee
  exact am_less (lv := [(4, .inl 0), (3, .inl 0), (2, .inl 0), (1, .inl o), (0, .inr (.inr (.inl (some c))))]) rfl (List.forall_mem_cons.mpr ⟨rfl, List.forall_mem_cons.mpr ⟨rfl, List.forall_mem_cons.mpr ⟨rfl, List.forall_mem_cons.mpr ⟨rfl, List.forall_mem_cons.mpr ⟨rfl, List.forall_mem_nil _⟩⟩⟩⟩⟩) ee
theorem pt_pre_so {L : List Int} {R : pt_R} : (pt_pre L R).2.isSome = R.2.isSome := by
  obtain ⟨q, _ | M⟩ := R
  · rfl
  · rfl
theorem k_any {X : Nat × (Nat → Int)} {D : List (Nat × Nat)} {J : Nat → Nat → Int} {ρ : Nat → Nat → Option Nat} {hs : Nat → Int} {z c l n : Nat} {o m : Int} (hsh : k_sh D ρ c) (hF : k_FC X D J ρ hs z c o n 14 (pt_F hs l)) (hok : pt_ok z m (pt_F hs l)) (hm : 1 ≤ m) (hn : 1 ≤ n) : k_FC X D J ρ hs z c o (n + 1) 13 (pt_E hs (pt_F hs l)) := by
  intro d0 I0 I p L hd hcs
  obtain ⟨d, rfl⟩ : ∃ d, d0 = d + 2 := ⟨d0 - 2, by omega⟩
  have ee := k_anyT d hsh hcs hF hok hm (by omega)
  rw [pt_pre_so] at ee
  exact ee
theorem k_one0T {X : Nat × (Nat → Int)} {D : List (Nat × Nat)} {I J : Nat → Nat → Int} {ρ : Nat → Nat → Option Nat} (d : Nat) {I0 : Nat → Nat → Int} {hs : Nat → Int} {z c p : Nat} {L : List Int} (hsh : k_sh D ρ c) (hcs : k_cs I0 I hs z c (p, some L))  : am_E X (d + 6) 14 0 [(0, .inr (.inr (.inl (some c)))), (1, .inl 5)] [] (am_mm D I J ρ) (fun r => ∃ K, r = (some (.inl (am_bi ((pt_F hs 0 p).2.isSome = true))), am_mm D K J ρ) ∧ k_cs I0 K hs z c ((pt_pre L (pt_F hs 0 p)))) := by
  have hclk0 := hsh.1
  have hr8 := hsh.2
  have hclk := hclk0
  obtain ⟨⟨hsc, hs1, hs2, hs3, hs4⟩, hr1, hr2, hr3, hr4⟩ := hclk
  have p1 : I c 1 = (p : Int) := hcs.2.1.1
  have s9 : I c 9 = (z : Int) := hcs.2.1.2.1
  have tz := hcs.2.1.2.2.1
  have tpz : p ≤ z := hcs.2.1.2.2.2.1
  have th := hcs.2.1.2.2.2.2.1
  have te := hcs.2.1.2.2.2.2.2.1
  have tb := hcs.2.1.2.2.2.2.2.2
  have tbp := tb p
  have hc18 := hcs.2.2.1
  have n3 : I c 3 = (L.length : Int) := hcs.2.2.2.1
  have hll : L.length ≤ p := hcs.2.2.2.2.2
  refine am_e_ss 1 (q := (1, [(0, .inr (.inr (.inl (some c)))), (1, .inl 5)], [.inr (.inr (.inl (some c)))], (am_mm D I J ρ))) rfl ?_
  refine am_e_virtual (Q := fun r => r = (some (.inl ((hs p))), (am_mm D I J ρ))) rfl rfl (Nat.le_of_ble_eq_true rfl) (am_kd_of hsc (by decide)) rfl (Nat.le_of_ble_eq_true rfl) (Nat.le_of_ble_eq_true rfl) (k_peek _ hsh hcs) ?_
  rintro r rfl
  show am_E _ _ _ 4 [(0, .inr (.inr (.inl (some c)))), (1, .inl 5)] [.inl ((hs p))] (am_mm D I J ρ) _
  refine am_e_ss 3 (q := (8, [(2, .inl ((hs p))), (0, .inr (.inr (.inl (some c)))), (1, .inl 5)], [.inl 33, .inl ((hs p))], (am_mm D I J ρ))) rfl ?_
  refine am_e_icmp2 rfl ⟨by omega, by omega⟩ ⟨by omega, by omega⟩ (fun (hw1 : (hs p) = 33) => ?_) (fun (hw1 : ¬ ((hs p) = 33)) => ?_)
  · show am_E _ _ _ 22 [(2, .inl ((hs p))), (0, .inr (.inr (.inl (some c)))), (1, .inl 5)] [] (am_mm D I J ρ) _
    refine am_e_ss 2 (q := (24, [(2, .inl ((hs p))), (0, .inr (.inr (.inl (some c)))), (1, .inl 5)], [.inl 5, .inl 5], (am_mm D I J ρ))) rfl ?_
    refine am_e_s (q := (27, [(2, .inl ((hs p))), (0, .inr (.inr (.inl (some c)))), (1, .inl 5)], [], (am_mm D I J ρ))) rfl rfl ?_
    refine am_e_ss 1 (q := (28, [(2, .inl ((hs p))), (0, .inr (.inr (.inl (some c)))), (1, .inl 5)], [.inl 0], (am_mm D I J ρ))) rfl ?_
    refine am_e_ireturn rfl rfl ?_
    rw [show pt_F hs 0 p = (p, none) from if_pos (by omega)]
    exact ⟨_, by rw [am_bi_no rfl], k_cs_no hcs⟩
  · show am_E _ _ _ 11 [(2, .inl ((hs p))), (0, .inr (.inr (.inl (some c)))), (1, .inl 5)] [] (am_mm D I J ρ) _
    refine am_e_ss 2 (q := (14, [(2, .inl ((hs p))), (0, .inr (.inr (.inl (some c)))), (1, .inl 5)], [.inl 40, .inl ((hs p))], (am_mm D I J ρ))) rfl ?_
    refine am_e_icmp2 rfl ⟨by omega, by omega⟩ ⟨by omega, by omega⟩ (fun (hw3 : (hs p) = 40) => ?_) (fun (hw3 : ¬ ((hs p) = 40)) => ?_)
    · show am_E _ _ _ 22 [(2, .inl ((hs p))), (0, .inr (.inr (.inl (some c)))), (1, .inl 5)] [] (am_mm D I J ρ) _
      refine am_e_ss 2 (q := (24, [(2, .inl ((hs p))), (0, .inr (.inr (.inl (some c)))), (1, .inl 5)], [.inl 5, .inl 5], (am_mm D I J ρ))) rfl ?_
      refine am_e_s (q := (27, [(2, .inl ((hs p))), (0, .inr (.inr (.inl (some c)))), (1, .inl 5)], [], (am_mm D I J ρ))) rfl rfl ?_
      refine am_e_ss 1 (q := (28, [(2, .inl ((hs p))), (0, .inr (.inr (.inl (some c)))), (1, .inl 5)], [.inl 0], (am_mm D I J ρ))) rfl ?_
      refine am_e_ireturn rfl rfl ?_
      rw [show pt_F hs 0 p = (p, none) from if_pos (by omega)]
      exact ⟨_, by rw [am_bi_no rfl], k_cs_no hcs⟩
    · show am_E _ _ _ 17 [(2, .inl ((hs p))), (0, .inr (.inr (.inl (some c)))), (1, .inl 5)] [] (am_mm D I J ρ) _
      refine am_e_ss 1 (q := (18, [(2, .inl ((hs p))), (0, .inr (.inr (.inl (some c)))), (1, .inl 5)], [.inr (.inr (.inl (some c)))], (am_mm D I J ρ))) rfl ?_
      refine am_e_virtual (Q := fun r => ∃ K127, r = (some (.inl ((am_bi ((pt_tst hs p).2.isSome = true)))), (am_mm D K127 J ρ)) ∧ k_cs I0 K127 hs z c ((pt_pre L (pt_tst hs p)))) rfl rfl (Nat.le_of_ble_eq_true rfl) (am_kd_of hsc (by decide)) rfl (Nat.le_of_ble_eq_true rfl) (Nat.le_of_ble_eq_true rfl) (k_test _ hsh hcs) ?_
      rintro r ⟨K127, rfl, g127⟩
      show am_E _ _ _ 21 [(2, .inl ((hs p))), (0, .inr (.inr (.inl (some c)))), (1, .inl 5)] [.inl ((am_bi ((pt_tst hs p).2.isSome = true)))] (am_mm D K127 J ρ) _
      refine am_e_ireturn rfl (am_rok_bi rfl) ?_
      rw [show pt_F hs 0 p = pt_tst hs p from if_neg (by omega)]
      exact ⟨_, rfl, g127⟩
theorem k_oneST {X : Nat × (Nat → Int)} {D : List (Nat × Nat)} {I J : Nat → Nat → Int} {ρ : Nat → Nat → Option Nat} (d : Nat) {I0 : Nat → Nat → Int} {hs : Nat → Int} {z c p : Nat} {L : List Int} (hsh : k_sh D ρ c) (hcs : k_cs I0 I hs z c (p, some L)) {l n : Nat} {o m m2 : Int} (ho : -100 ≤ o ∧ o < 5) (hF : k_FC X D J ρ hs z c (o + 1) n 14 (pt_F hs l)) (hok : pt_ok z m (pt_F hs l)) (hE : k_FC X D J ρ hs z c (o + 1) (n + 1) 13 (pt_E hs (pt_F hs l))) (hokE : pt_ok z m2 (pt_E hs (pt_F hs l))) (hn : n + 1 ≤ d + 5) : am_E X (d + 6) 14 0 [(0, .inr (.inr (.inl (some c)))), (1, .inl o)] [] (am_mm D I J ρ) (fun r => ∃ K, r = (some (.inl (am_bi ((pt_F hs (l + 1) p).2.isSome = true))), am_mm D K J ρ) ∧ k_cs I0 K hs z c ((pt_pre L (pt_F hs (l + 1) p)))) := by
  have hclk0 := hsh.1
  have hr8 := hsh.2
  have hclk := hclk0
  obtain ⟨⟨hsc, hs1, hs2, hs3, hs4⟩, hr1, hr2, hr3, hr4⟩ := hclk
  have p1 : I c 1 = (p : Int) := hcs.2.1.1
  have s9 : I c 9 = (z : Int) := hcs.2.1.2.1
  have tz := hcs.2.1.2.2.1
  have tpz : p ≤ z := hcs.2.1.2.2.2.1
  have th := hcs.2.1.2.2.2.2.1
  have te := hcs.2.1.2.2.2.2.2.1
  have tb := hcs.2.1.2.2.2.2.2.2
  have tbp := tb p
  have hc18 := hcs.2.2.1
  have n3 : I c 3 = (L.length : Int) := hcs.2.2.2.1
  have hll : L.length ≤ p := hcs.2.2.2.2.2
  refine am_e_ss 1 (q := (1, [(0, .inr (.inr (.inl (some c)))), (1, .inl o)], [.inr (.inr (.inl (some c)))], (am_mm D I J ρ))) rfl ?_
  refine am_e_virtual (Q := fun r => r = (some (.inl ((hs p))), (am_mm D I J ρ))) rfl rfl (Nat.le_of_ble_eq_true rfl) (am_kd_of hsc (by decide)) rfl (Nat.le_of_ble_eq_true rfl) (Nat.le_of_ble_eq_true rfl) (k_peek _ hsh hcs) ?_
  rintro r rfl
  show am_E _ _ _ 4 [(0, .inr (.inr (.inl (some c)))), (1, .inl o)] [.inl ((hs p))] (am_mm D I J ρ) _
  refine am_e_ss 3 (q := (8, [(2, .inl ((hs p))), (0, .inr (.inr (.inl (some c)))), (1, .inl o)], [.inl 33, .inl ((hs p))], (am_mm D I J ρ))) rfl ?_
  refine am_e_icmp2 rfl ⟨by omega, by omega⟩ ⟨by omega, by omega⟩ (fun (hw1 : (hs p) = 33) => ?_) (fun (hw1 : ¬ ((hs p) = 33)) => ?_)
  · show am_E _ _ _ 22 [(2, .inl ((hs p))), (0, .inr (.inr (.inl (some c)))), (1, .inl o)] [] (am_mm D I J ρ) _
    refine am_e_ss 2 (q := (24, [(2, .inl ((hs p))), (0, .inr (.inr (.inl (some c)))), (1, .inl o)], [.inl 5, .inl o], (am_mm D I J ρ))) rfl ?_
    refine am_e_icmp2 rfl ⟨by omega, by omega⟩ ⟨by omega, by omega⟩ (fun (hw2 : o < 5) => ?_) (fun (hw2 : ¬ (o < 5)) => ?_)
    · show am_E _ _ _ 29 [(2, .inl ((hs p))), (0, .inr (.inr (.inl (some c)))), (1, .inl o)] [] (am_mm D I J ρ) _
      refine am_e_ss 2 (q := (31, [(2, .inl ((hs p))), (0, .inr (.inr (.inl (some c)))), (1, .inl o)], [.inr (.inr (.inl (some c))), .inr (.inr (.inl (some c)))], (am_mm D I J ρ))) rfl ?_
      refine am_e_getfield (c := 1) (m := 10) (f := 1) rfl hsc rfl (by decide) (by decide) ?_
      show am_E _ _ _ 34 [(2, .inl ((hs p))), (0, .inr (.inr (.inl (some c)))), (1, .inl o)] [.inl ((I c 1)), .inr (.inr (.inl (some c)))] (am_mm D I J ρ) _
      refine am_e_ss 2 (q := (36, [(2, .inl ((hs p))), (0, .inr (.inr (.inl (some c)))), (1, .inl o)], [.inl ((I c 1) + 1), .inr (.inr (.inl (some c)))], (am_mm D I J ρ))) rfl ?_
      refine am_e_putfield (c := 1) (m := 10) (f := 1) (M' := (am_mm D (am_up I c 1 ((I c 1) + 1)) J ρ)) rfl hsc rfl (by decide) (by decide) rfl ?_
      show am_E _ _ _ 39 [(2, .inl ((hs p))), (0, .inr (.inr (.inl (some c)))), (1, .inl o)] [] (am_mm D (am_up I c 1 ((I c 1) + 1)) J ρ) _
      have u128 : I c 1 = ((p : Nat) : Int) := hcs.2.1.1
      rw [u128]
      have g128 := k_cs_1 hcs (k_cs_lt hcs (show 0 ≤ hs (p) by omega))
      have gb128 := tb (p + 1)
      generalize am_up I c 1 (((p : Nat) : Int) + 1) = K128 at g128 ⊢
      show am_E _ _ _ 39 [(2, .inl ((hs p))), (0, .inr (.inr (.inl (some c)))), (1, .inl o)] [] (am_mm D K128 J ρ) _
      refine am_e_ss 2 (q := (42, [(2, .inl ((hs p))), (0, .inr (.inr (.inl (some c)))), (1, .inl o)], [.inl 40, .inl ((hs p))], (am_mm D K128 J ρ))) rfl ?_
      refine am_e_icmp2 rfl ⟨by omega, by omega⟩ ⟨by omega, by omega⟩ (fun (hw3 : ¬ (hs p) = 40) => ?_) (fun (hw3 : ¬ (¬ (hs p) = 40)) => ?_)
      · show am_E _ _ _ 70 [(2, .inl ((hs p))), (0, .inr (.inr (.inl (some c)))), (1, .inl o)] [] (am_mm D K128 J ρ) _
        refine am_e_ss 4 (q := (74, [(2, .inl ((hs p))), (0, .inr (.inr (.inl (some c)))), (1, .inl o)], [.inl (o + 1), .inr (.inr (.inl (some c)))], (am_mm D K128 J ρ))) rfl ?_
        refine am_e_virtual (Q := fun r => ∃ K129, r = (some (.inl ((am_bi ((pt_F hs l (p + 1)).2.isSome = true)))), (am_mm D K129 J ρ)) ∧ k_cs I0 K129 hs z c ((pt_pre L (pt_F hs l (p + 1))))) rfl rfl (Nat.le_of_ble_eq_true rfl) (am_kd_of hsc (by decide)) rfl (Nat.le_of_ble_eq_true rfl) (Nat.le_of_ble_eq_true rfl) (hF _ _ _ (p + 1) L (by omega) g128) ?_
        rintro r ⟨K129, rfl, g129⟩
        show am_E _ _ _ 77 [(2, .inl ((hs p))), (0, .inr (.inr (.inl (some c)))), (1, .inl o)] [.inl ((am_bi ((pt_F hs l (p + 1)).2.isSome = true)))] (am_mm D K129 J ρ) _
        refine am_e_ifne rfl (fun hw4 => ?_) (fun hw4 => ?_)
        · show am_E _ _ _ 82 [(2, .inl ((hs p))), (0, .inr (.inr (.inl (some c)))), (1, .inl o)] [] (am_mm D K129 J ρ) _
          obtain ⟨q, L2, hE2⟩ : ∃ q L2, pt_F hs l (p + 1) = (q, some L2) := by
            rcases hE2 : pt_F hs l (p + 1) with ⟨q, _ | L2⟩
            · exfalso; rw [hE2] at hw4; exact absurd hw4 (show ¬ (false = true) by decide)
            · exact ⟨q, L2, rfl⟩
          have hq := hok _ _ _ hE2
          rw [hE2] at g129
          have g129 : k_cs I0 K129 hs z c ((q, some (L ++ L2))) := g129
          have tq := tb q
          show am_E _ _ _ 82 [(2, .inl ((hs p))), (0, .inr (.inr (.inl (some c)))), (1, .inl o)] [] (am_mm D K129 J ρ) _
          refine am_e_ss 2 (q := (84, [(2, .inl ((hs p))), (0, .inr (.inr (.inl (some c)))), (1, .inl o)], [.inl (-1), .inr (.inr (.inl (some c)))], (am_mm D K129 J ρ))) rfl ?_
          refine am_e_virtual (Q := fun r => ∃ K130, r = (none, (am_mm D K130 J ρ)) ∧ k_cs I0 K130 hs z c ((q, some ((L ++ L2) ++ [(-1)])))) rfl rfl (Nat.le_of_ble_eq_true rfl) (am_kd_of hsc (by decide)) rfl (Nat.le_of_ble_eq_true rfl) (Nat.le_of_ble_eq_true rfl) (k_put _ hsh g129 (s := (-1)) (by rw [List.length_append]; omega) rfl) ?_
          rintro r ⟨K130, rfl, g130⟩
          show am_E _ _ _ 87 [(2, .inl ((hs p))), (0, .inr (.inr (.inl (some c)))), (1, .inl o)] [] (am_mm D K130 J ρ) _
          refine am_e_ss 1 (q := (88, [(2, .inl ((hs p))), (0, .inr (.inr (.inl (some c)))), (1, .inl o)], [.inl 1], (am_mm D K130 J ρ))) rfl ?_
          refine am_e_ireturn rfl rfl ?_
          have eF : pt_F hs (l + 1) p = (match pt_F hs l (p + 1) with
            | (q, none) => (q, none)
            | (q, some L) => (q, some (L ++ [-1]))) := if_pos (by omega)
          rw [hE2] at eF
          rw [eF]
          refine ⟨_, by rw [am_bi_so rfl], ?_⟩
          show k_cs I0 K130 hs z c ((q, some (L ++ (L2 ++ [-1]))))
          rw [← List.append_assoc]; exact g130
        · show am_E _ _ _ 80 [(2, .inl ((hs p))), (0, .inr (.inr (.inl (some c)))), (1, .inl o)] [] (am_mm D K129 J ρ) _
          refine am_e_ss 1 (q := (81, [(2, .inl ((hs p))), (0, .inr (.inr (.inl (some c)))), (1, .inl o)], [.inl 0], (am_mm D K129 J ρ))) rfl ?_
          refine am_e_ireturn rfl rfl ?_
          have eF : pt_F hs (l + 1) p = (match pt_F hs l (p + 1) with
            | (q, none) => (q, none)
            | (q, some L) => (q, some (L ++ [-1]))) := if_pos (by omega)
          rcases hE2 : pt_F hs l (p + 1) with ⟨q, _ | L2⟩
          · rw [hE2] at g129 eF
            rw [eF]
            exact ⟨_, by rw [am_bi_no rfl], g129⟩
          · exfalso; rw [hE2] at hw4; exact hw4 rfl
      · show am_E _ _ _ 45 [(2, .inl ((hs p))), (0, .inr (.inr (.inl (some c)))), (1, .inl o)] [] (am_mm D K128 J ρ) _
        refine am_e_ss 4 (q := (49, [(2, .inl ((hs p))), (0, .inr (.inr (.inl (some c)))), (1, .inl o)], [.inl (o + 1), .inr (.inr (.inl (some c)))], (am_mm D K128 J ρ))) rfl ?_
        refine am_e_virtual (Q := fun r => ∃ K131, r = (some (.inl ((am_bi ((pt_E hs (pt_F hs l) (p + 1)).2.isSome = true)))), (am_mm D K131 J ρ)) ∧ k_cs I0 K131 hs z c ((pt_pre L (pt_E hs (pt_F hs l) (p + 1))))) rfl rfl (Nat.le_of_ble_eq_true rfl) (am_kd_of hsc (by decide)) rfl (Nat.le_of_ble_eq_true rfl) (Nat.le_of_ble_eq_true rfl) (hE _ _ _ (p + 1) L (by omega) g128) ?_
        rintro r ⟨K131, rfl, g131⟩
        show am_E _ _ _ 52 [(2, .inl ((hs p))), (0, .inr (.inr (.inl (some c)))), (1, .inl o)] [.inl ((am_bi ((pt_E hs (pt_F hs l) (p + 1)).2.isSome = true)))] (am_mm D K131 J ρ) _
        refine am_e_ifeq rfl (fun hw5 => ?_) (fun hw5 => ?_)
        · show am_E _ _ _ 68 [(2, .inl ((hs p))), (0, .inr (.inr (.inl (some c)))), (1, .inl o)] [] (am_mm D K131 J ρ) _
          refine am_e_ss 1 (q := (69, [(2, .inl ((hs p))), (0, .inr (.inr (.inl (some c)))), (1, .inl o)], [.inl 0], (am_mm D K131 J ρ))) rfl ?_
          refine am_e_ireturn rfl rfl ?_
          have eF : pt_F hs (l + 1) p = (match pt_E hs (pt_F hs l) (p + 1) with
            | (q, none) => (q, none)
            | (q, some L) => if hs q = 41 then (q + 1, some L) else (q, none)) := (if_neg (by omega)).trans (if_pos (by omega))
          rcases hE2 : pt_E hs (pt_F hs l) (p + 1) with ⟨q, _ | L2⟩
          · rw [hE2] at g131 eF
            rw [eF]
            exact ⟨_, by rw [am_bi_no rfl], g131⟩
          · exfalso; rw [hE2] at hw5; exact hw5 rfl
        · show am_E _ _ _ 55 [(2, .inl ((hs p))), (0, .inr (.inr (.inl (some c)))), (1, .inl o)] [] (am_mm D K131 J ρ) _
          obtain ⟨q, L2, hE2⟩ : ∃ q L2, pt_E hs (pt_F hs l) (p + 1) = (q, some L2) := by
            rcases hE2 : pt_E hs (pt_F hs l) (p + 1) with ⟨q, _ | L2⟩
            · exfalso; rw [hE2] at hw5; exact absurd hw5 (show ¬ (false = true) by decide)
            · exact ⟨q, L2, rfl⟩
          have hq := hokE _ _ _ hE2
          rw [hE2] at g131
          have g131 : k_cs I0 K131 hs z c ((q, some (L ++ L2))) := g131
          have tq := tb q
          show am_E _ _ _ 55 [(2, .inl ((hs p))), (0, .inr (.inr (.inl (some c)))), (1, .inl o)] [] (am_mm D K131 J ρ) _
          refine am_e_ss 2 (q := (58, [(2, .inl ((hs p))), (0, .inr (.inr (.inl (some c)))), (1, .inl o)], [.inl 41, .inr (.inr (.inl (some c)))], (am_mm D K131 J ρ))) rfl ?_
          refine am_e_virtual (Q := fun r => ∃ K132, r = (some (.inl ((am_bi (hs q = 41)))), (am_mm D K132 J ρ)) ∧ k_cs I0 K132 hs z c (((if hs q = 41 then q + 1 else q), some (L ++ L2)))) rfl rfl (Nat.le_of_ble_eq_true rfl) (am_kd_of hsc (by decide)) rfl (Nat.le_of_ble_eq_true rfl) (Nat.le_of_ble_eq_true rfl) (k_take _ hsh g131 (s := 41) (by decide)) ?_
          rintro r ⟨K132, rfl, g132⟩
          show am_E _ _ _ 61 [(2, .inl ((hs p))), (0, .inr (.inr (.inl (some c)))), (1, .inl o)] [.inl ((am_bi (hs q = 41)))] (am_mm D K132 J ρ) _
          refine am_e_ifeq rfl (fun hw6 => ?_) (fun hw6 => ?_)
          · show am_E _ _ _ 68 [(2, .inl ((hs p))), (0, .inr (.inr (.inl (some c)))), (1, .inl o)] [] (am_mm D K132 J ρ) _
            refine am_e_ss 1 (q := (69, [(2, .inl ((hs p))), (0, .inr (.inr (.inl (some c)))), (1, .inl o)], [.inl 0], (am_mm D K132 J ρ))) rfl ?_
            refine am_e_ireturn rfl rfl ?_
            have eF : pt_F hs (l + 1) p = (match pt_E hs (pt_F hs l) (p + 1) with
              | (q, none) => (q, none)
              | (q, some L) => if hs q = 41 then (q + 1, some L) else (q, none)) := (if_neg (by omega)).trans (if_pos (by omega))
            rw [hE2] at eF
            have eF : pt_F hs (l + 1) p = (q, none) := eF.trans (if_neg hw6)
            rw [eF]
            rw [if_neg hw6] at g132
            exact ⟨_, by rw [am_bi_no rfl], k_cs_no g132⟩
          · show am_E _ _ _ 64 [(2, .inl ((hs p))), (0, .inr (.inr (.inl (some c)))), (1, .inl o)] [] (am_mm D K132 J ρ) _
            refine am_e_ss 2 (q := (69, [(2, .inl ((hs p))), (0, .inr (.inr (.inl (some c)))), (1, .inl o)], [.inl 1], (am_mm D K132 J ρ))) rfl ?_
            refine am_e_ireturn rfl rfl ?_
            have eF : pt_F hs (l + 1) p = (match pt_E hs (pt_F hs l) (p + 1) with
              | (q, none) => (q, none)
              | (q, some L) => if hs q = 41 then (q + 1, some L) else (q, none)) := (if_neg (by omega)).trans (if_pos (by omega))
            rw [hE2] at eF
            have eF : pt_F hs (l + 1) p = (q + 1, some L2) := eF.trans (if_pos hw6)
            rw [eF]
            rw [if_pos hw6] at g132
            exact ⟨_, by rw [am_bi_so rfl], g132⟩
    · show am_E _ _ _ 27 [(2, .inl ((hs p))), (0, .inr (.inr (.inl (some c)))), (1, .inl o)] [] (am_mm D I J ρ) _
      refine am_e_ss 1 (q := (28, [(2, .inl ((hs p))), (0, .inr (.inr (.inl (some c)))), (1, .inl o)], [.inl 0], (am_mm D I J ρ))) rfl ?_
      refine am_e_ireturn rfl rfl ?_
      exfalso
      omega
  · show am_E _ _ _ 11 [(2, .inl ((hs p))), (0, .inr (.inr (.inl (some c)))), (1, .inl o)] [] (am_mm D I J ρ) _
    refine am_e_ss 2 (q := (14, [(2, .inl ((hs p))), (0, .inr (.inr (.inl (some c)))), (1, .inl o)], [.inl 40, .inl ((hs p))], (am_mm D I J ρ))) rfl ?_
    refine am_e_icmp2 rfl ⟨by omega, by omega⟩ ⟨by omega, by omega⟩ (fun (hw7 : (hs p) = 40) => ?_) (fun (hw7 : ¬ ((hs p) = 40)) => ?_)
    · show am_E _ _ _ 22 [(2, .inl ((hs p))), (0, .inr (.inr (.inl (some c)))), (1, .inl o)] [] (am_mm D I J ρ) _
      refine am_e_ss 2 (q := (24, [(2, .inl ((hs p))), (0, .inr (.inr (.inl (some c)))), (1, .inl o)], [.inl 5, .inl o], (am_mm D I J ρ))) rfl ?_
      refine am_e_icmp2 rfl ⟨by omega, by omega⟩ ⟨by omega, by omega⟩ (fun (hw8 : o < 5) => ?_) (fun (hw8 : ¬ (o < 5)) => ?_)
      · show am_E _ _ _ 29 [(2, .inl ((hs p))), (0, .inr (.inr (.inl (some c)))), (1, .inl o)] [] (am_mm D I J ρ) _
        refine am_e_ss 2 (q := (31, [(2, .inl ((hs p))), (0, .inr (.inr (.inl (some c)))), (1, .inl o)], [.inr (.inr (.inl (some c))), .inr (.inr (.inl (some c)))], (am_mm D I J ρ))) rfl ?_
        refine am_e_getfield (c := 1) (m := 10) (f := 1) rfl hsc rfl (by decide) (by decide) ?_
        show am_E _ _ _ 34 [(2, .inl ((hs p))), (0, .inr (.inr (.inl (some c)))), (1, .inl o)] [.inl ((I c 1)), .inr (.inr (.inl (some c)))] (am_mm D I J ρ) _
        refine am_e_ss 2 (q := (36, [(2, .inl ((hs p))), (0, .inr (.inr (.inl (some c)))), (1, .inl o)], [.inl ((I c 1) + 1), .inr (.inr (.inl (some c)))], (am_mm D I J ρ))) rfl ?_
        refine am_e_putfield (c := 1) (m := 10) (f := 1) (M' := (am_mm D (am_up I c 1 ((I c 1) + 1)) J ρ)) rfl hsc rfl (by decide) (by decide) rfl ?_
        show am_E _ _ _ 39 [(2, .inl ((hs p))), (0, .inr (.inr (.inl (some c)))), (1, .inl o)] [] (am_mm D (am_up I c 1 ((I c 1) + 1)) J ρ) _
        have u133 : I c 1 = ((p : Nat) : Int) := hcs.2.1.1
        rw [u133]
        have g133 := k_cs_1 hcs (k_cs_lt hcs (show 0 ≤ hs (p) by omega))
        have gb133 := tb (p + 1)
        generalize am_up I c 1 (((p : Nat) : Int) + 1) = K133 at g133 ⊢
        show am_E _ _ _ 39 [(2, .inl ((hs p))), (0, .inr (.inr (.inl (some c)))), (1, .inl o)] [] (am_mm D K133 J ρ) _
        refine am_e_ss 2 (q := (42, [(2, .inl ((hs p))), (0, .inr (.inr (.inl (some c)))), (1, .inl o)], [.inl 40, .inl ((hs p))], (am_mm D K133 J ρ))) rfl ?_
        refine am_e_icmp2 rfl ⟨by omega, by omega⟩ ⟨by omega, by omega⟩ (fun (hw9 : ¬ (hs p) = 40) => ?_) (fun (hw9 : ¬ (¬ (hs p) = 40)) => ?_)
        · show am_E _ _ _ 70 [(2, .inl ((hs p))), (0, .inr (.inr (.inl (some c)))), (1, .inl o)] [] (am_mm D K133 J ρ) _
          refine am_e_ss 4 (q := (74, [(2, .inl ((hs p))), (0, .inr (.inr (.inl (some c)))), (1, .inl o)], [.inl (o + 1), .inr (.inr (.inl (some c)))], (am_mm D K133 J ρ))) rfl ?_
          refine am_e_virtual (Q := fun r => ∃ K134, r = (some (.inl ((am_bi ((pt_F hs l (p + 1)).2.isSome = true)))), (am_mm D K134 J ρ)) ∧ k_cs I0 K134 hs z c ((pt_pre L (pt_F hs l (p + 1))))) rfl rfl (Nat.le_of_ble_eq_true rfl) (am_kd_of hsc (by decide)) rfl (Nat.le_of_ble_eq_true rfl) (Nat.le_of_ble_eq_true rfl) (hF _ _ _ (p + 1) L (by omega) g133) ?_
          rintro r ⟨K134, rfl, g134⟩
          show am_E _ _ _ 77 [(2, .inl ((hs p))), (0, .inr (.inr (.inl (some c)))), (1, .inl o)] [.inl ((am_bi ((pt_F hs l (p + 1)).2.isSome = true)))] (am_mm D K134 J ρ) _
          refine am_e_ifne rfl (fun hw10 => ?_) (fun hw10 => ?_)
          · show am_E _ _ _ 82 [(2, .inl ((hs p))), (0, .inr (.inr (.inl (some c)))), (1, .inl o)] [] (am_mm D K134 J ρ) _
            obtain ⟨q, L2, hE2⟩ : ∃ q L2, pt_F hs l (p + 1) = (q, some L2) := by
              rcases hE2 : pt_F hs l (p + 1) with ⟨q, _ | L2⟩
              · exfalso; rw [hE2] at hw10; exact absurd hw10 (show ¬ (false = true) by decide)
              · exact ⟨q, L2, rfl⟩
            have hq := hok _ _ _ hE2
            rw [hE2] at g134
            have g134 : k_cs I0 K134 hs z c ((q, some (L ++ L2))) := g134
            have tq := tb q
            show am_E _ _ _ 82 [(2, .inl ((hs p))), (0, .inr (.inr (.inl (some c)))), (1, .inl o)] [] (am_mm D K134 J ρ) _
            refine am_e_ss 2 (q := (84, [(2, .inl ((hs p))), (0, .inr (.inr (.inl (some c)))), (1, .inl o)], [.inl (-1), .inr (.inr (.inl (some c)))], (am_mm D K134 J ρ))) rfl ?_
            refine am_e_virtual (Q := fun r => ∃ K135, r = (none, (am_mm D K135 J ρ)) ∧ k_cs I0 K135 hs z c ((q, some ((L ++ L2) ++ [(-1)])))) rfl rfl (Nat.le_of_ble_eq_true rfl) (am_kd_of hsc (by decide)) rfl (Nat.le_of_ble_eq_true rfl) (Nat.le_of_ble_eq_true rfl) (k_put _ hsh g134 (s := (-1)) (by rw [List.length_append]; omega) rfl) ?_
            rintro r ⟨K135, rfl, g135⟩
            show am_E _ _ _ 87 [(2, .inl ((hs p))), (0, .inr (.inr (.inl (some c)))), (1, .inl o)] [] (am_mm D K135 J ρ) _
            refine am_e_ss 1 (q := (88, [(2, .inl ((hs p))), (0, .inr (.inr (.inl (some c)))), (1, .inl o)], [.inl 1], (am_mm D K135 J ρ))) rfl ?_
            refine am_e_ireturn rfl rfl ?_
            have eF : pt_F hs (l + 1) p = (match pt_F hs l (p + 1) with
              | (q, none) => (q, none)
              | (q, some L) => (q, some (L ++ [-1]))) := if_pos (by omega)
            rw [hE2] at eF
            rw [eF]
            refine ⟨_, by rw [am_bi_so rfl], ?_⟩
            show k_cs I0 K135 hs z c ((q, some (L ++ (L2 ++ [-1]))))
            rw [← List.append_assoc]; exact g135
          · show am_E _ _ _ 80 [(2, .inl ((hs p))), (0, .inr (.inr (.inl (some c)))), (1, .inl o)] [] (am_mm D K134 J ρ) _
            refine am_e_ss 1 (q := (81, [(2, .inl ((hs p))), (0, .inr (.inr (.inl (some c)))), (1, .inl o)], [.inl 0], (am_mm D K134 J ρ))) rfl ?_
            refine am_e_ireturn rfl rfl ?_
            have eF : pt_F hs (l + 1) p = (match pt_F hs l (p + 1) with
              | (q, none) => (q, none)
              | (q, some L) => (q, some (L ++ [-1]))) := if_pos (by omega)
            rcases hE2 : pt_F hs l (p + 1) with ⟨q, _ | L2⟩
            · rw [hE2] at g134 eF
              rw [eF]
              exact ⟨_, by rw [am_bi_no rfl], g134⟩
            · exfalso; rw [hE2] at hw10; exact hw10 rfl
        · show am_E _ _ _ 45 [(2, .inl ((hs p))), (0, .inr (.inr (.inl (some c)))), (1, .inl o)] [] (am_mm D K133 J ρ) _
          refine am_e_ss 4 (q := (49, [(2, .inl ((hs p))), (0, .inr (.inr (.inl (some c)))), (1, .inl o)], [.inl (o + 1), .inr (.inr (.inl (some c)))], (am_mm D K133 J ρ))) rfl ?_
          refine am_e_virtual (Q := fun r => ∃ K136, r = (some (.inl ((am_bi ((pt_E hs (pt_F hs l) (p + 1)).2.isSome = true)))), (am_mm D K136 J ρ)) ∧ k_cs I0 K136 hs z c ((pt_pre L (pt_E hs (pt_F hs l) (p + 1))))) rfl rfl (Nat.le_of_ble_eq_true rfl) (am_kd_of hsc (by decide)) rfl (Nat.le_of_ble_eq_true rfl) (Nat.le_of_ble_eq_true rfl) (hE _ _ _ (p + 1) L (by omega) g133) ?_
          rintro r ⟨K136, rfl, g136⟩
          show am_E _ _ _ 52 [(2, .inl ((hs p))), (0, .inr (.inr (.inl (some c)))), (1, .inl o)] [.inl ((am_bi ((pt_E hs (pt_F hs l) (p + 1)).2.isSome = true)))] (am_mm D K136 J ρ) _
          refine am_e_ifeq rfl (fun hw11 => ?_) (fun hw11 => ?_)
          · show am_E _ _ _ 68 [(2, .inl ((hs p))), (0, .inr (.inr (.inl (some c)))), (1, .inl o)] [] (am_mm D K136 J ρ) _
            refine am_e_ss 1 (q := (69, [(2, .inl ((hs p))), (0, .inr (.inr (.inl (some c)))), (1, .inl o)], [.inl 0], (am_mm D K136 J ρ))) rfl ?_
            refine am_e_ireturn rfl rfl ?_
            have eF : pt_F hs (l + 1) p = (match pt_E hs (pt_F hs l) (p + 1) with
              | (q, none) => (q, none)
              | (q, some L) => if hs q = 41 then (q + 1, some L) else (q, none)) := (if_neg (by omega)).trans (if_pos (by omega))
            rcases hE2 : pt_E hs (pt_F hs l) (p + 1) with ⟨q, _ | L2⟩
            · rw [hE2] at g136 eF
              rw [eF]
              exact ⟨_, by rw [am_bi_no rfl], g136⟩
            · exfalso; rw [hE2] at hw11; exact hw11 rfl
          · show am_E _ _ _ 55 [(2, .inl ((hs p))), (0, .inr (.inr (.inl (some c)))), (1, .inl o)] [] (am_mm D K136 J ρ) _
            obtain ⟨q, L2, hE2⟩ : ∃ q L2, pt_E hs (pt_F hs l) (p + 1) = (q, some L2) := by
              rcases hE2 : pt_E hs (pt_F hs l) (p + 1) with ⟨q, _ | L2⟩
              · exfalso; rw [hE2] at hw11; exact absurd hw11 (show ¬ (false = true) by decide)
              · exact ⟨q, L2, rfl⟩
            have hq := hokE _ _ _ hE2
            rw [hE2] at g136
            have g136 : k_cs I0 K136 hs z c ((q, some (L ++ L2))) := g136
            have tq := tb q
            show am_E _ _ _ 55 [(2, .inl ((hs p))), (0, .inr (.inr (.inl (some c)))), (1, .inl o)] [] (am_mm D K136 J ρ) _
            refine am_e_ss 2 (q := (58, [(2, .inl ((hs p))), (0, .inr (.inr (.inl (some c)))), (1, .inl o)], [.inl 41, .inr (.inr (.inl (some c)))], (am_mm D K136 J ρ))) rfl ?_
            refine am_e_virtual (Q := fun r => ∃ K137, r = (some (.inl ((am_bi (hs q = 41)))), (am_mm D K137 J ρ)) ∧ k_cs I0 K137 hs z c (((if hs q = 41 then q + 1 else q), some (L ++ L2)))) rfl rfl (Nat.le_of_ble_eq_true rfl) (am_kd_of hsc (by decide)) rfl (Nat.le_of_ble_eq_true rfl) (Nat.le_of_ble_eq_true rfl) (k_take _ hsh g136 (s := 41) (by decide)) ?_
            rintro r ⟨K137, rfl, g137⟩
            show am_E _ _ _ 61 [(2, .inl ((hs p))), (0, .inr (.inr (.inl (some c)))), (1, .inl o)] [.inl ((am_bi (hs q = 41)))] (am_mm D K137 J ρ) _
            refine am_e_ifeq rfl (fun hw12 => ?_) (fun hw12 => ?_)
            · show am_E _ _ _ 68 [(2, .inl ((hs p))), (0, .inr (.inr (.inl (some c)))), (1, .inl o)] [] (am_mm D K137 J ρ) _
              refine am_e_ss 1 (q := (69, [(2, .inl ((hs p))), (0, .inr (.inr (.inl (some c)))), (1, .inl o)], [.inl 0], (am_mm D K137 J ρ))) rfl ?_
              refine am_e_ireturn rfl rfl ?_
              have eF : pt_F hs (l + 1) p = (match pt_E hs (pt_F hs l) (p + 1) with
                | (q, none) => (q, none)
                | (q, some L) => if hs q = 41 then (q + 1, some L) else (q, none)) := (if_neg (by omega)).trans (if_pos (by omega))
              rw [hE2] at eF
              have eF : pt_F hs (l + 1) p = (q, none) := eF.trans (if_neg hw12)
              rw [eF]
              rw [if_neg hw12] at g137
              exact ⟨_, by rw [am_bi_no rfl], k_cs_no g137⟩
            · show am_E _ _ _ 64 [(2, .inl ((hs p))), (0, .inr (.inr (.inl (some c)))), (1, .inl o)] [] (am_mm D K137 J ρ) _
              refine am_e_ss 2 (q := (69, [(2, .inl ((hs p))), (0, .inr (.inr (.inl (some c)))), (1, .inl o)], [.inl 1], (am_mm D K137 J ρ))) rfl ?_
              refine am_e_ireturn rfl rfl ?_
              have eF : pt_F hs (l + 1) p = (match pt_E hs (pt_F hs l) (p + 1) with
                | (q, none) => (q, none)
                | (q, some L) => if hs q = 41 then (q + 1, some L) else (q, none)) := (if_neg (by omega)).trans (if_pos (by omega))
              rw [hE2] at eF
              have eF : pt_F hs (l + 1) p = (q + 1, some L2) := eF.trans (if_pos hw12)
              rw [eF]
              rw [if_pos hw12] at g137
              exact ⟨_, by rw [am_bi_so rfl], g137⟩
      · show am_E _ _ _ 27 [(2, .inl ((hs p))), (0, .inr (.inr (.inl (some c)))), (1, .inl o)] [] (am_mm D I J ρ) _
        refine am_e_ss 1 (q := (28, [(2, .inl ((hs p))), (0, .inr (.inr (.inl (some c)))), (1, .inl o)], [.inl 0], (am_mm D I J ρ))) rfl ?_
        refine am_e_ireturn rfl rfl ?_
        exfalso
        omega
    · show am_E _ _ _ 17 [(2, .inl ((hs p))), (0, .inr (.inr (.inl (some c)))), (1, .inl o)] [] (am_mm D I J ρ) _
      refine am_e_ss 1 (q := (18, [(2, .inl ((hs p))), (0, .inr (.inr (.inl (some c)))), (1, .inl o)], [.inr (.inr (.inl (some c)))], (am_mm D I J ρ))) rfl ?_
      refine am_e_virtual (Q := fun r => ∃ K138, r = (some (.inl ((am_bi ((pt_tst hs p).2.isSome = true)))), (am_mm D K138 J ρ)) ∧ k_cs I0 K138 hs z c ((pt_pre L (pt_tst hs p)))) rfl rfl (Nat.le_of_ble_eq_true rfl) (am_kd_of hsc (by decide)) rfl (Nat.le_of_ble_eq_true rfl) (Nat.le_of_ble_eq_true rfl) (k_test _ hsh hcs) ?_
      rintro r ⟨K138, rfl, g138⟩
      show am_E _ _ _ 21 [(2, .inl ((hs p))), (0, .inr (.inr (.inl (some c)))), (1, .inl o)] [.inl ((am_bi ((pt_tst hs p).2.isSome = true)))] (am_mm D K138 J ρ) _
      refine am_e_ireturn rfl (am_rok_bi rfl) ?_
      rw [show pt_F hs (l + 1) p = pt_tst hs p from (if_neg (by omega)).trans (if_neg (by omega))]
      exact ⟨_, rfl, g138⟩
theorem k_one {X : Nat × (Nat → Int)} {D : List (Nat × Nat)} {J : Nat → Nat → Int} {ρ : Nat → Nat → Option Nat} {hs : Nat → Int} {z c : Nat} (hz : ∀ i, z ≤ i → hs i = -1) (hsh : k_sh D ρ c) : ∀ l : Nat, l ≤ 5 → k_FC X D J ρ hs z c (5 - (l : Int)) (6 + 2 * l) 14 (pt_F hs l) := by
  intro l
  induction l with
  | zero =>
    intro _ d0 I0 I p L hd hcs
    obtain ⟨d, rfl⟩ : ∃ d, d0 = d + 6 := ⟨d0 - 6, by omega⟩
    exact k_one0T d hsh hcs
  | succ l ih =>
    intro hl5 d0 I0 I p L hd hcs
    obtain ⟨d, rfl⟩ : ∃ d, d0 = d + 6 := ⟨d0 - 6, by omega⟩
    have hF := ih (by omega)
    have e1 : (5 : Int) - (l : Int) = 5 - ((l + 1 : Nat) : Int) + 1 := by omega
    rw [e1] at hF
    have hok := pt_F_ok hz l
    exact k_oneST d hsh hcs (l := l) (n := 6 + 2 * l) (by omega) hF hok (k_any hsh hF hok (by omega) (by omega)) (pt_E_ok (by omega) hok) (by omega)
theorem k_any5 {X : Nat × (Nat → Int)} {D : List (Nat × Nat)} {J : Nat → Nat → Int} {ρ : Nat → Nat → Option Nat} {hs : Nat → Int} {z c : Nat} (hz : ∀ i, z ≤ i → hs i = -1) (hsh : k_sh D ρ c) : k_FC X D J ρ hs z c 0 17 13 (pt_E hs (pt_F hs 5)) := k_any hsh (k_one hz hsh 5 (by omega)) (pt_F_ok hz 5) (by decide) (by decide)
