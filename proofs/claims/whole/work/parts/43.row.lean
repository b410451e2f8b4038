theorem r_rf_l {X : Nat × (Nat → Int)} {D : List (Nat × Nat)} {I J : Nat → Nat → Int} {ρ : Nat → Nat → Option Nat} (d : Nat) {S : Nat → Int} {B : Int} {p : List Nat} {k : Nat} {t : Int × Int × List Nat} {t0 : Int × Int × List Nat} {n b : Nat} (ih : r_rfC X D J ρ S B (d + n + 5) n) (hI : r_rfI I S B p k t (n + 1)) (hb : (b : Int) ≤ I 108 20) (hs : t = (((sp_lfk S p b).flatMap (fun x => sp_pl2 S n (p ++ [x]))).foldl (sp_r1 S) t0)) : am_E X (d + n + 5 + 1) 199 53 [(2, .inl (b : Int)), (1, .inl (k : Int)), (0, .inr (.inr (.inl (some 107))))] [] (am_mm D I J ρ) (fun r => ∃ Q, r = (none, am_mm D (am_wp tW I Q) J ρ) ∧ r_rt Q ((sp_pl2 S (n + 1) p).foldl (sp_r1 S) t0) ∧ r_kp I Q k) := by
  have hI0 := hI
  obtain ⟨⟨hokS, hwS, h0, hB⟩, ⟨hS, hk, hkn, hops⟩, hp6, hrow, hrt⟩ := hI
  have hgo3 := sp_gos_ok hokS hwS h0 p (by omega) hp6
  have hhd := sp_gos_hd hokS hwS h0 p (by omega) hp6
  rw [← hS] at hgo3 hhd
  obtain ⟨hok, hal, hm0⟩ := hgo3
  have hwf : sp_wfS (I 108) := sp_wfS_cg hal (r_ok_24 hokS) hwS
  have hrt0 := hrt
  obtain ⟨h26, h27, hbh, hbg⟩ := hrt
  have hBk : B + 80050 * (p.length : Int) ≤ B + 480300 := by omega
  have hok2 := hok
  obtain ⟨o0, oG, oH, oD, o19, o20, o21, o22, o23, o24, oK, oV, oP, oM, oS, oY, oHd, oT, oC, oN⟩ := hok
  have hok := hok2
  have op0 := sp_open_0 (S := I 108)
  have opl := sp_open_b hok
  have hn20 : S 20 = I 108 20 := hal 20 (by omega)
  refine am_e_ss 5 (q := (61, [(2, .inl (b : Int)), (1, .inl (k : Int)), (0, .inr (.inr (.inl (some 107))))], [.inl ((I 108 20)), .inl (b : Int)], (am_mm D I J ρ))) rfl ?_
  refine am_e_icmp2 rfl ⟨by omega, by omega⟩ ⟨by omega, by omega⟩ (fun (h1 : (I 108 20) ≤ (b : Int)) => ?_) (fun (h1 : ¬ ((I 108 20) ≤ (b : Int))) => ?_)
  · show am_E _ _ _ 160 [(2, .inl (b : Int)), (1, .inl (k : Int)), (0, .inr (.inr (.inl (some 107))))] [] (am_mm D I J ρ) _
    refine am_e_return rfl rfl ?_
    have hfin : t = (sp_pl2 S (n + 1) p).foldl (sp_r1 S) t0 := by
      show _ = ((sp_lft S p).flatMap (fun x => sp_pl2 S n (p ++ [x]))).foldl (sp_r1 S) t0
      unfold sp_lft
      rw [show (S 20).toNat = b by omega]
      exact hs
    rw [← hfin]
    exact ⟨I, am_r_wp tW am_k_id, hrt0, fun i _ => rfl, fun i _ => rfl⟩
  · show am_E _ _ _ 64 [(2, .inl (b : Int)), (1, .inl (k : Int)), (0, .inr (.inr (.inl (some 107))))] [] (am_mm D I J ρ) _
    refine am_e_ss 2 (q := (66, [(2, .inl (b : Int)), (1, .inl (k : Int)), (0, .inr (.inr (.inl (some 107))))], [.inl (b : Int), .inr (.inr (.inl (some 107)))], (am_mm D I J ρ))) rfl ?_
    refine am_e_virtual (Q := fun r => r = (some (.inl ((am_bi ((I 108 (13 + b)) = 0)))), (am_mm D I J ρ))) rfl rfl (Nat.le_of_ble_eq_true rfl) rfl rfl (Nat.le_of_ble_eq_true rfl) (Nat.le_of_ble_eq_true rfl) (r_isOpen _ (v := (b : Int)) ⟨by omega, by omega⟩ (by exact oD b (by omega))) ?_
    rintro r rfl
    show am_E _ _ _ 69 [(2, .inl (b : Int)), (1, .inl (k : Int)), (0, .inr (.inr (.inl (some 107))))] [.inl ((am_bi ((I 108 (13 + b)) = 0)))] (am_mm D I J ρ) _
    refine am_e_ifeq rfl (fun h2 => ?_) (fun h2 => ?_)
    · show am_E _ _ _ 154 [(2, .inl (b : Int)), (1, .inl (k : Int)), (0, .inr (.inr (.inl (some 107))))] [] (am_mm D I J ρ) _
      refine am_e_ss 2 (q := (53, [(2, .inl ((b : Int) + 1)), (1, .inl (k : Int)), (0, .inr (.inr (.inl (some 107))))], [], (am_mm D I J ρ))) rfl ?_
      have hcc : ¬ S (13 + b) = 0 ∨ b ∈ p := by
        by_cases e : S (13 + b) = 0
        · right
          by_cases e2 : b ∈ p
          · exact e2
          · exact absurd ((hhd b).mpr ⟨e, e2⟩) (by omega)
        · exact Or.inl e
      have hs2 : t = (((sp_lfk S p (b + 1)).flatMap (fun x => sp_pl2 S n (p ++ [x]))).foldl (sp_r1 S) t0) := by rw [sp_lfk_s0 hcc]; exact hs
      exact am_less (lv := [(2, .inl ((b + 1) : Int)), (1, .inl (k : Int)), (0, .inr (.inr (.inl (some 107))))]) rfl (List.forall_mem_cons.mpr ⟨rfl, List.forall_mem_cons.mpr ⟨rfl, List.forall_mem_cons.mpr ⟨rfl, List.forall_mem_nil _⟩⟩⟩) (r_rf_l d (n := n) (b := b + 1) ih hI0 (by omega) hs2)
    · show am_E _ _ _ 72 [(2, .inl (b : Int)), (1, .inl (k : Int)), (0, .inr (.inr (.inl (some 107))))] [] (am_mm D I J ρ) _
      refine am_e_ss 2 (q := (74, [(3, .inl 0), (2, .inl (b : Int)), (1, .inl (k : Int)), (0, .inr (.inr (.inl (some 107))))], [], (am_mm D I J ρ))) rfl ?_
      rw [show am_mm D I J ρ = am_mm D (am_cpg I 120 (19 * k) 108 0 0) J ρ by rw [am_cpg_0]]
      refine am_less (lv := [(3, .inl (0 : Int)), (2, .inl (b : Int)), (1, .inl (k : Int)), (0, .inr (.inr (.inl (some 107))))]) rfl (List.forall_mem_cons.mpr ⟨rfl, List.forall_mem_cons.mpr ⟨rfl, List.forall_mem_cons.mpr ⟨rfl, List.forall_mem_cons.mpr ⟨rfl, List.forall_mem_nil _⟩⟩⟩⟩) (r_rf_c1 (I := I) (d + n + 5 + 1) (k := k) (b := b) (j := 0) (by omega) (by omega) ?_)
      refine am_e_ss 4 (q := (109, [(3, .inl (19 : Int)), (2, .inl (b : Int)), (1, .inl (k : Int)), (0, .inr (.inr (.inl (some 107))))], [.inl (b : Int), .inl (k : Int), .inr (.inr (.inl (some 121)))], (am_mm D (am_cpg I 120 (19 * k) 108 0 19) J ρ))) rfl ?_
      refine am_e_iastore (m := 6) rfl rfl (by omega) (by omega) (by omega) ?_
      show am_E _ _ _ 110 [(3, .inl (19 : Int)), (2, .inl (b : Int)), (1, .inl (k : Int)), (0, .inr (.inr (.inl (some 107))))] [] (am_mm D (am_up (am_cpg I 120 (19 * k) 108 0 19) 121 k (b : Int)) J ρ) _
      refine am_e_ss 2 (q := (112, [(3, .inl (19 : Int)), (2, .inl (b : Int)), (1, .inl (k : Int)), (0, .inr (.inr (.inl (some 107))))], [.inl (b : Int), .inr (.inr (.inl (some 107)))], (am_mm D (am_up (am_cpg I 120 (19 * k) 108 0 19) 121 k (b : Int)) J ρ))) rfl ?_
      refine am_e_virtual (Q := fun r => ∃ Q80, r = (some (.inl ((sp_cmc (I 108) (b : Int) ((I 108) 19).toNat))), (am_mm D (am_wp tG (am_up (am_cpg I 120 (19 * k) 108 0 19) 121 k (b : Int)) Q80) J ρ)) ∧ Q80 108 = sp_go (I 108) (b : Int)) rfl rfl (Nat.le_of_ble_eq_true rfl) rfl rfl (Nat.le_of_ble_eq_true rfl) (Nat.le_of_ble_eq_true rfl) (r_goes _ (B := B + 80050 * (p.length : Int)) (b := (b : Int)) ⟨by omega, by omega⟩ (by omega) hok hwf) ?_
      rintro r ⟨Q80, rfl, hgo⟩
      show am_E _ _ _ 115 [(3, .inl (19 : Int)), (2, .inl (b : Int)), (1, .inl (k : Int)), (0, .inr (.inr (.inl (some 107))))] [.inl ((sp_cmc (I 108) (b : Int) ((I 108) 19).toNat))] (am_mm D (am_wp tG (am_up (am_cpg I 120 (19 * k) 108 0 19) 121 k (b : Int)) Q80) J ρ) _
      refine am_e_ss 1 (q := (116, [(3, .inl (19 : Int)), (2, .inl (b : Int)), (1, .inl (k : Int)), (0, .inr (.inr (.inl (some 107))))], [], (am_mm D (am_wp tG (am_up (am_cpg I 120 (19 * k) 108 0 19) 121 k (b : Int)) Q80) J ρ))) rfl ?_
      have hpl : (p ++ [b]).length = p.length + 1 := by rw [List.length_append]; rfl
      have hb20 := (r_ok_19 hok).2
      have hI2 : r_rfI (am_wp tG (am_up (am_cpg I 120 (19 * k) 108 0 19) 121 k (b : Int)) Q80) S B (p ++ [b]) (k + 1) t n := by
        refine ⟨⟨hokS, hwS, h0, hB⟩, ⟨?_, by omega, by omega, ?_⟩, ?_, ?_, hrt0⟩
        · show Q80 108 = _
          rw [hgo, sp_gos_s, ← hS]
        · show sp_ops (Q80 108) = _
          rw [hgo, sp_ops_go hok (by omega) (by omega)]
          omega
        · intro x hx
          rcases List.mem_append.mp hx with h | h
          · exact hp6 x h
          · have : x = b := by simpa using h
            omega
        · refine am_rowl_snoc (am_rowl_cg hrow (fun i hi => am_up_ne2 (by omega))) ?_
          rw [show 0 + p.length = k by omega]
          exact am_up_at2
      refine am_e_ss 4 (q := (120, [(3, .inl (19 : Int)), (2, .inl (b : Int)), (1, .inl (k : Int)), (0, .inr (.inr (.inl (some 107))))], [.inl ((k : Int) + 1), .inr (.inr (.inl (some 107)))], (am_mm D (am_wp tG (am_up (am_cpg I 120 (19 * k) 108 0 19) 121 k (b : Int)) Q80) J ρ))) rfl ?_
      refine am_e_virtual (Q := fun r => ∃ Q81, r = (none, (am_mm D (am_wp tW (am_wp tG (am_up (am_cpg I 120 (19 * k) 108 0 19) 121 k (b : Int)) Q80) Q81) J ρ)) ∧ r_rt Q81 ((sp_pl2 S n (p ++ [b])).foldl (sp_r1 S) t) ∧ r_kp (am_wp tG (am_up (am_cpg I 120 (19 * k) 108 0 19) 121 k (b : Int)) Q80) Q81 (k + 1)) rfl rfl (Nat.le_of_ble_eq_true rfl) rfl rfl (Nat.le_of_ble_eq_true rfl) (Nat.le_of_ble_eq_true rfl) (ih _ (p ++ [b]) (k + 1) t hI2) ?_
      rintro r ⟨Q81, rfl, ⟨hrt9, hkp9⟩⟩
      show am_E _ _ _ 123 [(3, .inl (19 : Int)), (2, .inl (b : Int)), (1, .inl (k : Int)), (0, .inr (.inr (.inl (some 107))))] [] (am_mm D (am_wp tW (am_wp tG (am_up (am_cpg I 120 (19 * k) 108 0 19) 121 k (b : Int)) Q80) Q81) J ρ) _
      refine am_e_ss 2 (q := (125, [(3, .inl 0), (2, .inl (b : Int)), (1, .inl (k : Int)), (0, .inr (.inr (.inl (some 107))))], [], (am_mm D (am_wp tW (am_wp tG (am_up (am_cpg I 120 (19 * k) 108 0 19) 121 k (b : Int)) Q80) Q81) J ρ))) rfl ?_
      rw [show am_mm D (am_wp tW (am_wp tG (am_up (am_cpg I 120 (19 * k) 108 0 19) 121 k (b : Int)) Q80) Q81) J ρ = am_mm D (am_cpg (am_wp tW (am_wp tG (am_up (am_cpg I 120 (19 * k) 108 0 19) 121 k (b : Int)) Q80) Q81) 108 0 120 (19 * k) 0) J ρ by rw [am_cpg_0]]
      refine am_less (lv := [(3, .inl (0 : Int)), (2, .inl (b : Int)), (1, .inl (k : Int)), (0, .inr (.inr (.inl (some 107))))]) rfl (List.forall_mem_cons.mpr ⟨rfl, List.forall_mem_cons.mpr ⟨rfl, List.forall_mem_cons.mpr ⟨rfl, List.forall_mem_cons.mpr ⟨rfl, List.forall_mem_nil _⟩⟩⟩⟩) (r_rf_c2 (I := am_wp tW (am_wp tG (am_up (am_cpg I 120 (19 * k) 108 0 19) 121 k (b : Int)) Q80) Q81) (d + n + 5 + 1) (k := k) (b := b) (j := 0) (by omega) (by omega) ?_)
      refine am_e_ss 2 (q := (53, [(2, .inl ((b : Int) + 1)), (3, .inl (19 : Int)), (1, .inl (k : Int)), (0, .inr (.inr (.inl (some 107))))], [], (am_mm D (am_cpg (am_wp tW (am_wp tG (am_up (am_cpg I 120 (19 * k) 108 0 19) 121 k (b : Int)) Q80) Q81) 108 0 120 (19 * k) 19) J ρ))) rfl ?_
      have hnp := (hhd b).mp (by omega)
      have hs2 : (sp_pl2 S n (p ++ [b])).foldl (sp_r1 S) t = (((sp_lfk S p (b + 1)).flatMap (fun x => sp_pl2 S n (p ++ [x]))).foldl (sp_r1 S) t0) := by
        rw [sp_lfk_s1 hnp.1 hnp.2, List.flatMap_append, List.foldl_append, ← hs]
        rw [List.flatMap_cons, List.flatMap_nil, List.append_nil]
      have hbk : ∀ c i, tW c i = false → (am_cpg (am_wp tW (am_wp tG (am_up (am_cpg I 120 (19 * k) 108 0 19) 121 k (b : Int)) Q80) Q81) 108 0 120 (19 * k) 19) c i = I c i := by
        refine am_bk9 tW_8 (am_k_wp (tW_tW8) (am_k_wp (tG_tW8) (am_k_up rfl (am_k_cpg (fun _ => rfl) (am_k_id))))) ?_ ?_
        · intro i hi
          show Q80 108 i = _
          rw [hgo]
          exact (sp_go_al (b := (b : Int)) hok ⟨by omega, by omega⟩ i hi).symm
        · intro i hi
          refine (hkp9.1 (19 * k + i) (by omega)).trans ?_
          show am_cpg I 120 (19 * k) 108 0 19 120 (19 * k + i) = I 108 i
          unfold am_cpg
          rw [if_pos ⟨rfl, by omega, by omega⟩]
          congr 1
          omega
      have h8 : (am_cpg (am_wp tW (am_wp tG (am_up (am_cpg I 120 (19 * k) 108 0 19) 121 k (b : Int)) Q80) Q81) 108 0 120 (19 * k) 19) 108 = I 108 := funext (fun i => hbk 108 i rfl)
      have hkp : r_kp I (am_cpg (am_wp tW (am_wp tG (am_up (am_cpg I 120 (19 * k) 108 0 19) 121 k (b : Int)) Q80) Q81) 108 0 120 (19 * k) 19) k := by
        refine ⟨fun i hi => (hkp9.1 i (by omega)).trans ?_, fun i hi => (hkp9.2 i (by omega)).trans (am_up_ne2 (by omega))⟩
        show am_cpg I 120 (19 * k) 108 0 19 120 i = I 120 i
        exact if_neg (by omega)
      have hI3 : r_rfI (am_cpg (am_wp tW (am_wp tG (am_up (am_cpg I 120 (19 * k) 108 0 19) 121 k (b : Int)) Q80) Q81) 108 0 120 (19 * k) 19) S B p k ((sp_pl2 S n (p ++ [b])).foldl (sp_r1 S) t) (n + 1) := by
        refine ⟨⟨hokS, hwS, h0, hB⟩, ⟨by rw [h8]; exact hS, hk, hkn, by rw [h8]; exact hops⟩, hp6, ?_, hrt9⟩
        exact am_rowl_cg hrow (fun i hi => hkp.2 _ (by omega))
      refine (am_less (lv := [(2, .inl ((b + 1) : Int)), (1, .inl (k : Int)), (0, .inr (.inr (.inl (some 107))))]) rfl (List.forall_mem_cons.mpr ⟨rfl, List.forall_mem_cons.mpr ⟨rfl, List.forall_mem_cons.mpr ⟨rfl, List.forall_mem_nil _⟩⟩⟩) (r_rf_l d (I := am_cpg (am_wp tW (am_wp tG (am_up (am_cpg I 120 (19 * k) 108 0 19) 121 k (b : Int)) Q80) Q81) 108 0 120 (19 * k) 19) (n := n) (b := b + 1) ih hI3 (by rw [h8]; omega) hs2)).imp ?_
      rintro r ⟨Q9, rfl, hr9, hk9⟩
      exact ⟨_, am_r_wp tW (am_k_wp am_k_sub hbk), hr9, fun i hi => (hk9.1 i hi).trans (hkp.1 i hi), fun i hi => (hk9.2 i hi).trans (hkp.2 i hi)⟩
termination_by 7 - b
decreasing_by all_goals omega
theorem r_rfS {X : Nat × (Nat → Int)} {D : List (Nat × Nat)} {I J : Nat → Nat → Int} {ρ : Nat → Nat → Option Nat} (d : Nat) {S : Nat → Int} {B : Int} {p : List Nat} {k : Nat} {t : Int × Int × List Nat} {n : Nat} (ih : r_rfC X D J ρ S B (d + n + 5) n) (hI : r_rfI I S B p k t (n + 1)) : am_E X (d + n + 5 + 1) 199 0 [(0, .inr (.inr (.inl (some 107)))), (1, .inl (k : Int))] [] (am_mm D I J ρ) (fun r => ∃ Q, r = (none, am_mm D (am_wp tW I Q) J ρ) ∧ r_rt Q ((sp_pl2 S (n + 1) p).foldl (sp_r1 S) t) ∧ r_kp I Q k) := by
  have hI0 := hI
  obtain ⟨⟨hokS, hwS, h0, hB⟩, ⟨hS, hk, hkn, hops⟩, hp6, hrow, hrt⟩ := hI
  have hgo3 := sp_gos_ok hokS hwS h0 p (by omega) hp6
  have hhd := sp_gos_hd hokS hwS h0 p (by omega) hp6
  rw [← hS] at hgo3 hhd
  obtain ⟨hok, hal, hm0⟩ := hgo3
  have hwf : sp_wfS (I 108) := sp_wfS_cg hal (r_ok_24 hokS) hwS
  have hrt0 := hrt
  obtain ⟨h26, h27, hbh, hbg⟩ := hrt
  have hBk : B + 80050 * (p.length : Int) ≤ B + 480300 := by omega
  have hok2 := hok
  obtain ⟨o0, oG, oH, oD, o19, o20, o21, o22, o23, o24, oK, oV, oP, oM, oS, oY, oHd, oT, oC, oN⟩ := hok
  have hok := hok2
  have op0 := sp_open_0 (S := I 108)
  have opl := sp_open_b hok
  have hn20 : S 20 = I 108 20 := hal 20 (by omega)
  refine am_e_ss 1 (q := (1, [(0, .inr (.inr (.inl (some 107)))), (1, .inl (k : Int))], [.inr (.inr (.inl (some 107)))], (am_mm D I J ρ))) rfl ?_
  refine am_e_virtual (Q := fun r => r = (some (.inl ((sp_open (I 108)))), (am_mm D I J ρ))) rfl rfl (Nat.le_of_ble_eq_true rfl) rfl rfl (Nat.le_of_ble_eq_true rfl) (Nat.le_of_ble_eq_true rfl) (r_openBooks _ hok) ?_
  rintro r rfl
  show am_E _ _ _ 4 [(0, .inr (.inr (.inl (some 107)))), (1, .inl (k : Int))] [.inl ((sp_open (I 108)))] (am_mm D I J ρ) _
  refine am_e_if2 rfl ⟨by omega, by omega⟩ (fun (h1 : ¬ (sp_open (I 108)) = 0) => ?_) (fun (h1 : ¬ (¬ (sp_open (I 108)) = 0)) => ?_)
  · show am_E _ _ _ 51 [(0, .inr (.inr (.inl (some 107)))), (1, .inl (k : Int))] [] (am_mm D I J ρ) _
    refine am_e_ss 2 (q := (53, [(2, .inl 0), (0, .inr (.inr (.inl (some 107)))), (1, .inl (k : Int))], [], (am_mm D I J ρ))) rfl ?_
    exact am_less (lv := [(2, .inl (0 : Int)), (1, .inl (k : Int)), (0, .inr (.inr (.inl (some 107))))]) rfl (List.forall_mem_cons.mpr ⟨rfl, List.forall_mem_cons.mpr ⟨rfl, List.forall_mem_cons.mpr ⟨rfl, List.forall_mem_nil _⟩⟩⟩) (r_rf_l d (n := n) (b := 0) ih hI0 (by omega) rfl)
  · show am_E _ _ _ 7 [(0, .inr (.inr (.inl (some 107)))), (1, .inl (k : Int))] [] (am_mm D I J ρ) _
    exfalso; omega
theorem r_rfn {X : Nat × (Nat → Int)} {D : List (Nat × Nat)} {J : Nat → Nat → Int} {ρ : Nat → Nat → Option Nat} {S : Nat → Int} {B : Int} (d : Nat) : ∀ n, r_rfC X D J ρ S B (d + n + 5) n := by
  intro n
  induction n with
  | zero => intro I p k t hI; exact r_rf0 d hI
  | succ n ih => intro I p k t hI; exact r_rfS d ih hI
theorem r_rf6 {X : Nat × (Nat → Int)} {D : List (Nat × Nat)} {J : Nat → Nat → Int} {ρ : Nat → Nat → Option Nat} {S : Nat → Int} {B : Int} (d n : Nat) (hn : n ≤ 6) : r_rfC X D J ρ S B (d + 11) n := by
  have h := r_rfn (X := X) (D := D) (J := J) (ρ := ρ) (S := S) (B := B) (d + (6 - n)) n
  rw [show d + (6 - n) + n + 5 = d + 11 by omega] at h
  exact h
def sp_rowt (S : Nat → Int) : Int × Int × List Nat := (sp_pl2 S (sp_ops S).toNat []).foldl (sp_r1 S) (-1, 0, [])
def sp_row5 (S : Nat → Int) (k : Int) : Int := if ¬ (0 ≤ k ∧ k ≤ 4) then -1 else if 5 < sp_ops S then -9 else sp_get (sp_rowt S).2.2 k
theorem sp_r1_pos {S : Nat → Int} {B : Int} (hok : r_ok S B) (hwf : sp_wfS S) (h0 : S 0 ≤ 190) : ∀ {l : List (List Nat)} {t : Int × Int × List Nat}, (∀ q ∈ l, q.length ≤ 6 ∧ ∀ x ∈ q, x < 6) → (¬ t.1 = -1 ∨ ¬ l = []) → (-1 ≤ t.1) → ¬ (l.foldl (sp_r1 S) t).1 = -1 := by
  intro l
  induction l with
  | nil => intro t _ h _; rcases h with h | h; exact h; exact absurd rfl h
  | cons q l ih =>
    intro t hq h h1
    rw [List.foldl_cons]
    have hq0 := hq q List.mem_cons_self
    have hg := sp_gos_ok hok hwf h0 q hq0.1 hq0.2
    have hnb := sp_hn_b hg.1
    have key : ¬ (sp_r1 S t q).1 = -1 ∧ -1 ≤ (sp_r1 S t q).1 := by
      unfold sp_r1
      by_cases e : sp_btv (sp_hn (sp_gos S q)) (sp_G (sp_gos S q)) t.1 t.2.1 = 1
      · rw [if_pos e]
        show ¬ sp_hn (sp_gos S q) = -1 ∧ -1 ≤ sp_hn (sp_gos S q)
        omega
      · rw [if_neg e]
        refine ⟨fun e2 => e ?_, h1⟩
        rw [e2]
        exact sp_btv_1 hnb.1
    exact ih (fun x hx => hq x (List.mem_cons_of_mem _ hx)) (Or.inl key.1) key.2
theorem sp_pl2_ne {S : Nat → Int} {B : Int} (hok : r_ok S B) (hwf : sp_wfS S) (h0 : S 0 ≤ 190) : ∀ n {p : List Nat}, p.length + n ≤ 6 → (∀ x ∈ p, x < 6) → sp_ops (sp_gos S p) = (n : Int) → ¬ sp_pl2 S n p = [] := by
  intro n
  induction n with
  | zero => intro p _ _ _ h; exact absurd h (by simp [sp_pl2])
  | succ n ih =>
    intro p hl hp ho
    obtain ⟨h1, h2, h3⟩ := sp_gos_ok hok hwf h0 p (by omega) hp
    have hn20 := (r_ok_19 h1).2
    have e20 := h2 20 (by omega)
    obtain ⟨x, hx1, hx2⟩ := sp_ops_ex (S := sp_gos S p) (by omega)
    have hx3 := (sp_gos_hd hok hwf h0 p (by omega) hp x).mp hx2
    have hm : x ∈ sp_lft S p := by
      unfold sp_lft sp_lfk
      rw [List.mem_filter]
      exact ⟨(sp_obk_mem _).mpr ⟨by rw [e20]; exact hx1, hx3.1⟩, by simp [hx3.2]⟩
    have h4 := ih (p := p ++ [x]) (by rw [List.length_append, List.length_singleton]; omega) (by
      intro y hy
      rcases List.mem_append.mp hy with h | h
      · exact hp y h
      · have : y = x := by simpa using h
        omega) (by rw [sp_gos_s, sp_ops_go h1 (by omega) hx2, ho]; omega)
    intro h
    unfold sp_pl2 at h
    rw [List.flatMap_eq_nil_iff] at h
    exact h4 (h x hm)
def tRw : Nat → Nat → Bool := fun c i => Nat.beq c 111 || Nat.beq c 112 || Nat.beq c 120 || Nat.beq c 121 || Nat.beq c 122 || (Nat.beq c 107 && (Nat.beq i 12 || Nat.beq i 13 || Nat.beq i 26 || Nat.beq i 27))
theorem r_row {X : Nat × (Nat → Int)} {D : List (Nat × Nat)} {I J : Nat → Nat → Int} {ρ : Nat → Nat → Option Nat} (d : Nat) {B k : Int} (hk : -2147483648 ≤ k ∧ k < 2147483648) (hbg : -2147483648 ≤ I 107 27 ∧ I 107 27 < 2147483648) (hB : B + 480300 ≤ 300000000) (h0 : I 108 0 ≤ 190) (hok : r_ok (I 108) B) (hwf : sp_wfS (I 108)) : am_E X (d + 12) 200 0 [(0, .inr (.inr (.inl (some 107)))), (1, .inl k)] [] (am_mm D I J ρ) (fun r => ∃ Q, r = (some (.inl (sp_row5 (I 108) k)), am_mm D (am_wp tW I Q) J ρ) ∧ (-2147483648 ≤ Q 107 27 ∧ Q 107 27 < 2147483648)) := by
  have hok2 := hok
  obtain ⟨o0, oG, oH, oD, o19, o20, o21, o22, o23, o24, oK, oV, oP, oM, oS, oY, oHd, oT, oC, oN⟩ := hok
  have hok := hok2
  have opb := sp_ops_b hok
  have opp : am_pop (sp_open (I 108)) = sp_ops (I 108) := sp_open_pop hok
  refine am_e_ss 3 (q := (3, [(0, .inr (.inr (.inl (some 107)))), (1, .inl k)], [.inl 4, .inl 0, .inl k], (am_mm D I J ρ))) rfl ?_
  refine am_e_static (Q := fun r => r = (some (.inl ((am_bi (0 ≤ k ∧ k ≤ 4)))), (am_mm D I J ρ))) rfl (Nat.le_of_ble_eq_true rfl) rfl (Nat.le_of_ble_eq_true rfl) (Nat.le_of_ble_eq_true rfl) (r_in _ ⟨by omega, by omega⟩ ⟨by omega, by omega⟩ ⟨by omega, by omega⟩) ?_
  rintro r rfl
  show am_E _ _ _ 6 [(0, .inr (.inr (.inl (some 107)))), (1, .inl k)] [.inl ((am_bi (0 ≤ k ∧ k ≤ 4)))] (am_mm D I J ρ) _
  refine am_e_ifne rfl (fun h1 => ?_) (fun h1 => ?_)
  · show am_E _ _ _ 11 [(0, .inr (.inr (.inl (some 107)))), (1, .inl k)] [] (am_mm D I J ρ) _
    refine am_e_ss 1 (q := (12, [(0, .inr (.inr (.inl (some 107)))), (1, .inl k)], [.inr (.inr (.inl (some 107)))], (am_mm D I J ρ))) rfl ?_
    refine am_e_virtual (Q := fun r => r = (some (.inl ((sp_open (I 108)))), (am_mm D I J ρ))) rfl rfl (Nat.le_of_ble_eq_true rfl) rfl rfl (Nat.le_of_ble_eq_true rfl) (Nat.le_of_ble_eq_true rfl) (r_openBooks _ (B := B) hok) ?_
    rintro r rfl
    show am_E _ _ _ 15 [(0, .inr (.inr (.inl (some 107)))), (1, .inl k)] [.inl ((sp_open (I 108)))] (am_mm D I J ρ) _
    refine am_e_static (Q := fun r => r = (some (.inl ((am_pop (sp_open (I 108))))), (am_mm D I J ρ))) rfl (Nat.le_of_ble_eq_true rfl) rfl (Nat.le_of_ble_eq_true rfl) (Nat.le_of_ble_eq_true rfl) (r_count1 _) ?_
    rintro r rfl
    show am_E _ _ _ 18 [(0, .inr (.inr (.inl (some 107)))), (1, .inl k)] [.inl ((am_pop (sp_open (I 108))))] (am_mm D I J ρ) _
    refine am_e_ss 1 (q := (19, [(0, .inr (.inr (.inl (some 107)))), (1, .inl k)], [.inl 5, .inl ((am_pop (sp_open (I 108))))], (am_mm D I J ρ))) rfl ?_
    refine am_e_icmp2 rfl ⟨by omega, by omega⟩ ⟨by omega, by omega⟩ (fun (h2 : (am_pop (sp_open (I 108))) ≤ 5) => ?_) (fun (h2 : ¬ ((am_pop (sp_open (I 108))) ≤ 5)) => ?_)
    · show am_E _ _ _ 25 [(0, .inr (.inr (.inl (some 107)))), (1, .inl k)] [] (am_mm D I J ρ) _
      refine am_e_ss 5 (q := (32, [(0, .inr (.inr (.inl (some 107)))), (1, .inl k)], [.inl 0, .inr (.inr (.inl (some 107)))], (am_mm D (am_up I 107 26 (-1)) J ρ))) rfl ?_
      refine am_e_virtual (Q := fun r => ∃ Q82, r = (none, (am_mm D (am_wp tW (am_up I 107 26 (-1)) Q82) J ρ)) ∧ r_rt Q82 (sp_rowt (I 108)) ∧ r_kp (am_up I 107 26 (-1)) Q82 0) rfl rfl (Nat.le_of_ble_eq_true rfl) rfl rfl (Nat.le_of_ble_eq_true rfl) (Nat.le_of_ble_eq_true rfl) (r_rf6 _ (sp_ops (I 108)).toNat (by omega) (am_up I 107 26 (-1)) [] 0 (-1, 0, []) ⟨⟨hok, hwf, h0, hB⟩, ⟨rfl, rfl, by omega, by (show sp_ops (I 108) = _); omega⟩, (fun x hx => by simp at hx), am_rowl_nil, ⟨rfl, Or.inl rfl, ⟨by show (-1 : Int) ≤ -1; omega, by show (-1 : Int) ≤ 6; omega⟩, hbg⟩⟩) ?_
      rintro r ⟨Q82, rfl, ⟨hrt9, hkp9⟩⟩
      show am_E _ _ _ 35 [(0, .inr (.inr (.inl (some 107)))), (1, .inl k)] [] (am_mm D (am_wp tW (am_up I 107 26 (-1)) Q82) J ρ) _
      refine am_e_ss 3 (q := (40, [(0, .inr (.inr (.inl (some 107)))), (1, .inl k)], [.inl k, .inr (.inr (.inl (some 122)))], (am_mm D (am_wp tW (am_up I 107 26 (-1)) Q82) J ρ))) rfl ?_
      refine am_e_iaload (m := 6) rfl rfl (by omega) (by omega) (by omega) ?_
      show am_E _ _ _ 41 [(0, .inr (.inr (.inl (some 107)))), (1, .inl k)] [.inl ((Q82 122 (k).toNat))] (am_mm D (am_wp tW (am_up I 107 26 (-1)) Q82) J ρ) _
      refine am_e_ireturn rfl rfl ?_
      have er : sp_row5 (I 108) k = Q82 122 k.toNat := by
        unfold sp_row5
        rw [if_neg (by omega), if_neg (by omega)]
        have hne : ¬ (sp_rowt (I 108)).1 = -1 := sp_r1_pos hok hwf h0 (fun q hq => ⟨by have := (sp_pl2_mem _ hq).1; rw [List.length_nil] at this; omega, fun x hx => by rcases (sp_pl2_mem _ hq).2 x hx with h | h; simp at h; omega⟩) (Or.inr (sp_pl2_ne hok hwf h0 _ (by rw [List.length_nil]; omega) (fun x hx => by simp at hx) (by show sp_ops (I 108) = _; omega))) (by show (-1 : Int) ≤ -1; omega)
        rcases hrt9.2.1 with h | h
        · exact absurd h hne
        · have := h.2 k.toNat (by omega)
          rw [this, show ((k.toNat : Nat) : Int) = k by omega]
      rw [er]
      exact ⟨_, am_r_wp tW (am_k_wp am_k_sub (am_k_up rfl (am_k_id))), hrt9.2.2.2⟩
    · show am_E _ _ _ 22 [(0, .inr (.inr (.inl (some 107)))), (1, .inl k)] [] (am_mm D I J ρ) _
      refine am_e_ss 1 (q := (24, [(0, .inr (.inr (.inl (some 107)))), (1, .inl k)], [.inl (-9)], (am_mm D I J ρ))) rfl ?_
      refine am_e_ireturn rfl rfl ?_
      have er : sp_row5 (I 108) k = (-9) := by
        unfold sp_row5
        (repeat' split) <;> first | rfl | (exfalso; omega)
      rw [er]
      exact ⟨I, am_r_wp tW am_k_id, hbg⟩
  · show am_E _ _ _ 9 [(0, .inr (.inr (.inl (some 107)))), (1, .inl k)] [] (am_mm D I J ρ) _
    refine am_e_ss 1 (q := (10, [(0, .inr (.inr (.inl (some 107)))), (1, .inl k)], [.inl (-1)], (am_mm D I J ρ))) rfl ?_
    refine am_e_ireturn rfl rfl ?_
    have er : sp_row5 (I 108) k = (-1) := by
      unfold sp_row5
      (repeat' split) <;> first | rfl | (exfalso; omega)
    rw [er]
    exact ⟨I, am_r_wp tW am_k_id, hbg⟩
