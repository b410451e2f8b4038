/-! THE CLASS: member -/
section
variable {D E : List (Nat × Nat)} {I K : Nat → Nat → Int} {ρ ρ' : Nat → Nat → Option Nat} {S S' T : Nat → Int} {B : Int}
theorem c_hall_34 (hok : r_ok T B) (h : c_hall D I ρ 34 T) (hk : ∀ c i, c_fy c → K c i = I c i) (hr : ∀ k j, k ≠ 4 → k ≠ 71 → ρ' k j = ρ k j) : c_hall D K ρ' 34 T := by
  have h19 := r_ok_19 hok
  obtain ⟨⟨a1, a2, a3, a4, a5⟩, ⟨b1, b2, b3, b4⟩, ⟨d1, d2⟩, e1, f1, g1, c, i1, ⟨i2, i3, i4, cs, i5, i6⟩⟩ := h
  have hf : ∀ c, 34 ≤ c → c < 69 → ∀ j, K c j = I c j := fun c h1 h2 j => hk c j (by unfold c_fy; omega)
  refine ⟨⟨?_, ?_, ?_, ?_, ?_⟩, ⟨?_, ?_, ?_, ?_⟩, ⟨?_, ?_⟩, ?_, ?_, ?_, c, (hr _ _ (by omega) (by omega)).trans i1, c_clk_cg i2 (fun j => hr c j (by omega) (by omega)), i3, (hk c 0 (by unfold c_fy; omega)).trans i4, cs, c_cs_cg i5 (fun j i hj => hk _ _ (by unfold c_fy; omega)), i6⟩
  · exact (hf _ (by omega) (by omega) _).trans a1
  · exact (hf _ (by omega) (by omega) _).trans a2
  · exact (hf _ (by omega) (by omega) _).trans a3
  · exact (hf _ (by omega) (by omega) _).trans a4
  · exact (hf _ (by omega) (by omega) _).trans a5
  · exact (hf _ (by omega) (by omega) _).trans b1
  · exact (hf _ (by omega) (by omega) _).trans b2
  · exact (hf _ (by omega) (by omega) _).trans b3
  · exact fun m hm => (hf _ (by omega) (by omega) _).trans (b4 m hm)
  · exact fun i hi => (hf _ (by omega) (by omega) _).trans (d1 i hi)
  · exact fun i hi => (hf _ (by omega) (by omega) _).trans (d2 i hi)
  · exact fun b hb => ⟨(hf _ (by omega) (by omega) _).trans (e1 b hb).1, (hf _ (by omega) (by omega) _).trans (e1 b hb).2.1, (hf _ (by omega) (by omega) _).trans (e1 b hb).2.2.1, (hf _ (by omega) (by omega) _).trans (e1 b hb).2.2.2⟩
  · exact fun m b hm hb => ⟨(hf _ (by omega) (by omega) _).trans (f1 m b hm hb).1, (hf _ (by omega) (by omega) _).trans (f1 m b hm hb).2⟩
  · intro m hm
    obtain ⟨k, j1, j2, j3, j4, j5, j6⟩ := g1 m hm
    have hx : ∀ j, K k j = I k j := fun j => hk k j (by unfold c_fy; omega)
    exact ⟨k, (hr _ _ (by omega) (by omega)).trans j1, j2, j3, (hx 0).trans j4, (hx 1).trans j5, (hx 2).trans j6⟩
/-- the relation where a cell more is there -/
theorem c_rel_new {hi ran : Int} {row : Nat → Int} (hok : r_ok S B) (hokT : hi = 1 → r_ok T B) (h : c_rel D I ρ S T hi ran row) (hk : ∀ c j, c < 124 + D.length → K c j = I c j) (hr : ∀ k j, k < 124 + D.length → ρ' k j = ρ k j) : c_rel (D ++ E) K ρ' S T hi ran row := by
  obtain ⟨h1, ⟨h2, h3⟩, ⟨h4, h5⟩, h6, c, s1, s2, s3, s4, s5⟩ := h
  refine ⟨c_hall_new hok (Or.inl rfl) h1 hk hr, ⟨(hk 0 8 (by omega)).trans h2, fun e => c_hall_new (hokT e) (Or.inr rfl) (h3 e) hk hr⟩, ⟨(hk 99 0 (by omega)).trans h4, fun i hi hr2 => (hk 99 _ (by omega)).trans (h5 i hi hr2)⟩, ?_, c, (hr 0 7 (by omega)).trans s1, c_clk_new s2 hr, s3, ?_, ?_⟩
  · intro a m ha hm
    obtain ⟨k, c, g1, g2, g3⟩ := h6 a m ha hm
    exact ⟨k, c, (hr a m (by omega)).trans g1, am_old_at g2, g3⟩
  · intro e he
    rw [hr 1 5 (by omega), hr 35 5 (by omega)] at he
    exact s4 e he
  · intro a m k ha hm hk2
    rw [hr a m (by omega)] at hk2
    exact s5 a m k ha hm hk2
/-- the relation behind a new member -/
theorem c_rel_m {hi ran : Int} {row : Nat → Int} {n N c0 : Nat} (hokT : hi = 1 → r_ok T B) (h : c_rel D I ρ S T hi ran row) (hk : ∀ c i, c_fy c → K c i = I c i) (hr : ρ' = am_up ρ 4 n (some N)) (hN : (am_S ++ D)[N]? = some (c0, 3)) (hm0 : am_mem c0 = true) (hlast : ∀ c, ρ 0 7 = some c → c + 5 ≤ N) (hh : c_hall D K ρ' 0 S') : c_rel D K ρ' S' T hi ran row := by
  obtain ⟨h1, ⟨h2, h3⟩, ⟨h4, h5⟩, h6, c, s1, s2, s3, s4, s5⟩ := h
  have hro : ∀ k j, k ≠ 4 → ρ' k j = ρ k j := fun k j e => by rw [hr]; exact if_neg (by omega)
  have h4s : ∀ m, ρ' 4 m = some N ∨ ρ' 4 m = ρ 4 m := by
    intro m
    by_cases e : m = n
    · rw [hr, e]; exact Or.inl (if_pos ⟨rfl, rfl⟩)
    · rw [hr]; exact Or.inr (if_neg (by omega))
  refine ⟨hh, ⟨(hk 0 8 (Or.inl rfl)).trans h2, fun e => c_hall_34 (hokT e) (h3 e) hk (fun k j e _ => hro k j e)⟩, ⟨(hk 99 0 (by unfold c_fy; omega)).trans h4, fun i hi hr2 => (hk 99 _ (by unfold c_fy; omega)).trans (h5 i hi hr2)⟩, ?_, c, (hro 0 7 (by omega)).trans s1, c_clk_cg s2 (fun j => hro c j (by omega)), s3, ?_, ?_⟩
  · intro a m ha hm
    by_cases e : a = 4
    · subst e
      rcases h4s m with h | h
      · exact ⟨N, c0, h, hN, hm0⟩
      · rw [h]; exact h6 4 m ha hm
    · rw [hro a m e]; exact h6 a m ha hm
  · intro e he
    rw [hro 1 5 (by omega), hro 35 5 (by omega)] at he
    exact s4 e he
  · intro a m k ha hm hk2
    by_cases e : a = 4
    · subst e
      rcases h4s m with h | h
      · rw [h] at hk2
        have : N = k := Option.some.inj hk2
        have := hlast c s1
        omega
      · rw [h] at hk2; exact s5 4 m k ha hm hk2
    · rw [hro a m e] at hk2; exact s5 a m k ha hm hk2
end
theorem c_enter {X : Nat × (Nat → Int)} {D : List (Nat × Nat)} {I J : Nat → Nat → Int} {ρ : Nat → Nat → Option Nat} (d : Nat) {n : Nat} {p : Nat → Bool} (hn : n < 6) (hp : I 2 1 = am_bits p 6) : am_E X d 53 0 [(0, .inr (.inr (.inl (some 2)))), (1, .inl (n : Int))] [] (am_mm D I J ρ) (fun r => r = (none, am_mm D (am_up (am_up I 3 n 0) 2 1 (am_bits (fun x => if x = n then true else p x) 6)) J ρ)) := by
  refine am_e_ss 4 (q := (6, [(0, .inr (.inr (.inl (some 2)))), (1, .inl (n : Int))], [.inl 0, .inl (n : Int), .inr (.inr (.inl (some 3)))], (am_mm D I J ρ))) rfl ?_
  refine am_e_iastore (m := 6) rfl rfl (by omega) (by omega) (by omega) ?_
  show am_E _ _ _ 7 [(0, .inr (.inr (.inl (some 2)))), (1, .inl (n : Int))] [] (am_mm D (am_up I 3 n 0) J ρ) _
  refine am_e_ss 8 (q := (19, [(0, .inr (.inr (.inl (some 2)))), (1, .inl (n : Int))], [], (am_mm D (am_up (am_up I 3 n 0) 2 1 (Int32.ofInt (I 2 1) ||| Int32.ofInt (Int32.ofInt 1 <<< (Int32.ofInt (n : Int) &&& 31)).toInt).toInt) J ρ))) rfl ?_
  refine am_e_return rfl rfl ?_
  have ew : (Int32.ofInt (I 2 1) ||| Int32.ofInt (Int32.ofInt 1 <<< (Int32.ofInt (n : Int) &&& 31)).toInt).toInt = am_bits (fun x => if x = n then true else p x) 6 := by
    rw [hp]
    refine (am_bits_set p n hn).trans (am_bits_cg 6 (fun x _ => ?_))
    by_cases e : x = n
    · subst e; rw [if_pos rfl]; simp
    · rw [if_neg e]; simp [e]
  rw [ew]
theorem c_enterI {X : Nat × (Nat → Int)} {D : List (Nat × Nat)} {I J : Nat → Nat → Int} {ρ : Nat → Nat → Option Nat} (d : Nat) {z : Int} {n : Nat} {p : Nat → Bool} (hz : z = (n : Int)) (hn : n < 6) (hp : I 2 1 = am_bits p 6) : am_E X d 53 0 [(0, .inr (.inr (.inl (some 2)))), (1, .inl z)] [] (am_mm D I J ρ) (fun r => r = (none, am_mm D (am_up (am_up I 3 n 0) 2 1 (am_bits (fun x => if x = n then true else p x) 6)) J ρ)) := by
  subst hz
  exact c_enter d hn hp
theorem c_addM {X : Nat × (Nat → Int)} {D : List (Nat × Nat)} {I J : Nat → Nat → Int} {ρ : Nat → Nat → Option Nat} (d : Nat) {S : Nat → Int} {B : Int} (hok : r_ok S B) (hwf : sp_wfS S) (hh : c_hall D I ρ 0 S) {n N : Nat} {kd v : Int} (hn : S 19 = (n : Int)) (hn6 : n < 6) (hkd : 0 ≤ kd ∧ kd ≤ 6) (hv : 0 ≤ v ∧ v ≤ 9) (hN : 124 ≤ N) (hNk : (am_S ++ D)[N]? = some (am_kc kd.toNat, 3)) (hNm : am_mem (am_kc kd.toNat) = true) (hN0 : I N 0 = kd) (hN1 : I N 1 = (n : Int)) (hN2 : I N 2 = v) : am_E X (d + 5) 26 0 [(0, .inr (.inr (.inl (some 1)))), (1, .inr (.inr (.inl (some N))))] [] (am_mm D I J ρ) (fun z => ∃ K ρ2, z = (none, am_mm D K J ρ2) ∧ (∀ c j, c_fz c → K c j = I c j) ∧ ρ2 = am_up ρ 4 n (some N) ∧ c_hall D K ρ2 0 (sp_mb S n kd v)) := by
  have hh0 := hh
  obtain ⟨⟨h12, h14, h16, h18, h110⟩, ⟨hr0, hhr, hhd, hgl⟩, ⟨htp, hhn⟩, hbk, hlo, hmem, c, hρc, ⟨hsc0, hcc, hc0, hcs⟩⟩ := hh
  have hsc : (am_S ++ D)[c]? = some (1, 10) := hsc0.1.1
  have h12 : I 1 2 = S 19 := h12
  have h14 : I 1 4 = S 20 := h14
  have h16 : I 1 6 = S 21 := h16
  have h18 : I 1 8 = S 23 := h18
  have h110 : I 1 10 = S 22 := h110
  have hr0 : I 2 0 = S 0 := hr0
  have hhr : I 2 1 = am_bits (sp_hp S) 6 := hhr
  have hhd : I 2 2 = am_bits (sp_dp S) 6 := hhd
  have hgl : ∀ m, m < (S 19).toNat → I 3 m = S (1 + m) := hgl
  have htp : ∀ i, i < (S 23).toNat → I 17 i = S (68 + i) := htp
  have hhn : ∀ i, i < (S 22).toNat → I 18 i = S (62 + i) := hhn
  have hbk : ∀ b, b < (S 20).toNat → I (6 + b) 0 = S (38 + b) ∧ I (6 + b) 1 = S (44 + b) ∧ I (6 + b) 2 = S (50 + b) ∧ I (6 + b) 3 = S (56 + b) := hbk
  have hlo : ∀ m b : Nat, m < (S 19).toNat → b < (S 20).toNat → I (20 + m) b = sp_like S m b ∧ I (27 + m) b = sp_odds S m b := hlo
  have hmem : c_mems D I ρ 4 S := hmem
  have hρc : ρ 1 5 = some c := hρc
  have hh := hh0
  have h19 := r_ok_19 hok
  have hokx := hok
  obtain ⟨o0, oG, oH, oD, o19, o20, o21, o22, o23, o24, oK, oV, oP, oM, oS, oY, oHd, oT, oC, oN⟩ := hok
  have hok := hokx
  refine am_e_ss 5 (q := (9, [(0, .inr (.inr (.inl (some 1)))), (1, .inr (.inr (.inl (some N))))], [.inr (.inr (.inl (some N))), .inl ((I 1 2)), .inr (.inr (.inl (some 4)))], (am_mm D I J ρ))) rfl ?_
  refine am_e_aastR (m := 6) rfl rfl hNk hNm (by omega) (by omega) (by omega) rfl ?_
  show am_E _ _ _ 10 [(0, .inr (.inr (.inl (some 1)))), (1, .inr (.inr (.inl (some N))))] [] (am_mm D I J (am_up ρ 4 ((I 1 2)).toNat (some N))) _
  refine am_e_ss 4 (q := (18, [(0, .inr (.inr (.inl (some 1)))), (1, .inr (.inr (.inl (some N))))], [.inl ((I 1 2)), .inr (.inr (.inl (some 2)))], (am_mm D I J (am_up ρ 4 ((I 1 2)).toNat (some N))))) rfl ?_
  refine am_e_virtual (Q := fun r => r = (none, (am_mm D (am_up (am_up I 3 n 0) 2 1 (am_bits (fun x => if x = n then true else sp_hp S x) 6)) J (am_up ρ 4 ((I 1 2)).toNat (some N))))) rfl rfl (Nat.le_of_ble_eq_true rfl) rfl rfl (Nat.le_of_ble_eq_true rfl) (Nat.le_of_ble_eq_true rfl) (c_enterI _ (n := n) (p := sp_hp S) (by omega) hn6 hhr) ?_
  rintro r rfl
  show am_E _ _ _ 21 [(0, .inr (.inr (.inl (some 1)))), (1, .inr (.inr (.inl (some N))))] [] (am_mm D (am_up (am_up I 3 n 0) 2 1 (am_bits (fun x => if x = n then true else sp_hp S x) 6)) J (am_up ρ 4 ((I 1 2)).toNat (some N))) _
  refine am_e_ss 6 (q := (31, [(0, .inr (.inr (.inl (some 1)))), (1, .inr (.inr (.inl (some N))))], [], (am_mm D (am_up (am_up (am_up I 3 n 0) 2 1 (am_bits (fun x => if x = n then true else sp_hp S x) 6)) 1 2 ((I 1 2) + 1)) J (am_up ρ 4 ((I 1 2)).toNat (some N))))) rfl ?_
  have en : (I 1 2).toNat = n := by omega
  have hM : ∀ c j, ¬ (c = 2 ∧ j = 1) → ¬ (c = 3 ∧ j = n) → ¬ (c = 1 ∧ j = 2) → (am_up (am_up (am_up I 3 n 0) 2 1 (am_bits (fun x => if x = n then true else sp_hp S x) 6)) 1 2 ((I 1 2) + 1)) c j = I c j := fun c j h1 h2 h3 => (if_neg h3).trans ((if_neg h1).trans (if_neg h2))
  have g12 : (am_up (am_up (am_up I 3 n 0) 2 1 (am_bits (fun x => if x = n then true else sp_hp S x) 6)) 1 2 ((I 1 2) + 1)) 1 2 = (n : Int) + 1 := by
    show I 1 2 + 1 = _
    omega
  have g21 : (am_up (am_up (am_up I 3 n 0) 2 1 (am_bits (fun x => if x = n then true else sp_hp S x) 6)) 1 2 ((I 1 2) + 1)) 2 1 = am_bits (fun x => if x = n then true else sp_hp S x) 6 := rfl
  have g3 : (am_up (am_up (am_up I 3 n 0) 2 1 (am_bits (fun x => if x = n then true else sp_hp S x) 6)) 1 2 ((I 1 2) + 1)) 3 n = 0 := (if_neg (by omega)).trans ((if_neg (by omega)).trans (if_pos ⟨rfl, rfl⟩))
  have hr1 : (am_up ρ 4 ((I 1 2)).toNat (some N)) = am_up ρ 4 n (some N) := by rw [en]
  have gN : ∀ j, (am_up (am_up (am_up I 3 n 0) 2 1 (am_bits (fun x => if x = n then true else sp_hp S x) 6)) 1 2 ((I 1 2) + 1)) N j = I N j := fun j => hM N j (by omega) (by omega) (by omega)
  have hmbh := fun K => c_mb_hall (K := K) (ρ' := am_up ρ 4 ((I 1 2)).toNat (some N)) (kd := kd) (v := v) hok hn hn6 hkd hh hM g12 g21 g3 (by rw [hr1]; exact if_pos ⟨rfl, rfl⟩) (fun k j h => by rw [hr1]; exact if_neg h) hN hNk ((gN 0).trans hN0) ((gN 1).trans hN1) ((gN 2).trans hN2)
  have hok2 := sp_mb_ok (n := n) hok hn6 hkd hv
  refine am_e_ss 1 (q := (32, [(0, .inr (.inr (.inl (some 1)))), (1, .inr (.inr (.inl (some N))))], [.inr (.inr (.inl (some 1)))], (am_mm D (am_up (am_up (am_up I 3 n 0) 2 1 (am_bits (fun x => if x = n then true else sp_hp S x) 6)) 1 2 ((I 1 2) + 1)) J (am_up ρ 4 ((I 1 2)).toNat (some N))))) rfl ?_
  refine am_e_virtual (Q := fun r => ∃ Q272, r = (none, (am_mm D Q272 J (am_up ρ 4 ((I 1 2)).toNat (some N)))) ∧ (∀ c j, c_lor c → Q272 c j = (am_up (am_up (am_up I 3 n 0) 2 1 (am_bits (fun x => if x = n then true else sp_hp S x) 6)) 1 2 ((I 1 2) + 1)) c j) ∧ c_lo Q272 0 (sp_mb S n kd v)) rfl rfl (Nat.le_of_ble_eq_true rfl) rfl rfl (Nat.le_of_ble_eq_true rfl) (Nat.le_of_ble_eq_true rfl) (c_ma _ (S := sp_mb S n kd v) hok2 (hmbh I).1) ?_
  rintro r ⟨Q272, rfl, ⟨hk1, hk2⟩⟩
  show am_E _ _ _ 35 [(0, .inr (.inr (.inl (some 1)))), (1, .inr (.inr (.inl (some N))))] [] (am_mm D Q272 J (am_up ρ 4 ((I 1 2)).toNat (some N))) _
  refine am_e_return rfl rfl ?_
  refine ⟨Q272, _, rfl, fun c j h => ?_, hr1, (hmbh Q272).2 hk1 hk2⟩
  exact (hk1 c j (by unfold c_lor; unfold c_fz c_fy at h; omega)).trans (hM c j (by unfold c_fz c_fy at h; omega) (by unfold c_fz c_fy at h; omega) (by unfold c_fz c_fy at h; omega))
