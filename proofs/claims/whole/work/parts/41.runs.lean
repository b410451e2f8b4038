/-! THE REFERENCE: rows of months -/
theorem sp_open_b {S : Nat → Int} {B : Int} (hok : r_ok S B) : 0 ≤ sp_open S ∧ sp_open S < 64 := by
  have h19 := (r_ok_19 hok).2
  have opl := am_bits_lt (fun b => decide (S (13 + b) = 0)) (S 20).toNat
  have opl2 : sp_open S < 2 ^ (S 20).toNat := opl.2
  have opl3 : 0 ≤ sp_open S := opl.1
  have opl4 : (2 : Int) ^ (S 20).toNat ≤ 64 := by
    have h : (S 20).toNat = 0 ∨ (S 20).toNat = 1 ∨ (S 20).toNat = 2 ∨ (S 20).toNat = 3 ∨ (S 20).toNat = 4 ∨ (S 20).toNat = 5 ∨ (S 20).toNat = 6 := by omega
    rcases h with h | h | h | h | h | h | h <;> rw [h] <;> decide
  omega
def sp_rn (way : Int) : Nat → (Nat → Int) × Int → (Nat → Int) × Int
  | 0, s => s
  | n + 1, s => if sp_ops s.1 = 0 then s else sp_rn way n (sp_go s.1 (sp_c0 s.1 way), s.2 + sp_cmc s.1 (sp_c0 s.1 way) (s.1 19).toNat)
theorem sp_c0_b {S : Nat → Int} {B way : Int} (hok : r_ok S B) (ho : ¬ sp_ops S = 0) : 0 ≤ sp_c0 S way ∧ sp_c0 S way < S 20 := sp_cho_b (way := way) hok (sp_vl_vl (t := 0) hok) ho
theorem sp_rn_ok {way : Int} : ∀ (n : Nat) {S : Nat → Int} {B c : Int}, r_ok S B → sp_wfS S → S 0 + (n : Int) ≤ 200 → r_ok (sp_rn way n (S, c)).1 (B + 80050 * (n : Int)) ∧ sp_al S (sp_rn way n (S, c)).1 := by
  intro n
  induction n with
  | zero => intro S B c hok _ _; exact ⟨r_ok_mono hok (by omega), sp_al_r⟩
  | succ n ih =>
    intro S B c hok hwf h0
    unfold sp_rn
    have h20 := (r_ok_19 hok).2
    split
    · exact ⟨r_ok_mono hok (by omega), sp_al_r⟩
    · rename_i ho
      have ho : ¬ sp_ops S = 0 := ho
      have cb := sp_c0_b (way := way) hok ho
      have ga := sp_go_al (b := sp_c0 S way) hok ⟨cb.1, by omega⟩
      have h := ih (S := sp_go S (sp_c0 S way)) (B := B + 80050) (c := c + sp_cmc S (sp_c0 S way) (S 19).toNat) (sp_go_ok hok hwf ⟨cb.1, by omega⟩ (by omega)) (sp_wfS_cg ga (r_ok_24 hok) hwf) (by rw [sp_go_0]; omega)
      exact ⟨r_ok_mono h.1 (by omega), sp_al_t ga h.2⟩
def tR : Nat → Nat → Bool := fun c i => Nat.beq c 108 || Nat.beq c 111 || Nat.beq c 112 || Nat.beq c 113 || Nat.beq c 114 || Nat.beq c 115 || Nat.beq c 116 || Nat.beq c 117 || Nat.beq c 118 || (Nat.beq c 107 && (Nat.beq i 12 || Nat.beq i 13 || Nat.beq i 20 || Nat.beq i 25))
theorem tV_tR : ∀ c i, tV c i = true → tR c i = true := by
  intro c i
  unfold tV tR
  simp
  omega
theorem tC_tR : ∀ c i, tC c i = true → tR c i = true := by
  intro c i
  unfold tC tR
  simp
  omega
theorem tG_tR : ∀ c i, tG c i = true → tR c i = true := by
  intro c i
  unfold tG tR
  simp
  omega
theorem tLL_tR : ∀ c i, tLL c i = true → tR c i = true := by
  intro c i
  unfold tLL tR
  simp
  omega
theorem tL_tR : ∀ c i, tL c i = true → tR c i = true := by
  intro c i
  unfold tL tR
  simp
  omega
theorem r_runs_l {X : Nat × (Nat → Int)} {D : List (Nat × Nat)} {I J : Nat → Nat → Int} {ρ : Nat → Nat → Option Nat} (d : Nat) {B way n : Int} {k nn : Nat} (hw : 0 ≤ way ∧ way ≤ 5) (hn : n = (k : Int) + (nn : Int) ∧ n ≤ 6) (hB : B + 80050 * (nn : Int) ≤ 1900000000) (h0 : I 108 0 + (nn : Int) ≤ 200) (hl : r_lks (I 108) (I 113)) (hok : r_ok (I 108) B) (hwf : sp_wfS (I 108)) : am_E X (d + 6) 193 11 [(3, .inl (k : Int)), (2, .inl way), (1, .inl n), (0, .inr (.inr (.inl (some 107))))] [] (am_mm D I J ρ) (fun r => ∃ Q, r = (none, am_mm D (am_wp tR I Q) J ρ) ∧ (Q 108, Q 107 25) = sp_rn way nn (I 108, I 107 25)) := by
  have hok2 := hok
  obtain ⟨o0, oG, oH, oD, o19, o20, o21, o22, o23, o24, oK, oV, oP, oM, oS, oY, oHd, oT, oC, oN⟩ := hok
  have hok := hok2
  have op0 := sp_open_0 (S := I 108)
  have opl := sp_open_b hok
  have h24 := r_ok_24 hok
  refine am_e_ss 2 (q := (13, [(3, .inl (k : Int)), (2, .inl way), (1, .inl n), (0, .inr (.inr (.inl (some 107))))], [.inl n, .inl (k : Int)], (am_mm D I J ρ))) rfl ?_
  refine am_e_icmp2 rfl ⟨by omega, by omega⟩ ⟨by omega, by omega⟩ (fun (h1 : n ≤ (k : Int)) => ?_) (fun (h1 : ¬ (n ≤ (k : Int))) => ?_)
  · show am_E _ _ _ 48 [(3, .inl (k : Int)), (2, .inl way), (1, .inl n), (0, .inr (.inr (.inl (some 107))))] [] (am_mm D I J ρ) _
    refine am_e_return rfl rfl ?_
    refine ⟨I, am_r_wp tR am_k_id, ?_⟩
    cases nn with
    | zero => rfl
    | succ n' => exact (if_pos (by show sp_ops (I 108) = 0; omega)).symm
  · show am_E _ _ _ 16 [(3, .inl (k : Int)), (2, .inl way), (1, .inl n), (0, .inr (.inr (.inl (some 107))))] [] (am_mm D I J ρ) _
    refine am_e_ss 1 (q := (17, [(3, .inl (k : Int)), (2, .inl way), (1, .inl n), (0, .inr (.inr (.inl (some 107))))], [.inr (.inr (.inl (some 107)))], (am_mm D I J ρ))) rfl ?_
    refine am_e_virtual (Q := fun r => r = (some (.inl ((sp_open (I 108)))), (am_mm D I J ρ))) rfl rfl (Nat.le_of_ble_eq_true rfl) rfl rfl (Nat.le_of_ble_eq_true rfl) (Nat.le_of_ble_eq_true rfl) (r_openBooks _ (B := B) hok) ?_
    rintro r rfl
    show am_E _ _ _ 20 [(3, .inl (k : Int)), (2, .inl way), (1, .inl n), (0, .inr (.inr (.inl (some 107))))] [.inl ((sp_open (I 108)))] (am_mm D I J ρ) _
    refine am_e_if2 rfl ⟨by omega, by omega⟩ (fun (h2 : (sp_open (I 108)) = 0) => ?_) (fun (h2 : ¬ ((sp_open (I 108)) = 0)) => ?_)
    · show am_E _ _ _ 48 [(3, .inl (k : Int)), (2, .inl way), (1, .inl n), (0, .inr (.inr (.inl (some 107))))] [] (am_mm D I J ρ) _
      refine am_e_return rfl rfl ?_
      refine ⟨I, am_r_wp tR am_k_id, ?_⟩
      cases nn with
      | zero => rfl
      | succ n' => exact (if_pos (by show sp_ops (I 108) = 0; omega)).symm
    · show am_E _ _ _ 23 [(3, .inl (k : Int)), (2, .inl way), (1, .inl n), (0, .inr (.inr (.inl (some 107))))] [] (am_mm D I J ρ) _
      refine am_e_ss 7 (q := (32, [(3, .inl (k : Int)), (2, .inl way), (1, .inl n), (0, .inr (.inr (.inl (some 107))))], [.inl 0, .inl way, .inr (.inr (.inl (some 107))), .inr (.inr (.inl (some 107))), .inl ((I 107 25)), .inr (.inr (.inl (some 107)))], (am_mm D I J ρ))) rfl ?_
      refine am_e_virtual (Q := fun r => ∃ Q69, r = (some (.inl ((sp_cho (I 108) (sp_vl (I 108) 0) way))), (am_mm D (am_wp tC I Q69) J ρ)) ∧ Q69 107 20 = sp_ops (I 108) ∧ (∀ m : Nat, m < ((I 108) 19).toNat → am_rowl (Q69 114) (6 * m) (sp_ord (I 108) m)) ∧ r_rep ((I 108) 19).toNat (Q69 117) (Q69 118) (sp_vl (I 108) 0)) rfl rfl (Nat.le_of_ble_eq_true rfl) rfl rfl (Nat.le_of_ble_eq_true rfl) (Nat.le_of_ble_eq_true rfl) (r_chosenBy _ (B := B) ⟨by omega, by omega⟩ (by omega) hl hok hwf) ?_
      rintro r ⟨Q69, rfl, ⟨hop, hO, hV⟩⟩
      show am_E _ _ _ 35 [(3, .inl (k : Int)), (2, .inl way), (1, .inl n), (0, .inr (.inr (.inl (some 107))))] [.inl ((sp_cho (I 108) (sp_vl (I 108) 0) way)), .inr (.inr (.inl (some 107))), .inl ((I 107 25)), .inr (.inr (.inl (some 107)))] (am_mm D (am_wp tC I Q69) J ρ) _
      have cb := sp_c0_b (way := way) hok (by omega)
      have cb2 : 0 ≤ sp_cho (I 108) (sp_vl (I 108) 0) way ∧ sp_cho (I 108) (sp_vl (I 108) 0) way < I 108 20 := cb
      refine am_e_virtual (Q := fun r => ∃ Q70, r = (some (.inl ((sp_cmc (I 108) (sp_cho (I 108) (sp_vl (I 108) 0) way) ((I 108) 19).toNat))), (am_mm D (am_wp tG (am_wp tC I Q69) Q70) J ρ)) ∧ Q70 108 = sp_go (I 108) (sp_cho (I 108) (sp_vl (I 108) 0) way)) rfl rfl (Nat.le_of_ble_eq_true rfl) rfl rfl (Nat.le_of_ble_eq_true rfl) (Nat.le_of_ble_eq_true rfl) (r_goes _ (B := B) (b := (sp_cho (I 108) (sp_vl (I 108) 0) way)) ⟨by omega, by omega⟩ (by omega) hok hwf) ?_
      rintro r ⟨Q70, rfl, hgo⟩
      show am_E _ _ _ 38 [(3, .inl (k : Int)), (2, .inl way), (1, .inl n), (0, .inr (.inr (.inl (some 107))))] [.inl ((sp_cmc (I 108) (sp_cho (I 108) (sp_vl (I 108) 0) way) ((I 108) 19).toNat)), .inl ((I 107 25)), .inr (.inr (.inl (some 107)))] (am_mm D (am_wp tG (am_wp tC I Q69) Q70) J ρ) _
      refine am_e_ss 4 (q := (11, [(3, .inl ((k : Int) + 1)), (2, .inl way), (1, .inl n), (0, .inr (.inr (.inl (some 107))))], [], (am_mm D (am_up (am_wp tG (am_wp tC I Q69) Q70) 107 25 ((I 107 25) + (sp_cmc (I 108) (sp_cho (I 108) (sp_vl (I 108) 0) way) ((I 108) 19).toNat))) J ρ))) rfl ?_
      obtain ⟨nn', rfl⟩ : ∃ nn', nn = nn' + 1 := ⟨nn - 1, by omega⟩
      have ga := sp_go_al (b := sp_c0 (I 108) way) hok ⟨cb.1, by omega⟩
      have hok3 : r_ok ((am_up (am_wp tG (am_wp tC I Q69) Q70) 107 25 ((I 107 25) + (sp_cmc (I 108) (sp_cho (I 108) (sp_vl (I 108) 0) way) ((I 108) 19).toNat))) 108) (B + 80050) := by (show r_ok (Q70 108) _); rw [hgo]; exact sp_go_ok hok hwf ⟨cb.1, by omega⟩ (by omega)
      have hwf3 : sp_wfS ((am_up (am_wp tG (am_wp tC I Q69) Q70) 107 25 ((I 107 25) + (sp_cmc (I 108) (sp_cho (I 108) (sp_vl (I 108) 0) way) ((I 108) 19).toNat))) 108) := by (show sp_wfS (Q70 108)); rw [hgo]; exact sp_wfS_cg ga h24 hwf
      have hl3 : r_lks ((am_up (am_wp tG (am_wp tC I Q69) Q70) 107 25 ((I 107 25) + (sp_cmc (I 108) (sp_cho (I 108) (sp_vl (I 108) 0) way) ((I 108) 19).toNat))) 108) (I 113) := by (show r_lks (Q70 108) _); rw [hgo]; exact r_lks_cg ga h24 hl
      have h03 : (am_up (am_wp tG (am_wp tC I Q69) Q70) 107 25 ((I 107 25) + (sp_cmc (I 108) (sp_cho (I 108) (sp_vl (I 108) 0) way) ((I 108) 19).toNat))) 108 0 = I 108 0 + 1 := by (show Q70 108 0 = _); rw [hgo]; exact sp_go_0
      refine (am_less (lv := [(3, .inl ((k + 1) : Int)), (2, .inl way), (1, .inl n), (0, .inr (.inr (.inl (some 107))))]) rfl (List.forall_mem_cons.mpr ⟨rfl, List.forall_mem_cons.mpr ⟨rfl, List.forall_mem_cons.mpr ⟨rfl, List.forall_mem_cons.mpr ⟨rfl, List.forall_mem_nil _⟩⟩⟩⟩) (r_runs_l d (I := am_up (am_wp tG (am_wp tC I Q69) Q70) 107 25 ((I 107 25) + (sp_cmc (I 108) (sp_cho (I 108) (sp_vl (I 108) 0) way) ((I 108) 19).toNat))) (B := B + 80050) (k := k + 1) (nn := nn') hw (by omega) (by omega) (by omega) hl3 hok3 hwf3)).imp ?_
      rintro r ⟨Q9, rfl, h9⟩
      refine ⟨_, am_r_wp tR (am_k_wp am_k_sub (am_k_up rfl (am_k_wp (tG_tR) (am_k_wp (tC_tR) (am_k_id))))), ?_⟩
      rw [show sp_rn way (nn' + 1) (I 108, I 107 25) = sp_rn way nn' (sp_go (I 108) (sp_c0 (I 108) way), I 107 25 + sp_cmc (I 108) (sp_c0 (I 108) way) (I 108 19).toNat) from if_neg (by show ¬ sp_ops (I 108) = 0; omega)]
      refine h9.trans ?_
      show sp_rn way nn' (Q70 108, _) = _
      rw [hgo]
      rfl
termination_by nn
decreasing_by all_goals omega
theorem r_runs {X : Nat × (Nat → Int)} {D : List (Nat × Nat)} {I J : Nat → Nat → Int} {ρ : Nat → Nat → Option Nat} (d : Nat) {B way n : Int} (hw : 0 ≤ way ∧ way ≤ 5) (hn : 0 ≤ n ∧ n ≤ 6) (hB : B + 480300 ≤ 1900000000) (h0 : I 108 0 ≤ 190) (hok : r_ok (I 108) B) (hwf : sp_wfS (I 108)) : am_E X (d + 6) 193 0 [(0, .inr (.inr (.inl (some 107)))), (1, .inl n), (2, .inl way)] [] (am_mm D I J ρ) (fun r => ∃ Q, r = (none, am_mm D (am_wp tR I Q) J ρ) ∧ (Q 108, Q 107 25) = sp_rn way n.toNat (I 108, 0)) := by
  refine am_e_ss 1 (q := (1, [(0, .inr (.inr (.inl (some 107)))), (1, .inl n), (2, .inl way)], [.inr (.inr (.inl (some 107)))], (am_mm D I J ρ))) rfl ?_
  refine am_e_virtual (Q := fun r => ∃ Q71, r = (none, (am_mm D (am_wp tLL I Q71) J ρ)) ∧ r_lks (I 108) (Q71 113)) rfl rfl (Nat.le_of_ble_eq_true rfl) rfl rfl (Nat.le_of_ble_eq_true rfl) (Nat.le_of_ble_eq_true rfl) (r_looksForLikes _ (B := B) hok hwf) ?_
  rintro r ⟨Q71, rfl, hl⟩
  show am_E _ _ _ 4 [(0, .inr (.inr (.inl (some 107)))), (1, .inl n), (2, .inl way)] [] (am_mm D (am_wp tLL I Q71) J ρ) _
  refine am_e_ss 5 (q := (11, [(3, .inl 0), (0, .inr (.inr (.inl (some 107)))), (1, .inl n), (2, .inl way)], [], (am_mm D (am_up (am_wp tLL I Q71) 107 25 0) J ρ))) rfl ?_
  refine (am_less (lv := [(3, .inl (0 : Int)), (2, .inl way), (1, .inl n), (0, .inr (.inr (.inl (some 107))))]) rfl (List.forall_mem_cons.mpr ⟨rfl, List.forall_mem_cons.mpr ⟨rfl, List.forall_mem_cons.mpr ⟨rfl, List.forall_mem_cons.mpr ⟨rfl, List.forall_mem_nil _⟩⟩⟩⟩) (r_runs_l d (I := am_up (am_wp tLL I Q71) 107 25 0) (B := B) (k := 0) (nn := n.toNat) hw (by omega) (by omega) (show I 108 0 + _ ≤ 200 by omega) hl hok hwf)).imp ?_
  rintro r ⟨Q9, rfl, h9⟩
  exact ⟨_, am_r_wp tR (am_k_wp am_k_sub (am_k_up rfl (am_k_wp (tLL_tR) (am_k_id)))), h9⟩
/-- of how many members books are had -/
def sp_mhk (S : Nat → Int) : Nat → Int
  | 0 => 0
  | b + 1 => if S (13 + b) = 0 then sp_mhk S b else (Int32.ofInt (sp_mhk S b) ||| Int32.ofInt (Int32.ofInt 1 <<< (Int32.ofInt (S (56 + b)) &&& 31)).toInt).toInt
theorem am_or6 : ∀ y : Nat, y < 6 → ∀ a : Nat, a < 64 → 0 ≤ (Int32.ofInt (a : Int) ||| Int32.ofInt (Int32.ofInt 1 <<< (Int32.ofInt (y : Int) &&& 31)).toInt).toInt ∧ (Int32.ofInt (a : Int) ||| Int32.ofInt (Int32.ofInt 1 <<< (Int32.ofInt (y : Int) &&& 31)).toInt).toInt < 64 := by decide +kernel
theorem sp_mhk_b {S : Nat → Int} {B : Int} (hok : r_ok S B) : ∀ b, b ≤ 6 → 0 ≤ sp_mhk S b ∧ sp_mhk S b < 64 := by
  obtain ⟨o0, oG, oH, oD, o19, o20, o21, o22, o23, o24, oK, oV, oP, oM, oS, oY, oHd, oT, oC, oN⟩ := hok
  intro b
  induction b with
  | zero => intro _; exact ⟨Int.le_refl _, by show (0 : Int) < 64; omega⟩
  | succ b ih =>
    intro hb
    have h := ih (by omega)
    have y := oY b (by omega)
    unfold sp_mhk
    split
    · exact h
    · obtain ⟨a, ha⟩ : ∃ a : Nat, sp_mhk S b = (a : Int) := ⟨(sp_mhk S b).toNat, by omega⟩
      obtain ⟨z, hz⟩ : ∃ z : Nat, S (56 + b) = (z : Int) := ⟨(S (56 + b)).toNat, by omega⟩
      rw [ha, hz]
      exact am_or6 z (by omega) a (by omega)
def sp_mh (S : Nat → Int) : Int := am_pop (sp_mhk S (S 20).toNat)
def sp_gs (S : Nat → Int) : Nat → Int
  | 0 => 0
  | m + 1 => sp_gs S m + (if S (7 + m) = 0 then S (1 + m) else 0)
theorem sp_gs_b {S : Nat → Int} {B : Int} (hok : r_ok S B) : ∀ m : Nat, m ≤ 6 → -(B * (m : Int)) ≤ sp_gs S m ∧ sp_gs S m ≤ B * (m : Int) := by
  obtain ⟨o0, oG, oH, oD, o19, o20, o21, o22, o23, o24, oK, oV, oP, oM, oS, oY, oHd, oT, oC, oN⟩ := hok
  intro m
  induction m with
  | zero => intro _; show -(B * 0) ≤ (0 : Int) ∧ (0 : Int) ≤ B * 0; omega
  | succ m ih =>
    intro hm
    have h := ih (by omega)
    have g := oG m (by omega)
    have e : B * ((m + 1 : Nat) : Int) = B * (m : Int) + B := by rw [Int.natCast_succ, Int.mul_add, Int.mul_one]
    unfold sp_gs
    rw [e]
    split <;> omega
def sp_G (S : Nat → Int) : Int := sp_gs S (S 19).toNat
def sp_hn (S : Nat → Int) : Int := am_pop (sp_here S)
theorem sp_hn_b {S : Nat → Int} {B : Int} (hok : r_ok S B) : 0 ≤ sp_hn S ∧ sp_hn S ≤ 6 := by
  have h := (r_ok_19 hok).1
  have h2 := am_cnt_b (fun m => decide (S (7 + m) = 0)) (S 19).toNat
  have e : sp_hn S = am_cnt (fun m => decide (S (7 + m) = 0)) (S 19).toNat := am_pop_bits _ _ (by omega)
  omega
theorem sp_G_b {S : Nat → Int} {B : Int} (hok : r_ok S B) (hB : 0 ≤ B) : -(6 * B) ≤ sp_G S ∧ sp_G S ≤ 6 * B := by
  have h := (r_ok_19 hok).1
  have h2 := sp_gs_b hok (S 19).toNat (by omega)
  have h3 : B * ((S 19).toNat : Int) ≤ B * 6 := Int.mul_le_mul_of_nonneg_left (by omega) hB
  unfold sp_G
  omega
def sp_btv (h g bh bg : Int) : Int := if bh < h ∨ (h = bh ∧ bg < g) then 1 else 0
theorem sp_btv_01 (h g bh bg : Int) : sp_btv h g bh bg = 0 ∨ sp_btv h g bh bg = 1 := by
  unfold sp_btv
  split <;> simp
theorem r_ok_B {S : Nat → Int} {B : Int} (hok : r_ok S B) : 0 ≤ B := by
  obtain ⟨o0, oG, oH, oD, o19, o20, o21, o22, o23, o24, oK, oV, oP, oM, oS, oY, oHd, oT, oC, oN⟩ := hok
  have := oG 0 (by omega)
  omega
theorem r_membersHad_l {X : Nat × (Nat → Int)} {D : List (Nat × Nat)} {I J : Nat → Nat → Int} {ρ : Nat → Nat → Option Nat} (d : Nat) {B set : Int} {b : Nat} (hb : (b : Int) ≤ I 108 20) (hs : set = sp_mhk (I 108) b) (hok : r_ok (I 108) B) : am_E X (d + 1) 194 4 [(2, .inl (b : Int)), (1, .inl set), (0, .inr (.inr (.inl (some 107))))] [] (am_mm D I J ρ) (fun r => r = (some (.inl ((sp_mh (I 108)))), (am_mm D I J ρ))) := by
  have hok2 := hok
  obtain ⟨o0, oG, oH, oD, o19, o20, o21, o22, o23, o24, oK, oV, oP, oM, oS, oY, oHd, oT, oC, oN⟩ := hok
  have hok := hok2
  have mb := sp_mhk_b hok b (by omega)
  rw [← hs] at mb
  have oYb := oY b
  refine am_e_ss 5 (q := (12, [(2, .inl (b : Int)), (1, .inl set), (0, .inr (.inr (.inl (some 107))))], [.inl ((I 108 20)), .inl (b : Int)], (am_mm D I J ρ))) rfl ?_
  refine am_e_icmp2 rfl ⟨by omega, by omega⟩ ⟨by omega, by omega⟩ (fun (h1 : (I 108 20) ≤ (b : Int)) => ?_) (fun (h1 : ¬ ((I 108 20) ≤ (b : Int))) => ?_)
  · show am_E _ _ _ 47 [(2, .inl (b : Int)), (1, .inl set), (0, .inr (.inr (.inl (some 107))))] [] (am_mm D I J ρ) _
    refine am_e_ss 1 (q := (48, [(2, .inl (b : Int)), (1, .inl set), (0, .inr (.inr (.inl (some 107))))], [.inl set], (am_mm D I J ρ))) rfl ?_
    refine am_e_static (Q := fun r => r = (some (.inl ((am_pop set))), (am_mm D I J ρ))) rfl (Nat.le_of_ble_eq_true rfl) rfl (Nat.le_of_ble_eq_true rfl) (Nat.le_of_ble_eq_true rfl) (r_count1 _) ?_
    rintro r rfl
    show am_E _ _ _ 51 [(2, .inl (b : Int)), (1, .inl set), (0, .inr (.inr (.inl (some 107))))] [.inl ((am_pop set))] (am_mm D I J ρ) _
    refine am_e_ireturn rfl rfl ?_
    rw [hs, show b = (I 108 20).toNat by omega]
    rfl
  · show am_E _ _ _ 15 [(2, .inl (b : Int)), (1, .inl set), (0, .inr (.inr (.inl (some 107))))] [] (am_mm D I J ρ) _
    refine am_e_ss 3 (q := (18, [(2, .inl (b : Int)), (1, .inl set), (0, .inr (.inr (.inl (some 107))))], [.inl (b : Int), .inr (.inr (.inl (some 107))), .inl set], (am_mm D I J ρ))) rfl ?_
    refine am_e_virtual (Q := fun r => r = (some (.inl ((am_bi ((I 108 (13 + b)) = 0)))), (am_mm D I J ρ))) rfl rfl (Nat.le_of_ble_eq_true rfl) rfl rfl (Nat.le_of_ble_eq_true rfl) (Nat.le_of_ble_eq_true rfl) (r_isOpen _ (v := (b : Int)) ⟨by omega, by omega⟩ (by exact oD b (by omega))) ?_
    rintro r rfl
    show am_E _ _ _ 21 [(2, .inl (b : Int)), (1, .inl set), (0, .inr (.inr (.inl (some 107))))] [.inl ((am_bi ((I 108 (13 + b)) = 0))), .inl set] (am_mm D I J ρ) _
    refine am_e_ifeq rfl (fun h2 => ?_) (fun h2 => ?_)
    · show am_E _ _ _ 28 [(2, .inl (b : Int)), (1, .inl set), (0, .inr (.inr (.inl (some 107))))] [.inl set] (am_mm D I J ρ) _
      have oYb := oYb (by omega)
      refine am_e_ss 6 (q := (37, [(2, .inl (b : Int)), (1, .inl set), (0, .inr (.inr (.inl (some 107))))], [.inl (56 + (b : Int)), .inr (.inr (.inl (some 108))), .inl 1, .inl set], (am_mm D I J ρ))) rfl ?_
      refine am_e_iaload (m := 878) rfl rfl (by omega) (by omega) (by omega) ?_
      show am_E _ _ _ 38 [(2, .inl (b : Int)), (1, .inl set), (0, .inr (.inr (.inl (some 107))))] [.inl ((I 108 (56 + b))), .inl 1, .inl set] (am_mm D I J ρ) _
      refine am_e_ss 5 (q := (4, [(2, .inl ((b : Int) + 1)), (1, .inl ((Int32.ofInt set ||| Int32.ofInt (Int32.ofInt 1 <<< (Int32.ofInt (I 108 (56 + b)) &&& 31)).toInt).toInt)), (0, .inr (.inr (.inl (some 107))))], [], (am_mm D I J ρ))) rfl ?_
      have e9 : (Int32.ofInt set ||| Int32.ofInt (Int32.ofInt 1 <<< (Int32.ofInt (I 108 (56 + b)) &&& 31)).toInt).toInt = sp_mhk (I 108) (b + 1) := by
        unfold sp_mhk
        rw [if_neg (by omega), ← hs]
      exact am_less (lv := [(2, .inl ((b + 1) : Int)), (1, .inl ((Int32.ofInt set ||| Int32.ofInt (Int32.ofInt 1 <<< (Int32.ofInt (I 108 (56 + b)) &&& 31)).toInt).toInt)), (0, .inr (.inr (.inl (some 107))))]) rfl (List.forall_mem_cons.mpr ⟨rfl, List.forall_mem_cons.mpr ⟨rfl, List.forall_mem_cons.mpr ⟨rfl, List.forall_mem_nil _⟩⟩⟩) (r_membersHad_l d (b := b + 1) (by omega) e9 hok)
    · show am_E _ _ _ 24 [(2, .inl (b : Int)), (1, .inl set), (0, .inr (.inr (.inl (some 107))))] [.inl set] (am_mm D I J ρ) _
      refine am_e_ss 6 (q := (4, [(2, .inl ((b : Int) + 1)), (1, .inl ((Int32.ofInt set ||| Int32.ofInt 0).toInt)), (0, .inr (.inr (.inl (some 107))))], [], (am_mm D I J ρ))) rfl ?_
      have e9 : (Int32.ofInt set ||| Int32.ofInt 0).toInt = sp_mhk (I 108) (b + 1) := by
        unfold sp_mhk
        rw [if_pos (by omega), ← hs]
        exact am_or_0 (by omega) (by omega)
      exact am_less (lv := [(2, .inl ((b + 1) : Int)), (1, .inl ((Int32.ofInt set ||| Int32.ofInt 0).toInt)), (0, .inr (.inr (.inl (some 107))))]) rfl (List.forall_mem_cons.mpr ⟨rfl, List.forall_mem_cons.mpr ⟨rfl, List.forall_mem_cons.mpr ⟨rfl, List.forall_mem_nil _⟩⟩⟩) (r_membersHad_l d (b := b + 1) (by omega) e9 hok)
termination_by 7 - b
decreasing_by all_goals omega
theorem r_membersHad {X : Nat × (Nat → Int)} {D : List (Nat × Nat)} {I J : Nat → Nat → Int} {ρ : Nat → Nat → Option Nat} (d : Nat) {B : Int} (hok : r_ok (I 108) B) : am_E X (d + 1) 194 0 [(0, .inr (.inr (.inl (some 107))))] [] (am_mm D I J ρ) (fun r => r = (some (.inl ((sp_mh (I 108)))), (am_mm D I J ρ))) := by
  have hok2 := hok
  obtain ⟨o0, oG, oH, oD, o19, o20, o21, o22, o23, o24, oK, oV, oP, oM, oS, oY, oHd, oT, oC, oN⟩ := hok
  have hok := hok2
  refine am_e_ss 4 (q := (4, [(2, .inl 0), (1, .inl 0), (0, .inr (.inr (.inl (some 107))))], [], (am_mm D I J ρ))) rfl ?_
  exact am_less (lv := [(2, .inl (0 : Int)), (1, .inl 0), (0, .inr (.inr (.inl (some 107))))]) rfl (List.forall_mem_cons.mpr ⟨rfl, List.forall_mem_cons.mpr ⟨rfl, List.forall_mem_cons.mpr ⟨rfl, List.forall_mem_nil _⟩⟩⟩) (r_membersHad_l d (b := 0) (by omega) rfl hok)
theorem r_gladHere_l {X : Nat × (Nat → Int)} {D : List (Nat × Nat)} {I J : Nat → Nat → Int} {ρ : Nat → Nat → Option Nat} (d : Nat) {B g : Int} {m : Nat} (hm : (m : Int) ≤ I 108 19) (hg : g = sp_gs (I 108) m) (hok : r_ok (I 108) B) : am_E X (d + 1) 196 4 [(2, .inl (m : Int)), (1, .inl g), (0, .inr (.inr (.inl (some 107))))] [] (am_mm D I J ρ) (fun r => r = (some (.inl ((sp_G (I 108)))), (am_mm D I J ρ))) := by
  have hok2 := hok
  obtain ⟨o0, oG, oH, oD, o19, o20, o21, o22, o23, o24, oK, oV, oP, oM, oS, oY, oHd, oT, oC, oN⟩ := hok
  have hok := hok2
  refine am_e_ss 5 (q := (12, [(2, .inl (m : Int)), (1, .inl g), (0, .inr (.inr (.inl (some 107))))], [.inl ((I 108 19)), .inl (m : Int)], (am_mm D I J ρ))) rfl ?_
  refine am_e_icmp2 rfl ⟨by omega, by omega⟩ ⟨by omega, by omega⟩ (fun (h1 : (I 108 19) ≤ (m : Int)) => ?_) (fun (h1 : ¬ ((I 108 19) ≤ (m : Int))) => ?_)
  · show am_E _ _ _ 44 [(2, .inl (m : Int)), (1, .inl g), (0, .inr (.inr (.inl (some 107))))] [] (am_mm D I J ρ) _
    refine am_e_ss 1 (q := (45, [(2, .inl (m : Int)), (1, .inl g), (0, .inr (.inr (.inl (some 107))))], [.inl g], (am_mm D I J ρ))) rfl ?_
    refine am_e_ireturn rfl rfl ?_
    rw [hg, show m = (I 108 19).toNat by omega]
    rfl
  · show am_E _ _ _ 15 [(2, .inl (m : Int)), (1, .inl g), (0, .inr (.inr (.inl (some 107))))] [] (am_mm D I J ρ) _
    refine am_e_ss 3 (q := (18, [(2, .inl (m : Int)), (1, .inl g), (0, .inr (.inr (.inl (some 107))))], [.inl (m : Int), .inr (.inr (.inl (some 107))), .inl g], (am_mm D I J ρ))) rfl ?_
    refine am_e_virtual (Q := fun r => r = (some (.inl ((am_bi ((I 108 (7 + m)) = 0)))), (am_mm D I J ρ))) rfl rfl (Nat.le_of_ble_eq_true rfl) rfl rfl (Nat.le_of_ble_eq_true rfl) (Nat.le_of_ble_eq_true rfl) (r_isHere _ (v := (m : Int)) ⟨by omega, by omega⟩ (by exact oH m (by omega))) ?_
    rintro r rfl
    show am_E _ _ _ 21 [(2, .inl (m : Int)), (1, .inl g), (0, .inr (.inr (.inl (some 107))))] [.inl ((am_bi ((I 108 (7 + m)) = 0))), .inl g] (am_mm D I J ρ) _
    refine am_e_ifeq rfl (fun h2 => ?_) (fun h2 => ?_)
    · show am_E _ _ _ 35 [(2, .inl (m : Int)), (1, .inl g), (0, .inr (.inr (.inl (some 107))))] [.inl g] (am_mm D I J ρ) _
      refine am_e_ss 5 (q := (4, [(2, .inl ((m : Int) + 1)), (1, .inl (g + 0)), (0, .inr (.inr (.inl (some 107))))], [], (am_mm D I J ρ))) rfl ?_
      have e9 : (g + 0) = sp_gs (I 108) (m + 1) := by
        unfold sp_gs
        split <;> omega
      exact am_less (lv := [(2, .inl ((m + 1) : Int)), (1, .inl ((g + 0))), (0, .inr (.inr (.inl (some 107))))]) rfl (List.forall_mem_cons.mpr ⟨rfl, List.forall_mem_cons.mpr ⟨rfl, List.forall_mem_cons.mpr ⟨rfl, List.forall_mem_nil _⟩⟩⟩) (r_gladHere_l d (m := m + 1) (by omega) e9 hok)
    · show am_E _ _ _ 24 [(2, .inl (m : Int)), (1, .inl g), (0, .inr (.inr (.inl (some 107))))] [.inl g] (am_mm D I J ρ) _
      refine am_e_ss 5 (q := (31, [(2, .inl (m : Int)), (1, .inl g), (0, .inr (.inr (.inl (some 107))))], [.inl (1 + (m : Int)), .inr (.inr (.inl (some 108))), .inl g], (am_mm D I J ρ))) rfl ?_
      refine am_e_iaload (m := 878) rfl rfl (by omega) (by omega) (by omega) ?_
      show am_E _ _ _ 32 [(2, .inl (m : Int)), (1, .inl g), (0, .inr (.inr (.inl (some 107))))] [.inl ((I 108 (1 + m))), .inl g] (am_mm D I J ρ) _
      refine am_e_ss 5 (q := (4, [(2, .inl ((m : Int) + 1)), (1, .inl (g + (I 108 (1 + m)))), (0, .inr (.inr (.inl (some 107))))], [], (am_mm D I J ρ))) rfl ?_
      have e9 : (g + (I 108 (1 + m))) = sp_gs (I 108) (m + 1) := by
        unfold sp_gs
        split <;> omega
      exact am_less (lv := [(2, .inl ((m + 1) : Int)), (1, .inl ((g + (I 108 (1 + m))))), (0, .inr (.inr (.inl (some 107))))]) rfl (List.forall_mem_cons.mpr ⟨rfl, List.forall_mem_cons.mpr ⟨rfl, List.forall_mem_cons.mpr ⟨rfl, List.forall_mem_nil _⟩⟩⟩) (r_gladHere_l d (m := m + 1) (by omega) e9 hok)
termination_by 7 - m
decreasing_by all_goals omega
theorem r_gladHere {X : Nat × (Nat → Int)} {D : List (Nat × Nat)} {I J : Nat → Nat → Int} {ρ : Nat → Nat → Option Nat} (d : Nat) {B : Int} (hok : r_ok (I 108) B) : am_E X (d + 1) 196 0 [(0, .inr (.inr (.inl (some 107))))] [] (am_mm D I J ρ) (fun r => r = (some (.inl ((sp_G (I 108)))), (am_mm D I J ρ))) := by
  have hok2 := hok
  obtain ⟨o0, oG, oH, oD, o19, o20, o21, o22, o23, o24, oK, oV, oP, oM, oS, oY, oHd, oT, oC, oN⟩ := hok
  have hok := hok2
  refine am_e_ss 4 (q := (4, [(2, .inl 0), (1, .inl 0), (0, .inr (.inr (.inl (some 107))))], [], (am_mm D I J ρ))) rfl ?_
  exact am_less (lv := [(2, .inl (0 : Int)), (1, .inl 0), (0, .inr (.inr (.inl (some 107))))]) rfl (List.forall_mem_cons.mpr ⟨rfl, List.forall_mem_cons.mpr ⟨rfl, List.forall_mem_cons.mpr ⟨rfl, List.forall_mem_nil _⟩⟩⟩) (r_gladHere_l d (m := 0) (by omega) rfl hok)
def tE : Nat → Nat → Bool := fun c i => (Nat.beq c 107 && (Nat.beq i 26 || Nat.beq i 27))
theorem r_isBetter {X : Nat × (Nat → Int)} {D : List (Nat × Nat)} {I J : Nat → Nat → Int} {ρ : Nat → Nat → Option Nat} (d : Nat) {B : Int} (hB : B ≤ 300000000) (hbh : -1 ≤ I 107 26 ∧ I 107 26 ≤ 6) (hbg : -2147483648 ≤ I 107 27 ∧ I 107 27 < 2147483648) (hok : r_ok (I 108) B) : am_E X (d + 2) 197 0 [(0, .inr (.inr (.inl (some 107))))] [] (am_mm D I J ρ) (fun r => ∃ Q, r = (some (.inl (sp_btv (sp_hn (I 108)) (sp_G (I 108)) (I 107 26) (I 107 27))), am_mm D (am_wp tE I Q) J ρ) ∧ Q 107 26 = (if (sp_btv (sp_hn (I 108)) (sp_G (I 108)) (I 107 26) (I 107 27)) = 1 then sp_hn (I 108) else I 107 26) ∧ Q 107 27 = (if (sp_btv (sp_hn (I 108)) (sp_G (I 108)) (I 107 26) (I 107 27)) = 1 then sp_G (I 108) else I 107 27)) := by
  have hnb := sp_hn_b hok
  have gb := sp_G_b hok (r_ok_B hok)
  have hnb2 : 0 ≤ am_pop (sp_here (I 108)) ∧ am_pop (sp_here (I 108)) ≤ 6 := hnb
  refine am_e_ss 1 (q := (1, [(0, .inr (.inr (.inl (some 107))))], [.inr (.inr (.inl (some 107)))], (am_mm D I J ρ))) rfl ?_
  refine am_e_virtual (Q := fun r => r = (some (.inl ((sp_here (I 108)))), (am_mm D I J ρ))) rfl rfl (Nat.le_of_ble_eq_true rfl) rfl rfl (Nat.le_of_ble_eq_true rfl) (Nat.le_of_ble_eq_true rfl) (r_membersHere _ (B := B) hok) ?_
  rintro r rfl
  show am_E _ _ _ 4 [(0, .inr (.inr (.inl (some 107))))] [.inl ((sp_here (I 108)))] (am_mm D I J ρ) _
  refine am_e_static (Q := fun r => r = (some (.inl ((am_pop (sp_here (I 108))))), (am_mm D I J ρ))) rfl (Nat.le_of_ble_eq_true rfl) rfl (Nat.le_of_ble_eq_true rfl) (Nat.le_of_ble_eq_true rfl) (r_count1 _) ?_
  rintro r rfl
  show am_E _ _ _ 7 [(0, .inr (.inr (.inl (some 107))))] [.inl ((am_pop (sp_here (I 108))))] (am_mm D I J ρ) _
  refine am_e_ss 2 (q := (9, [(1, .inl ((am_pop (sp_here (I 108))))), (0, .inr (.inr (.inl (some 107))))], [.inr (.inr (.inl (some 107)))], (am_mm D I J ρ))) rfl ?_
  refine am_e_virtual (Q := fun r => r = (some (.inl ((sp_G (I 108)))), (am_mm D I J ρ))) rfl rfl (Nat.le_of_ble_eq_true rfl) rfl rfl (Nat.le_of_ble_eq_true rfl) (Nat.le_of_ble_eq_true rfl) (r_gladHere _ (B := B) hok) ?_
  rintro r rfl
  show am_E _ _ _ 12 [(1, .inl ((am_pop (sp_here (I 108))))), (0, .inr (.inr (.inl (some 107))))] [.inl ((sp_G (I 108)))] (am_mm D I J ρ) _
  refine am_e_ss 4 (q := (18, [(2, .inl ((sp_G (I 108)))), (1, .inl ((am_pop (sp_here (I 108))))), (0, .inr (.inr (.inl (some 107))))], [.inl ((I 107 26)), .inl ((am_pop (sp_here (I 108))))], (am_mm D I J ρ))) rfl ?_
  refine am_e_icmp2 rfl ⟨by omega, by omega⟩ ⟨by omega, by omega⟩ (fun (h1 : (I 107 26) < (am_pop (sp_here (I 108)))) => ?_) (fun (h1 : ¬ ((I 107 26) < (am_pop (sp_here (I 108))))) => ?_)
  · show am_E _ _ _ 37 [(2, .inl ((sp_G (I 108)))), (1, .inl ((am_pop (sp_here (I 108))))), (0, .inr (.inr (.inl (some 107))))] [] (am_mm D I J ρ) _
    refine am_e_ss 5 (q := (45, [(3, .inl 1), (2, .inl ((sp_G (I 108)))), (1, .inl ((am_pop (sp_here (I 108))))), (0, .inr (.inr (.inl (some 107))))], [.inl 1, .inr (.inr (.inl (some 107)))], (am_mm D I J ρ))) rfl ?_
    refine am_e_s (q := (48, [(3, .inl 1), (2, .inl ((sp_G (I 108)))), (1, .inl ((am_pop (sp_here (I 108))))), (0, .inr (.inr (.inl (some 107))))], [.inr (.inr (.inl (some 107)))], (am_mm D I J ρ))) rfl rfl ?_
    refine am_e_ss 5 (q := (61, [(3, .inl 1), (2, .inl ((sp_G (I 108)))), (1, .inl ((am_pop (sp_here (I 108))))), (0, .inr (.inr (.inl (some 107))))], [.inl 1, .inr (.inr (.inl (some 107)))], (am_mm D (am_up I 107 26 (am_pop (sp_here (I 108)))) J ρ))) rfl ?_
    refine am_e_s (q := (64, [(3, .inl 1), (2, .inl ((sp_G (I 108)))), (1, .inl ((am_pop (sp_here (I 108))))), (0, .inr (.inr (.inl (some 107))))], [.inr (.inr (.inl (some 107)))], (am_mm D (am_up I 107 26 (am_pop (sp_here (I 108)))) J ρ))) rfl rfl ?_
    refine am_e_ss 4 (q := (76, [(3, .inl 1), (2, .inl ((sp_G (I 108)))), (1, .inl ((am_pop (sp_here (I 108))))), (0, .inr (.inr (.inl (some 107))))], [.inl 1], (am_mm D (am_up (am_up I 107 26 (am_pop (sp_here (I 108)))) 107 27 (sp_G (I 108))) J ρ))) rfl ?_
    refine am_e_ireturn rfl rfl ?_
    have eb : (sp_btv (sp_hn (I 108)) (sp_G (I 108)) (I 107 26) (I 107 27)) = 1 := by
      unfold sp_btv sp_hn
      rw [if_pos (by omega)]
    rw [eb]
    exact ⟨_, am_r_wp tE (am_k_up rfl (am_k_up rfl (am_k_id))), rfl, rfl⟩
  · show am_E _ _ _ 21 [(2, .inl ((sp_G (I 108)))), (1, .inl ((am_pop (sp_here (I 108))))), (0, .inr (.inr (.inl (some 107))))] [] (am_mm D I J ρ) _
    refine am_e_ss 3 (q := (26, [(2, .inl ((sp_G (I 108)))), (1, .inl ((am_pop (sp_here (I 108))))), (0, .inr (.inr (.inl (some 107))))], [.inl ((I 107 26)), .inl ((am_pop (sp_here (I 108))))], (am_mm D I J ρ))) rfl ?_
    refine am_e_icmp2 rfl ⟨by omega, by omega⟩ ⟨by omega, by omega⟩ (fun (h4 : ¬ (am_pop (sp_here (I 108))) = (I 107 26)) => ?_) (fun (h4 : ¬ (¬ (am_pop (sp_here (I 108))) = (I 107 26))) => ?_)
    · show am_E _ _ _ 41 [(2, .inl ((sp_G (I 108)))), (1, .inl ((am_pop (sp_here (I 108))))), (0, .inr (.inr (.inl (some 107))))] [] (am_mm D I J ρ) _
      refine am_e_ss 4 (q := (45, [(3, .inl 0), (2, .inl ((sp_G (I 108)))), (1, .inl ((am_pop (sp_here (I 108))))), (0, .inr (.inr (.inl (some 107))))], [.inl 0, .inr (.inr (.inl (some 107)))], (am_mm D I J ρ))) rfl ?_
      refine am_e_s (q := (52, [(3, .inl 0), (2, .inl ((sp_G (I 108)))), (1, .inl ((am_pop (sp_here (I 108))))), (0, .inr (.inr (.inl (some 107))))], [.inr (.inr (.inl (some 107)))], (am_mm D I J ρ))) rfl rfl ?_
      refine am_e_ss 5 (q := (61, [(3, .inl 0), (2, .inl ((sp_G (I 108)))), (1, .inl ((am_pop (sp_here (I 108))))), (0, .inr (.inr (.inl (some 107))))], [.inl 0, .inr (.inr (.inl (some 107)))], (am_mm D (am_up I 107 26 (I 107 26)) J ρ))) rfl ?_
      refine am_e_s (q := (68, [(3, .inl 0), (2, .inl ((sp_G (I 108)))), (1, .inl ((am_pop (sp_here (I 108))))), (0, .inr (.inr (.inl (some 107))))], [.inr (.inr (.inl (some 107)))], (am_mm D (am_up I 107 26 (I 107 26)) J ρ))) rfl rfl ?_
      refine am_e_ss 4 (q := (76, [(3, .inl 0), (2, .inl ((sp_G (I 108)))), (1, .inl ((am_pop (sp_here (I 108))))), (0, .inr (.inr (.inl (some 107))))], [.inl 0], (am_mm D (am_up (am_up I 107 26 (I 107 26)) 107 27 (I 107 27)) J ρ))) rfl ?_
      refine am_e_ireturn rfl rfl ?_
      have eb : (sp_btv (sp_hn (I 108)) (sp_G (I 108)) (I 107 26) (I 107 27)) = 0 := by
        unfold sp_btv sp_hn
        rw [if_neg (by omega)]
      rw [eb]
      exact ⟨_, am_r_wp tE (am_k_up rfl (am_k_up rfl (am_k_id))), rfl, rfl⟩
    · show am_E _ _ _ 29 [(2, .inl ((sp_G (I 108)))), (1, .inl ((am_pop (sp_here (I 108))))), (0, .inr (.inr (.inl (some 107))))] [] (am_mm D I J ρ) _
      refine am_e_ss 3 (q := (34, [(2, .inl ((sp_G (I 108)))), (1, .inl ((am_pop (sp_here (I 108))))), (0, .inr (.inr (.inl (some 107))))], [.inl ((I 107 27)), .inl ((sp_G (I 108)))], (am_mm D I J ρ))) rfl ?_
      refine am_e_icmp2 rfl ⟨by omega, by omega⟩ ⟨by omega, by omega⟩ (fun (h7 : (sp_G (I 108)) ≤ (I 107 27)) => ?_) (fun (h7 : ¬ ((sp_G (I 108)) ≤ (I 107 27))) => ?_)
      · show am_E _ _ _ 41 [(2, .inl ((sp_G (I 108)))), (1, .inl ((am_pop (sp_here (I 108))))), (0, .inr (.inr (.inl (some 107))))] [] (am_mm D I J ρ) _
        refine am_e_ss 4 (q := (45, [(3, .inl 0), (2, .inl ((sp_G (I 108)))), (1, .inl ((am_pop (sp_here (I 108))))), (0, .inr (.inr (.inl (some 107))))], [.inl 0, .inr (.inr (.inl (some 107)))], (am_mm D I J ρ))) rfl ?_
        refine am_e_s (q := (52, [(3, .inl 0), (2, .inl ((sp_G (I 108)))), (1, .inl ((am_pop (sp_here (I 108))))), (0, .inr (.inr (.inl (some 107))))], [.inr (.inr (.inl (some 107)))], (am_mm D I J ρ))) rfl rfl ?_
        refine am_e_ss 5 (q := (61, [(3, .inl 0), (2, .inl ((sp_G (I 108)))), (1, .inl ((am_pop (sp_here (I 108))))), (0, .inr (.inr (.inl (some 107))))], [.inl 0, .inr (.inr (.inl (some 107)))], (am_mm D (am_up I 107 26 (I 107 26)) J ρ))) rfl ?_
        refine am_e_s (q := (68, [(3, .inl 0), (2, .inl ((sp_G (I 108)))), (1, .inl ((am_pop (sp_here (I 108))))), (0, .inr (.inr (.inl (some 107))))], [.inr (.inr (.inl (some 107)))], (am_mm D (am_up I 107 26 (I 107 26)) J ρ))) rfl rfl ?_
        refine am_e_ss 4 (q := (76, [(3, .inl 0), (2, .inl ((sp_G (I 108)))), (1, .inl ((am_pop (sp_here (I 108))))), (0, .inr (.inr (.inl (some 107))))], [.inl 0], (am_mm D (am_up (am_up I 107 26 (I 107 26)) 107 27 (I 107 27)) J ρ))) rfl ?_
        refine am_e_ireturn rfl rfl ?_
        have eb : (sp_btv (sp_hn (I 108)) (sp_G (I 108)) (I 107 26) (I 107 27)) = 0 := by
          unfold sp_btv sp_hn
          rw [if_neg (by omega)]
        rw [eb]
        exact ⟨_, am_r_wp tE (am_k_up rfl (am_k_up rfl (am_k_id))), rfl, rfl⟩
      · show am_E _ _ _ 37 [(2, .inl ((sp_G (I 108)))), (1, .inl ((am_pop (sp_here (I 108))))), (0, .inr (.inr (.inl (some 107))))] [] (am_mm D I J ρ) _
        refine am_e_ss 5 (q := (45, [(3, .inl 1), (2, .inl ((sp_G (I 108)))), (1, .inl ((am_pop (sp_here (I 108))))), (0, .inr (.inr (.inl (some 107))))], [.inl 1, .inr (.inr (.inl (some 107)))], (am_mm D I J ρ))) rfl ?_
        refine am_e_s (q := (48, [(3, .inl 1), (2, .inl ((sp_G (I 108)))), (1, .inl ((am_pop (sp_here (I 108))))), (0, .inr (.inr (.inl (some 107))))], [.inr (.inr (.inl (some 107)))], (am_mm D I J ρ))) rfl rfl ?_
        refine am_e_ss 5 (q := (61, [(3, .inl 1), (2, .inl ((sp_G (I 108)))), (1, .inl ((am_pop (sp_here (I 108))))), (0, .inr (.inr (.inl (some 107))))], [.inl 1, .inr (.inr (.inl (some 107)))], (am_mm D (am_up I 107 26 (am_pop (sp_here (I 108)))) J ρ))) rfl ?_
        refine am_e_s (q := (64, [(3, .inl 1), (2, .inl ((sp_G (I 108)))), (1, .inl ((am_pop (sp_here (I 108))))), (0, .inr (.inr (.inl (some 107))))], [.inr (.inr (.inl (some 107)))], (am_mm D (am_up I 107 26 (am_pop (sp_here (I 108)))) J ρ))) rfl rfl ?_
        refine am_e_ss 4 (q := (76, [(3, .inl 1), (2, .inl ((sp_G (I 108)))), (1, .inl ((am_pop (sp_here (I 108))))), (0, .inr (.inr (.inl (some 107))))], [.inl 1], (am_mm D (am_up (am_up I 107 26 (am_pop (sp_here (I 108)))) 107 27 (sp_G (I 108))) J ρ))) rfl ?_
        refine am_e_ireturn rfl rfl ?_
        have eb : (sp_btv (sp_hn (I 108)) (sp_G (I 108)) (I 107 26) (I 107 27)) = 1 := by
          unfold sp_btv sp_hn
          rw [if_pos (by omega)]
        rw [eb]
        exact ⟨_, am_r_wp tE (am_k_up rfl (am_k_up rfl (am_k_id))), rfl, rfl⟩
/-- the row kept aside, and brought back -/
theorem r_keepsW {X : Nat × (Nat → Int)} {D : List (Nat × Nat)} {I J : Nat → Nat → Int} {ρ : Nat → Nat → Option Nat} (d : Nat) : am_E X d 132 0 [(0, .inr (.inr (.inl (some 107))))] [] (am_mm D I J ρ) (fun r => ∃ Q, r = (none, am_mm D (am_wp (fun c _ => Nat.beq c 110) I Q) J ρ) ∧ ∀ i, i < 19 → Q 110 i = I 108 i) := by
  refine (r_keeps d).imp ?_
  intro r h
  rw [h]
  refine ⟨_, am_r_wp _ ?_, fun i hi => if_pos ⟨rfl, hi⟩⟩
  intro c i hc
  refine if_neg (fun h => ?_)
  rw [h.1] at hc
  exact absurd hc (by decide)
theorem am_bk8 {I K : Nat → Nat → Int} {p p' : Nat → Nat → Bool} (hp : ∀ c i, c ≠ 108 → p c i = false → p' c i = false) (hk : ∀ c i, p' c i = false → K c i = I c i) (h108 : ∀ i, 19 ≤ i → K 108 i = I 108 i) (hf : ∀ i, i < 19 → K 110 i = I 108 i) : ∀ c i, p c i = false → am_cpI K 108 110 19 c i = I c i := by
  intro c i h
  unfold am_cpI
  by_cases e : c = 108
  · subst e
    by_cases e2 : i < 19
    · rw [if_pos ⟨rfl, e2⟩]; exact hf i e2
    · rw [if_neg (by omega)]; exact h108 i (by omega)
  · rw [if_neg (by omega)]
    exact hk c i (hp c i e h)
def sp_run (S : Nat → Int) (n way what : Int) : Int := if ¬ (0 ≤ way ∧ way ≤ 5) ∨ (¬ (0 ≤ what ∧ what ≤ 2) ∧ ¬ (0 ≤ what - 10 ∧ what - 10 ≤ S 19 - 1)) then -10001 else if ¬ (0 ≤ n ∧ n ≤ 6) then -10002 else
  if what = 0 then sp_here (sp_rn way n.toNat (S, 0)).1 else if what = 1 then (sp_rn way n.toNat (S, 0)).2 else if what = 2 then sp_mh (sp_rn way n.toNat (S, 0)).1 else (sp_rn way n.toNat (S, 0)).1 (what - 9).toNat
theorem am_beq_f {c k : Nat} (h : c ≠ k) : Nat.beq c k = false := by
  cases e : Nat.beq c k with
  | false => rfl
  | true => exact absurd (Nat.eq_of_beq_eq_true e) h
def tU : Nat → Nat → Bool := fun c i => Nat.beq c 110 || Nat.beq c 111 || Nat.beq c 112 || Nat.beq c 113 || Nat.beq c 114 || Nat.beq c 115 || Nat.beq c 116 || Nat.beq c 117 || Nat.beq c 118 || (Nat.beq c 107 && (Nat.beq i 12 || Nat.beq i 13 || Nat.beq i 20 || Nat.beq i 25))
def tU8 : Nat → Nat → Bool := fun c i => Nat.beq c 108 || Nat.beq c 110 || Nat.beq c 111 || Nat.beq c 112 || Nat.beq c 113 || Nat.beq c 114 || Nat.beq c 115 || Nat.beq c 116 || Nat.beq c 117 || Nat.beq c 118 || (Nat.beq c 107 && (Nat.beq i 12 || Nat.beq i 13 || Nat.beq i 20 || Nat.beq i 25))
theorem tR_tU8 : ∀ c i, tR c i = true → tU8 c i = true := by
  intro c i
  unfold tR tU8
  simp
  omega
theorem tU_8 : ∀ c i, c ≠ 108 → tU c i = false → tU8 c i = false := by
  intro c i h
  unfold tU tU8
  rw [am_beq_f h]
  simp only [Bool.false_or]
  exact id
theorem t110_8 : ∀ c i, (fun c _ => Nat.beq c 110) c i = true → tU8 c i = true := by
  intro c i
  unfold tU8
  simp
  omega
theorem r_run {X : Nat × (Nat → Int)} {D : List (Nat × Nat)} {I J : Nat → Nat → Int} {ρ : Nat → Nat → Option Nat} (d : Nat) {B n way what : Int} (hn : -2147483648 ≤ n ∧ n < 2147483648) (hway : -2147483648 ≤ way ∧ way < 2147483648) (hwhat : -2147483638 ≤ what ∧ what < 2147483648) (hB : B + 480300 ≤ 1900000000) (h0 : I 108 0 ≤ 190) (hok : r_ok (I 108) B) (hwf : sp_wfS (I 108)) : am_E X (d + 7) 195 0 [(0, .inr (.inr (.inl (some 107)))), (1, .inl n), (2, .inl way), (3, .inl what)] [] (am_mm D I J ρ) (fun r => ∃ Q, r = (some (.inl (sp_run (I 108) n way what)), am_mm D (am_wp tU I Q) J ρ)) := by
  have hok2 := hok
  obtain ⟨o0, oG, oH, oD, o19, o20, o21, o22, o23, o24, oK, oV, oP, oM, oS, oY, oHd, oT, oC, oN⟩ := hok
  have hok := hok2
  refine am_e_ss 1 (q := (1, [(0, .inr (.inr (.inl (some 107)))), (1, .inl n), (2, .inl way), (3, .inl what)], [.inl way], (am_mm D I J ρ))) rfl ?_
  refine am_e_static (Q := fun r => r = (some (.inl ((am_bi (0 ≤ way ∧ way ≤ 5)))), (am_mm D I J ρ))) rfl (Nat.le_of_ble_eq_true rfl) rfl (Nat.le_of_ble_eq_true rfl) (Nat.le_of_ble_eq_true rfl) (r_isWay _ ⟨by omega, by omega⟩) ?_
  rintro r rfl
  show am_E _ _ _ 4 [(0, .inr (.inr (.inl (some 107)))), (1, .inl n), (2, .inl way), (3, .inl what)] [.inl ((am_bi (0 ≤ way ∧ way ≤ 5)))] (am_mm D I J ρ) _
  refine am_e_ifeq rfl (fun h1 => ?_) (fun h1 => ?_)
  · show am_E _ _ _ 27 [(0, .inr (.inr (.inl (some 107)))), (1, .inl n), (2, .inl way), (3, .inl what)] [] (am_mm D I J ρ) _
    refine am_e_ss 1 (q := (30, [(0, .inr (.inr (.inl (some 107)))), (1, .inl n), (2, .inl way), (3, .inl what)], [.inl (-10001)], (am_mm D I J ρ))) rfl ?_
    refine am_e_ireturn rfl rfl ?_
    have er : sp_run (I 108) n way what = (-10001) := by
      unfold sp_run
      (repeat' split) <;> first | rfl | (exfalso; omega)
    rw [er]
    exact ⟨I, am_r_wp tU am_k_id⟩
  · show am_E _ _ _ 7 [(0, .inr (.inr (.inl (some 107)))), (1, .inl n), (2, .inl way), (3, .inl what)] [] (am_mm D I J ρ) _
    refine am_e_ss 3 (q := (10, [(0, .inr (.inr (.inl (some 107)))), (1, .inl n), (2, .inl way), (3, .inl what)], [.inl 2, .inl 0, .inl what], (am_mm D I J ρ))) rfl ?_
    refine am_e_static (Q := fun r => r = (some (.inl ((am_bi (0 ≤ what ∧ what ≤ 2)))), (am_mm D I J ρ))) rfl (Nat.le_of_ble_eq_true rfl) rfl (Nat.le_of_ble_eq_true rfl) (Nat.le_of_ble_eq_true rfl) (r_in _ ⟨by omega, by omega⟩ ⟨by omega, by omega⟩ ⟨by omega, by omega⟩) ?_
    rintro r rfl
    show am_E _ _ _ 13 [(0, .inr (.inr (.inl (some 107)))), (1, .inl n), (2, .inl way), (3, .inl what)] [.inl ((am_bi (0 ≤ what ∧ what ≤ 2)))] (am_mm D I J ρ) _
    refine am_e_ifne rfl (fun h2 => ?_) (fun h2 => ?_)
    · show am_E _ _ _ 31 [(0, .inr (.inr (.inl (some 107)))), (1, .inl n), (2, .inl way), (3, .inl what)] [] (am_mm D I J ρ) _
      refine am_e_ss 3 (q := (35, [(0, .inr (.inr (.inl (some 107)))), (1, .inl n), (2, .inl way), (3, .inl what)], [.inl 6, .inl 0, .inl n], (am_mm D I J ρ))) rfl ?_
      refine am_e_static (Q := fun r => r = (some (.inl ((am_bi (0 ≤ n ∧ n ≤ 6)))), (am_mm D I J ρ))) rfl (Nat.le_of_ble_eq_true rfl) rfl (Nat.le_of_ble_eq_true rfl) (Nat.le_of_ble_eq_true rfl) (r_in _ ⟨by omega, by omega⟩ ⟨by omega, by omega⟩ ⟨by omega, by omega⟩) ?_
      rintro r rfl
      show am_E _ _ _ 38 [(0, .inr (.inr (.inl (some 107)))), (1, .inl n), (2, .inl way), (3, .inl what)] [.inl ((am_bi (0 ≤ n ∧ n ≤ 6)))] (am_mm D I J ρ) _
      refine am_e_ifne rfl (fun h3 => ?_) (fun h3 => ?_)
      · show am_E _ _ _ 45 [(0, .inr (.inr (.inl (some 107)))), (1, .inl n), (2, .inl way), (3, .inl what)] [] (am_mm D I J ρ) _
        refine am_e_ss 1 (q := (46, [(0, .inr (.inr (.inl (some 107)))), (1, .inl n), (2, .inl way), (3, .inl what)], [.inr (.inr (.inl (some 107)))], (am_mm D I J ρ))) rfl ?_
        refine am_e_virtual (Q := fun r => ∃ Q72, r = (none, (am_mm D (am_wp (fun c _ => Nat.beq c 110) I Q72) J ρ)) ∧ ∀ i, i < 19 → Q72 110 i = (I 108) i) rfl rfl (Nat.le_of_ble_eq_true rfl) rfl rfl (Nat.le_of_ble_eq_true rfl) (Nat.le_of_ble_eq_true rfl) (r_keepsW _) ?_
        rintro r ⟨Q72, rfl, hkp⟩
        show am_E _ _ _ 49 [(0, .inr (.inr (.inl (some 107)))), (1, .inl n), (2, .inl way), (3, .inl what)] [] (am_mm D (am_wp (fun c _ => Nat.beq c 110) I Q72) J ρ) _
        refine am_e_ss 3 (q := (52, [(0, .inr (.inr (.inl (some 107)))), (1, .inl n), (2, .inl way), (3, .inl what)], [.inl way, .inl n, .inr (.inr (.inl (some 107)))], (am_mm D (am_wp (fun c _ => Nat.beq c 110) I Q72) J ρ))) rfl ?_
        refine am_e_virtual (Q := fun r => ∃ Q73, r = (none, (am_mm D (am_wp tR (am_wp (fun c _ => Nat.beq c 110) I Q72) Q73) J ρ)) ∧ (Q73 108, Q73 107 25) = sp_rn way (n).toNat ((I 108), 0)) rfl rfl (Nat.le_of_ble_eq_true rfl) rfl rfl (Nat.le_of_ble_eq_true rfl) (Nat.le_of_ble_eq_true rfl) (r_runs _ (B := B) (n := n) (way := way) ⟨by omega, by omega⟩ ⟨by omega, by omega⟩ (by omega) (show (I 108) 0 ≤ 190 by omega) hok hwf) ?_
        rintro r ⟨Q73, rfl, hrn⟩
        show am_E _ _ _ 55 [(0, .inr (.inr (.inl (some 107)))), (1, .inl n), (2, .inl way), (3, .inl what)] [] (am_mm D (am_wp tR (am_wp (fun c _ => Nat.beq c 110) I Q72) Q73) J ρ) _
        have h108 : Q73 108 = (sp_rn way n.toNat (I 108, 0)).1 := congrArg Prod.fst hrn
        have hro := sp_rn_ok (way := way) n.toNat (S := I 108) (c := 0) hok hwf (by omega)
        have hal := hro.2
        have hok5 : r_ok (Q73 108) (B + 80050 * (n.toNat : Int)) := by rw [h108]; exact hro.1
        have e19 : Q73 108 19 = I 108 19 := by rw [h108]; exact (hal 19 (by omega)).symm
        refine am_e_ss 1 (q := (56, [(0, .inr (.inr (.inl (some 107)))), (1, .inl n), (2, .inl way), (3, .inl what)], [.inl what], (am_mm D (am_wp tR (am_wp (fun c _ => Nat.beq c 110) I Q72) Q73) J ρ))) rfl ?_
        refine am_e_if2 rfl ⟨by omega, by omega⟩ (fun (h4 : ¬ what = 0) => ?_) (fun (h4 : ¬ (¬ what = 0)) => ?_)
        · show am_E _ _ _ 66 [(0, .inr (.inr (.inl (some 107)))), (1, .inl n), (2, .inl way), (3, .inl what)] [] (am_mm D (am_wp tR (am_wp (fun c _ => Nat.beq c 110) I Q72) Q73) J ρ) _
          refine am_e_ss 2 (q := (68, [(0, .inr (.inr (.inl (some 107)))), (1, .inl n), (2, .inl way), (3, .inl what)], [.inl 1, .inl what], (am_mm D (am_wp tR (am_wp (fun c _ => Nat.beq c 110) I Q72) Q73) J ρ))) rfl ?_
          refine am_e_icmp2 rfl ⟨by omega, by omega⟩ ⟨by omega, by omega⟩ (fun (h5 : ¬ what = 1) => ?_) (fun (h5 : ¬ (¬ what = 1)) => ?_)
          · show am_E _ _ _ 78 [(0, .inr (.inr (.inl (some 107)))), (1, .inl n), (2, .inl way), (3, .inl what)] [] (am_mm D (am_wp tR (am_wp (fun c _ => Nat.beq c 110) I Q72) Q73) J ρ) _
            refine am_e_ss 2 (q := (80, [(0, .inr (.inr (.inl (some 107)))), (1, .inl n), (2, .inl way), (3, .inl what)], [.inl 2, .inl what], (am_mm D (am_wp tR (am_wp (fun c _ => Nat.beq c 110) I Q72) Q73) J ρ))) rfl ?_
            refine am_e_icmp2 rfl ⟨by omega, by omega⟩ ⟨by omega, by omega⟩ (fun (h6 : ¬ what = 2) => ?_) (fun (h6 : ¬ (¬ what = 2)) => ?_)
            · show am_E _ _ _ 90 [(0, .inr (.inr (.inl (some 107)))), (1, .inl n), (2, .inl way), (3, .inl what)] [] (am_mm D (am_wp tR (am_wp (fun c _ => Nat.beq c 110) I Q72) Q73) J ρ) _
              refine am_e_ss 7 (q := (100, [(0, .inr (.inr (.inl (some 107)))), (1, .inl n), (2, .inl way), (3, .inl what)], [.inl ((1 + what) - 10), .inr (.inr (.inl (some 108)))], (am_mm D (am_wp tR (am_wp (fun c _ => Nat.beq c 110) I Q72) Q73) J ρ))) rfl ?_
              refine am_e_iaload (m := 878) rfl rfl (by omega) (by omega) (by omega) ?_
              show am_E _ _ _ 101 [(0, .inr (.inr (.inl (some 107)))), (1, .inl n), (2, .inl way), (3, .inl what)] [.inl ((Q73 108 (((1 + what) - 10)).toNat))] (am_mm D (am_wp tR (am_wp (fun c _ => Nat.beq c 110) I Q72) Q73) J ρ) _
              refine am_e_ss 2 (q := (104, [(4, .inl ((Q73 108 (((1 + what) - 10)).toNat))), (0, .inr (.inr (.inl (some 107)))), (1, .inl n), (2, .inl way), (3, .inl what)], [.inr (.inr (.inl (some 107)))], (am_mm D (am_wp tR (am_wp (fun c _ => Nat.beq c 110) I Q72) Q73) J ρ))) rfl ?_
              refine am_e_virtual (Q := fun r => r = (none, (am_mm D (am_cpI (am_wp tR (am_wp (fun c _ => Nat.beq c 110) I Q72) Q73) 108 110 19) J ρ))) rfl rfl (Nat.le_of_ble_eq_true rfl) rfl rfl (Nat.le_of_ble_eq_true rfl) (Nat.le_of_ble_eq_true rfl) (r_goesBack _) ?_
              rintro r rfl
              show am_E _ _ _ 107 [(4, .inl ((Q73 108 (((1 + what) - 10)).toNat))), (0, .inr (.inr (.inl (some 107)))), (1, .inl n), (2, .inl way), (3, .inl what)] [] (am_mm D (am_cpI (am_wp tR (am_wp (fun c _ => Nat.beq c 110) I Q72) Q73) 108 110 19) J ρ) _
              refine am_e_ss 1 (q := (109, [(4, .inl ((Q73 108 (((1 + what) - 10)).toNat))), (0, .inr (.inr (.inl (some 107)))), (1, .inl n), (2, .inl way), (3, .inl what)], [.inl ((Q73 108 (((1 + what) - 10)).toNat))], (am_mm D (am_cpI (am_wp tR (am_wp (fun c _ => Nat.beq c 110) I Q72) Q73) 108 110 19) J ρ))) rfl ?_
              refine am_e_ireturn rfl rfl ?_
              have er : sp_run (I 108) n way what = (Q73 108 (((1 + what) - 10)).toNat) := by
                unfold sp_run
                rw [← hrn, if_neg (by omega), if_neg (by omega)]
                (repeat' split) <;> first | rfl | (exfalso; omega) | (show Q73 108 _ = Q73 108 _; congr 1; omega)
              rw [er]
              refine ⟨_, am_r_wp tU (am_bk8 tU_8 (am_k_wp tR_tU8 (am_k_wp t110_8 am_k_id)) ?_ ?_)⟩
              · intro i hi
                show Q73 108 i = _
                rw [h108]
                exact (hal i hi).symm
              · exact hkp
            · show am_E _ _ _ 83 [(0, .inr (.inr (.inl (some 107)))), (1, .inl n), (2, .inl way), (3, .inl what)] [] (am_mm D (am_wp tR (am_wp (fun c _ => Nat.beq c 110) I Q72) Q73) J ρ) _
              refine am_e_ss 1 (q := (84, [(0, .inr (.inr (.inl (some 107)))), (1, .inl n), (2, .inl way), (3, .inl what)], [.inr (.inr (.inl (some 107)))], (am_mm D (am_wp tR (am_wp (fun c _ => Nat.beq c 110) I Q72) Q73) J ρ))) rfl ?_
              refine am_e_virtual (Q := fun r => r = (some (.inl ((sp_mh (Q73 108)))), (am_mm D (am_wp tR (am_wp (fun c _ => Nat.beq c 110) I Q72) Q73) J ρ))) rfl rfl (Nat.le_of_ble_eq_true rfl) rfl rfl (Nat.le_of_ble_eq_true rfl) (Nat.le_of_ble_eq_true rfl) (r_membersHad _ hok5) ?_
              rintro r rfl
              show am_E _ _ _ 87 [(0, .inr (.inr (.inl (some 107)))), (1, .inl n), (2, .inl way), (3, .inl what)] [.inl ((sp_mh (Q73 108)))] (am_mm D (am_wp tR (am_wp (fun c _ => Nat.beq c 110) I Q72) Q73) J ρ) _
              refine am_e_ss 3 (q := (104, [(4, .inl ((sp_mh (Q73 108)))), (0, .inr (.inr (.inl (some 107)))), (1, .inl n), (2, .inl way), (3, .inl what)], [.inr (.inr (.inl (some 107)))], (am_mm D (am_wp tR (am_wp (fun c _ => Nat.beq c 110) I Q72) Q73) J ρ))) rfl ?_
              refine am_e_virtual (Q := fun r => r = (none, (am_mm D (am_cpI (am_wp tR (am_wp (fun c _ => Nat.beq c 110) I Q72) Q73) 108 110 19) J ρ))) rfl rfl (Nat.le_of_ble_eq_true rfl) rfl rfl (Nat.le_of_ble_eq_true rfl) (Nat.le_of_ble_eq_true rfl) (r_goesBack _) ?_
              rintro r rfl
              show am_E _ _ _ 107 [(4, .inl ((sp_mh (Q73 108)))), (0, .inr (.inr (.inl (some 107)))), (1, .inl n), (2, .inl way), (3, .inl what)] [] (am_mm D (am_cpI (am_wp tR (am_wp (fun c _ => Nat.beq c 110) I Q72) Q73) 108 110 19) J ρ) _
              refine am_e_ss 1 (q := (109, [(4, .inl ((sp_mh (Q73 108)))), (0, .inr (.inr (.inl (some 107)))), (1, .inl n), (2, .inl way), (3, .inl what)], [.inl ((sp_mh (Q73 108)))], (am_mm D (am_cpI (am_wp tR (am_wp (fun c _ => Nat.beq c 110) I Q72) Q73) 108 110 19) J ρ))) rfl ?_
              refine am_e_ireturn rfl rfl ?_
              have er : sp_run (I 108) n way what = (sp_mh (Q73 108)) := by
                unfold sp_run
                rw [← hrn, if_neg (by omega), if_neg (by omega)]
                (repeat' split) <;> first | rfl | (exfalso; omega) | (show Q73 108 _ = Q73 108 _; congr 1; omega)
              rw [er]
              refine ⟨_, am_r_wp tU (am_bk8 tU_8 (am_k_wp tR_tU8 (am_k_wp t110_8 am_k_id)) ?_ ?_)⟩
              · intro i hi
                show Q73 108 i = _
                rw [h108]
                exact (hal i hi).symm
              · exact hkp
          · show am_E _ _ _ 71 [(0, .inr (.inr (.inl (some 107)))), (1, .inl n), (2, .inl way), (3, .inl what)] [] (am_mm D (am_wp tR (am_wp (fun c _ => Nat.beq c 110) I Q72) Q73) J ρ) _
            refine am_e_ss 5 (q := (104, [(4, .inl ((Q73 107 25))), (0, .inr (.inr (.inl (some 107)))), (1, .inl n), (2, .inl way), (3, .inl what)], [.inr (.inr (.inl (some 107)))], (am_mm D (am_wp tR (am_wp (fun c _ => Nat.beq c 110) I Q72) Q73) J ρ))) rfl ?_
            refine am_e_virtual (Q := fun r => r = (none, (am_mm D (am_cpI (am_wp tR (am_wp (fun c _ => Nat.beq c 110) I Q72) Q73) 108 110 19) J ρ))) rfl rfl (Nat.le_of_ble_eq_true rfl) rfl rfl (Nat.le_of_ble_eq_true rfl) (Nat.le_of_ble_eq_true rfl) (r_goesBack _) ?_
            rintro r rfl
            show am_E _ _ _ 107 [(4, .inl ((Q73 107 25))), (0, .inr (.inr (.inl (some 107)))), (1, .inl n), (2, .inl way), (3, .inl what)] [] (am_mm D (am_cpI (am_wp tR (am_wp (fun c _ => Nat.beq c 110) I Q72) Q73) 108 110 19) J ρ) _
            refine am_e_ss 1 (q := (109, [(4, .inl ((Q73 107 25))), (0, .inr (.inr (.inl (some 107)))), (1, .inl n), (2, .inl way), (3, .inl what)], [.inl ((Q73 107 25))], (am_mm D (am_cpI (am_wp tR (am_wp (fun c _ => Nat.beq c 110) I Q72) Q73) 108 110 19) J ρ))) rfl ?_
            refine am_e_ireturn rfl rfl ?_
            have er : sp_run (I 108) n way what = (Q73 107 25) := by
              unfold sp_run
              rw [← hrn, if_neg (by omega), if_neg (by omega)]
              (repeat' split) <;> first | rfl | (exfalso; omega) | (show Q73 108 _ = Q73 108 _; congr 1; omega)
            rw [er]
            refine ⟨_, am_r_wp tU (am_bk8 tU_8 (am_k_wp tR_tU8 (am_k_wp t110_8 am_k_id)) ?_ ?_)⟩
            · intro i hi
              show Q73 108 i = _
              rw [h108]
              exact (hal i hi).symm
            · exact hkp
        · show am_E _ _ _ 59 [(0, .inr (.inr (.inl (some 107)))), (1, .inl n), (2, .inl way), (3, .inl what)] [] (am_mm D (am_wp tR (am_wp (fun c _ => Nat.beq c 110) I Q72) Q73) J ρ) _
          refine am_e_ss 1 (q := (60, [(0, .inr (.inr (.inl (some 107)))), (1, .inl n), (2, .inl way), (3, .inl what)], [.inr (.inr (.inl (some 107)))], (am_mm D (am_wp tR (am_wp (fun c _ => Nat.beq c 110) I Q72) Q73) J ρ))) rfl ?_
          refine am_e_virtual (Q := fun r => r = (some (.inl ((sp_here (Q73 108)))), (am_mm D (am_wp tR (am_wp (fun c _ => Nat.beq c 110) I Q72) Q73) J ρ))) rfl rfl (Nat.le_of_ble_eq_true rfl) rfl rfl (Nat.le_of_ble_eq_true rfl) (Nat.le_of_ble_eq_true rfl) (r_membersHere _ hok5) ?_
          rintro r rfl
          show am_E _ _ _ 63 [(0, .inr (.inr (.inl (some 107)))), (1, .inl n), (2, .inl way), (3, .inl what)] [.inl ((sp_here (Q73 108)))] (am_mm D (am_wp tR (am_wp (fun c _ => Nat.beq c 110) I Q72) Q73) J ρ) _
          refine am_e_ss 3 (q := (104, [(4, .inl ((sp_here (Q73 108)))), (0, .inr (.inr (.inl (some 107)))), (1, .inl n), (2, .inl way), (3, .inl what)], [.inr (.inr (.inl (some 107)))], (am_mm D (am_wp tR (am_wp (fun c _ => Nat.beq c 110) I Q72) Q73) J ρ))) rfl ?_
          refine am_e_virtual (Q := fun r => r = (none, (am_mm D (am_cpI (am_wp tR (am_wp (fun c _ => Nat.beq c 110) I Q72) Q73) 108 110 19) J ρ))) rfl rfl (Nat.le_of_ble_eq_true rfl) rfl rfl (Nat.le_of_ble_eq_true rfl) (Nat.le_of_ble_eq_true rfl) (r_goesBack _) ?_
          rintro r rfl
          show am_E _ _ _ 107 [(4, .inl ((sp_here (Q73 108)))), (0, .inr (.inr (.inl (some 107)))), (1, .inl n), (2, .inl way), (3, .inl what)] [] (am_mm D (am_cpI (am_wp tR (am_wp (fun c _ => Nat.beq c 110) I Q72) Q73) 108 110 19) J ρ) _
          refine am_e_ss 1 (q := (109, [(4, .inl ((sp_here (Q73 108)))), (0, .inr (.inr (.inl (some 107)))), (1, .inl n), (2, .inl way), (3, .inl what)], [.inl ((sp_here (Q73 108)))], (am_mm D (am_cpI (am_wp tR (am_wp (fun c _ => Nat.beq c 110) I Q72) Q73) 108 110 19) J ρ))) rfl ?_
          refine am_e_ireturn rfl rfl ?_
          have er : sp_run (I 108) n way what = (sp_here (Q73 108)) := by
            unfold sp_run
            rw [← hrn, if_neg (by omega), if_neg (by omega)]
            (repeat' split) <;> first | rfl | (exfalso; omega) | (show Q73 108 _ = Q73 108 _; congr 1; omega)
          rw [er]
          refine ⟨_, am_r_wp tU (am_bk8 tU_8 (am_k_wp tR_tU8 (am_k_wp t110_8 am_k_id)) ?_ ?_)⟩
          · intro i hi
            show Q73 108 i = _
            rw [h108]
            exact (hal i hi).symm
          · exact hkp
      · show am_E _ _ _ 41 [(0, .inr (.inr (.inl (some 107)))), (1, .inl n), (2, .inl way), (3, .inl what)] [] (am_mm D I J ρ) _
        refine am_e_ss 1 (q := (44, [(0, .inr (.inr (.inl (some 107)))), (1, .inl n), (2, .inl way), (3, .inl what)], [.inl (-10002)], (am_mm D I J ρ))) rfl ?_
        refine am_e_ireturn rfl rfl ?_
        have er : sp_run (I 108) n way what = (-10002) := by
          unfold sp_run
          (repeat' split) <;> first | rfl | (exfalso; omega)
        rw [er]
        exact ⟨I, am_r_wp tU am_k_id⟩
    · show am_E _ _ _ 16 [(0, .inr (.inr (.inl (some 107)))), (1, .inl n), (2, .inl way), (3, .inl what)] [] (am_mm D I J ρ) _
      refine am_e_ss 4 (q := (21, [(0, .inr (.inr (.inl (some 107)))), (1, .inl n), (2, .inl way), (3, .inl what)], [.inl (what - 10), .inr (.inr (.inl (some 107)))], (am_mm D I J ρ))) rfl ?_
      refine am_e_virtual (Q := fun r => r = (some (.inl ((am_bi (0 ≤ (what - 10) ∧ (what - 10) ≤ ((I 108 19) - 1))))), (am_mm D I J ρ))) rfl rfl (Nat.le_of_ble_eq_true rfl) rfl rfl (Nat.le_of_ble_eq_true rfl) (Nat.le_of_ble_eq_true rfl) (r_isMember _ ⟨by omega, by omega⟩ (show 0 ≤ (I 108 19) ∧ (I 108 19) ≤ 6 by omega)) ?_
      rintro r rfl
      show am_E _ _ _ 24 [(0, .inr (.inr (.inl (some 107)))), (1, .inl n), (2, .inl way), (3, .inl what)] [.inl ((am_bi (0 ≤ (what - 10) ∧ (what - 10) ≤ ((I 108 19) - 1))))] (am_mm D I J ρ) _
      refine am_e_ifne rfl (fun h7 => ?_) (fun h7 => ?_)
      · show am_E _ _ _ 31 [(0, .inr (.inr (.inl (some 107)))), (1, .inl n), (2, .inl way), (3, .inl what)] [] (am_mm D I J ρ) _
        refine am_e_ss 3 (q := (35, [(0, .inr (.inr (.inl (some 107)))), (1, .inl n), (2, .inl way), (3, .inl what)], [.inl 6, .inl 0, .inl n], (am_mm D I J ρ))) rfl ?_
        refine am_e_static (Q := fun r => r = (some (.inl ((am_bi (0 ≤ n ∧ n ≤ 6)))), (am_mm D I J ρ))) rfl (Nat.le_of_ble_eq_true rfl) rfl (Nat.le_of_ble_eq_true rfl) (Nat.le_of_ble_eq_true rfl) (r_in _ ⟨by omega, by omega⟩ ⟨by omega, by omega⟩ ⟨by omega, by omega⟩) ?_
        rintro r rfl
        show am_E _ _ _ 38 [(0, .inr (.inr (.inl (some 107)))), (1, .inl n), (2, .inl way), (3, .inl what)] [.inl ((am_bi (0 ≤ n ∧ n ≤ 6)))] (am_mm D I J ρ) _
        refine am_e_ifne rfl (fun h8 => ?_) (fun h8 => ?_)
        · show am_E _ _ _ 45 [(0, .inr (.inr (.inl (some 107)))), (1, .inl n), (2, .inl way), (3, .inl what)] [] (am_mm D I J ρ) _
          refine am_e_ss 1 (q := (46, [(0, .inr (.inr (.inl (some 107)))), (1, .inl n), (2, .inl way), (3, .inl what)], [.inr (.inr (.inl (some 107)))], (am_mm D I J ρ))) rfl ?_
          refine am_e_virtual (Q := fun r => ∃ Q74, r = (none, (am_mm D (am_wp (fun c _ => Nat.beq c 110) I Q74) J ρ)) ∧ ∀ i, i < 19 → Q74 110 i = (I 108) i) rfl rfl (Nat.le_of_ble_eq_true rfl) rfl rfl (Nat.le_of_ble_eq_true rfl) (Nat.le_of_ble_eq_true rfl) (r_keepsW _) ?_
          rintro r ⟨Q74, rfl, hkp⟩
          show am_E _ _ _ 49 [(0, .inr (.inr (.inl (some 107)))), (1, .inl n), (2, .inl way), (3, .inl what)] [] (am_mm D (am_wp (fun c _ => Nat.beq c 110) I Q74) J ρ) _
          refine am_e_ss 3 (q := (52, [(0, .inr (.inr (.inl (some 107)))), (1, .inl n), (2, .inl way), (3, .inl what)], [.inl way, .inl n, .inr (.inr (.inl (some 107)))], (am_mm D (am_wp (fun c _ => Nat.beq c 110) I Q74) J ρ))) rfl ?_
          refine am_e_virtual (Q := fun r => ∃ Q75, r = (none, (am_mm D (am_wp tR (am_wp (fun c _ => Nat.beq c 110) I Q74) Q75) J ρ)) ∧ (Q75 108, Q75 107 25) = sp_rn way (n).toNat ((I 108), 0)) rfl rfl (Nat.le_of_ble_eq_true rfl) rfl rfl (Nat.le_of_ble_eq_true rfl) (Nat.le_of_ble_eq_true rfl) (r_runs _ (B := B) (n := n) (way := way) ⟨by omega, by omega⟩ ⟨by omega, by omega⟩ (by omega) (show (I 108) 0 ≤ 190 by omega) hok hwf) ?_
          rintro r ⟨Q75, rfl, hrn⟩
          show am_E _ _ _ 55 [(0, .inr (.inr (.inl (some 107)))), (1, .inl n), (2, .inl way), (3, .inl what)] [] (am_mm D (am_wp tR (am_wp (fun c _ => Nat.beq c 110) I Q74) Q75) J ρ) _
          have h108 : Q75 108 = (sp_rn way n.toNat (I 108, 0)).1 := congrArg Prod.fst hrn
          have hro := sp_rn_ok (way := way) n.toNat (S := I 108) (c := 0) hok hwf (by omega)
          have hal := hro.2
          have hok5 : r_ok (Q75 108) (B + 80050 * (n.toNat : Int)) := by rw [h108]; exact hro.1
          have e19 : Q75 108 19 = I 108 19 := by rw [h108]; exact (hal 19 (by omega)).symm
          refine am_e_ss 1 (q := (56, [(0, .inr (.inr (.inl (some 107)))), (1, .inl n), (2, .inl way), (3, .inl what)], [.inl what], (am_mm D (am_wp tR (am_wp (fun c _ => Nat.beq c 110) I Q74) Q75) J ρ))) rfl ?_
          refine am_e_if2 rfl ⟨by omega, by omega⟩ (fun (h9 : ¬ what = 0) => ?_) (fun (h9 : ¬ (¬ what = 0)) => ?_)
          · show am_E _ _ _ 66 [(0, .inr (.inr (.inl (some 107)))), (1, .inl n), (2, .inl way), (3, .inl what)] [] (am_mm D (am_wp tR (am_wp (fun c _ => Nat.beq c 110) I Q74) Q75) J ρ) _
            refine am_e_ss 2 (q := (68, [(0, .inr (.inr (.inl (some 107)))), (1, .inl n), (2, .inl way), (3, .inl what)], [.inl 1, .inl what], (am_mm D (am_wp tR (am_wp (fun c _ => Nat.beq c 110) I Q74) Q75) J ρ))) rfl ?_
            refine am_e_icmp2 rfl ⟨by omega, by omega⟩ ⟨by omega, by omega⟩ (fun (h10 : ¬ what = 1) => ?_) (fun (h10 : ¬ (¬ what = 1)) => ?_)
            · show am_E _ _ _ 78 [(0, .inr (.inr (.inl (some 107)))), (1, .inl n), (2, .inl way), (3, .inl what)] [] (am_mm D (am_wp tR (am_wp (fun c _ => Nat.beq c 110) I Q74) Q75) J ρ) _
              refine am_e_ss 2 (q := (80, [(0, .inr (.inr (.inl (some 107)))), (1, .inl n), (2, .inl way), (3, .inl what)], [.inl 2, .inl what], (am_mm D (am_wp tR (am_wp (fun c _ => Nat.beq c 110) I Q74) Q75) J ρ))) rfl ?_
              refine am_e_icmp2 rfl ⟨by omega, by omega⟩ ⟨by omega, by omega⟩ (fun (h11 : ¬ what = 2) => ?_) (fun (h11 : ¬ (¬ what = 2)) => ?_)
              · show am_E _ _ _ 90 [(0, .inr (.inr (.inl (some 107)))), (1, .inl n), (2, .inl way), (3, .inl what)] [] (am_mm D (am_wp tR (am_wp (fun c _ => Nat.beq c 110) I Q74) Q75) J ρ) _
                refine am_e_ss 7 (q := (100, [(0, .inr (.inr (.inl (some 107)))), (1, .inl n), (2, .inl way), (3, .inl what)], [.inl ((1 + what) - 10), .inr (.inr (.inl (some 108)))], (am_mm D (am_wp tR (am_wp (fun c _ => Nat.beq c 110) I Q74) Q75) J ρ))) rfl ?_
                refine am_e_iaload (m := 878) rfl rfl (by omega) (by omega) (by omega) ?_
                show am_E _ _ _ 101 [(0, .inr (.inr (.inl (some 107)))), (1, .inl n), (2, .inl way), (3, .inl what)] [.inl ((Q75 108 (((1 + what) - 10)).toNat))] (am_mm D (am_wp tR (am_wp (fun c _ => Nat.beq c 110) I Q74) Q75) J ρ) _
                refine am_e_ss 2 (q := (104, [(4, .inl ((Q75 108 (((1 + what) - 10)).toNat))), (0, .inr (.inr (.inl (some 107)))), (1, .inl n), (2, .inl way), (3, .inl what)], [.inr (.inr (.inl (some 107)))], (am_mm D (am_wp tR (am_wp (fun c _ => Nat.beq c 110) I Q74) Q75) J ρ))) rfl ?_
                refine am_e_virtual (Q := fun r => r = (none, (am_mm D (am_cpI (am_wp tR (am_wp (fun c _ => Nat.beq c 110) I Q74) Q75) 108 110 19) J ρ))) rfl rfl (Nat.le_of_ble_eq_true rfl) rfl rfl (Nat.le_of_ble_eq_true rfl) (Nat.le_of_ble_eq_true rfl) (r_goesBack _) ?_
                rintro r rfl
                show am_E _ _ _ 107 [(4, .inl ((Q75 108 (((1 + what) - 10)).toNat))), (0, .inr (.inr (.inl (some 107)))), (1, .inl n), (2, .inl way), (3, .inl what)] [] (am_mm D (am_cpI (am_wp tR (am_wp (fun c _ => Nat.beq c 110) I Q74) Q75) 108 110 19) J ρ) _
                refine am_e_ss 1 (q := (109, [(4, .inl ((Q75 108 (((1 + what) - 10)).toNat))), (0, .inr (.inr (.inl (some 107)))), (1, .inl n), (2, .inl way), (3, .inl what)], [.inl ((Q75 108 (((1 + what) - 10)).toNat))], (am_mm D (am_cpI (am_wp tR (am_wp (fun c _ => Nat.beq c 110) I Q74) Q75) 108 110 19) J ρ))) rfl ?_
                refine am_e_ireturn rfl rfl ?_
                have er : sp_run (I 108) n way what = (Q75 108 (((1 + what) - 10)).toNat) := by
                  unfold sp_run
                  rw [← hrn, if_neg (by omega), if_neg (by omega)]
                  (repeat' split) <;> first | rfl | (exfalso; omega) | (show Q75 108 _ = Q75 108 _; congr 1; omega)
                rw [er]
                refine ⟨_, am_r_wp tU (am_bk8 tU_8 (am_k_wp tR_tU8 (am_k_wp t110_8 am_k_id)) ?_ ?_)⟩
                · intro i hi
                  show Q75 108 i = _
                  rw [h108]
                  exact (hal i hi).symm
                · exact hkp
              · show am_E _ _ _ 83 [(0, .inr (.inr (.inl (some 107)))), (1, .inl n), (2, .inl way), (3, .inl what)] [] (am_mm D (am_wp tR (am_wp (fun c _ => Nat.beq c 110) I Q74) Q75) J ρ) _
                refine am_e_ss 1 (q := (84, [(0, .inr (.inr (.inl (some 107)))), (1, .inl n), (2, .inl way), (3, .inl what)], [.inr (.inr (.inl (some 107)))], (am_mm D (am_wp tR (am_wp (fun c _ => Nat.beq c 110) I Q74) Q75) J ρ))) rfl ?_
                refine am_e_virtual (Q := fun r => r = (some (.inl ((sp_mh (Q75 108)))), (am_mm D (am_wp tR (am_wp (fun c _ => Nat.beq c 110) I Q74) Q75) J ρ))) rfl rfl (Nat.le_of_ble_eq_true rfl) rfl rfl (Nat.le_of_ble_eq_true rfl) (Nat.le_of_ble_eq_true rfl) (r_membersHad _ hok5) ?_
                rintro r rfl
                show am_E _ _ _ 87 [(0, .inr (.inr (.inl (some 107)))), (1, .inl n), (2, .inl way), (3, .inl what)] [.inl ((sp_mh (Q75 108)))] (am_mm D (am_wp tR (am_wp (fun c _ => Nat.beq c 110) I Q74) Q75) J ρ) _
                refine am_e_ss 3 (q := (104, [(4, .inl ((sp_mh (Q75 108)))), (0, .inr (.inr (.inl (some 107)))), (1, .inl n), (2, .inl way), (3, .inl what)], [.inr (.inr (.inl (some 107)))], (am_mm D (am_wp tR (am_wp (fun c _ => Nat.beq c 110) I Q74) Q75) J ρ))) rfl ?_
                refine am_e_virtual (Q := fun r => r = (none, (am_mm D (am_cpI (am_wp tR (am_wp (fun c _ => Nat.beq c 110) I Q74) Q75) 108 110 19) J ρ))) rfl rfl (Nat.le_of_ble_eq_true rfl) rfl rfl (Nat.le_of_ble_eq_true rfl) (Nat.le_of_ble_eq_true rfl) (r_goesBack _) ?_
                rintro r rfl
                show am_E _ _ _ 107 [(4, .inl ((sp_mh (Q75 108)))), (0, .inr (.inr (.inl (some 107)))), (1, .inl n), (2, .inl way), (3, .inl what)] [] (am_mm D (am_cpI (am_wp tR (am_wp (fun c _ => Nat.beq c 110) I Q74) Q75) 108 110 19) J ρ) _
                refine am_e_ss 1 (q := (109, [(4, .inl ((sp_mh (Q75 108)))), (0, .inr (.inr (.inl (some 107)))), (1, .inl n), (2, .inl way), (3, .inl what)], [.inl ((sp_mh (Q75 108)))], (am_mm D (am_cpI (am_wp tR (am_wp (fun c _ => Nat.beq c 110) I Q74) Q75) 108 110 19) J ρ))) rfl ?_
                refine am_e_ireturn rfl rfl ?_
                have er : sp_run (I 108) n way what = (sp_mh (Q75 108)) := by
                  unfold sp_run
                  rw [← hrn, if_neg (by omega), if_neg (by omega)]
                  (repeat' split) <;> first | rfl | (exfalso; omega) | (show Q75 108 _ = Q75 108 _; congr 1; omega)
                rw [er]
                refine ⟨_, am_r_wp tU (am_bk8 tU_8 (am_k_wp tR_tU8 (am_k_wp t110_8 am_k_id)) ?_ ?_)⟩
                · intro i hi
                  show Q75 108 i = _
                  rw [h108]
                  exact (hal i hi).symm
                · exact hkp
            · show am_E _ _ _ 71 [(0, .inr (.inr (.inl (some 107)))), (1, .inl n), (2, .inl way), (3, .inl what)] [] (am_mm D (am_wp tR (am_wp (fun c _ => Nat.beq c 110) I Q74) Q75) J ρ) _
              refine am_e_ss 5 (q := (104, [(4, .inl ((Q75 107 25))), (0, .inr (.inr (.inl (some 107)))), (1, .inl n), (2, .inl way), (3, .inl what)], [.inr (.inr (.inl (some 107)))], (am_mm D (am_wp tR (am_wp (fun c _ => Nat.beq c 110) I Q74) Q75) J ρ))) rfl ?_
              refine am_e_virtual (Q := fun r => r = (none, (am_mm D (am_cpI (am_wp tR (am_wp (fun c _ => Nat.beq c 110) I Q74) Q75) 108 110 19) J ρ))) rfl rfl (Nat.le_of_ble_eq_true rfl) rfl rfl (Nat.le_of_ble_eq_true rfl) (Nat.le_of_ble_eq_true rfl) (r_goesBack _) ?_
              rintro r rfl
              show am_E _ _ _ 107 [(4, .inl ((Q75 107 25))), (0, .inr (.inr (.inl (some 107)))), (1, .inl n), (2, .inl way), (3, .inl what)] [] (am_mm D (am_cpI (am_wp tR (am_wp (fun c _ => Nat.beq c 110) I Q74) Q75) 108 110 19) J ρ) _
              refine am_e_ss 1 (q := (109, [(4, .inl ((Q75 107 25))), (0, .inr (.inr (.inl (some 107)))), (1, .inl n), (2, .inl way), (3, .inl what)], [.inl ((Q75 107 25))], (am_mm D (am_cpI (am_wp tR (am_wp (fun c _ => Nat.beq c 110) I Q74) Q75) 108 110 19) J ρ))) rfl ?_
              refine am_e_ireturn rfl rfl ?_
              have er : sp_run (I 108) n way what = (Q75 107 25) := by
                unfold sp_run
                rw [← hrn, if_neg (by omega), if_neg (by omega)]
                (repeat' split) <;> first | rfl | (exfalso; omega) | (show Q75 108 _ = Q75 108 _; congr 1; omega)
              rw [er]
              refine ⟨_, am_r_wp tU (am_bk8 tU_8 (am_k_wp tR_tU8 (am_k_wp t110_8 am_k_id)) ?_ ?_)⟩
              · intro i hi
                show Q75 108 i = _
                rw [h108]
                exact (hal i hi).symm
              · exact hkp
          · show am_E _ _ _ 59 [(0, .inr (.inr (.inl (some 107)))), (1, .inl n), (2, .inl way), (3, .inl what)] [] (am_mm D (am_wp tR (am_wp (fun c _ => Nat.beq c 110) I Q74) Q75) J ρ) _
            refine am_e_ss 1 (q := (60, [(0, .inr (.inr (.inl (some 107)))), (1, .inl n), (2, .inl way), (3, .inl what)], [.inr (.inr (.inl (some 107)))], (am_mm D (am_wp tR (am_wp (fun c _ => Nat.beq c 110) I Q74) Q75) J ρ))) rfl ?_
            refine am_e_virtual (Q := fun r => r = (some (.inl ((sp_here (Q75 108)))), (am_mm D (am_wp tR (am_wp (fun c _ => Nat.beq c 110) I Q74) Q75) J ρ))) rfl rfl (Nat.le_of_ble_eq_true rfl) rfl rfl (Nat.le_of_ble_eq_true rfl) (Nat.le_of_ble_eq_true rfl) (r_membersHere _ hok5) ?_
            rintro r rfl
            show am_E _ _ _ 63 [(0, .inr (.inr (.inl (some 107)))), (1, .inl n), (2, .inl way), (3, .inl what)] [.inl ((sp_here (Q75 108)))] (am_mm D (am_wp tR (am_wp (fun c _ => Nat.beq c 110) I Q74) Q75) J ρ) _
            refine am_e_ss 3 (q := (104, [(4, .inl ((sp_here (Q75 108)))), (0, .inr (.inr (.inl (some 107)))), (1, .inl n), (2, .inl way), (3, .inl what)], [.inr (.inr (.inl (some 107)))], (am_mm D (am_wp tR (am_wp (fun c _ => Nat.beq c 110) I Q74) Q75) J ρ))) rfl ?_
            refine am_e_virtual (Q := fun r => r = (none, (am_mm D (am_cpI (am_wp tR (am_wp (fun c _ => Nat.beq c 110) I Q74) Q75) 108 110 19) J ρ))) rfl rfl (Nat.le_of_ble_eq_true rfl) rfl rfl (Nat.le_of_ble_eq_true rfl) (Nat.le_of_ble_eq_true rfl) (r_goesBack _) ?_
            rintro r rfl
            show am_E _ _ _ 107 [(4, .inl ((sp_here (Q75 108)))), (0, .inr (.inr (.inl (some 107)))), (1, .inl n), (2, .inl way), (3, .inl what)] [] (am_mm D (am_cpI (am_wp tR (am_wp (fun c _ => Nat.beq c 110) I Q74) Q75) 108 110 19) J ρ) _
            refine am_e_ss 1 (q := (109, [(4, .inl ((sp_here (Q75 108)))), (0, .inr (.inr (.inl (some 107)))), (1, .inl n), (2, .inl way), (3, .inl what)], [.inl ((sp_here (Q75 108)))], (am_mm D (am_cpI (am_wp tR (am_wp (fun c _ => Nat.beq c 110) I Q74) Q75) 108 110 19) J ρ))) rfl ?_
            refine am_e_ireturn rfl rfl ?_
            have er : sp_run (I 108) n way what = (sp_here (Q75 108)) := by
              unfold sp_run
              rw [← hrn, if_neg (by omega), if_neg (by omega)]
              (repeat' split) <;> first | rfl | (exfalso; omega) | (show Q75 108 _ = Q75 108 _; congr 1; omega)
            rw [er]
            refine ⟨_, am_r_wp tU (am_bk8 tU_8 (am_k_wp tR_tU8 (am_k_wp t110_8 am_k_id)) ?_ ?_)⟩
            · intro i hi
              show Q75 108 i = _
              rw [h108]
              exact (hal i hi).symm
            · exact hkp
        · show am_E _ _ _ 41 [(0, .inr (.inr (.inl (some 107)))), (1, .inl n), (2, .inl way), (3, .inl what)] [] (am_mm D I J ρ) _
          refine am_e_ss 1 (q := (44, [(0, .inr (.inr (.inl (some 107)))), (1, .inl n), (2, .inl way), (3, .inl what)], [.inl (-10002)], (am_mm D I J ρ))) rfl ?_
          refine am_e_ireturn rfl rfl ?_
          have er : sp_run (I 108) n way what = (-10002) := by
            unfold sp_run
            (repeat' split) <;> first | rfl | (exfalso; omega)
          rw [er]
          exact ⟨I, am_r_wp tU am_k_id⟩
      · show am_E _ _ _ 27 [(0, .inr (.inr (.inl (some 107)))), (1, .inl n), (2, .inl way), (3, .inl what)] [] (am_mm D I J ρ) _
        refine am_e_ss 1 (q := (30, [(0, .inr (.inr (.inl (some 107)))), (1, .inl n), (2, .inl way), (3, .inl what)], [.inl (-10001)], (am_mm D I J ρ))) rfl ?_
        refine am_e_ireturn rfl rfl ?_
        have er : sp_run (I 108) n way what = (-10001) := by
          unfold sp_run
          (repeat' split) <;> first | rfl | (exfalso; omega)
        rw [er]
        exact ⟨I, am_r_wp tU am_k_id⟩
def sp_T (S : Nat → Int) (w : Nat) : Nat → Int := (sp_rn (w : Int) 6 (S, 0)).1
def sp_bst (S : Nat → Int) : Nat → Int × (Int × Int)
  | 0 => (0, (-1, 0))
  | w + 1 => if sp_btv (sp_hn (sp_T S w)) (sp_G (sp_T S w)) (sp_bst S w).2.1 (sp_bst S w).2.2 = 1 then ((w : Int), (sp_hn (sp_T S w), sp_G (sp_T S w))) else sp_bst S w
def sp_best (S : Nat → Int) : Int := (sp_bst S 6).1
theorem sp_T_ok {S : Nat → Int} {B : Int} {w : Nat} (hok : r_ok S B) (hwf : sp_wfS S) (h0 : S 0 ≤ 190) : r_ok (sp_T S w) (B + 480300) ∧ sp_al S (sp_T S w) := by
  have h := sp_rn_ok (way := (w : Int)) 6 (S := S) (c := 0) hok hwf (by omega)
  exact ⟨r_ok_mono h.1 (by omega), h.2⟩
theorem sp_btv_1 {h g g' : Int} (hh : 0 ≤ h) : sp_btv h g (-1) g' = 1 := if_pos (Or.inl (by omega))
def tBU : Nat → Nat → Bool := fun c i => Nat.beq c 110 || Nat.beq c 111 || Nat.beq c 112 || Nat.beq c 113 || Nat.beq c 114 || Nat.beq c 115 || Nat.beq c 116 || Nat.beq c 117 || Nat.beq c 118 || (Nat.beq c 107 && (Nat.beq i 12 || Nat.beq i 13 || Nat.beq i 20 || Nat.beq i 25 || Nat.beq i 26 || Nat.beq i 27))
def tB8 : Nat → Nat → Bool := fun c i => Nat.beq c 108 || Nat.beq c 110 || Nat.beq c 111 || Nat.beq c 112 || Nat.beq c 113 || Nat.beq c 114 || Nat.beq c 115 || Nat.beq c 116 || Nat.beq c 117 || Nat.beq c 118 || (Nat.beq c 107 && (Nat.beq i 12 || Nat.beq i 13 || Nat.beq i 20 || Nat.beq i 25 || Nat.beq i 26 || Nat.beq i 27))
theorem tR_tB8 : ∀ c i, tR c i = true → tB8 c i = true := by
  intro c i
  unfold tR tB8
  simp
  omega
theorem tE_tB8 : ∀ c i, tE c i = true → tB8 c i = true := by
  intro c i
  unfold tE tB8
  simp
  omega
theorem tE_tBU : ∀ c i, tE c i = true → tBU c i = true := by
  intro c i
  unfold tE tBU
  simp
  omega
theorem tBU_8 : ∀ c i, c ≠ 108 → tBU c i = false → tB8 c i = false := by
  intro c i h
  unfold tBU tB8
  rw [am_beq_f h]
  simp only [Bool.false_or]
  exact id
theorem t110_BU : ∀ c i, (fun c _ => Nat.beq c 110) c i = true → tBU c i = true := by
  intro c i
  unfold tBU
  simp
  omega
theorem r_best_l {X : Nat × (Nat → Int)} {D : List (Nat × Nat)} {I J : Nat → Nat → Int} {ρ : Nat → Nat → Option Nat} (d : Nat) {B p : Int} {w : Nat} (hw : w ≤ 6) (hp : p = (sp_bst (I 108) w).1) (h26 : I 107 26 = (sp_bst (I 108) w).2.1) (h27 : I 107 26 = -1 ∨ I 107 27 = (sp_bst (I 108) w).2.2) (hbh : -1 ≤ I 107 26 ∧ I 107 26 ≤ 6) (hbg : -2147483648 ≤ I 107 27 ∧ I 107 27 < 2147483648) (hfr : ∀ i, i < 19 → I 110 i = I 108 i) (hB : B + 480300 ≤ 300000000) (h0 : I 108 0 ≤ 190) (hok : r_ok (I 108) B) (hwf : sp_wfS (I 108)) : am_E X (d + 7) 198 13 [(2, .inl (w : Int)), (1, .inl p), (0, .inr (.inr (.inl (some 107))))] [] (am_mm D I J ρ) (fun r => ∃ Q, r = (some (.inl (sp_best (I 108))), am_mm D (am_wp tBU I Q) J ρ) ∧ (-2147483648 ≤ Q 107 27 ∧ Q 107 27 < 2147483648)) := by
  have hok2 := hok
  obtain ⟨o0, oG, oH, oD, o19, o20, o21, o22, o23, o24, oK, oV, oP, oM, oS, oY, oHd, oT, oC, oN⟩ := hok
  have hok := hok2
  refine am_e_ss 2 (q := (16, [(2, .inl (w : Int)), (1, .inl p), (0, .inr (.inr (.inl (some 107))))], [.inl 6, .inl (w : Int)], (am_mm D I J ρ))) rfl ?_
  refine am_e_icmp2 rfl ⟨by omega, by omega⟩ ⟨by omega, by omega⟩ (fun (h1 : 6 ≤ (w : Int)) => ?_) (fun (h1 : ¬ (6 ≤ (w : Int))) => ?_)
  · show am_E _ _ _ 49 [(2, .inl (w : Int)), (1, .inl p), (0, .inr (.inr (.inl (some 107))))] [] (am_mm D I J ρ) _
    refine am_e_ss 1 (q := (50, [(2, .inl (w : Int)), (1, .inl p), (0, .inr (.inr (.inl (some 107))))], [.inl p], (am_mm D I J ρ))) rfl ?_
    refine am_e_ireturn rfl rfl ?_
    rw [hp, show w = 6 by omega]
    exact ⟨I, am_r_wp tBU am_k_id, hbg⟩
  · show am_E _ _ _ 19 [(2, .inl (w : Int)), (1, .inl p), (0, .inr (.inr (.inl (some 107))))] [] (am_mm D I J ρ) _
    refine am_e_ss 3 (q := (23, [(2, .inl (w : Int)), (1, .inl p), (0, .inr (.inr (.inl (some 107))))], [.inl (w : Int), .inl 6, .inr (.inr (.inl (some 107)))], (am_mm D I J ρ))) rfl ?_
    refine am_e_virtual (Q := fun r => ∃ Q76, r = (none, (am_mm D (am_wp tR I Q76) J ρ)) ∧ (Q76 108, Q76 107 25) = sp_rn (w : Int) 6 ((I 108), 0)) rfl rfl (Nat.le_of_ble_eq_true rfl) rfl rfl (Nat.le_of_ble_eq_true rfl) (Nat.le_of_ble_eq_true rfl) (r_runs _ (B := B) (n := 6) (way := (w : Int)) ⟨by omega, by omega⟩ ⟨by omega, by omega⟩ (by omega) (show (I 108) 0 ≤ 190 by omega) hok hwf) ?_
    rintro r ⟨Q76, rfl, hrn⟩
    show am_E _ _ _ 26 [(2, .inl (w : Int)), (1, .inl p), (0, .inr (.inr (.inl (some 107))))] [] (am_mm D (am_wp tR I Q76) J ρ) _
    have h108 : Q76 108 = sp_T (I 108) w := congrArg Prod.fst hrn
    have hto := sp_T_ok (w := w) hok hwf h0
    have hok5 : r_ok (Q76 108) (B + 480300) := by rw [h108]; exact hto.1
    have hal := hto.2
    have hnb := sp_hn_b hto.1
    have gbb := sp_G_b hto.1 (r_ok_B hto.1)
    refine am_e_ss 1 (q := (27, [(2, .inl (w : Int)), (1, .inl p), (0, .inr (.inr (.inl (some 107))))], [.inr (.inr (.inl (some 107)))], (am_mm D (am_wp tR I Q76) J ρ))) rfl ?_
    refine am_e_virtual (Q := fun r => ∃ Q77, r = (some (.inl ((sp_btv (sp_hn (Q76 108)) (sp_G (Q76 108)) (I 107 26) (I 107 27)))), (am_mm D (am_wp tE (am_wp tR I Q76) Q77) J ρ)) ∧ Q77 107 26 = (if (sp_btv (sp_hn (Q76 108)) (sp_G (Q76 108)) (I 107 26) (I 107 27)) = 1 then sp_hn (Q76 108) else I 107 26) ∧ Q77 107 27 = (if (sp_btv (sp_hn (Q76 108)) (sp_G (Q76 108)) (I 107 26) (I 107 27)) = 1 then sp_G (Q76 108) else I 107 27)) rfl rfl (Nat.le_of_ble_eq_true rfl) rfl rfl (Nat.le_of_ble_eq_true rfl) (Nat.le_of_ble_eq_true rfl) (r_isBetter _ hB hbh hbg hok5) ?_
    rintro r ⟨Q77, rfl, ⟨n26, n27⟩⟩
    have bv01 := sp_btv_01 (sp_hn (Q76 108)) (sp_G (Q76 108)) (I 107 26) (I 107 27)
    show am_E _ _ _ 30 [(2, .inl (w : Int)), (1, .inl p), (0, .inr (.inr (.inl (some 107))))] [.inl ((sp_btv (sp_hn (Q76 108)) (sp_G (Q76 108)) (I 107 26) (I 107 27)))] (am_mm D (am_wp tE (am_wp tR I Q76) Q77) J ρ) _
    refine am_e_if2 rfl ⟨by omega, by omega⟩ (fun (h2 : (sp_btv (sp_hn (Q76 108)) (sp_G (Q76 108)) (I 107 26) (I 107 27)) = 0) => ?_) (fun (h2 : ¬ ((sp_btv (sp_hn (Q76 108)) (sp_G (Q76 108)) (I 107 26) (I 107 27)) = 0)) => ?_)
    · show am_E _ _ _ 37 [(2, .inl (w : Int)), (1, .inl p), (0, .inr (.inr (.inl (some 107))))] [] (am_mm D (am_wp tE (am_wp tR I Q76) Q77) J ρ) _
      refine am_e_ss 3 (q := (40, [(1, .inl p), (2, .inl (w : Int)), (0, .inr (.inr (.inl (some 107))))], [.inr (.inr (.inl (some 107)))], (am_mm D (am_wp tE (am_wp tR I Q76) Q77) J ρ))) rfl ?_
      refine am_e_virtual (Q := fun r => r = (none, (am_mm D (am_cpI (am_wp tE (am_wp tR I Q76) Q77) 108 110 19) J ρ))) rfl rfl (Nat.le_of_ble_eq_true rfl) rfl rfl (Nat.le_of_ble_eq_true rfl) (Nat.le_of_ble_eq_true rfl) (r_goesBack _) ?_
      rintro r rfl
      show am_E _ _ _ 43 [(1, .inl p), (2, .inl (w : Int)), (0, .inr (.inr (.inl (some 107))))] [] (am_mm D (am_cpI (am_wp tE (am_wp tR I Q76) Q77) 108 110 19) J ρ) _
      refine am_e_ss 2 (q := (13, [(2, .inl ((w : Int) + 1)), (1, .inl p), (0, .inr (.inr (.inl (some 107))))], [], (am_mm D (am_cpI (am_wp tE (am_wp tR I Q76) Q77) 108 110 19) J ρ))) rfl ?_
      have eb : (sp_btv (sp_hn (Q76 108)) (sp_G (Q76 108)) (I 107 26) (I 107 27)) = 0 := by omega
      rw [eb] at n26 n27
      have eb2 : sp_btv (sp_hn (sp_T (I 108) w)) (sp_G (sp_T (I 108) w)) (sp_bst (I 108) w).2.1 (sp_bst (I 108) w).2.2 = 0 := by
        rw [h108, h26] at eb
        rcases h27 with h | h
        · rw [← h26, h] at eb ⊢
          rw [sp_btv_1 hnb.1] at eb ⊢ <;> exact eb
        · rw [← h]; exact eb
      have eS : sp_bst (I 108) (w + 1) = sp_bst (I 108) w := if_neg (by rw [eb2]; omega)
      have m26 : Q77 107 26 = (sp_bst (I 108) (w + 1)).2.1 := by rw [n26, eS]; exact h26
      have m27 : Q77 107 26 = -1 ∨ Q77 107 27 = (sp_bst (I 108) (w + 1)).2.2 := by
        rw [n26, n27, eS]
        exact h27
      have b26 : -1 ≤ Q77 107 26 ∧ Q77 107 26 ≤ 6 := by rw [n26]; exact hbh
      have b27 : -2147483648 ≤ Q77 107 27 ∧ Q77 107 27 < 2147483648 := by rw [n27]; exact hbg
      have hbk : ∀ c i, tBU c i = false → (am_cpI (am_wp tE (am_wp tR I Q76) Q77) 108 110 19) c i = I c i := am_bk8 tBU_8 (am_k_wp tE_tB8 (am_k_wp tR_tB8 am_k_id)) (fun i hi => by (show Q76 108 i = _); rw [h108]; exact (hal i hi).symm) hfr
      have h8 : (am_cpI (am_wp tE (am_wp tR I Q76) Q77) 108 110 19) 108 = I 108 := funext (fun i => hbk 108 i rfl)
      have h10 : ∀ i, i < 19 → (am_cpI (am_wp tE (am_wp tR I Q76) Q77) 108 110 19) 110 i = (am_cpI (am_wp tE (am_wp tR I Q76) Q77) 108 110 19) 108 i := by
        intro i hi
        rw [h8]
        exact hfr i hi
      refine (am_less (lv := [(2, .inl ((w + 1) : Int)), (1, .inl p), (0, .inr (.inr (.inl (some 107))))]) rfl (List.forall_mem_cons.mpr ⟨rfl, List.forall_mem_cons.mpr ⟨rfl, List.forall_mem_cons.mpr ⟨rfl, List.forall_mem_nil _⟩⟩⟩) (r_best_l d (I := am_cpI (am_wp tE (am_wp tR I Q76) Q77) 108 110 19) (B := B) (w := w + 1) (by omega) (by rw [h8, eS]; exact hp) (by rw [h8]; exact m26) (by rw [h8]; exact m27) b26 b27 h10 hB (by rw [h8]; exact h0) (by rw [h8]; exact hok) (by rw [h8]; exact hwf))).imp ?_
      rintro r ⟨Q9, rfl, h9⟩
      rw [h8]
      exact ⟨_, am_r_wp tBU (am_k_wp am_k_sub hbk), h9⟩
    · show am_E _ _ _ 33 [(2, .inl (w : Int)), (1, .inl p), (0, .inr (.inr (.inl (some 107))))] [] (am_mm D (am_wp tE (am_wp tR I Q76) Q77) J ρ) _
      refine am_e_ss 4 (q := (40, [(1, .inl (w : Int)), (2, .inl (w : Int)), (0, .inr (.inr (.inl (some 107))))], [.inr (.inr (.inl (some 107)))], (am_mm D (am_wp tE (am_wp tR I Q76) Q77) J ρ))) rfl ?_
      refine am_e_virtual (Q := fun r => r = (none, (am_mm D (am_cpI (am_wp tE (am_wp tR I Q76) Q77) 108 110 19) J ρ))) rfl rfl (Nat.le_of_ble_eq_true rfl) rfl rfl (Nat.le_of_ble_eq_true rfl) (Nat.le_of_ble_eq_true rfl) (r_goesBack _) ?_
      rintro r rfl
      show am_E _ _ _ 43 [(1, .inl (w : Int)), (2, .inl (w : Int)), (0, .inr (.inr (.inl (some 107))))] [] (am_mm D (am_cpI (am_wp tE (am_wp tR I Q76) Q77) 108 110 19) J ρ) _
      refine am_e_ss 2 (q := (13, [(2, .inl ((w : Int) + 1)), (1, .inl (w : Int)), (0, .inr (.inr (.inl (some 107))))], [], (am_mm D (am_cpI (am_wp tE (am_wp tR I Q76) Q77) 108 110 19) J ρ))) rfl ?_
      have eb : (sp_btv (sp_hn (Q76 108)) (sp_G (Q76 108)) (I 107 26) (I 107 27)) = 1 := by omega
      rw [eb] at n26 n27
      have eb2 : sp_btv (sp_hn (sp_T (I 108) w)) (sp_G (sp_T (I 108) w)) (sp_bst (I 108) w).2.1 (sp_bst (I 108) w).2.2 = 1 := by
        rw [h108, h26] at eb
        rcases h27 with h | h
        · rw [← h26, h] at eb ⊢
          rw [sp_btv_1 hnb.1] at eb ⊢ <;> exact eb
        · rw [← h]; exact eb
      have eS : sp_bst (I 108) (w + 1) = ((w : Int), (sp_hn (sp_T (I 108) w), sp_G (sp_T (I 108) w))) := if_pos eb2
      have m26 : Q77 107 26 = (sp_bst (I 108) (w + 1)).2.1 := by rw [n26, eS, h108]; rfl
      have m27 : Q77 107 26 = -1 ∨ Q77 107 27 = (sp_bst (I 108) (w + 1)).2.2 := by
        rw [n26, n27, eS, h108]
        exact Or.inr rfl
      have b26 : -1 ≤ Q77 107 26 ∧ Q77 107 26 ≤ 6 := by rw [n26, h108]; (refine ⟨?_, ?_⟩ <;> rw [if_pos rfl] <;> omega)
      have b27 : -2147483648 ≤ Q77 107 27 ∧ Q77 107 27 < 2147483648 := by rw [n27, h108]; (refine ⟨?_, ?_⟩ <;> rw [if_pos rfl] <;> omega)
      have hbk : ∀ c i, tBU c i = false → (am_cpI (am_wp tE (am_wp tR I Q76) Q77) 108 110 19) c i = I c i := am_bk8 tBU_8 (am_k_wp tE_tB8 (am_k_wp tR_tB8 am_k_id)) (fun i hi => by (show Q76 108 i = _); rw [h108]; exact (hal i hi).symm) hfr
      have h8 : (am_cpI (am_wp tE (am_wp tR I Q76) Q77) 108 110 19) 108 = I 108 := funext (fun i => hbk 108 i rfl)
      have h10 : ∀ i, i < 19 → (am_cpI (am_wp tE (am_wp tR I Q76) Q77) 108 110 19) 110 i = (am_cpI (am_wp tE (am_wp tR I Q76) Q77) 108 110 19) 108 i := by
        intro i hi
        rw [h8]
        exact hfr i hi
      refine (am_less (lv := [(2, .inl ((w + 1) : Int)), (1, .inl ((w : Int))), (0, .inr (.inr (.inl (some 107))))]) rfl (List.forall_mem_cons.mpr ⟨rfl, List.forall_mem_cons.mpr ⟨rfl, List.forall_mem_cons.mpr ⟨rfl, List.forall_mem_nil _⟩⟩⟩) (r_best_l d (I := am_cpI (am_wp tE (am_wp tR I Q76) Q77) 108 110 19) (B := B) (w := w + 1) (by omega) (by rw [h8, eS]) (by rw [h8]; exact m26) (by rw [h8]; exact m27) b26 b27 h10 hB (by rw [h8]; exact h0) (by rw [h8]; exact hok) (by rw [h8]; exact hwf))).imp ?_
      rintro r ⟨Q9, rfl, h9⟩
      rw [h8]
      exact ⟨_, am_r_wp tBU (am_k_wp am_k_sub hbk), h9⟩
termination_by 6 - w
decreasing_by all_goals omega
theorem r_best {X : Nat × (Nat → Int)} {D : List (Nat × Nat)} {I J : Nat → Nat → Int} {ρ : Nat → Nat → Option Nat} (d : Nat) {B : Int} (hbg : -2147483648 ≤ I 107 27 ∧ I 107 27 < 2147483648) (hB : B + 480300 ≤ 300000000) (h0 : I 108 0 ≤ 190) (hok : r_ok (I 108) B) (hwf : sp_wfS (I 108)) : am_E X (d + 7) 198 0 [(0, .inr (.inr (.inl (some 107))))] [] (am_mm D I J ρ) (fun r => ∃ Q, r = (some (.inl (sp_best (I 108))), am_mm D (am_wp tBU I Q) J ρ) ∧ (-2147483648 ≤ Q 107 27 ∧ Q 107 27 < 2147483648)) := by
  refine am_e_ss 6 (q := (8, [(1, .inl 0), (0, .inr (.inr (.inl (some 107))))], [.inr (.inr (.inl (some 107)))], (am_mm D (am_up I 107 26 (-1)) J ρ))) rfl ?_
  refine am_e_virtual (Q := fun r => ∃ Q78, r = (none, (am_mm D (am_wp (fun c _ => Nat.beq c 110) (am_up I 107 26 (-1)) Q78) J ρ)) ∧ ∀ i, i < 19 → Q78 110 i = (I 108) i) rfl rfl (Nat.le_of_ble_eq_true rfl) rfl rfl (Nat.le_of_ble_eq_true rfl) (Nat.le_of_ble_eq_true rfl) (r_keepsW _) ?_
  rintro r ⟨Q78, rfl, hkp⟩
  show am_E _ _ _ 11 [(1, .inl 0), (0, .inr (.inr (.inl (some 107))))] [] (am_mm D (am_wp (fun c _ => Nat.beq c 110) (am_up I 107 26 (-1)) Q78) J ρ) _
  refine am_e_ss 2 (q := (13, [(2, .inl 0), (1, .inl 0), (0, .inr (.inr (.inl (some 107))))], [], (am_mm D (am_wp (fun c _ => Nat.beq c 110) (am_up I 107 26 (-1)) Q78) J ρ))) rfl ?_
  refine (am_less (lv := [(2, .inl (0 : Int)), (1, .inl 0), (0, .inr (.inr (.inl (some 107))))]) rfl (List.forall_mem_cons.mpr ⟨rfl, List.forall_mem_cons.mpr ⟨rfl, List.forall_mem_cons.mpr ⟨rfl, List.forall_mem_nil _⟩⟩⟩) (r_best_l d (I := am_wp (fun c _ => Nat.beq c 110) (am_up I 107 26 (-1)) Q78) (B := B) (w := 0) (by omega) rfl rfl (Or.inl rfl) ⟨by show (-1 : Int) ≤ -1; omega, by show (-1 : Int) ≤ 6; omega⟩ hbg hkp hB h0 hok hwf)).imp ?_
  rintro r ⟨Q9, rfl, h9⟩
  exact ⟨_, am_r_wp tBU (am_k_wp am_k_sub (am_k_wp t110_BU (am_k_up rfl am_k_id))), h9⟩
