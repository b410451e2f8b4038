/-! THE LAW: what holds between two calls, and behind the class's half of one -/
def y_iv (n : Nat) (D : List (Nat × Nat)) (I : Nat → Nat → Int) (ρ : Nat → Nat → Option Nat) : Prop := y_ok (I 108) (80050 * (n : Int)) ∧ (I 107 4 = 0 ∨ I 107 4 = 1) ∧ (I 107 4 = 1 → y_ok (I 109) (80050 * (n : Int))) ∧ (¬ I 107 4 = 1 → ρ 35 5 = some 46) ∧ (0 ≤ I 107 32 ∧ I 107 32 ≤ 100) ∧ (-2147483648 ≤ I 107 27 ∧ I 107 27 < 2147483648) ∧ c_rel D I ρ (I 108) (I 109) (I 107 4) (I 107 32) (I 123) ∧ D.length ≤ 5 * n ∧ (D.map (fun q => q.2)).sum ≤ 140 * n
def y_x (I : Nat → Nat → Int) (ρ : Nat → Nat → Option Nat) (D1 : List (Nat × Nat)) (K : Nat → Nat → Int) (ρ1 : Nat → Nat → Option Nat) (S T : Nat → Int) (hi ran : Int) (row : Nat → Int) : Prop := c_rel D1 K ρ1 S T hi ran row ∧ (∀ c i, 107 ≤ c → c < 124 → K c i = I c i) ∧ (¬ hi = 1 → ρ1 35 5 = ρ 35 5)
def y_m (I K : Nat → Nat → Int) (S T : Nat → Int) (hi ran : Int) (row : Nat → Int) : Prop := (∀ c i, c_fx c → K c i = I c i) ∧ K 108 = S ∧ K 109 = T ∧ K 107 4 = hi ∧ K 107 32 = ran ∧ K 123 = row ∧ (-2147483648 ≤ K 107 27 ∧ K 107 27 < 2147483648)
section
variable {n : Nat} {D E : List (Nat × Nat)} {I K K1 K2 Q : Nat → Nat → Int} {ρ ρ1 : Nat → Nat → Option Nat} {S T : Nat → Int} {hi ran : Int} {row : Nat → Int}
theorem y_fin (h : y_iv n D I ρ) (hx : y_x I ρ (D ++ E) K1 ρ1 S T hi ran row) (hm : y_m K1 K2 S T hi ran row) (hS : y_ok S (80050 * (n : Int) + 80050)) (hT : hi = 1 → y_ok T (80050 * (n : Int) + 80050)) (hhi : hi = I 107 4 ∨ hi = 1) (hran : 0 ≤ ran ∧ ran ≤ 100) (hE : E.length ≤ 5 ∧ (E.map (fun q => q.2)).sum ≤ 140) : y_iv (n + 1) (D ++ E) K2 ρ1 := by
  obtain ⟨i1, i2, i3, i4, i5, i6, i7, i8, i9⟩ := h
  obtain ⟨x1, x2, x3⟩ := hx
  obtain ⟨m1, m2, m3, m4, m5, m6, m7⟩ := hm
  have e1 : (80050 : Int) * ((n + 1 : Nat) : Int) = 80050 * (n : Int) + 80050 := by omega
  unfold y_iv
  rw [m2, m3, m4, m5, m6, e1]
  refine ⟨hS, by omega, hT, fun e => (x3 e).trans (i4 (by omega)), hran, m7, c_rel_cg hS.1 (fun e => (hT e).1) x1 m1 (fun _ _ _ => rfl), ?_, ?_⟩
  · rw [List.length_append]; omega
  · rw [List.map_append, List.sum_append]; omega
theorem y_fin0 (h : y_iv n D I ρ) (hx : y_x I ρ D K1 ρ1 S T hi ran row) (hm : y_m K1 K2 S T hi ran row) (hS : y_ok S (80050 * (n : Int) + 80050)) (hT : hi = 1 → y_ok T (80050 * (n : Int) + 80050)) (hhi : hi = I 107 4 ∨ hi = 1) (hran : 0 ≤ ran ∧ ran ≤ 100) : y_iv (n + 1) D K2 ρ1 := by
  have := y_fin (E := []) h (by rw [List.append_nil]; exact hx) hm hS hT hhi hran ⟨by simp, by simp⟩
  rw [List.append_nil] at this
  exact this
/-- a call that asks alone -/
theorem y_ask (h : y_iv n D I ρ) (hx : y_x I ρ D K1 ρ1 (I 108) (I 109) (I 107 4) (I 107 32) (I 123)) (hm : y_m K1 K2 (I 108) (I 109) (I 107 4) (I 107 32) (I 123)) : y_iv (n + 1) D K2 ρ1 := y_fin0 h hx hm (y_mono h.1 (by omega)) (fun e => y_mono (h.2.2.1 e) (by omega)) (Or.inl rfl) h.2.2.2.2.1
/-- a call that changes the state alone -/
theorem y_chg (h : y_iv n D I ρ) (hx : y_x I ρ D K1 ρ1 S (I 109) (I 107 4) (I 107 32) (I 123)) (hm : y_m K1 K2 S (I 109) (I 107 4) (I 107 32) (I 123)) (hS : y_ok S (80050 * (n : Int) + 80050)) : y_iv (n + 1) D K2 ρ1 := y_fin0 h hx hm hS (fun e => y_mono (h.2.2.1 e) (by omega)) (Or.inl rfl) h.2.2.2.2.1
theorem y_x0 (h : y_iv n D I ρ) : y_x I ρ D I ρ (I 108) (I 109) (I 107 4) (I 107 32) (I 123) := ⟨h.2.2.2.2.2.2.1, fun _ _ _ _ => rfl, fun _ => rfl⟩
theorem uZ_lw {c i : Nat} (h : 107 ≤ c) : uZ c i = false := by
  cases e : uZ c i with
  | false => rfl
  | true =>
    exfalso
    unfold uZ at e
    simp at e
    omega
theorem y_xZ (h : y_iv n D I ρ) (hr : ∀ k j, k ≠ 71 → ρ1 k j = ρ k j) : y_x I ρ D (am_wp uZ I Q) ρ1 (I 108) (I 109) (I 107 4) (I 107 32) (I 123) := ⟨c_rel_cg h.1.1 (fun e => (h.2.2.1 e).1) h.2.2.2.2.2.2.1 (fun c i hc => am_wp_off (uZ_fx hc)) hr, fun c i h1 _ => am_wp_off (uZ_lw h1), fun _ => hr 35 5 (by omega)⟩
theorem y_x1 (h : y_iv n D I ρ) (hf : ∀ c i, c_fz c → K c i = I c i) (hr : ∀ k j, k ≠ 71 → ρ1 k j = ρ k j) (hh : c_hall D K ρ1 0 S) : y_x I ρ D K ρ1 S (I 109) (I 107 4) (I 107 32) (I 123) := ⟨c_rel_0 (fun e => (h.2.2.1 e).1) h.2.2.2.2.2.2.1 (fun c i hc => hf c i (Or.inl hc)) hr hh, fun c i h1 h2 => hf c i (Or.inr ⟨h1, h2⟩), fun _ => hr 35 5 (by omega)⟩
theorem y_row (hK : ∀ c i, 107 ≤ c → c < 124 → K c i = I c i) {c : Nat} (h1 : 107 ≤ c) (h2 : c < 124) : K c = I c := funext (fun i => hK c i h1 h2)
theorem y_m0 (h : y_iv n D I ρ) (hK : ∀ c i, 107 ≤ c → c < 124 → K c i = I c i) : y_m K K (I 108) (I 109) (I 107 4) (I 107 32) (I 123) := ⟨fun _ _ _ => rfl, y_row hK (by omega) (by omega), y_row hK (by omega) (by omega), hK 107 4 (by omega) (by omega), hK 107 32 (by omega) (by omega), y_row hK (by omega) (by omega), by rw [hK 107 27 (by omega) (by omega)]; exact h.2.2.2.2.2.1⟩
theorem y_mt {t : Nat → Nat → Bool} (hK : ∀ c i, 107 ≤ c → c < 124 → K c i = I c i) (hf : ∀ c i, c_fx c → t c i = false) (h8 : ∀ i, t 108 i = false) (h9 : ∀ i, t 109 i = false) (h3 : ∀ i, t 123 i = false) (h4 : t 107 4 = false) (h32 : t 107 32 = false) (h27 : -2147483648 ≤ am_wp t K Q 107 27 ∧ am_wp t K Q 107 27 < 2147483648) : y_m K (am_wp t K Q) (I 108) (I 109) (I 107 4) (I 107 32) (I 123) := ⟨fun c i hc => am_wp_off (hf c i hc), funext (fun i => (am_wp_off (h8 i)).trans (hK 108 i (by omega) (by omega))), funext (fun i => (am_wp_off (h9 i)).trans (hK 109 i (by omega) (by omega))), (am_wp_off h4).trans (hK 107 4 (by omega) (by omega)), (am_wp_off h32).trans (hK 107 32 (by omega) (by omega)), funext (fun i => (am_wp_off (h3 i)).trans (hK 123 i (by omega) (by omega))), h27⟩
theorem y_mS {t : Nat → Nat → Bool} (hK : ∀ c i, 107 ≤ c → c < 124 → K c i = I c i) (hf : ∀ c i, c_fx c → t c i = false) (h8 : ∀ i, t 108 i = true) (h9 : ∀ i, t 109 i = false) (h3 : ∀ i, t 123 i = false) (h4 : t 107 4 = false) (h32 : t 107 32 = false) (h27 : -2147483648 ≤ am_wp t K Q 107 27 ∧ am_wp t K Q 107 27 < 2147483648) (hQ : Q 108 = S) : y_m K (am_wp t K Q) S (I 109) (I 107 4) (I 107 32) (I 123) := ⟨fun c i hc => am_wp_off (hf c i hc), (funext (fun i => if_pos (h8 i))).trans hQ, funext (fun i => (am_wp_off (h9 i)).trans (hK 109 i (by omega) (by omega))), (am_wp_off h4).trans (hK 107 4 (by omega) (by omega)), (am_wp_off h32).trans (hK 107 32 (by omega) (by omega)), funext (fun i => (am_wp_off (h3 i)).trans (hK 123 i (by omega) (by omega))), h27⟩
theorem y_sr (h : y_iv n D I ρ) (hK : ∀ c i, 107 ≤ c → c < 124 → K c i = I c i) : y_m K (am_sr K 108 S) S (I 109) (I 107 4) (I 107 32) (I 123) := ⟨fun c i hc => if_neg (by unfold c_fx at hc; omega), funext (fun i => if_pos rfl), funext (fun i => (if_neg (by omega)).trans (hK 109 i (by omega) (by omega))), (if_neg (by omega)).trans (hK 107 4 (by omega) (by omega)), (if_neg (by omega)).trans (hK 107 32 (by omega) (by omega)), funext (fun i => (if_neg (by omega)).trans (hK 123 i (by omega) (by omega))), by
  show -2147483648 ≤ K 107 27 ∧ K 107 27 < 2147483648
  rw [hK 107 27 (by omega) (by omega)]; exact h.2.2.2.2.2.1⟩
end
theorem tL_fx : ∀ c i, c_fx c → tL c i = false := by
  intro c i h
  unfold c_fx at h
  cases e : tL c i with
  | false => rfl
  | true =>
    exfalso
    unfold tL at e
    simp at e
    omega
theorem tA_fx : ∀ c i, c_fx c → tA c i = false := by
  intro c i h
  unfold c_fx at h
  cases e : tA c i with
  | false => rfl
  | true =>
    exfalso
    unfold tA at e
    simp at e
    omega
theorem tB_fx : ∀ c i, c_fx c → tB c i = false := by
  intro c i h
  unfold c_fx at h
  cases e : tB c i with
  | false => rfl
  | true =>
    exfalso
    unfold tB at e
    simp at e
    omega
theorem tU_fx : ∀ c i, c_fx c → tU c i = false := by
  intro c i h
  unfold c_fx at h
  cases e : tU c i with
  | false => rfl
  | true =>
    exfalso
    unfold tU at e
    simp at e
    omega
theorem tBU_fx : ∀ c i, c_fx c → tBU c i = false := by
  intro c i h
  unfold c_fx at h
  cases e : tBU c i with
  | false => rfl
  | true =>
    exfalso
    unfold tBU at e
    simp at e
    omega
theorem tW_fx : ∀ c i, c_fx c → tW c i = false := by
  intro c i h
  unfold c_fx at h
  cases e : tW c i with
  | false => rfl
  | true =>
    exfalso
    unfold tW at e
    simp at e
    omega
theorem tG_fx : ∀ c i, c_fx c → tG c i = false := by
  intro c i h
  unfold c_fx at h
  cases e : tG c i with
  | false => rfl
  | true =>
    exfalso
    unfold tG at e
    simp at e
    omega
theorem tV_fx : ∀ c i, c_fx c → tV c i = false := by
  intro c i h
  unfold c_fx at h
  cases e : tV c i with
  | false => rfl
  | true =>
    exfalso
    unfold tV at e
    simp at e
    omega
theorem uf_fz : ∀ c i, c_fz c → uf c i = false := by
  intro c i h
  unfold c_fz c_fy at h
  cases e : uf c i with
  | false => rfl
  | true =>
    exfalso
    unfold uf at e
    simp at e
    omega
theorem uh_fz : ∀ c i, c_fz c → uh c i = false := by
  intro c i h
  unfold c_fz c_fy at h
  cases e : uh c i with
  | false => rfl
  | true =>
    exfalso
    unfold uh at e
    simp at e
    omega
theorem uH2_fz : ∀ c i, c_fz c → uH2 c i = false := by
  intro c i h
  unfold c_fz c_fy at h
  cases e : uH2 c i with
  | false => rfl
  | true =>
    exfalso
    unfold uH2 at e
    simp at e
    omega
theorem uP2_fz : ∀ c i, c_fz c → uP2 c i = false := by
  intro c i h
  unfold c_fz c_fy at h
  cases e : uP2 c i with
  | false => rfl
  | true =>
    exfalso
    unfold uP2 at e
    simp at e
    omega
theorem uB2_fz : ∀ c i, c_fz c → uB2 c i = false := by
  intro c i h
  unfold c_fz c_fy at h
  cases e : uB2 c i with
  | false => rfl
  | true =>
    exfalso
    unfold uB2 uZ uP2 at e
    simp at e
    omega
