/-! THE CLASS: orders told otherwise -/
def nx_nd : List Nat → Bool
  | [] => true
  | x :: r => !(r.contains x) && nx_nd r
theorem nx_nd_ok : ∀ {q : List Nat}, nx_nd q = true → q.Nodup := by
  intro q
  induction q with
  | nil => intro _; exact List.nodup_nil
  | cons x r ih =>
    intro h
    unfold nx_nd at h
    rw [Bool.and_eq_true] at h
    refine List.nodup_cons.mpr ⟨?_, ih h.2⟩
    intro hx
    have := h.1
    simp [hx] at this
def nx_rw (o q : List Nat) : Bool := (q.length == o.length) && (nx_nd q && (o.all (fun x => q.contains x) && q.all (fun x => o.contains x)))
theorem nx_ok2 : ∀ b0 b1 b2 b3 b4 b5 : Bool, (b0 && b1 && b2 && b3 && b4 && b5) = true ∨ (nx_pl (nx_o b0 b1 b2 b3 b4 b5) (nx_o b0 b1 b2 b3 b4 b5).length []).all (nx_rw (nx_o b0 b1 b2 b3 b4 b5)) = true := by decide +kernel
theorem nx_voice {S : Nat → Int} {B : Int} (hok : r_ok S B) (h5 : sp_ops S ≤ 5) (ho : ¬ sp_ops S = 0) : ∀ q ∈ sp_pl2 S (sp_ops S).toNat [], sp_voice S q ∧ ¬ q = [] := by
  have hl := sp_ob_len (S := S)
  have hoo := nx_ob hok
  have hk := nx_ok2 (decide (0 < (S 20).toNat) && decide (S 13 = 0)) (decide (1 < (S 20).toNat) && decide (S 14 = 0)) (decide (2 < (S 20).toNat) && decide (S 15 = 0)) (decide (3 < (S 20).toNat) && decide (S 16 = 0)) (decide (4 < (S 20).toNat) && decide (S 17 = 0)) (decide (5 < (S 20).toNat) && decide (S 18 = 0))
  rcases hk with hk | hk
  · exfalso
    have h6 := nx_o_6 _ _ _ _ _ _ hk
    rw [← hoo] at h6
    omega
  · rw [← hoo] at hk
    intro q hq
    rw [nx_pl2, show (sp_ops S).toNat = (sp_ob S).length by omega] at hq
    have h := List.all_eq_true.mp hk q hq
    unfold nx_rw at h
    rw [Bool.and_eq_true, Bool.and_eq_true, Bool.and_eq_true, beq_iff_eq, List.all_eq_true, List.all_eq_true] at h
    obtain ⟨h1, h2, h3, h4⟩ := h
    refine ⟨Or.inr ⟨nx_nd_ok h2, ⟨by omega, ho⟩, ?_⟩, ?_⟩
    · intro x
      rw [← sp_ob_mem]
      constructor
      · intro hx; have := h4 x hx; simpa using this
      · intro hx; have := h3 x hx; simpa using this
    · intro e
      rw [e] at h1
      have : (sp_ob S).length = 0 := h1.symm
      omega
theorem sp_vl_vcs {S : Nat → Int} {t : Int} : sp_vcs S (sp_vl S t) := by
  intro m _
  refine ⟨sp_vl_voice, ?_⟩
  intro h
  unfold sp_vl
  split
  · exact sp_says_n (Or.inl h)
  · first | rfl | rw [if_neg h]
theorem sp_set_vcs {S : Nat → Int} {VL : Nat → List Nat} {m : Nat} {q : List Nat} (hv : sp_vcs S VL) (hq : sp_voice S q) (hh : S (7 + m) = 0) : sp_vcs S (sp_set VL m q) := by
  intro j hj
  unfold sp_set
  by_cases e : j = m
  · rw [if_pos e]; exact ⟨hq, fun h => absurd (by rw [e]; exact hh) h⟩
  · rw [if_neg e]; exact hv j hj
theorem sp_tls_cg {VL VL' : Nat → List Nat} {way b : Int} : ∀ n, (∀ m, m < n → VL m = VL' m) → sp_tls VL way b n = sp_tls VL' way b n := by
  intro n
  induction n with
  | zero => intro _; rfl
  | succ n ih => intro h; unfold sp_tls; rw [ih (fun m hm => h m (by omega)), h n (by omega)]
theorem sp_tla_cg {VL VL' : Nat → List Nat} {a b : Int} : ∀ n, (∀ m, m < n → VL m = VL' m) → sp_tla VL a b n = sp_tla VL' a b n := by
  intro n
  induction n with
  | zero => intro _; rfl
  | succ n ih => intro h; unfold sp_tla; rw [ih (fun m hm => h m (by omega)), h n (by omega)]
theorem sp_set_at {VL : Nat → List Nat} {m : Nat} {q : List Nat} : sp_set VL m q m = q := if_pos rfl
theorem sp_set_ne {VL : Nat → List Nat} {m j : Nat} {q : List Nat} (h : j ≠ m) : sp_set VL m q j = VL j := if_neg h
theorem sp_tls_set {VL : Nat → List Nat} {way b : Int} {m : Nat} {q : List Nat} : ∀ n, m < n → sp_tls (sp_set VL m q) way b n = sp_tls VL way b n - sp_scl (VL m) b way + sp_scl q b way := by
  intro n
  induction n with
  | zero => intro h; omega
  | succ n ih =>
    intro h
    unfold sp_tls
    by_cases e : m = n
    · subst e
      rw [sp_set_at, sp_tls_cg (VL' := VL) m (fun j hj => sp_set_ne (show j ≠ m by omega))]
      omega
    · rw [ih (by omega), sp_set_ne (fun h => e h.symm)]
      omega
theorem sp_tla_set {VL : Nat → List Nat} {a b : Int} {m : Nat} {q : List Nat} : ∀ n, m < n → sp_tla (sp_set VL m q) a b n = sp_tla VL a b n - sp_ahl (VL m) a b + sp_ahl q a b := by
  intro n
  induction n with
  | zero => intro h; omega
  | succ n ih =>
    intro h
    unfold sp_tla
    by_cases e : m = n
    · subst e
      rw [sp_set_at, sp_tla_cg (VL' := VL) m (fun j hj => sp_set_ne (show j ≠ m by omega))]
      omega
    · rw [ih (by omega), sp_set_ne (fun h => e h.symm)]
      omega
theorem sp_spk_set {VL : Nat → List Nat} {n m : Nat} {q : List Nat} (hm : m < n) (hq : ¬ q = []) (x : Nat) : sp_spk (sp_set VL m q) n x = (sp_spk VL n x || x == m) := by
  unfold sp_spk
  by_cases e : x = m
  · subst e
    rw [sp_set_at]
    have : q.isEmpty = false := by cases q with | nil => exact absurd rfl hq | cons a r => rfl
    simp [this, hm]
  · rw [sp_set_ne e]; simp [e]
theorem sp_spk_set0 {VL : Nat → List Nat} {n m : Nat} (x : Nat) : sp_spk (sp_set VL m []) n x = (sp_spk VL n x && !(x == m)) := by
  unfold sp_spk
  by_cases e : x = m
  · subst e
    rw [sp_set_at]; simp
  · rw [sp_set_ne e]; simp [e]
theorem sp_scl_nil {b way : Int} : sp_scl [] b way = 0 := rfl
theorem sp_ahl_nil {a b : Int} : sp_ahl [] a b = 0 := rfl
/-- what holds of the tallies while one is silent -/
def c_tal (I : Nat → Nat → Int) (VL : Nat → List Nat) (n : Nat) : Prop := (∀ b : Nat, b < 6 → I 87 b = sp_tls VL 0 b n ∧ I 88 b = sp_tls VL 1 b n ∧ I 89 b = sp_tls VL 2 b n) ∧ ∀ a b : Nat, a < 6 → b < 6 → I (91 + a) b = sp_tla VL a b n
theorem c_tal_add {I Q : Nat → Nat → Int} {VL : Nat → List Nat} {n m : Nat} {q : List Nat} (h : c_tal I (sp_set VL m []) n) (hm : m < n) (ht : c_talQ I Q 1 q) : c_tal Q (sp_set VL m q) n := by
  refine ⟨?_, ?_⟩
  · intro b hb
    have h1 := h.1 b hb
    have h2 := ht.1 b hb
    rw [sp_tls_set n hm, sp_tls_set n hm, sp_tls_set n hm, sp_scl_nil, sp_scl_nil, sp_scl_nil] at h1
    rw [sp_tls_set n hm, sp_tls_set n hm, sp_tls_set n hm]
    omega
  · intro a b ha hb
    have h1 := h.2 a b ha hb
    have h2 := ht.2 a b ha hb
    rw [sp_tla_set n hm, sp_ahl_nil] at h1
    rw [sp_tla_set n hm]
    omega
theorem c_tal_sub {I Q : Nat → Nat → Int} {VL : Nat → List Nat} {n m : Nat} {q : List Nat} (h : c_tal I (sp_set VL m q) n) (hm : m < n) (ht : c_talQ I Q (-1) q) : c_tal Q (sp_set VL m []) n := by
  refine ⟨?_, ?_⟩
  · intro b hb
    have h1 := h.1 b hb
    have h2 := ht.1 b hb
    rw [sp_tls_set n hm, sp_tls_set n hm, sp_tls_set n hm] at h1
    rw [sp_tls_set n hm, sp_tls_set n hm, sp_tls_set n hm, sp_scl_nil, sp_scl_nil, sp_scl_nil]
    omega
  · intro a b ha hb
    have h1 := h.2 a b ha hb
    have h2 := ht.2 a b ha hb
    rw [sp_tla_set n hm] at h1
    rw [sp_tla_set n hm, sp_ahl_nil]
    omega
theorem sp_set_self {VL : Nat → List Nat} {m : Nat} : sp_set VL m (VL m) = VL := by
  funext j
  unfold sp_set
  split
  · rename_i h; rw [h]
  · rfl
theorem sp_set_set {VL : Nat → List Nat} {m : Nat} {p q : List Nat} : sp_set (sp_set VL m p) m q = sp_set VL m q := by
  funext j
  unfold sp_set
  split <;> rfl
/-- the first row by which another book comes -/
def sp_ff1 (g u : Int) (lk : Int → Int) (F : List Nat → Int) : List (List Nat) → Int
  | [] => -5
  | p :: r => if 0 ≤ F p ∧ ((g = 0 ∧ ¬ F p = u) ∨ (g = 1 ∧ lk u < lk (F p))) then F p else sp_ff1 g u lk F r
theorem sp_ff1_c {g u : Int} {lk : Int → Int} {F : List Nat → Int} {p : List Nat} {r : List (List Nat)} : sp_ff1 g u lk F (p :: r) = if 0 ≤ F p ∧ ((g = 0 ∧ ¬ F p = u) ∨ (g = 1 ∧ lk u < lk (F p))) then F p else sp_ff1 g u lk F r := rfl
theorem c_voi_tal {I : Nat → Nat → Int} {VL : Nat → List Nat} {n : Nat} (h : c_voi I VL n) : c_tal I VL n := h.2.2
theorem nx_ch_c {q q' : List Nat} {r : List (List Nat)} (h : nx_ch (q :: q' :: r) = true) : nx q = some q' ∧ nx_ch (q' :: r) = true := by
  unfold nx_ch at h
  rw [Bool.and_eq_true, beq_iff_eq] at h
  exact h
theorem nx_ch_1 {q : List Nat} (h : nx_ch [q] = true) : nx q = none := by
  unfold nx_ch at h
  exact Option.isNone_iff_eq_none.mp h
def uW : Nat → Nat → Bool := fun c i => Nat.beq c 81 || Nat.beq c 82 || Nat.beq c 83 || Nat.beq c 84 || Nat.beq c 85 || Nat.beq c 86 || Nat.beq c 87 || Nat.beq c 88 || Nat.beq c 89 || Nat.beq c 91 || Nat.beq c 92 || Nat.beq c 93 || Nat.beq c 94 || Nat.beq c 95 || Nat.beq c 96 || Nat.beq c 97 || Nat.beq c 98 || (Nat.beq c 71 && (Nat.beq i 6))
theorem uV_uW : ∀ c i, uV c i = true → uW c i = true := by
  intro c i
  unfold uV uW
  simp
  omega
theorem uT_uW : ∀ c i, uT c i = true → uW c i = true := by
  intro c i
  unfold uT uW
  simp
  omega
theorem uTc_uW : ∀ c i, uTc c i = true → uW c i = true := by
  intro c i
  unfold uTc uW
  simp
  omega
theorem uN_uW : ∀ c i, uN c i = true → uW c i = true := by
  intro c i
  unfold uN uW
  simp
  omega
theorem uW_tlo : ∀ c i, uW c i = true → tlo c i = true := by
  intro c i
  unfold uW tlo
  simp
  omega
