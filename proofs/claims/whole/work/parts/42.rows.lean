/-! THE REFERENCE: the best row of months -/
/-- n of a row copied into another -/
def am_cpg (I : Nat → Nat → Int) (dst od src os n : Nat) : Nat → Nat → Int := fun c i => if c = dst ∧ (od ≤ i ∧ i < od + n) then I src (os + (i - od)) else I c i
theorem am_cpg_0 {I : Nat → Nat → Int} {dst od src os : Nat} : am_cpg I dst od src os 0 = I := by
  funext c i
  exact if_neg (by omega)
theorem am_cpg_s {I : Nat → Nat → Int} {dst od src os n : Nat} (h : src ≠ dst) : am_up (am_cpg I dst od src os n) dst (od + n) (am_cpg I dst od src os n src (os + n)) = am_cpg I dst od src os (n + 1) := by
  funext c i
  unfold am_up am_cpg
  rw [if_neg (c := src = dst ∧ _) (by omega)]
  by_cases h1 : c = dst ∧ i = od + n
  · rw [if_pos h1, if_pos ⟨h1.1, by omega, by omega⟩, h1.2, Nat.add_sub_cancel_left]
  · rw [if_neg h1]
    by_cases h2 : c = dst ∧ (od ≤ i ∧ i < od + n)
    · rw [if_pos h2, if_pos ⟨h2.1, by omega, by omega⟩]
    · rw [if_neg h2, if_neg (by omega)]
theorem am_k_cpg {p : Nat → Nat → Bool} {I K : Nat → Nat → Int} {dst od src os n : Nat} (hp : ∀ i, p dst i = true) (h : ∀ c i, p c i = false → K c i = I c i) : ∀ c i, p c i = false → am_cpg K dst od src os n c i = I c i := by
  intro c i hc
  unfold am_cpg
  rw [if_neg (fun e => by rw [e.1, hp i] at hc; exact absurd hc (by decide))]
  exact h c i hc
theorem am_rev {P : List Nat → Prop} (h0 : P []) (h1 : ∀ p b, P p → P (p ++ [b])) : ∀ p, P p := by
  intro p
  rw [← List.reverse_reverse p]
  generalize p.reverse = q
  induction q with
  | nil => exact h0
  | cons b q ih => rw [List.reverse_cons]; exact h1 _ _ ih
def sp_gos (S : Nat → Int) (p : List Nat) : Nat → Int := p.foldl (fun s (b : Nat) => sp_go s (b : Int)) S
theorem sp_gos_s {S : Nat → Int} {p : List Nat} {b : Nat} : sp_gos S (p ++ [b]) = sp_go (sp_gos S p) (b : Int) := by
  unfold sp_gos
  rw [List.foldl_append]
  rfl
theorem sp_gos_ok {S : Nat → Int} {B : Int} (hok : r_ok S B) (hwf : sp_wfS S) (h0 : S 0 ≤ 190) : ∀ p : List Nat, p.length ≤ 6 → (∀ x ∈ p, x < 6) → r_ok (sp_gos S p) (B + 80050 * (p.length : Int)) ∧ sp_al S (sp_gos S p) ∧ sp_gos S p 0 = S 0 + (p.length : Int) := by
  refine am_rev ?_ ?_
  · intro _ _; exact ⟨r_ok_mono hok (by omega), sp_al_r, by show S 0 = S 0 + (0 : Int); omega⟩
  · intro p b ih hl hx
    rw [List.length_append, List.length_singleton] at hl
    have hb := hx b (List.mem_append.mpr (Or.inr List.mem_cons_self))
    obtain ⟨h1, h2, h3⟩ := ih (by omega) (fun x h => hx x (List.mem_append.mpr (Or.inl h)))
    rw [sp_gos_s, List.length_append, List.length_singleton]
    refine ⟨r_ok_mono (sp_go_ok h1 (sp_wfS_cg h2 (r_ok_24 hok) hwf) ⟨by omega, by omega⟩ (by omega)) (by omega), sp_al_t h2 (sp_go_al h1 ⟨by omega, by omega⟩), ?_⟩
    rw [sp_go_0, h3]
    omega
theorem sp_gos_hd {S : Nat → Int} {B : Int} (hok : r_ok S B) (hwf : sp_wfS S) (h0 : S 0 ≤ 190) : ∀ p : List Nat, p.length ≤ 6 → (∀ x ∈ p, x < 6) → ∀ x, sp_gos S p (13 + x) = 0 ↔ (S (13 + x) = 0 ∧ ¬ x ∈ p) := by
  refine am_rev ?_ ?_
  · intro _ _ x; show S (13 + x) = 0 ↔ _; simp
  · intro p b ih hl hx x
    rw [List.length_append, List.length_singleton] at hl
    obtain ⟨h1, h2, h3⟩ := sp_gos_ok hok hwf h0 p (by omega) (fun x h => hx x (List.mem_append.mpr (Or.inl h)))
    have h := ih (by omega) (fun x h => hx x (List.mem_append.mpr (Or.inl h))) x
    rw [sp_gos_s, sp_go_hd h1 (by omega), List.mem_append, List.mem_singleton]
    by_cases e : x = b
    · rw [if_pos (by omega)]
      constructor
      · intro h; omega
      · intro h; exact absurd (Or.inr e) h.2
    · rw [if_neg (by omega), h]
      constructor
      · intro h; exact ⟨h.1, fun h2 => by rcases h2 with h2 | h2; exact h.2 h2; exact e h2⟩
      · intro h; exact ⟨h.1, fun h2 => h.2 (Or.inl h2)⟩
theorem am_cnt_cg {p q : Nat → Bool} : ∀ n, (∀ x, x < n → p x = q x) → am_cnt p n = am_cnt q n := by
  intro n
  induction n with
  | zero => intro _; rfl
  | succ n ih => intro h; unfold am_cnt; rw [ih (fun x hx => h x (by omega)), h n (by omega)]
theorem am_cnt_off {p q : Nat → Bool} {b : Nat} (hp : p b = true) (hq : q b = false) (h : ∀ x, x ≠ b → p x = q x) : ∀ n, b < n → am_cnt q n = am_cnt p n - 1 := by
  intro n
  induction n with
  | zero => intro h; omega
  | succ n ih =>
    intro hb
    unfold am_cnt
    by_cases e : b = n
    · subst e
      rw [hp, hq, am_cnt_cg b (fun x hx => (h x (by omega)).symm)]
      simp only [if_true]
      show am_cnt p b + (if false = true then 1 else 0) = _
      rw [if_neg (by decide)]
      omega
    · rw [ih (by omega), h n (by omega)]
      omega
theorem sp_ops_go {S : Nat → Int} {B : Int} {b : Nat} (hok : r_ok S B) (hb : (b : Int) < S 20) (ho : S (13 + b) = 0) : sp_ops (sp_go S (b : Int)) = sp_ops S - 1 := by
  have h20 := (r_ok_19 hok).2
  unfold sp_ops
  rw [← sp_go_al (b := (b : Int)) hok ⟨by omega, by omega⟩ 20 (by omega)]
  refine am_cnt_off (b := b) (decide_eq_true ho) ?_ ?_ _ (by omega)
  · rw [sp_go_hd hok (by omega), if_pos rfl]
    exact decide_eq_false (by omega)
  · intro x hx
    rw [sp_go_hd hok (by omega), if_neg (by omega)]
/-- a row of months tried -/
def sp_r1 (S : Nat → Int) (t : Int × Int × List Nat) (q : List Nat) : Int × Int × List Nat := if sp_btv (sp_hn (sp_gos S q)) (sp_G (sp_gos S q)) t.1 t.2.1 = 1 then (sp_hn (sp_gos S q), sp_G (sp_gos S q), q) else t
def r_rt (I : Nat → Nat → Int) (t : Int × Int × List Nat) : Prop := I 107 26 = t.1 ∧ (t.1 = -1 ∨ (I 107 27 = t.2.1 ∧ ∀ j, j < 6 → I 122 j = sp_get t.2.2 (j : Int))) ∧ (-1 ≤ t.1 ∧ t.1 ≤ 6) ∧ (-2147483648 ≤ I 107 27 ∧ I 107 27 < 2147483648)
def r_rfI (I : Nat → Nat → Int) (S : Nat → Int) (B : Int) (p : List Nat) (k : Nat) (t : Int × Int × List Nat) (n : Nat) : Prop :=
  (r_ok S B ∧ sp_wfS S ∧ S 0 ≤ 190 ∧ B + 480300 ≤ 300000000) ∧ (I 108 = sp_gos S p ∧ k = p.length ∧ k + n ≤ 6 ∧ sp_ops (I 108) = (n : Int)) ∧ (∀ x ∈ p, x < 6) ∧ am_rowl (I 121) 0 p ∧ r_rt I t
def r_kp (I Q : Nat → Nat → Int) (k : Nat) : Prop := (∀ i, i < 19 * k → Q 120 i = I 120 i) ∧ (∀ i, i < k → Q 121 i = I 121 i)
def am_bsr (I : Nat → Nat → Int) (k n : Nat) : Nat → Nat → Int := fun c i => if c = 122 ∧ i < n then (if i < k then I 121 i else -5) else I c i
theorem am_bsr_0 {I : Nat → Nat → Int} {k : Nat} : am_bsr I k 0 = I := by
  funext c i
  exact if_neg (by omega)
theorem am_bsr_s {I : Nat → Nat → Int} {k n : Nat} {v : Int} (hv : v = if n < k then I 121 n else -5) : am_up (am_bsr I k n) 122 n v = am_bsr I k (n + 1) := by
  funext c i
  unfold am_up am_bsr
  by_cases h1 : c = 122 ∧ i = n
  · rw [if_pos h1, if_pos ⟨h1.1, by omega⟩, hv, h1.2]
  · rw [if_neg h1]
    by_cases h2 : c = 122 ∧ i < n
    · rw [if_pos h2, if_pos (c := c = 122 ∧ i < n + 1) ⟨h2.1, by omega⟩]
    · rw [if_neg h2, if_neg (by omega)]
theorem am_k_bsr {p : Nat → Nat → Bool} {I K : Nat → Nat → Int} {k n : Nat} (hp : ∀ i, p 122 i = true) (h : ∀ c i, p c i = false → K c i = I c i) : ∀ c i, p c i = false → am_bsr K k n c i = I c i := by
  intro c i hc
  unfold am_bsr
  rw [if_neg (fun e => by rw [e.1, hp i] at hc; exact absurd hc (by decide))]
  exact h c i hc
def tW : Nat → Nat → Bool := fun c i => Nat.beq c 111 || Nat.beq c 112 || Nat.beq c 120 || Nat.beq c 121 || Nat.beq c 122 || (Nat.beq c 107 && (Nat.beq i 12 || Nat.beq i 13 || Nat.beq i 26 || Nat.beq i 27))
def tW8 : Nat → Nat → Bool := fun c i => Nat.beq c 108 || Nat.beq c 111 || Nat.beq c 112 || Nat.beq c 120 || Nat.beq c 121 || Nat.beq c 122 || (Nat.beq c 107 && (Nat.beq i 12 || Nat.beq i 13 || Nat.beq i 26 || Nat.beq i 27))
theorem tE_tW : ∀ c i, tE c i = true → tW c i = true := by
  intro c i
  unfold tE tW
  simp
  omega
theorem tW_tW8 : ∀ c i, tW c i = true → tW8 c i = true := by
  intro c i
  unfold tW tW8
  simp
  omega
theorem tG_tW8 : ∀ c i, tG c i = true → tW8 c i = true := by
  intro c i
  unfold tG tW8
  simp
  omega
theorem tW_8 : ∀ c i, c ≠ 108 → tW c i = false → tW8 c i = false := by
  intro c i h
  unfold tW tW8
  rw [am_beq_f h]
  simp only [Bool.false_or]
  exact id
/-- the first places of row 108 brought back -/
theorem am_bk9 {I K : Nat → Nat → Int} {p p' : Nat → Nat → Bool} {o : Nat} (hp : ∀ c i, c ≠ 108 → p c i = false → p' c i = false) (hk : ∀ c i, p' c i = false → K c i = I c i) (h108 : ∀ i, 19 ≤ i → K 108 i = I 108 i) (hf : ∀ i, i < 19 → K 120 (o + i) = I 108 i) : ∀ c i, p c i = false → am_cpg K 108 0 120 o 19 c i = I c i := by
  intro c i h
  unfold am_cpg
  by_cases e : c = 108
  · subst e
    by_cases e2 : i < 19
    · rw [if_pos ⟨rfl, by omega, by omega⟩, Nat.sub_zero]; exact hf i e2
    · rw [if_neg (by omega)]; exact h108 i (by omega)
  · rw [if_neg (by omega)]
    exact hk c i (hp c i e h)
theorem r_rf_c1 {X : Nat × (Nat → Int)} {D : List (Nat × Nat)} {I J : Nat → Nat → Int} {ρ : Nat → Nat → Option Nat} (d : Nat) {k b j : Nat} {P : am_R → Prop} (hk : k ≤ 6) (hj : j ≤ 19) (hc : am_E X d 199 103 [(3, .inl (19 : Int)), (2, .inl (b : Int)), (1, .inl (k : Int)), (0, .inr (.inr (.inl (some 107))))] [] (am_mm D (am_cpg I 120 (19 * k) 108 0 19) J ρ) P) : am_E X d 199 74 [(3, .inl (j : Int)), (2, .inl (b : Int)), (1, .inl (k : Int)), (0, .inr (.inr (.inl (some 107))))] [] (am_mm D (am_cpg I 120 (19 * k) 108 0 j) J ρ) (P) := by
  refine am_e_ss 2 (q := (77, [(3, .inl (j : Int)), (2, .inl (b : Int)), (1, .inl (k : Int)), (0, .inr (.inr (.inl (some 107))))], [.inl 19, .inl (j : Int)], (am_mm D (am_cpg I 120 (19 * k) 108 0 j) J ρ))) rfl ?_
  refine am_e_icmp2 rfl ⟨by omega, by omega⟩ ⟨by omega, by omega⟩ (fun (h1 : 19 ≤ (j : Int)) => ?_) (fun (h1 : ¬ (19 ≤ (j : Int))) => ?_)
  · show am_E _ _ _ 103 [(3, .inl (j : Int)), (2, .inl (b : Int)), (1, .inl (k : Int)), (0, .inr (.inr (.inl (some 107))))] [] (am_mm D (am_cpg I 120 (19 * k) 108 0 j) J ρ) _
    have ej : j = 19 := by omega
    subst ej
    exact am_less (lv := [(3, .inl (19 : Int)), (2, .inl (b : Int)), (1, .inl (k : Int)), (0, .inr (.inr (.inl (some 107))))]) rfl (List.forall_mem_cons.mpr ⟨rfl, List.forall_mem_cons.mpr ⟨rfl, List.forall_mem_cons.mpr ⟨rfl, List.forall_mem_cons.mpr ⟨rfl, List.forall_mem_nil _⟩⟩⟩⟩) hc
  · show am_E _ _ _ 80 [(3, .inl (j : Int)), (2, .inl (b : Int)), (1, .inl (k : Int)), (0, .inr (.inr (.inl (some 107))))] [] (am_mm D (am_cpg I 120 (19 * k) 108 0 j) J ρ) _
    refine am_e_ss 10 (q := (95, [(3, .inl (j : Int)), (2, .inl (b : Int)), (1, .inl (k : Int)), (0, .inr (.inr (.inl (some 107))))], [.inl (j : Int), .inr (.inr (.inl (some 108))), .inl ((19 * (k : Int)) + (j : Int)), .inr (.inr (.inl (some 120)))], (am_mm D (am_cpg I 120 (19 * k) 108 0 j) J ρ))) rfl ?_
    refine am_e_iaload (m := 878) rfl rfl (by omega) (by omega) (by omega) ?_
    show am_E _ _ _ 96 [(3, .inl (j : Int)), (2, .inl (b : Int)), (1, .inl (k : Int)), (0, .inr (.inr (.inl (some 107))))] [.inl (((am_cpg I 120 (19 * k) 108 0 j) 108 j)), .inl ((19 * (k : Int)) + (j : Int)), .inr (.inr (.inl (some 120)))] (am_mm D (am_cpg I 120 (19 * k) 108 0 j) J ρ) _
    refine am_e_iastore (m := 133) rfl rfl (by omega) (by omega) (by omega) ?_
    show am_E _ _ _ 97 [(3, .inl (j : Int)), (2, .inl (b : Int)), (1, .inl (k : Int)), (0, .inr (.inr (.inl (some 107))))] [] (am_mm D (am_up (am_cpg I 120 (19 * k) 108 0 j) 120 ((19 * k) + j) ((am_cpg I 120 (19 * k) 108 0 j) 108 j)) J ρ) _
    refine am_e_ss 2 (q := (74, [(3, .inl ((j : Int) + 1)), (2, .inl (b : Int)), (1, .inl (k : Int)), (0, .inr (.inr (.inl (some 107))))], [], (am_mm D (am_up (am_cpg I 120 (19 * k) 108 0 j) 120 ((19 * k) + j) ((am_cpg I 120 (19 * k) 108 0 j) 108 j)) J ρ))) rfl ?_
    have e9 : am_up (am_cpg I 120 (19 * k) 108 0 j) 120 ((19 * k) + j) ((am_cpg I 120 (19 * k) 108 0 j) 108 j) = am_cpg I 120 (19 * k) 108 0 (j + 1) := (congrArg (fun z => am_up (am_cpg I 120 (19 * k) 108 0 j) 120 ((19 * k) + j) (am_cpg I 120 (19 * k) 108 0 j 108 z)) (Nat.zero_add j).symm).trans (am_cpg_s (by omega))
    rw [e9]
    exact am_less (lv := [(3, .inl ((j + 1) : Int)), (2, .inl (b : Int)), (1, .inl (k : Int)), (0, .inr (.inr (.inl (some 107))))]) rfl (List.forall_mem_cons.mpr ⟨rfl, List.forall_mem_cons.mpr ⟨rfl, List.forall_mem_cons.mpr ⟨rfl, List.forall_mem_cons.mpr ⟨rfl, List.forall_mem_nil _⟩⟩⟩⟩) (r_rf_c1 d (j := j + 1) hk (by omega) hc)
termination_by 19 - j
decreasing_by all_goals omega
theorem r_rf_c2 {X : Nat × (Nat → Int)} {D : List (Nat × Nat)} {I J : Nat → Nat → Int} {ρ : Nat → Nat → Option Nat} (d : Nat) {k b j : Nat} {P : am_R → Prop} (hk : k ≤ 6) (hj : j ≤ 19) (hc : am_E X d 199 154 [(3, .inl (19 : Int)), (2, .inl (b : Int)), (1, .inl (k : Int)), (0, .inr (.inr (.inl (some 107))))] [] (am_mm D (am_cpg I 108 0 120 (19 * k) 19) J ρ) P) : am_E X d 199 125 [(3, .inl (j : Int)), (2, .inl (b : Int)), (1, .inl (k : Int)), (0, .inr (.inr (.inl (some 107))))] [] (am_mm D (am_cpg I 108 0 120 (19 * k) j) J ρ) (P) := by
  refine am_e_ss 2 (q := (128, [(3, .inl (j : Int)), (2, .inl (b : Int)), (1, .inl (k : Int)), (0, .inr (.inr (.inl (some 107))))], [.inl 19, .inl (j : Int)], (am_mm D (am_cpg I 108 0 120 (19 * k) j) J ρ))) rfl ?_
  refine am_e_icmp2 rfl ⟨by omega, by omega⟩ ⟨by omega, by omega⟩ (fun (h1 : 19 ≤ (j : Int)) => ?_) (fun (h1 : ¬ (19 ≤ (j : Int))) => ?_)
  · show am_E _ _ _ 154 [(3, .inl (j : Int)), (2, .inl (b : Int)), (1, .inl (k : Int)), (0, .inr (.inr (.inl (some 107))))] [] (am_mm D (am_cpg I 108 0 120 (19 * k) j) J ρ) _
    have ej : j = 19 := by omega
    subst ej
    exact am_less (lv := [(3, .inl (19 : Int)), (2, .inl (b : Int)), (1, .inl (k : Int)), (0, .inr (.inr (.inl (some 107))))]) rfl (List.forall_mem_cons.mpr ⟨rfl, List.forall_mem_cons.mpr ⟨rfl, List.forall_mem_cons.mpr ⟨rfl, List.forall_mem_cons.mpr ⟨rfl, List.forall_mem_nil _⟩⟩⟩⟩) hc
  · show am_E _ _ _ 131 [(3, .inl (j : Int)), (2, .inl (b : Int)), (1, .inl (k : Int)), (0, .inr (.inr (.inl (some 107))))] [] (am_mm D (am_cpg I 108 0 120 (19 * k) j) J ρ) _
    refine am_e_ss 10 (q := (146, [(3, .inl (j : Int)), (2, .inl (b : Int)), (1, .inl (k : Int)), (0, .inr (.inr (.inl (some 107))))], [.inl ((19 * (k : Int)) + (j : Int)), .inr (.inr (.inl (some 120))), .inl (j : Int), .inr (.inr (.inl (some 108)))], (am_mm D (am_cpg I 108 0 120 (19 * k) j) J ρ))) rfl ?_
    refine am_e_iaload (m := 133) rfl rfl (by omega) (by omega) (by omega) ?_
    show am_E _ _ _ 147 [(3, .inl (j : Int)), (2, .inl (b : Int)), (1, .inl (k : Int)), (0, .inr (.inr (.inl (some 107))))] [.inl (((am_cpg I 108 0 120 (19 * k) j) 120 ((19 * k) + j))), .inl (j : Int), .inr (.inr (.inl (some 108)))] (am_mm D (am_cpg I 108 0 120 (19 * k) j) J ρ) _
    refine am_e_iastore (m := 878) rfl rfl (by omega) (by omega) (by omega) ?_
    show am_E _ _ _ 148 [(3, .inl (j : Int)), (2, .inl (b : Int)), (1, .inl (k : Int)), (0, .inr (.inr (.inl (some 107))))] [] (am_mm D (am_up (am_cpg I 108 0 120 (19 * k) j) 108 j ((am_cpg I 108 0 120 (19 * k) j) 120 ((19 * k) + j))) J ρ) _
    refine am_e_ss 2 (q := (125, [(3, .inl ((j : Int) + 1)), (2, .inl (b : Int)), (1, .inl (k : Int)), (0, .inr (.inr (.inl (some 107))))], [], (am_mm D (am_up (am_cpg I 108 0 120 (19 * k) j) 108 j ((am_cpg I 108 0 120 (19 * k) j) 120 ((19 * k) + j))) J ρ))) rfl ?_
    have e9 : am_up (am_cpg I 108 0 120 (19 * k) j) 108 j ((am_cpg I 108 0 120 (19 * k) j) 120 ((19 * k) + j)) = am_cpg I 108 0 120 (19 * k) (j + 1) := (congrArg (fun z => am_up (am_cpg I 108 0 120 (19 * k) j) 108 z (am_cpg I 108 0 120 (19 * k) j 120 ((19 * k) + j))) (Nat.zero_add j).symm).trans (am_cpg_s (by omega))
    rw [e9]
    exact am_less (lv := [(3, .inl ((j + 1) : Int)), (2, .inl (b : Int)), (1, .inl (k : Int)), (0, .inr (.inr (.inl (some 107))))]) rfl (List.forall_mem_cons.mpr ⟨rfl, List.forall_mem_cons.mpr ⟨rfl, List.forall_mem_cons.mpr ⟨rfl, List.forall_mem_cons.mpr ⟨rfl, List.forall_mem_nil _⟩⟩⟩⟩) (r_rf_c2 d (j := j + 1) hk (by omega) hc)
termination_by 19 - j
decreasing_by all_goals omega
theorem r_rf_c0 {X : Nat × (Nat → Int)} {D : List (Nat × Nat)} {I J : Nat → Nat → Int} {ρ : Nat → Nat → Option Nat} (d : Nat) {k j : Nat} {P : am_R → Prop} (hk : k ≤ 6) (hj : j ≤ 6) (hc : P (none, am_mm D (am_bsr I k 6) J ρ)) : am_E X d 199 16 [(2, .inl (j : Int)), (1, .inl (k : Int)), (0, .inr (.inr (.inl (some 107))))] [] (am_mm D (am_bsr I k j) J ρ) (P) := by
  refine am_e_ss 2 (q := (19, [(2, .inl (j : Int)), (1, .inl (k : Int)), (0, .inr (.inr (.inl (some 107))))], [.inl 6, .inl (j : Int)], (am_mm D (am_bsr I k j) J ρ))) rfl ?_
  refine am_e_icmp2 rfl ⟨by omega, by omega⟩ ⟨by omega, by omega⟩ (fun (h1 : 6 ≤ (j : Int)) => ?_) (fun (h1 : ¬ (6 ≤ (j : Int))) => ?_)
  · show am_E _ _ _ 50 [(2, .inl (j : Int)), (1, .inl (k : Int)), (0, .inr (.inr (.inl (some 107))))] [] (am_mm D (am_bsr I k j) J ρ) _
    refine am_e_return rfl rfl ?_
    have ej : j = 6 := by omega
    subst ej
    exact hc
  · show am_E _ _ _ 22 [(2, .inl (j : Int)), (1, .inl (k : Int)), (0, .inr (.inr (.inl (some 107))))] [] (am_mm D (am_bsr I k j) J ρ) _
    refine am_e_ss 5 (q := (29, [(2, .inl (j : Int)), (1, .inl (k : Int)), (0, .inr (.inr (.inl (some 107))))], [.inl (k : Int), .inl (j : Int), .inl (j : Int), .inr (.inr (.inl (some 122)))], (am_mm D (am_bsr I k j) J ρ))) rfl ?_
    refine am_e_icmp2 rfl ⟨by omega, by omega⟩ ⟨by omega, by omega⟩ (fun (h2 : (k : Int) ≤ (j : Int)) => ?_) (fun (h2 : ¬ ((k : Int) ≤ (j : Int))) => ?_)
    · show am_E _ _ _ 41 [(2, .inl (j : Int)), (1, .inl (k : Int)), (0, .inr (.inr (.inl (some 107))))] [.inl (j : Int), .inr (.inr (.inl (some 122)))] (am_mm D (am_bsr I k j) J ρ) _
      refine am_e_ss 1 (q := (43, [(2, .inl (j : Int)), (1, .inl (k : Int)), (0, .inr (.inr (.inl (some 107))))], [.inl (-5), .inl (j : Int), .inr (.inr (.inl (some 122)))], (am_mm D (am_bsr I k j) J ρ))) rfl ?_
      refine am_e_iastore (m := 6) rfl rfl (by omega) (by omega) (by omega) ?_
      show am_E _ _ _ 44 [(2, .inl (j : Int)), (1, .inl (k : Int)), (0, .inr (.inr (.inl (some 107))))] [] (am_mm D (am_up (am_bsr I k j) 122 j (-5)) J ρ) _
      refine am_e_ss 2 (q := (16, [(2, .inl ((j : Int) + 1)), (1, .inl (k : Int)), (0, .inr (.inr (.inl (some 107))))], [], (am_mm D (am_up (am_bsr I k j) 122 j (-5)) J ρ))) rfl ?_
      have e9 : am_up (am_bsr I k j) 122 j (-5) = am_bsr I k (j + 1) := am_bsr_s (by first | rw [if_pos (by omega)]; rfl | rw [if_neg (by omega)])
      rw [e9]
      exact am_less (lv := [(2, .inl ((j + 1) : Int)), (1, .inl (k : Int)), (0, .inr (.inr (.inl (some 107))))]) rfl (List.forall_mem_cons.mpr ⟨rfl, List.forall_mem_cons.mpr ⟨rfl, List.forall_mem_cons.mpr ⟨rfl, List.forall_mem_nil _⟩⟩⟩) (r_rf_c0 d (j := j + 1) hk (by omega) hc)
    · show am_E _ _ _ 32 [(2, .inl (j : Int)), (1, .inl (k : Int)), (0, .inr (.inr (.inl (some 107))))] [.inl (j : Int), .inr (.inr (.inl (some 122)))] (am_mm D (am_bsr I k j) J ρ) _
      refine am_e_ss 3 (q := (37, [(2, .inl (j : Int)), (1, .inl (k : Int)), (0, .inr (.inr (.inl (some 107))))], [.inl (j : Int), .inr (.inr (.inl (some 121))), .inl (j : Int), .inr (.inr (.inl (some 122)))], (am_mm D (am_bsr I k j) J ρ))) rfl ?_
      refine am_e_iaload (m := 6) rfl rfl (by omega) (by omega) (by omega) ?_
      show am_E _ _ _ 38 [(2, .inl (j : Int)), (1, .inl (k : Int)), (0, .inr (.inr (.inl (some 107))))] [.inl (((am_bsr I k j) 121 j)), .inl (j : Int), .inr (.inr (.inl (some 122)))] (am_mm D (am_bsr I k j) J ρ) _
      refine am_e_ss 1 (q := (43, [(2, .inl (j : Int)), (1, .inl (k : Int)), (0, .inr (.inr (.inl (some 107))))], [.inl (((am_bsr I k j) 121 j)), .inl (j : Int), .inr (.inr (.inl (some 122)))], (am_mm D (am_bsr I k j) J ρ))) rfl ?_
      refine am_e_iastore (m := 6) rfl rfl (by omega) (by omega) (by omega) ?_
      show am_E _ _ _ 44 [(2, .inl (j : Int)), (1, .inl (k : Int)), (0, .inr (.inr (.inl (some 107))))] [] (am_mm D (am_up (am_bsr I k j) 122 j ((am_bsr I k j) 121 j)) J ρ) _
      refine am_e_ss 2 (q := (16, [(2, .inl ((j : Int) + 1)), (1, .inl (k : Int)), (0, .inr (.inr (.inl (some 107))))], [], (am_mm D (am_up (am_bsr I k j) 122 j ((am_bsr I k j) 121 j)) J ρ))) rfl ?_
      have e9 : am_up (am_bsr I k j) 122 j ((am_bsr I k j) 121 j) = am_bsr I k (j + 1) := am_bsr_s (by first | rw [if_pos (by omega)]; rfl | rw [if_neg (by omega)])
      rw [e9]
      exact am_less (lv := [(2, .inl ((j + 1) : Int)), (1, .inl (k : Int)), (0, .inr (.inr (.inl (some 107))))]) rfl (List.forall_mem_cons.mpr ⟨rfl, List.forall_mem_cons.mpr ⟨rfl, List.forall_mem_cons.mpr ⟨rfl, List.forall_mem_nil _⟩⟩⟩) (r_rf_c0 d (j := j + 1) hk (by omega) hc)
termination_by 6 - j
decreasing_by all_goals omega
def r_rfC (X : Nat × (Nat → Int)) (D : List (Nat × Nat)) (J : Nat → Nat → Int) (ρ : Nat → Nat → Option Nat) (S : Nat → Int) (B : Int) (d n : Nat) : Prop := ∀ (I : Nat → Nat → Int) (p : List Nat) (k : Nat) (t : Int × Int × List Nat), r_rfI I S B p k t n → am_E X d 199 0 [(0, .inr (.inr (.inl (some 107)))), (1, .inl (k : Int))] [] (am_mm D I J ρ) (fun r => ∃ Q, r = (none, am_mm D (am_wp tW I Q) J ρ) ∧ r_rt Q ((sp_pl2 S n p).foldl (sp_r1 S) t) ∧ r_kp I Q k)
theorem r_rf0 {X : Nat × (Nat → Int)} {D : List (Nat × Nat)} {I J : Nat → Nat → Int} {ρ : Nat → Nat → Option Nat} (d : Nat) {S : Nat → Int} {B : Int} {p : List Nat} {k : Nat} {t : Int × Int × List Nat} (hI : r_rfI I S B p k t 0) : am_E X (d + 5) 199 0 [(0, .inr (.inr (.inl (some 107)))), (1, .inl (k : Int))] [] (am_mm D I J ρ) (fun r => ∃ Q, r = (none, am_mm D (am_wp tW I Q) J ρ) ∧ r_rt Q ((sp_pl2 S 0 p).foldl (sp_r1 S) t) ∧ r_kp I Q k) := by
  have hI0 := hI
  obtain ⟨⟨hokS, hwS, h0, hB⟩, ⟨hS, hk, hkn, hops⟩, hp6, hrow, hrt⟩ := hI
  have hgo3 := sp_gos_ok hokS hwS h0 p (by omega) hp6
  have hhd := sp_gos_hd hokS hwS h0 p (by omega) hp6
  rw [← hS] at hgo3 hhd
  obtain ⟨hok, hal, hm0⟩ := hgo3
  have hwf : sp_wfS (I 108) := sp_wfS_cg hal (r_ok_24 hokS) hwS
  have hrt0 := hrt
  obtain ⟨h26, h27, hbh, hbg⟩ := hrt
  have hBk : B + 80050 * (p.length : Int) ≤ B + 480300 := by omega
  have hok2 := hok
  obtain ⟨o0, oG, oH, oD, o19, o20, o21, o22, o23, o24, oK, oV, oP, oM, oS, oY, oHd, oT, oC, oN⟩ := hok
  have hok := hok2
  have op0 := sp_open_0 (S := I 108)
  have opl := sp_open_b hok
  have hn20 : S 20 = I 108 20 := hal 20 (by omega)
  have hnb := sp_hn_b hok
  have gbb := sp_G_b (r_ok_mono hok hBk) (r_ok_B (r_ok_mono hok hBk))
  refine am_e_ss 1 (q := (1, [(0, .inr (.inr (.inl (some 107)))), (1, .inl (k : Int))], [.inr (.inr (.inl (some 107)))], (am_mm D I J ρ))) rfl ?_
  refine am_e_virtual (Q := fun r => r = (some (.inl ((sp_open (I 108)))), (am_mm D I J ρ))) rfl rfl (Nat.le_of_ble_eq_true rfl) rfl rfl (Nat.le_of_ble_eq_true rfl) (Nat.le_of_ble_eq_true rfl) (r_openBooks _ hok) ?_
  rintro r rfl
  show am_E _ _ _ 4 [(0, .inr (.inr (.inl (some 107)))), (1, .inl (k : Int))] [.inl ((sp_open (I 108)))] (am_mm D I J ρ) _
  refine am_e_if2 rfl ⟨by omega, by omega⟩ (fun (h1 : ¬ (sp_open (I 108)) = 0) => ?_) (fun (h1 : ¬ (¬ (sp_open (I 108)) = 0)) => ?_)
  · show am_E _ _ _ 51 [(0, .inr (.inr (.inl (some 107)))), (1, .inl (k : Int))] [] (am_mm D I J ρ) _
    exfalso; omega
  · show am_E _ _ _ 7 [(0, .inr (.inr (.inl (some 107)))), (1, .inl (k : Int))] [] (am_mm D I J ρ) _
    refine am_e_ss 1 (q := (8, [(0, .inr (.inr (.inl (some 107)))), (1, .inl (k : Int))], [.inr (.inr (.inl (some 107)))], (am_mm D I J ρ))) rfl ?_
    refine am_e_virtual (Q := fun r => ∃ Q79, r = (some (.inl ((sp_btv (sp_hn (I 108)) (sp_G (I 108)) (I 107 26) (I 107 27)))), (am_mm D (am_wp tE I Q79) J ρ)) ∧ Q79 107 26 = (if (sp_btv (sp_hn (I 108)) (sp_G (I 108)) (I 107 26) (I 107 27)) = 1 then sp_hn (I 108) else I 107 26) ∧ Q79 107 27 = (if (sp_btv (sp_hn (I 108)) (sp_G (I 108)) (I 107 26) (I 107 27)) = 1 then sp_G (I 108) else I 107 27)) rfl rfl (Nat.le_of_ble_eq_true rfl) rfl rfl (Nat.le_of_ble_eq_true rfl) (Nat.le_of_ble_eq_true rfl) (r_isBetter _ (B := B + 480300) hB (by omega) hbg (r_ok_mono hok hBk)) ?_
    rintro r ⟨Q79, rfl, ⟨n26, n27⟩⟩
    have bv01 := sp_btv_01 (sp_hn (I 108)) (sp_G (I 108)) (I 107 26) (I 107 27)
    show am_E _ _ _ 11 [(0, .inr (.inr (.inl (some 107)))), (1, .inl (k : Int))] [.inl ((sp_btv (sp_hn (I 108)) (sp_G (I 108)) (I 107 26) (I 107 27)))] (am_mm D (am_wp tE I Q79) J ρ) _
    refine am_e_if2 rfl ⟨by omega, by omega⟩ (fun (h2 : (sp_btv (sp_hn (I 108)) (sp_G (I 108)) (I 107 26) (I 107 27)) = 0) => ?_) (fun (h2 : ¬ ((sp_btv (sp_hn (I 108)) (sp_G (I 108)) (I 107 26) (I 107 27)) = 0)) => ?_)
    · show am_E _ _ _ 50 [(0, .inr (.inr (.inl (some 107)))), (1, .inl (k : Int))] [] (am_mm D (am_wp tE I Q79) J ρ) _
      refine am_e_return rfl rfl ?_
      have eb : (sp_btv (sp_hn (I 108)) (sp_G (I 108)) (I 107 26) (I 107 27)) = 0 := by omega
      rw [eb] at n26 n27
      have eb2 : sp_btv (sp_hn (sp_gos S p)) (sp_G (sp_gos S p)) t.1 t.2.1 = 0 := by
        rw [hS, h26] at eb
        rcases h27 with h | h
        · rw [h] at eb ⊢
          rw [sp_btv_1 (by rw [← hS]; exact hnb.1)] at eb ⊢ <;> exact eb
        · rw [← h.1]; exact eb
      have eS : (sp_pl2 S 0 p).foldl (sp_r1 S) t = t := if_neg (by rw [eb2]; omega)
      rw [eS]
      refine ⟨_, am_r_wp tW (am_k_wp (tE_tW) (am_k_id)), ⟨n26.trans h26, ?_, hbh, ?_⟩, fun i _ => rfl, fun i _ => rfl⟩
      · rcases h27 with h | h
        · exact Or.inl h
        · exact Or.inr ⟨n27.trans h.1, h.2⟩
      · show -2147483648 ≤ Q79 107 27 ∧ Q79 107 27 < 2147483648
        rw [n27]
        exact hbg
    · show am_E _ _ _ 14 [(0, .inr (.inr (.inl (some 107)))), (1, .inl (k : Int))] [] (am_mm D (am_wp tE I Q79) J ρ) _
      refine am_e_ss 2 (q := (16, [(2, .inl 0), (0, .inr (.inr (.inl (some 107)))), (1, .inl (k : Int))], [], (am_mm D (am_wp tE I Q79) J ρ))) rfl ?_
      have eb : (sp_btv (sp_hn (I 108)) (sp_G (I 108)) (I 107 26) (I 107 27)) = 1 := by omega
      rw [eb] at n26 n27
      have eb2 : sp_btv (sp_hn (sp_gos S p)) (sp_G (sp_gos S p)) t.1 t.2.1 = 1 := by
        rw [hS, h26] at eb
        rcases h27 with h | h
        · rw [h] at eb ⊢
          rw [sp_btv_1 (by rw [← hS]; exact hnb.1)] at eb ⊢ <;> exact eb
        · rw [← h.1]; exact eb
      have eS : (sp_pl2 S 0 p).foldl (sp_r1 S) t = (sp_hn (sp_gos S p), sp_G (sp_gos S p), p) := if_pos eb2
      rw [eS]
      rw [show am_mm D (am_wp tE I Q79) J ρ = am_mm D (am_bsr (am_wp tE I Q79) k 0) J ρ by rw [am_bsr_0]]
      refine am_less (lv := [(2, .inl (0 : Int)), (1, .inl (k : Int)), (0, .inr (.inr (.inl (some 107))))]) rfl (List.forall_mem_cons.mpr ⟨rfl, List.forall_mem_cons.mpr ⟨rfl, List.forall_mem_cons.mpr ⟨rfl, List.forall_mem_nil _⟩⟩⟩) (r_rf_c0 (I := am_wp tE I Q79) (d + 5) (k := k) (j := 0) (by omega) (by omega) ?_)
      refine ⟨_, am_r_wp tW (am_k_bsr (fun _ => rfl) (am_k_wp (tE_tW) (am_k_id))), ⟨?_, Or.inr ⟨?_, ?_⟩, ?_, ?_⟩, fun i _ => rfl, fun i _ => rfl⟩
      · show Q79 107 26 = sp_hn (sp_gos S p)
        rw [n26, if_pos rfl, hS]
      · show Q79 107 27 = sp_G (sp_gos S p)
        rw [n27, if_pos rfl, hS]
      · intro j hj
        show am_bsr (am_wp tE I Q79) k 6 122 j = sp_get p (j : Int)
        unfold am_bsr sp_get
        rw [if_pos ⟨rfl, hj⟩, show (j : Int).toNat = j by omega]
        by_cases e : j < k
        · rw [if_pos e, List.getElem?_eq_getElem (by omega)]
          have := hrow j _ (List.getElem?_eq_getElem (show j < p.length by omega))
          rw [Nat.zero_add] at this
          exact this
        · rw [if_neg e, List.getElem?_eq_none (by omega)]
      · show -1 ≤ sp_hn (sp_gos S p) ∧ sp_hn (sp_gos S p) ≤ 6
        rw [← hS]
        omega
      · show -2147483648 ≤ Q79 107 27 ∧ Q79 107 27 < 2147483648
        rw [n27, if_pos rfl]
        omega
