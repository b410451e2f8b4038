/-! THE START: both objects made, by a run of the small machine -/
def y_f1 : Option am_R := am_run' 4000 1999 87 0 [(0, .inr (.inr (.inl (some 0))))] [] (am_nw am_M0 (11, am_nf 11))
def y_g2 (M1 : am_M) : Option am_R := am_run' 4000 1999 125 0 [(0, .inr (.inr (.inl (some M1.1.length))))] [] (am_nw M1 (12, am_nf 12))
def y_ckI : List (Nat × Nat × Int) := [(1, 2, 0), (1, 4, 0), (1, 6, 0), (1, 8, 0), (1, 10, 0), (2, 0, 0), (2, 1, 0), (2, 2, 0), (12, 0, 5), (12, 2, 0), (99, 0, 0), (0, 8, 0), (107, 4, 0), (107, 32, 0), (107, 27, 0)]
def y_ckR : List (Nat × Nat × Nat) := [(0, 7, 102), (1, 5, 12), (35, 5, 46), (4, 0, 34), (4, 1, 34), (4, 2, 34), (4, 3, 34), (4, 4, 34), (4, 5, 34), (38, 0, 68), (38, 1, 68), (38, 2, 68), (38, 3, 68), (38, 4, 68), (38, 5, 68)]
def y_ck (M : am_M) : Bool := decide (M.1 = am_S) && (y_ckI.all (fun q => decide (M.2.1 q.1 q.2.1 = q.2.2)) && (y_ckR.all (fun q => decide (M.2.2.2 q.1 q.2.1 = some q.2.2)) && ((List.range 178).all (fun i => decide (M.2.1 108 i = if i = 24 then -1 else 0)) && (List.range 124).all (fun k => (List.range (am_S.getD k (0, 0)).2).all (fun i => am_mut k i || decide (M.2.2.2 k i = (am_S0.getD k []).getD i none))))))
/-- the memory under the names that the rows use -/
def y_ren (M : am_M) : am_M := ((List.range 124).map (fun k => M.1.getD (rn_p k) (0, 0)), (fun k i => M.2.1 (rn_p k) i), (fun k i => M.2.2.1 (rn_p k) i), (fun k i => (M.2.2.2 (rn_p k) i).map rn_i))
def y_cks (M : am_M) : Bool := decide (M.1.length = 124) && (decide ((M.1.map (fun q => q.2)).sum = (am_S.map (fun q => q.2)).sum) && y_ck (y_ren M))
def y_chk (o1 : Option am_R) (g : am_M → Option am_R) : Bool := match o1 with
  | some (none, M1) => decide (M1.1.length = 107) && (match g M1 with
    | some (none, M) => y_cks M
    | _ => false)
  | _ => false
theorem y_ck_of {o1 : Option am_R} {g : am_M → Option am_R} (h : y_chk o1 g = true) : ∃ M1 M, o1 = some (none, M1) ∧ g M1 = some (none, M) ∧ M1.1.length = 107 ∧ y_cks M = true := by
  unfold y_chk at h
  split at h
  · rename_i M1
    rw [Bool.and_eq_true] at h
    obtain ⟨h1, h2⟩ := h
    split at h2
    · rename_i M hM
      exact ⟨M1, M, rfl, hM, of_decide_eq_true h1, h2⟩
    · cases h2
  · cases h
theorem y_all : y_chk y_f1 y_g2 = true := by decide +kernel
