/-! more on ranges -/
theorem inm_f {x : Int32} {n : Nat} (hn : n < 2 ^ 30) (h : inR x n = none) (h1 : ¬ x = -1) : decide (-1 ≤ x ∧ x ≤ nI n - 1) = false := by
  refine decide_eq_false (fun c => inR_none h ?_)
  refine (le_pred hn).mp ⟨?_, c.2⟩
  have c1 := c.1
  rw [Int32.le_iff_toInt_le] at c1 ⊢
  have e : (-1 : Int32).toInt = -1 := by decide
  rw [e] at c1
  rw [Int32.toInt_zero]
  rcases Int.lt_or_le x.toInt 0 with q | q
  · exact absurd (Int32.toInt_inj.mp (show x.toInt = (-1 : Int32).toInt by rw [e]; omega)) h1
  · exact q
theorem inm_t {x : Int32} {n j : Nat} (hn : n < 2 ^ 30) (h : inR x n = some j) : decide (-1 ≤ x ∧ x ≤ nI n - 1) = true := by
  obtain ⟨hj, rfl⟩ := inR_some (by omega) h
  refine decide_eq_true ⟨?_, ((le_pred hn).mpr ⟨nI_pos' (by omega), (nI_ltI (by omega) (by omega)).mpr hj⟩).2⟩
  rw [Int32.le_iff_toInt_le, nI_toInt (by omega), show (-1 : Int32).toInt = -1 by decide]
  omega
theorem inm_1 {n : Nat} (hn : n < 2 ^ 30) : decide ((-1 : Int32) ≤ -1 ∧ (-1 : Int32) ≤ nI n - 1) = true := by
  refine decide_eq_true ⟨by decide, ?_⟩
  have e : (nI n - 1).toInt = (n : Int) - 1 := by rw [nI_c1, pk_sub_toInt hn (by decide)]; rfl
  rw [Int32.le_iff_toInt_le, e, show (-1 : Int32).toInt = -1 by decide]
  omega
theorem in1_f {y : Int32} (h : ∀ s, ¬ inR y 7 = some (s + 1)) : decide (1 ≤ y ∧ y ≤ 6) = false := by
  refine decide_eq_false (fun c => ?_)
  cases hy : inR y 7 with
  | none =>
    refine inR_none hy ⟨Int32.le_trans (by decide) c.1, Int32.lt_of_le_of_lt c.2 (by decide)⟩
  | some s =>
    cases s with
    | zero =>
      obtain ⟨-, e⟩ := inR_some (by decide) hy
      rw [e] at c
      exact absurd c.1 (by decide)
    | succ s => exact h s hy
theorem in1_t {y : Int32} {s : Nat} (h : inR y 7 = some (s + 1)) : decide (1 ≤ y ∧ y ≤ 6) = true := by
  obtain ⟨h1, e⟩ := inR_some (by decide) h
  rw [e]
  exact decide_eq_true ⟨nI_le (a := 1) (by omega) (by omega), nI_le (b := 6) (by omega) (by decide)⟩
theorem Ms.settle_0 {M : Ms} {n : Nat} (h : M.left = 0) : Ms.settle n M = (0, M) := by
  cases n with
  | zero => rfl
  | succ n =>
    show (if M.left = 0 then (0, M) else _) = _
    rw [if_pos h]
theorem Ms.settle_s {M : Ms} {n rd : Nat} (h : ¬ M.left = 0) (hr : rd < n) : Ms.settle (n - rd) M = ((Ms.settle (n - (rd + 1)) M.round).1 + 1, (Ms.settle (n - (rd + 1)) M.round).2) := by
  rw [show n - rd = (n - (rd + 1)) + 1 by omega]
  show (if M.left = 0 then (0, M) else _) = _
  rw [if_neg h]
theorem Ms.settle_le : ∀ (n : Nat) (M : Ms), (Ms.settle n M).1 ≤ n
  | 0, _ => Nat.le_refl _
  | n + 1, M => by
    unfold Ms.settle
    split
    · exact Nat.zero_le _
    · have := Ms.settle_le n M.round
      show (Ms.settle n M.round).1 + 1 ≤ n + 1
      omega
