/-! small rows on the value -/
def Ms.dn (M : Ms) (p : Option Nat) : Bool := match p with
  | none => false
  | some q => M.down q
theorem Ms.asleep_dn (M : Ms) (t : Nat) : M.asleep t = M.dn (M.place t) := rfl
theorem eB_t {b : Bool} (h : b = true) : (1 : Int32) = eB b := by rw [h]; rfl
theorem eB_f {b : Bool} (h : b = false) : (0 : Int32) = eB b := by rw [h]; rfl
theorem Ms.can_t {M : Ms} {t : Nat} (h1 : ¬ M.state t = 2) (h2 : M.asleep t = false) (h3 : M.nl < 60 ∨ M.state t = 1 ∨ M.place t = some (M.stN t)) : M.can t = true := by
  unfold Ms.can
  simp only [Bool.and_eq_true, Bool.or_eq_true, Bool.not_eq_true', beq_iff_eq, beq_eq_false_iff_ne, decide_eq_true_eq, ne_eq]
  refine ⟨⟨h1, h2⟩, ?_⟩
  rcases h3 with h3 | h3 | h3
  · exact Or.inl (Or.inl h3)
  · exact Or.inl (Or.inr h3)
  · exact Or.inr h3
theorem Ms.can_f {M : Ms} {t : Nat} (h : M.state t = 2 ∨ M.asleep t = true ∨ (¬ M.nl < 60 ∧ ¬ M.state t = 1 ∧ ¬ M.place t = some (M.stN t))) : M.can t = false := by
  cases hc : M.can t with
  | false => rfl
  | true =>
    obtain ⟨c1, c2, c3⟩ := Ms.can_spec hc
    rcases h with h | h | ⟨a, b, c⟩
    · exact absurd h c1
    · rw [h] at c2; cases c2
    · rcases c3 with q | q | q
      · exact absurd q a
      · exact absurd q b
      · exact absurd q c
theorem Ms.stN_none {M : Ms} {t : Nat} (h : M.next t = none) : M.stN t = M.ex t % M.ns := by unfold Ms.stN; rw [h]
theorem Ms.stN_some {M : Ms} {t b : Nat} (h : M.next t = some b) : M.stN t = uC M.w b % M.ns := by unfold Ms.stN; rw [h]
theorem Ms.comes_t {M : Ms} {i : Nat} (h1 : M.down (M.lt i) = false) (h2 : M.state (M.la i) = 1) (h3 : M.way (M.la i) = M.lw i) : M.comes i = true := by
  unfold Ms.comes
  simp only [Bool.and_eq_true, Bool.not_eq_true', beq_iff_eq]
  exact ⟨⟨h1, h2⟩, h3⟩
theorem Ms.comes_f {M : Ms} {i : Nat} (h : M.down (M.lt i) = true ∨ ¬ M.state (M.la i) = 1 ∨ ¬ M.way (M.la i) = M.lw i) : M.comes i = false := by
  cases hc : M.comes i with
  | false => rfl
  | true =>
    obtain ⟨c1, c2, c3⟩ := Ms.comes_spec hc
    rcases h with h | h | h
    · rw [h] at c1; cases c1
    · exact absurd c2 h
    · exact absurd c3 h
theorem Ms.deliver_t {M : Ms} {i : Nat} (h : M.comes i = true) : M.deliver i = (M.take i).arrive (M.la i) (M.lt i) := by unfold Ms.deliver; rw [if_pos h]
theorem Ms.deliver_f {M : Ms} {i : Nat} (h : M.comes i = false) : M.deliver i = M.take i := by unfold Ms.deliver; rw [if_neg (by rw [h]; decide)]
theorem uX_last {w wi i : Nat} (hw : Wok w) (hwi : wi < w) (hi : i + 1 = w) (h : ∀ j, j < i → ¬ uE w j = wi) : i = uX w wi := by
  have h1 := uX_lt hw hwi
  have h2 := uE_uX hw hwi
  rcases Nat.lt_or_ge (uX w wi) i with q | q
  · exact absurd h2 (h _ q)
  · omega
theorem uX_hit {w wi i : Nat} (hw : Wok w) (hi : i < w) (h : uE w i = wi) : i = uX w wi := by rw [← h, uX_uE hw hi]
theorem nI_n2 {n : Nat} (h : n < 2 ^ 31) : nI n = 2 ↔ n = 2 := nI_eq h (by decide)
theorem nI_n1 {n : Nat} (h : n < 2 ^ 31) : nI n = 1 ↔ n = 1 := nI_eq h (by decide)
theorem nI_n0 {n : Nat} (h : n < 2 ^ 31) : nI n = 0 ↔ n = 0 := nI_eq h (by decide)
