/-! counting: which numbers are handed out -/
def minF (h : Nat → Nat) (w : Nat) : Nat → Nat
  | 0 => w * h 0
  | n + 1 => min (minF h w n) (n + 1 + w * h (n + 1))
theorem minF_le {h : Nat → Nat} {w : Nat} : ∀ (n i : Nat), i ≤ n → minF h w n ≤ i + w * h i
  | 0, i, hi => by
    have : i = 0 := by omega
    subst this; unfold minF; omega
  | n + 1, i, hi => by
    unfold minF
    by_cases e : i = n + 1
    · subst e; omega
    · have := minF_le (h := h) (w := w) n i (by omega); omega
theorem le_minF {h : Nat → Nat} {w q : Nat} : ∀ (n : Nat), (∀ i, i ≤ n → q ≤ i + w * h i) → q ≤ minF h w n
  | 0, a => by have := a 0 (Nat.le_refl _); unfold minF; omega
  | n + 1, a => by
    unfold minF
    have h1 := le_minF n (fun i hi => a i (by omega))
    have h2 := a (n + 1) (Nat.le_refl _)
    omega
theorem least_iff {h : Nat → Nat} {w q : Nat} (hw : 0 < w) : (∀ n, n < q → n / w < h (n % w)) ↔ q ≤ minF h w (w - 1) := by
  constructor
  · intro a
    refine le_minF _ (fun i hi => ?_)
    rcases Nat.lt_or_ge (i + w * h i) q with hlt | hge
    · have := a _ hlt
      rw [Nat.add_mul_mod_self_left, Nat.mod_eq_of_lt (by omega), Nat.add_mul_div_left _ _ hw, Nat.div_eq_of_lt (by omega)] at this
      omega
    · exact hge
  · intro a n hn
    have hm : n % w < w := Nat.mod_lt _ hw
    have h1 := minF_le (h := h) (w := w) (w - 1) (n % w) (by omega)
    have h2 := Nat.mod_add_div n w
    have h3 : w * (n / w) < w * h (n % w) := by omega
    exact Nat.lt_of_mul_lt_mul_left h3
def hi1 (h : Nat → Nat) (w : Nat) : Nat → Nat
  | 0 => 0
  | n + 1 => max (hi1 h w n) (if h n = 0 then 0 else n + w * (h n - 1) + 1)
theorem hi1_ge {h : Nat → Nat} {w : Nat} : ∀ (n i : Nat), i < n → h i ≠ 0 → i + w * (h i - 1) + 1 ≤ hi1 h w n
  | 0, _, hi, _ => by omega
  | n + 1, i, hi, h0 => by
    unfold hi1
    by_cases e : i = n
    · subst e; rw [if_neg h0]; omega
    · have := hi1_ge (h := h) (w := w) n i (by omega) h0; omega
theorem hi1_at {h : Nat → Nat} {w : Nat} : ∀ (n : Nat), hi1 h w n = 0 ∨ ∃ i, i < n ∧ h i ≠ 0 ∧ hi1 h w n = i + w * (h i - 1) + 1
  | 0 => Or.inl rfl
  | n + 1 => by
    unfold hi1
    by_cases e : h n = 0
    · rw [if_pos e]
      rcases hi1_at (h := h) (w := w) n with a | ⟨i, a, b, c⟩
      · exact Or.inl (by omega)
      · exact Or.inr ⟨i, by omega, b, by omega⟩
    · rw [if_neg e]
      rcases Nat.le_total (hi1 h w n) (n + w * (h n - 1) + 1) with q | q
      · exact Or.inr ⟨n, by omega, e, by omega⟩
      · rcases hi1_at (h := h) (w := w) n with a | ⟨i, a, b, c⟩
        · omega
        · exact Or.inr ⟨i, by omega, b, by omega⟩
def cnF (h : Nat → Nat) (w : Nat) : Nat → Nat
  | 0 => 0
  | m + 1 => cnF h w m + (if m / w < h (m % w) then 1 else 0)
def gaF (h : Nat → Nat) (w : Nat) : Nat → Nat
  | 0 => 0
  | m + 1 => gaF h w m + (if m / w < h (m % w) then 0 else 1)
theorem cn_ga {h : Nat → Nat} {w : Nat} : ∀ m, cnF h w m + gaF h w m = m
  | 0 => rfl
  | m + 1 => by
    unfold cnF gaF
    have := cn_ga (h := h) (w := w) m
    split <;> omega
def miF (h : Nat → Nat) (m : Nat) : Nat → Nat
  | 0 => 0
  | n + 1 => miF h m n + min m (h n)
theorem cn_blk {h : Nat → Nat} {w m : Nat} (hw : 0 < w) : ∀ n, n ≤ w → cnF h w (w * m + n) + miF h m n = cnF h w (w * m) + miF h (m + 1) n
  | 0, _ => rfl
  | n + 1, hn => by
    have ih := cn_blk (h := h) (m := m) hw n (by omega)
    show cnF h w (w * m + n) + (if (w * m + n) / w < h ((w * m + n) % w) then 1 else 0) + (miF h m n + min m (h n)) = cnF h w (w * m) + (miF h (m + 1) n + min (m + 1) (h n))
    have e1 : (w * m + n) / w = m := by rw [Nat.add_comm, Nat.add_mul_div_left _ _ hw, Nat.div_eq_of_lt (by omega), Nat.zero_add]
    have e2 : (w * m + n) % w = n := by rw [Nat.add_comm, Nat.add_mul_mod_self_left, Nat.mod_eq_of_lt (by omega)]
    rw [e1, e2]
    split <;> omega
theorem miF_0 {h : Nat → Nat} : ∀ n, miF h 0 n = 0
  | 0 => rfl
  | n + 1 => by unfold miF; rw [miF_0 n]; omega
theorem cn_mul {h : Nat → Nat} {w : Nat} (hw : 0 < w) : ∀ m, cnF h w (w * m) = miF h m w
  | 0 => by rw [Nat.mul_zero, miF_0]; rfl
  | m + 1 => by
    have h1 := cn_blk (h := h) (m := m) hw w (Nat.le_refl _)
    have h2 := cn_mul (h := h) hw m
    rw [Nat.mul_succ]
    omega
theorem miF_big {h : Nat → Nat} {m : Nat} : ∀ n, (∀ i, i < n → h i ≤ m) → miF h m n = sumF h n
  | 0, _ => rfl
  | n + 1, a => by
    unfold miF sumF
    rw [miF_big n (fun i hi => a i (by omega))]
    have := a n (by omega)
    omega
theorem cn_past {h : Nat → Nat} {w a : Nat} : ∀ d, (∀ k, a ≤ k → ¬ k / w < h (k % w)) → cnF h w (a + d) = cnF h w a
  | 0, _ => rfl
  | d + 1, q => by
    show cnF h w (a + d) + (if (a + d) / w < h ((a + d) % w) then 1 else 0) = cnF h w a
    rw [if_neg (q (a + d) (by omega)), cn_past d q, Nat.add_zero]
theorem le_sumF {h : Nat → Nat} : ∀ (n i : Nat), i < n → h i ≤ sumF h n
  | 0, _, hi => by omega
  | n + 1, i, hi => by
    unfold sumF
    by_cases e : i = n
    · subst e; omega
    · have := le_sumF (h := h) n i (by omega); omega
theorem past_hi {h : Nat → Nat} {w k : Nat} (hw : 0 < w) (hk : hi1 h w w ≤ k) : ¬ k / w < h (k % w) := by
  intro a
  have hm : k % w < w := Nat.mod_lt _ hw
  have h1 := hi1_ge (h := h) (w := w) w (k % w) hm (fun h0 => by rw [h0] at a; exact Nat.not_lt_zero _ a)
  have h2 := Nat.mod_add_div k w
  have h3 : w * (k / w) ≤ w * (h (k % w) - 1) := Nat.mul_le_mul_left _ (Nat.le_sub_one_of_lt a)
  generalize w * (k / w) = x1 at h2 h3
  generalize w * (h (k % w) - 1) = x2 at h1 h3
  generalize k % w = x3 at h1 h2
  omega
theorem cn_hi {h : Nat → Nat} {w : Nat} (hw : 0 < w) : cnF h w (hi1 h w w) = sumF h w := by
  have hb : hi1 h w w ≤ w * (hi1 h w w + sumF h w) := by
    have : 1 * (hi1 h w w + sumF h w) ≤ w * (hi1 h w w + sumF h w) := Nat.mul_le_mul_right _ hw
    omega
  have h1 := cn_mul (h := h) hw (hi1 h w w + sumF h w)
  rw [miF_big w (fun i hi => Nat.le_trans (le_sumF w i hi) (by omega))] at h1
  have h2 := cn_past (h := h) (w := w) (a := hi1 h w w) (w * (hi1 h w w + sumF h w) - hi1 h w w) (fun k hk => past_hi hw hk)
  rw [show hi1 h w w + (w * (hi1 h w w + sumF h w) - hi1 h w w) = w * (hi1 h w w + sumF h w) by omega] at h2
  exact h2.symm.trans h1
/-- the gaps below the highest number -/
theorem ga_hi {h : Nat → Nat} {w : Nat} (hw : 0 < w) : gaF h w (hi1 h w w - 1) + sumF h w = hi1 h w w := by
  have h1 := cn_hi (h := h) hw
  have h2 := cn_ga (h := h) (w := w) (hi1 h w w)
  rcases hi1_at (h := h) (w := w) w with e | ⟨i, a, b, e⟩
  · rw [e] at h1 h2 ⊢
    show 0 + _ = _
    have : cnF h w 0 = 0 := rfl
    omega
  · have h3 : hi1 h w w = (i + w * (h i - 1)) + 1 := e
    rw [h3] at h1 h2 ⊢
    rw [Nat.add_sub_cancel]
    have h4 : gaF h w (i + w * (h i - 1) + 1) = gaF h w (i + w * (h i - 1)) + (if (i + w * (h i - 1)) / w < h ((i + w * (h i - 1)) % w) then 0 else 1) := rfl
    rw [h4] at h2
    have e1 : (i + w * (h i - 1)) / w = h i - 1 := by rw [Nat.add_mul_div_left _ _ hw, Nat.div_eq_of_lt a, Nat.zero_add]
    have e2 : (i + w * (h i - 1)) % w = i := by rw [Nat.add_mul_mod_self_left, Nat.mod_eq_of_lt a]
    rw [e1, e2, if_pos (by omega)] at h2
    omega
