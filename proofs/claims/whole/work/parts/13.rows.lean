/-! more rows on the value -/
def Ms.least (M : Ms) : Nat := minF M.handed M.w (M.w - 1)
def Ms.shown (M : Ms) (t : Nat) : Option Nat := match M.number t with
  | none => none
  | some q => if M.ordered t = true ∧ ¬ q ≤ M.least then none else some q
theorem Ms.shown_none {M : Ms} {t : Nat} (h : M.number t = none) : M.shown t = none := by unfold Ms.shown; rw [h]
theorem Ms.shown_some {M : Ms} {t q : Nat} (h : M.number t = some q) : M.shown t = if M.ordered t = true ∧ ¬ q ≤ M.least then none else some q := by unfold Ms.shown; rw [h]
theorem nI_min {a b : Nat} (ha : a < 2 ^ 31) (hb : b < 2 ^ 31) : (if nI b < nI a then nI b else nI a) = nI (min a b) := by
  by_cases h : b < a
  · rw [if_pos ((nI_ltI hb ha).mpr h), Nat.min_eq_right (by omega)]
  · rw [if_neg (fun q => h ((nI_ltI hb ha).mp q)), Nat.min_eq_left (by omega)]
theorem nI_max {a b : Nat} (ha : a < 2 ^ 31) (hb : b < 2 ^ 31) : (if nI a < nI b then nI b else nI a) = nI (max a b) := by
  by_cases h : a < b
  · rw [if_pos ((nI_ltI ha hb).mpr h), Nat.max_eq_right (by omega)]
  · rw [if_neg (fun q => h ((nI_ltI ha hb).mp q)), Nat.max_eq_left (by omega)]
theorem eP_toInt {n : Nat} (h : n < 2 ^ 30) : (eP n).toInt = (n : Int) - 1 := by
  unfold eP
  rw [nI_c1, pk_sub_toInt h (by decide)]
  rfl
theorem eP_lt {a b : Nat} (ha : a < 2 ^ 30) (hb : b < 2 ^ 30) : eP a < eP b ↔ a < b := by
  rw [Int32.lt_iff_toInt_lt, eP_toInt ha, eP_toInt hb]
  omega
theorem eP_max {a b : Nat} (ha : a < 2 ^ 30) (hb : b < 2 ^ 30) : (if eP a < eP b then eP b else eP a) = eP (max a b) := by
  by_cases h : a < b
  · rw [if_pos ((eP_lt ha hb).mpr h), Nat.max_eq_right (by omega)]
  · rw [if_neg (fun q => h ((eP_lt ha hb).mp q)), Nat.max_eq_left (by omega)]
theorem eP_s (n : Nat) : eP (n + 1) = nI n := nI_pred n
theorem hi1_s (h : Nat → Nat) (w n : Nat) : hi1 h w (n + 1) = max (hi1 h w n) (if h n = 0 then 0 else n + w * (h n - 1) + 1) := rfl
theorem hi1_s0 {h : Nat → Nat} {w n : Nat} (q : h n = 0) : hi1 h w (n + 1) = hi1 h w n := by rw [hi1_s, if_pos q, Nat.max_zero]
theorem hi1_s1 {h : Nat → Nat} {w n : Nat} (q : ¬ h n = 0) : hi1 h w (n + 1) = max (hi1 h w n) (n + w * (h n - 1) + 1) := by rw [hi1_s, if_neg q]
theorem Inv.hand {M : Ms} (h : Inv M) {i : Nat} (hi : i < M.w) : M.handed i ≤ 200 := by
  obtain ⟨-, -, h3, -, -, -, -, h8⟩ := h
  have := le_sumF (h := M.handed) M.w i hi
  omega
theorem Inv.prod {M : Ms} (h : Inv M) {i : Nat} (hi : i < M.w) : M.w * M.handed i ≤ 1600 := Nat.mul_le_mul h.1.le (h.hand hi)
theorem Inv.hi_le {M : Ms} (h : Inv M) : ∀ n, n ≤ M.w → hi1 M.handed M.w n ≤ 1700
  | 0, _ => Nat.zero_le _
  | n + 1, hn => by
    have h1 := Inv.hi_le h n (by omega)
    have h2 := h.prod (i := n) (by omega)
    have h3 := h.1.le
    by_cases q : M.handed n = 0
    · rw [hi1_s0 q]; exact h1
    · rw [hi1_s1 q]
      have h4 : M.w * (M.handed n - 1) ≤ M.w * M.handed n := Nat.mul_le_mul_left _ (by omega)
      generalize M.w * (M.handed n - 1) = x at *
      generalize M.w * M.handed n = y at *
      omega
theorem Inv.num {M : Ms} (h : Inv M) {t q : Nat} (ht : t < M.nt) (hq : M.number t = some q) : q ≤ 1608 := by
  have hw8 := h.1.le
  have hw2 := h.1.pos
  have h1 := (h.2.2.2.2.2.1 t ht).2.2.2.2.2 q hq
  have hm : q % M.w < M.w := Nat.mod_lt _ (by omega)
  have h2 := h.hand hm
  have h3 := Nat.lt_mul_div_succ q (show 0 < M.w by omega)
  have h4 : M.w * (q / M.w + 1) ≤ 8 * 201 := Nat.mul_le_mul hw8 (by generalize q / M.w = d at *; omega)
  omega
theorem Ms.stepAll_s {M : Ms} {n t : Nat} (ht : t < n) : Ms.stepAll (n - t) t M = Ms.stepAll (n - (t + 1)) (t + 1) (if M.can t = true then (M.step t).2 else M) := by
  rw [show n - t = (n - (t + 1)) + 1 by omega]
  rfl
theorem Ms.delAll_s {M : Ms} {n k : Nat} (hk : k < n) : Ms.delAll (n - k) M = Ms.delAll (n - (k + 1)) (M.deliver 0) := by
  rw [show n - k = (n - (k + 1)) + 1 by omega]
  rfl
theorem Ms.resF_s {M : Ms} {n t : Nat} (ht : t < n) (hl : M.nl < 60) : Ms.resF (n - t) t M = Ms.resF (n - (t + 1)) (t + 1) (M.res1 t) := by
  rw [show n - t = (n - (t + 1)) + 1 by omega]
  show (if M.nl < 60 then _ else _) = _
  rw [if_pos hl]
theorem Ms.resF_f {M : Ms} {f t : Nat} (hl : ¬ M.nl < 60) : Ms.resF f t M = M := by
  cases f with
  | zero => rfl
  | succ f =>
    show (if M.nl < 60 then _ else _) = _
    rw [if_neg hl]
theorem Ms.res1_t {M : Ms} {t : Nat} (h1 : M.state t = 1) (h2 : M.holds t = false) : M.res1 t = M.post t (M.way t) (M.stN t) := by unfold Ms.res1; rw [if_pos ⟨h1, h2⟩]
theorem Ms.res1_f {M : Ms} {t : Nat} (h : ¬ M.state t = 1 ∨ M.holds t = true) : M.res1 t = M := by
  unfold Ms.res1
  rw [if_neg (fun q => h.elim (fun a => a q.1) (fun a => by rw [q.2] at a; cases a))]
