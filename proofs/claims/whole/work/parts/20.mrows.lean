/-! rows for the reference's side -/
def rf (a b : Bool) : Int32 := if a = true then 1 else if b = true then 2 else 0
theorem AR.off {α : Type} {n : Nat} {enc : α → Int32} {f : Nat → Int32} {g : Nat → α} (h : AR n enc f g) {x : Int32} {i : Nat} (hi : n ≤ i) : AR n enc (upd f i x) g := by
  intro t ht
  rw [pk_un (by omega)]
  exact h t ht
theorem eO_neg {o : Option Nat} (h : ∀ p, o = some p → p < 2 ^ 31) : eO o < 0 ↔ o = none := by
  cases o with
  | none => exact ⟨fun _ => rfl, fun _ => by decide⟩
  | some p => exact ⟨fun q => absurd q (nI_pos (h p rfl)), fun q => by cases q⟩
theorem eO_ge {o : Option Nat} (h : ∀ p, o = some p → p < 2 ^ 31) : 0 ≤ eO o ↔ ∃ p, o = some p := by
  cases o with
  | none => exact ⟨fun q => absurd q (by decide), fun ⟨_, q⟩ => by cases q⟩
  | some p => exact ⟨fun _ => ⟨p, rfl⟩, fun _ => nI_pos' (h p rfl)⟩
theorem lefF_s (st : Nat → Nat) (n : Nat) : lefF st (n + 1) = lefF st n + (if st n = 2 then 0 else 1) := rfl
theorem lefF_s2 {st : Nat → Nat} {n : Nat} (h : st n = 2) : lefF st (n + 1) = lefF st n := by rw [lefF_s, if_pos h, Nat.add_zero]
theorem lefF_s1 {st : Nat → Nat} {n : Nat} (h : ¬ st n = 2) : lefF st (n + 1) = lefF st n + 1 := by rw [lefF_s, if_neg h]
theorem lefF_le (st : Nat → Nat) : ∀ n, lefF st n ≤ n
  | 0 => Nat.le_refl _
  | n + 1 => by have := lefF_le st n; rw [lefF_s]; split <;> omega
def exF (w wi i : Nat) : Nat := if uX w wi < i then uX w wi else 0
theorem exF_0 (w wi : Nat) : exF w wi 0 = 0 := by unfold exF; rw [if_neg (by omega)]
theorem exF_hit {w wi i : Nat} (h : i = uX w wi) : exF w wi (i + 1) = i := by unfold exF; rw [if_pos (by omega), h]
theorem exF_no {w wi i : Nat} (h : ¬ i = uX w wi) : exF w wi (i + 1) = exF w wi i := by
  unfold exF
  by_cases q : uX w wi < i
  · rw [if_pos (by omega), if_pos q]
  · rw [if_neg (by omega), if_neg q]
theorem exF_end {w wi : Nat} (hw : Wok w) (h : wi < w) : exF w wi w = uX w wi := by unfold exF; rw [if_pos (uX_lt hw h)]
theorem hasF_s (la : Nat → Nat) (lw : Nat → Int32) (t : Nat) (wy : Int32) (n : Nat) : hasF la lw t wy (n + 1) = (hasF la lw t wy n || (la n == t && lw n == wy)) := rfl
theorem hasF_s1 {la : Nat → Nat} {lw : Nat → Int32} {t : Nat} {wy : Int32} {n : Nat} (h : hasF la lw t wy n = true ∨ (la n = t ∧ lw n = wy)) : hasF la lw t wy (n + 1) = true := by
  rw [hasF_s]
  rcases h with h | ⟨a, b⟩
  · rw [h]; rfl
  · rw [a, b]; simp
theorem hasF_s0 {la : Nat → Nat} {lw : Nat → Int32} {t : Nat} {wy : Int32} {n : Nat} (h : hasF la lw t wy n = false) (h2 : ¬ (la n = t ∧ lw n = wy)) : hasF la lw t wy (n + 1) = false := by
  rw [hasF_s, h]
  cases h1 : (la n == t) with
  | false => rfl
  | true =>
    cases h3 : (lw n == wy) with
    | false => rfl
    | true => exact absurd ⟨by simpa using h1, by simpa using h3⟩ h2
def isH (M : Ms) (n : Nat) : Bool := decide (n / M.w < M.handed (n % M.w))
def alF (M : Ms) : Nat → Bool
  | 0 => true
  | n + 1 => alF M n && isH M n
theorem alF_s1 {M : Ms} {n : Nat} (h1 : alF M n = true) (h2 : isH M n = true) : alF M (n + 1) = true := by
  show (alF M n && isH M n) = true
  rw [h1, h2]; rfl
theorem alF_s0 {M : Ms} {n : Nat} (h : alF M n = false ∨ isH M n = false) : alF M (n + 1) = false := by
  show (alF M n && isH M n) = false
  rcases h with h | h
  · rw [h]; rfl
  · rw [h]; exact Bool.and_false _
theorem alF_iff (M : Ms) : ∀ q, alF M q = true ↔ ∀ n, n < q → n / M.w < M.handed (n % M.w)
  | 0 => ⟨fun _ n hn => absurd hn (Nat.not_lt_zero n), fun _ => rfl⟩
  | q + 1 => by
    show (alF M q && isH M q) = true ↔ _
    rw [Bool.and_eq_true, alF_iff M q]
    unfold isH
    rw [decide_eq_true_eq]
    constructor
    · intro h n hn
      by_cases e : n = q
      · rw [e]; exact h.2
      · exact h.1 n (by omega)
    · intro h
      exact ⟨fun n hn => h n (by omega), h q (by omega)⟩
theorem alF_least {M : Ms} (h : Inv M) (q : Nat) : alF M q = true ↔ q ≤ M.least := by
  rw [alF_iff]
  exact least_iff (by have := h.1.pos; omega)
theorem gaF_s0 {M : Ms} {n : Nat} (h : isH M n = true) : gaF M.handed M.w (n + 1) = gaF M.handed M.w n := by
  show gaF M.handed M.w n + (if n / M.w < M.handed (n % M.w) then 0 else 1) = _
  rw [if_pos (of_decide_eq_true h), Nat.add_zero]
theorem gaF_s1 {M : Ms} {n : Nat} (h : isH M n = false) : gaF M.handed M.w (n + 1) = gaF M.handed M.w n + 1 := by
  show gaF M.handed M.w n + (if n / M.w < M.handed (n % M.w) then 0 else 1) = _
  rw [if_neg (of_decide_eq_false h)]
def cp (f : Nat → Int32) (i k : Nat) : Nat → Int32 := va_cpy f f (i + 1) i (k - i)
theorem cp_0 (f : Nat → Int32) (i : Nat) : cp f i i = f := by
  funext j
  unfold cp
  rw [Nat.sub_self, pk_cpy_out (by omega)]
theorem cp_at (f : Nat → Int32) {i k : Nat} (h : i ≤ k) : cp f i k (k + 1) = f (k + 1) := by
  unfold cp
  rw [pk_cpy_out (by omega)]
theorem cp_s (f : Nat → Int32) {i k : Nat} (h : i ≤ k) : upd (cp f i k) k (f (k + 1)) = cp f i (k + 1) := by
  funext j
  unfold cp
  by_cases e : j = k
  · subst e
    rw [pk_us, pk_cpy_in (by omega) (by omega)]
    congr 1
    omega
  · rw [pk_un e]
    by_cases q : i ≤ j ∧ j < k
    · rw [pk_cpy_in (by omega) (by omega), pk_cpy_in (by omega) (by omega)]
    · rw [pk_cpy_out (by omega), pk_cpy_out (by omega)]
theorem sR_self' {σ : St} {k : Nat} {f : Nat → Int32} (h : σ.2 k = f) : σ = sR σ k f := by rw [← h, sR_self]
theorem sR3 (τ : St) (f g h : Nat → Int32) (k : Nat) (x y z : Int32) : sA (sA (sA (sR (sR (sR τ 16 f) 17 g) 18 h) 16 k x) 17 k y) 18 k z = sR (sR (sR τ 16 (upd f k x)) 17 (upd g k y)) 18 (upd h k z) := by
  unfold sA sR
  show (_, _) = (_, _)
  congr 1
  funext j
  by_cases e1 : j = 18
  · subst e1; rfl
  · by_cases e2 : j = 17
    · subst e2; rfl
    · by_cases e3 : j = 16
      · subst e3; rfl
      · simp only [va_up, e1, e2, e3, if_false]
theorem sR3_0 (τ : St) : τ = sR (sR (sR τ 16 (τ.2 16)) 17 (τ.2 17)) 18 (τ.2 18) := by
  rw [sR_self τ 16, sR_self τ 17, sR_self τ 18]
theorem eP_le {a b : Nat} (ha : a < 2 ^ 30) (hb : b < 2 ^ 30) : eP a ≤ eP b ↔ a ≤ b := by
  rw [Int32.le_iff_toInt_le, eP_toInt ha, eP_toInt hb]
  omega
def lst (M : Ms) (i : Nat) : Nat := if M.handed i = 0 then 0 else i + M.w * (M.handed i - 1) + 1
theorem hi1_lst (M : Ms) (i : Nat) : hi1 M.handed M.w (i + 1) = max (hi1 M.handed M.w i) (lst M i) := rfl
