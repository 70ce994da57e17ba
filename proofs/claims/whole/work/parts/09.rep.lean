/-! both sides as writings of one value -/
def planC (σ : St) (w : Nat) : Prop := σ.1 2 = nI (nb w) ∧ σ.1 3 = nI (nc w) ∧ AR (nb w) nI (σ.2 3) (uU w) ∧ AR (nb w) nI (σ.2 4) (uL w) ∧ AR (nb w) nI (σ.2 5) (uC w) ∧ AR w nI (σ.2 6) (uE w)
def repC (σ : St) (M : Ms) : Prop := rep (σ.1 1) (σ.1 0) (σ.1 4) (σ.1 6) (σ.2 9) (σ.2 10) (σ.2 11) (σ.2 12) (σ.2 13) (σ.2 14) (σ.2 15) (σ.2 16) (σ.2 17) (σ.2 18) (σ.2 19) (σ.2 2) (σ.2 0) (σ.2 1) M ∧ σ.1 5 = nI M.left ∧ planC σ M.w
def planM (σ : St) (w : Nat) : Prop := σ.1 3 = nI (nb w) ∧ AR (nb w) nI (σ.2 0) (uU w) ∧ AR (nb w) nI (σ.2 1) (uL w) ∧ AR (nb w) nI (σ.2 2) (uC w) ∧ AR w nI (σ.2 4) (uE w)
def repM (σ : St) (M : Ms) : Prop := rep (σ.1 1) (σ.1 2) (σ.1 4) (σ.1 5) (σ.2 8) (σ.2 9) (σ.2 10) (σ.2 12) (σ.2 11) (σ.2 14) (σ.2 13) (σ.2 15) (σ.2 16) (σ.2 18) (σ.2 17) (σ.2 6) (σ.2 3) (σ.2 5) M ∧ planM σ M.w
theorem i32_sa (x : Int32) : x - 1 + 1 = x := by
  have h : (1 : Int32) + (-1) = 0 := by decide
  rw [Int32.sub_eq_add_neg, Int32.add_assoc, show (-1 : Int32) + 1 = 0 by decide, Int32.add_zero]
theorem eP_1 (n : Nat) : eP n + 1 = nI n := i32_sa _
theorem nI_m1 {p : Nat} (h : p < 2 ^ 31) : ¬ nI p = -1 := by
  intro q
  have a := nI_toInt h
  rw [q] at a
  have : (-1 : Int32).toInt = -1 := by decide
  omega
theorem eO_m1 {o : Option Nat} (h : ∀ p, o = some p → p < 2 ^ 31) : eO o = -1 ↔ o = none := by
  cases o with
  | none => exact ⟨fun _ => rfl, fun _ => rfl⟩
  | some p => exact ⟨fun q => absurd q (nI_m1 (h p rfl)), fun q => by cases q⟩
theorem eO_some {o : Option Nat} {s : Nat} (h : ∀ p, o = some p → p < 2 ^ 31) (hs : s < 2 ^ 31) : eO o = nI s ↔ o = some s := by
  cases o with
  | none => exact ⟨fun q => absurd q.symm (nI_m1 hs), fun q => by cases q⟩
  | some p =>
    constructor
    · intro q
      have := (nI_eq (h p rfl) hs).mp q
      rw [this]
    · intro q
      cases q
      rfl
theorem nI_c0 : (0 : Int32) = nI 0 := rfl
theorem nI_c1 : (1 : Int32) = nI 1 := rfl
theorem nI_c2 : (2 : Int32) = nI 2 := rfl
theorem nI_c60 : (60 : Int32) = nI 60 := rfl
theorem eB_0 {b : Bool} : eB b = 0 ↔ b = false := by cases b <;> decide
theorem eB_n0 {b : Bool} : ¬ eB b = 0 ↔ b = true := by cases b <;> decide
theorem eB_1 {b : Bool} : eB b = 1 ↔ b = true := by cases b <;> decide
theorem eB_nar (b : Bool) : vp_nar .boolean (eB b) = eB b := by cases b <;> decide
theorem eB_zr (b : Bool) : narrow .boolean (.int (eB b)) = .int (eB b) := by cases b <;> rfl
theorem nxB_none {w wi n b : Nat} (hb : nb w ≤ b) (h : nxF w wi (nb w - b) b = nxB w wi n) : nxB w wi n = none := by
  rw [← h, Nat.sub_eq_zero_of_le hb]; rfl
theorem nxB_step {w wi n b : Nat} (hb : b < nb w) (h : nxF w wi (nb w - b) b = nxB w wi n) (h1 : ¬ (uU w b = wi ∨ uL w b = wi)) : nxF w wi (nb w - (b + 1)) (b + 1) = nxB w wi n := by
  rw [← h, show nb w - b = (nb w - (b + 1)) + 1 by omega]
  show _ = (if uU w b = wi ∨ uL w b = wi then some b else nxF w wi (nb w - (b + 1)) (b + 1))
  rw [if_neg h1]
theorem nxB_hit {w wi n b : Nat} (hb : b < nb w) (h : nxF w wi (nb w - b) b = nxB w wi n) (h1 : uU w b = wi ∨ uL w b = wi) : nxB w wi n = some b := by
  rw [← h, show nb w - b = (nb w - (b + 1)) + 1 by omega]
  show (if uU w b = wi ∨ uL w b = wi then some b else nxF w wi (nb w - (b + 1)) (b + 1)) = _
  rw [if_pos h1]
theorem Ms.step_3 {M : Ms} {t : Nat} (h : M.state t = 1) : M.step t = (3, M) := by unfold Ms.step; rw [if_pos h]
theorem Ms.step_2 {M : Ms} {t : Nat} (h : ¬ M.state t = 1) (h2 : ¬ M.place t = some (M.stN t)) : M.step t = (2, (M.setOut t).post t (M.way t + 1) (M.stN t)) := by unfold Ms.step; rw [if_neg h, if_pos h2]
theorem Ms.step_0 {M : Ms} {t b : Nat} (h : ¬ M.state t = 1) (h2 : M.place t = some (M.stN t)) (h3 : M.next t = some b) : M.step t = (0, M.go t b) := by unfold Ms.step; rw [if_neg h, if_neg (fun q => q h2), h3]
theorem Ms.step_1 {M : Ms} {t : Nat} (h : ¬ M.state t = 1) (h2 : M.place t = some (M.stN t)) (h3 : M.next t = none) : M.step t = (1, M.out t (M.ex t)) := by unfold Ms.step; rw [if_neg h, if_neg (fun q => q h2), h3]
theorem Ms.left_setOut {M : Ms} {t : Nat} (ht : t < M.nt) (hs : ¬ M.state t = 2) : (M.setOut t).left = M.left := by
  have := lefF_up (st := M.state) (t := t) (v := 1) M.nt ht
  rw [if_neg hs, if_neg (by decide)] at this
  show lefF (va_up M.state t 1) M.nt = lefF M.state M.nt
  omega
theorem Ms.left_out {M : Ms} {t i : Nat} (ht : t < M.nt) (hs : ¬ M.state t = 2) : (M.out t i).left + 1 = M.left := by
  have := lefF_up (st := M.state) (t := t) (v := 2) M.nt ht
  rw [if_neg hs, if_pos rfl] at this
  show lefF (va_up M.state t 2) M.nt + 1 = lefF M.state M.nt
  omega
theorem Ms.left_arrive {M : Ms} {t s : Nat} (ht : t < M.nt) (hs : M.state t = 1) : (M.arrive t s).left = M.left := by
  have := lefF_up (st := M.state) (t := t) (v := 0) M.nt ht
  rw [if_neg (by rw [hs]; decide), if_neg (by decide)] at this
  show lefF (va_up M.state t 0) M.nt = lefF M.state M.nt
  omega
theorem Ms.left_enter (M : Ms) (wi : Nat) (o : Bool) : (M.enter wi o).left = M.left + 1 := by
  show lefF (va_up M.state M.nt 0) M.nt + (if va_up M.state M.nt 0 M.nt = 2 then 0 else 1) = lefF M.state M.nt + 1
  rw [lefF_ne M.nt (Nat.le_refl _), va_up_self, if_neg (by decide)]
theorem hasF_false {la : Nat → Nat} {lw : Nat → Int32} {t : Nat} {wy : Int32} : ∀ n, (∀ k, k < n → ¬ (la k = t ∧ lw k = wy)) → hasF la lw t wy n = false
  | 0, _ => rfl
  | n + 1, h => by
    unfold hasF
    rw [hasF_false n (fun k hk => h k (by omega))]
    have := h n (by omega)
    cases h1 : (la n == t) with
    | false => rfl
    | true =>
      cases h2 : (lw n == wy) with
      | false => rfl
      | true => exact absurd ⟨by simpa using h1, by simpa using h2⟩ this
theorem hasF_true {la : Nat → Nat} {lw : Nat → Int32} {t : Nat} {wy : Int32} : ∀ n k, k < n → la k = t → lw k = wy → hasF la lw t wy n = true
  | 0, _, h, _, _ => by omega
  | n + 1, k, h, h1, h2 => by
    unfold hasF
    by_cases e : k = n
    · subst e; simp [h1, h2]
    · rw [hasF_true n k (by omega) h1 h2]; rfl
