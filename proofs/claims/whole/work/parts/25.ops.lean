/-! what each call answers: the code (0: it answers, 1 or 2: which exception), the answer, the value behind it -/
def inR (x : Int32) (n : Nat) : Option Nat := if 0 ≤ x ∧ x < nI n then some x.toNatClampNeg else none
theorem inR_nI {j n : Nat} (h : j < n) (hn : n < 2 ^ 31) : inR (nI j) n = some j := by
  unfold inR
  rw [if_pos ⟨nI_pos' (by omega), (nI_ltI (by omega) hn).mpr h⟩, nI_clamp (by omega)]
theorem inR_some {x : Int32} {n j : Nat} (hn : n < 2 ^ 31) (h : inR x n = some j) : j < n ∧ x = nI j := by
  unfold inR at h
  split at h
  · rename_i c
    rcases pk_ix x hn with a | a | ⟨k, hk, e⟩
    · exact absurd c.1 (Int32.not_le.mpr a)
    · exact absurd c.2 (Int32.not_lt.mpr a)
    · subst e
      rw [nI_clamp (by omega)] at h
      cases h
      exact ⟨hk, rfl⟩
  · cases h
theorem inR_none {x : Int32} {n : Nat} (h : inR x n = none) : ¬ (0 ≤ x ∧ x < nI n) := by
  intro c
  unfold inR at h
  rw [if_pos c] at h
  cases h
theorem le_pred {x : Int32} {n : Nat} (hn : n < 2 ^ 30) : (0 ≤ x ∧ x ≤ nI n - 1) ↔ (0 ≤ x ∧ x < nI n) := by
  have e : (nI n - 1).toInt = (n : Int) - 1 := by rw [nI_c1, pk_sub_toInt hn (by decide)]; rfl
  constructor
  · intro ⟨h1, h2⟩
    refine ⟨h1, ?_⟩
    rw [Int32.le_iff_toInt_le, e] at h2
    rw [Int32.lt_iff_toInt_lt, nI_toInt (by omega)]
    omega
  · intro ⟨h1, h2⟩
    refine ⟨h1, ?_⟩
    rw [Int32.lt_iff_toInt_lt, nI_toInt (by omega)] at h2
    rw [Int32.le_iff_toInt_le, e]
    omega
theorem in_t {x : Int32} {n j : Nat} (hn : n < 2 ^ 30) (h : inR x n = some j) : decide (0 ≤ x ∧ x ≤ nI n - 1) = true := by
  obtain ⟨hj, rfl⟩ := inR_some (by omega) h
  exact decide_eq_true ((le_pred hn).mpr ⟨nI_pos' (by omega), (nI_ltI (by omega) (by omega)).mpr hj⟩)
theorem in_f {x : Int32} {n : Nat} (hn : n < 2 ^ 30) (h : inR x n = none) : decide (0 ≤ x ∧ x ≤ nI n - 1) = false := decide_eq_false (fun c => inR_none h ((le_pred hn).mp c))
theorem in_tc {x : Int32} {n j : Nat} (hn : n + 1 < 2 ^ 30) (h : inR x (n + 1) = some j) : decide (0 ≤ x ∧ x ≤ nI n) = true := by have := in_t hn h; rw [nI_pred] at this; exact this
theorem in_fc {x : Int32} {n : Nat} (hn : n + 1 < 2 ^ 30) (h : inR x (n + 1) = none) : decide (0 ≤ x ∧ x ≤ nI n) = false := by have := in_f hn h; rw [nI_pred] at this; exact this
abbrev Rs : Type := Int32 × Int32 × Ms
def widthOf (x : Int32) : Option Nat := if x = 2 then some 2 else if x = 4 then some 4 else if x = 8 then some 8 else none
theorem widthOf_some {x : Int32} {w : Nat} (h : widthOf x = some w) : Wok w ∧ x = nI w := by
  unfold widthOf at h
  split at h
  · rename_i e; cases h; exact ⟨Or.inl rfl, e⟩
  · split at h
    · rename_i e; cases h; exact ⟨Or.inr (Or.inl rfl), e⟩
    · split at h
      · rename_i e; cases h; exact ⟨Or.inr (Or.inr rfl), e⟩
      · cases h
theorem widthOf_none {x : Int32} (h : widthOf x = none) : ¬ x = 2 ∧ ¬ x = 4 ∧ ¬ x = 8 := by
  unfold widthOf at h
  split at h
  · cases h
  · split at h
    · cases h
    · split at h
      · cases h
      · rename_i a b c; exact ⟨a, b, c⟩
def o_build (M : Ms) (x y : Int32) : Rs := match widthOf x, inR y 7 with
  | some w, some (s + 1) => (0, nI (nb w), M.build w (s + 1))
  | _, _ => (1, 0, M)
def o_balancer (M : Ms) (x y : Int32) : Rs := match inR x (nb M.w), inR y 5 with
  | none, _ => (1, 0, M)
  | some _, none => (2, 0, M)
  | some b, some k => (0, (if k = 0 then nI (uU M.w b) else if k = 1 then nI (uL M.w b) else if k = 2 then nI (uC M.w b) else if k = 3 then nI (uC M.w b % M.ns) else M.had b), M)
def o_exit (M : Ms) (x y : Int32) : Rs := match inR x M.w, inR y 3 with
  | none, _ => (1, 0, M)
  | some _, none => (2, 0, M)
  | some i, some k => (0, (if k = 0 then nI (uE M.w i) else if k = 1 then nI (i % M.ns) else nI (M.handed i)), M)
def o_enter (M : Ms) (x : Int32) (o : Bool) : Rs := match inR x M.w with
  | none => (1, 0, M)
  | some wi => if M.nt = 200 ∨ M.left = 40 then (2, 0, M) else (0, nI M.nt, M.enter wi o)
def o_move (M : Ms) (x : Int32) : Rs := match inR x M.nt with
  | none => (1, 0, M)
  | some t => if M.can t = true then (0, nI (M.step t).1, (M.step t).2) else (2, 0, M)
def o_deliver (M : Ms) (x : Int32) : Rs := match inR x M.nl with
  | none => (1, 0, M)
  | some i => (0, eB (M.comes i), M.deliver i)
def o_lose (M : Ms) (x : Int32) : Rs := match inR x M.nl with
  | none => (1, 0, M)
  | some i => (0, 0, M.take i)
def o_twin (M : Ms) (x : Int32) : Rs := match inR x M.nl with
  | none => (1, 0, M)
  | some i => if M.nl = 60 then (2, 0, M) else (0, 0, M.post (M.la i) (M.lw i) (M.lt i))
def o_letter (M : Ms) (x y : Int32) : Rs := if x = -1 then (0, nI M.nl, M) else match inR x M.nl, inR y 2 with
  | none, _ => (1, 0, M)
  | some _, none => (2, 0, M)
  | some i, some k => (0, (if k = 0 then nI (M.la i) else nI (M.lt i)), M)
def o_station (M : Ms) (x : Int32) (o : Bool) : Rs := match inR x M.ns with
  | none => (1, 0, M)
  | some s => (0, 0, M.s_down (va_up M.down s o))
def o_token (M : Ms) (x y : Int32) : Rs := match inR x M.nt, inR y 5 with
  | some t, some k => (0, (if k = 0 then nI (M.wire t) else if k = 1 then eO (M.place t) else if k = 2 then nI (M.state t) else if k = 3 then M.passed t else eO (M.shown t)), M)
  | _, _ => (1, 0, M)
def o_about (M : Ms) (y : Int32) : Rs := match inR y 6 with
  | none => (1, 0, M)
  | some k => (0, (if k = 0 then nI M.w else if k = 1 then nI M.nt else if k = 2 then nI M.left else if k = 3 then eP (hi1 M.handed M.w M.w) else if k = 4 then nI (gaF M.handed M.w (hi1 M.handed M.w M.w - 1)) else nI (nc M.w)), M)
def o_settle (M : Ms) (y : Int32) : Rs := match inR y 101 with
  | none => (1, 0, M)
  | some n => (0, nI (Ms.settle n M).1, (Ms.settle n M).2)
/-- the reference's end: its note of what was thrown, its answer, its state -/
def endM (q : Rs) (r : Int32) (u : St) : Prop := u.1 0 = q.1 ∧ (q.1 = 0 → r = q.2.1) ∧ repM u q.2.2
def endMv (q : Rs) (u : St) : Prop := u.1 0 = q.1 ∧ repM u q.2.2
theorem ts_in {x : Int32} {k : Nat} (e : x = nI k) (hk : k < 100) : x.toInt = k := by rw [e]; exact nI_toInt (by omega)
