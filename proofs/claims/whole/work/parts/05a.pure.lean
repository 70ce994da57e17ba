/-! the network as a mathematical value -/
abbrev Ms : Type := Nat × Nat × Nat × Nat × (Nat → Nat) × (Nat → Option Nat) × (Nat → Nat) × (Nat → Int32) × (Nat → Nat) × (Nat → Int32) × (Nat → Option Nat) × (Nat → Bool) × (Nat → Nat) × (Nat → Int32) × (Nat → Nat) × (Nat → Bool) × (Nat → Int32) × (Nat → Nat)
abbrev Ms.w (M : Ms) : Nat := M.1
abbrev Ms.ns (M : Ms) : Nat := M.2.1
abbrev Ms.nt (M : Ms) : Nat := M.2.2.1
abbrev Ms.nl (M : Ms) : Nat := M.2.2.2.1
abbrev Ms.wire (M : Ms) : Nat → Nat := M.2.2.2.2.1
abbrev Ms.place (M : Ms) : Nat → Option Nat := M.2.2.2.2.2.1
abbrev Ms.state (M : Ms) : Nat → Nat := M.2.2.2.2.2.2.1
abbrev Ms.passed (M : Ms) : Nat → Int32 := M.2.2.2.2.2.2.2.1
abbrev Ms.nxt (M : Ms) : Nat → Nat := M.2.2.2.2.2.2.2.2.1
abbrev Ms.way (M : Ms) : Nat → Int32 := M.2.2.2.2.2.2.2.2.2.1
abbrev Ms.number (M : Ms) : Nat → Option Nat := M.2.2.2.2.2.2.2.2.2.2.1
abbrev Ms.ordered (M : Ms) : Nat → Bool := M.2.2.2.2.2.2.2.2.2.2.2.1
abbrev Ms.la (M : Ms) : Nat → Nat := M.2.2.2.2.2.2.2.2.2.2.2.2.1
abbrev Ms.lw (M : Ms) : Nat → Int32 := M.2.2.2.2.2.2.2.2.2.2.2.2.2.1
abbrev Ms.lt (M : Ms) : Nat → Nat := M.2.2.2.2.2.2.2.2.2.2.2.2.2.2.1
abbrev Ms.down (M : Ms) : Nat → Bool := M.2.2.2.2.2.2.2.2.2.2.2.2.2.2.2.1
abbrev Ms.had (M : Ms) : Nat → Int32 := M.2.2.2.2.2.2.2.2.2.2.2.2.2.2.2.2.1
abbrev Ms.handed (M : Ms) : Nat → Nat := M.2.2.2.2.2.2.2.2.2.2.2.2.2.2.2.2.2
def Ms.s_down (M : Ms) (x : Nat → Bool) : Ms := (M.w, M.ns, M.nt, M.nl, M.wire, M.place, M.state, M.passed, M.nxt, M.way, M.number, M.ordered, M.la, M.lw, M.lt, x, M.had, M.handed)
def nb (w : Nat) : Nat := if w = 2 then 1 else if w = 4 then 6 else 24
def nc (w : Nat) : Nat := if w = 2 then 1 else if w = 4 then 3 else 6
def tU (w : Nat) : List Nat := if w = 2 then [0] else if w = 4 then [0, 2, 0, 1, 0, 3] else [0, 2, 0, 1, 0, 3, 4, 6, 4, 5, 4, 7, 0, 3, 0, 6, 1, 2, 1, 7, 0, 3, 6, 5]
def tL (w : Nat) : List Nat := if w = 2 then [1] else if w = 4 then [1, 3, 3, 2, 1, 2] else [1, 3, 3, 2, 1, 2, 5, 7, 7, 6, 5, 6, 6, 5, 3, 5, 7, 4, 2, 4, 1, 2, 7, 4]
def tC (w : Nat) : List Nat := if w = 2 then [0] else if w = 4 then [0, 0, 1, 1, 2, 2] else [0, 0, 1, 1, 2, 2, 0, 0, 1, 1, 2, 2, 3, 3, 4, 4, 3, 3, 4, 4, 5, 5, 5, 5]
def tE (w : Nat) : List Nat := if w = 2 then [0, 1] else if w = 4 then [0, 1, 3, 2] else [0, 1, 3, 2, 6, 7, 5, 4]
def tX (w : Nat) : List Nat := if w = 2 then [0, 1] else if w = 4 then [0, 1, 3, 2] else [0, 1, 3, 2, 7, 6, 4, 5]
def uU (w b : Nat) : Nat := (tU w).getD b 0
def uL (w b : Nat) : Nat := (tL w).getD b 0
def uC (w b : Nat) : Nat := (tC w).getD b 0
def uE (w b : Nat) : Nat := (tE w).getD b 0
def uX (w b : Nat) : Nat := (tX w).getD b 0
def Wok (w : Nat) : Prop := w = 2 ∨ w = 4 ∨ w = 8
theorem Wok.le {w : Nat} (h : Wok w) : w ≤ 8 := by rcases h with rfl | rfl | rfl <;> decide
theorem Wok.pos {w : Nat} (h : Wok w) : 2 ≤ w := by rcases h with rfl | rfl | rfl <;> decide
theorem nb_le (w : Nat) : nb w ≤ 24 := by unfold nb; split <;> (try split) <;> omega
theorem uU_lt {w b : Nat} (h : Wok w) (hb : b < nb w) : uU w b < w := by
  rcases h with rfl | rfl | rfl
  · exact (by decide : ∀ b, b < nb 2 → uU 2 b < 2) b hb
  · exact (by decide : ∀ b, b < nb 4 → uU 4 b < 4) b hb
  · exact (by decide : ∀ b, b < nb 8 → uU 8 b < 8) b hb
theorem uL_lt {w b : Nat} (h : Wok w) (hb : b < nb w) : uL w b < w := by
  rcases h with rfl | rfl | rfl
  · exact (by decide : ∀ b, b < nb 2 → uL 2 b < 2) b hb
  · exact (by decide : ∀ b, b < nb 4 → uL 4 b < 4) b hb
  · exact (by decide : ∀ b, b < nb 8 → uL 8 b < 8) b hb
theorem uC_lt {w b : Nat} (h : Wok w) (hb : b < nb w) : uC w b < 6 := by
  rcases h with rfl | rfl | rfl
  · exact (by decide : ∀ b, b < nb 2 → uC 2 b < 6) b hb
  · exact (by decide : ∀ b, b < nb 4 → uC 4 b < 6) b hb
  · exact (by decide : ∀ b, b < nb 8 → uC 8 b < 6) b hb
theorem uX_lt {w i : Nat} (h : Wok w) (hi : i < w) : uX w i < w := by
  rcases h with rfl | rfl | rfl
  · exact (by decide : ∀ b, b < 2 → uX 2 b < 2) i hi
  · exact (by decide : ∀ b, b < 4 → uX 4 b < 4) i hi
  · exact (by decide : ∀ b, b < 8 → uX 8 b < 8) i hi
theorem uE_uX {w i : Nat} (h : Wok w) (hi : i < w) : uE w (uX w i) = i := by
  rcases h with rfl | rfl | rfl
  · exact (by decide : ∀ b, b < 2 → uE 2 (uX 2 b) = b) i hi
  · exact (by decide : ∀ b, b < 4 → uE 4 (uX 4 b) = b) i hi
  · exact (by decide : ∀ b, b < 8 → uE 8 (uX 8 b) = b) i hi
theorem uX_uE {w i : Nat} (h : Wok w) (hi : i < w) : uX w (uE w i) = i := by
  rcases h with rfl | rfl | rfl
  · exact (by decide : ∀ b, b < 2 → uX 2 (uE 2 b) = b) i hi
  · exact (by decide : ∀ b, b < 4 → uX 4 (uE 4 b) = b) i hi
  · exact (by decide : ∀ b, b < 8 → uX 8 (uE 8 b) = b) i hi
theorem uE_lt {w i : Nat} (h : Wok w) (hi : i < w) : uE w i < w := by
  rcases h with rfl | rfl | rfl
  · exact (by decide : ∀ b, b < 2 → uE 2 b < 2) i hi
  · exact (by decide : ∀ b, b < 4 → uE 4 b < 4) i hi
  · exact (by decide : ∀ b, b < 8 → uE 8 b < 8) i hi
def nxF (w wi : Nat) : Nat → Nat → Option Nat
  | 0, _ => none
  | f + 1, b => if uU w b = wi ∨ uL w b = wi then some b else nxF w wi f (b + 1)
def nxB (w wi n : Nat) : Option Nat := nxF w wi (nb w - n) n
theorem nxF_lt {w wi : Nat} : ∀ (f n b : Nat), nxF w wi f n = some b → n ≤ b ∧ b < n + f
  | 0, _, _, h => by cases h
  | f + 1, n, b, h => by
    unfold nxF at h
    split at h
    · cases h; omega
    · have := nxF_lt f (n + 1) b h; omega
theorem nxB_lt {w wi n b : Nat} (h : nxB w wi n = some b) : b < nb w := by
  have := nxF_lt _ _ _ h
  omega
def lefF (st : Nat → Nat) : Nat → Nat
  | 0 => 0
  | n + 1 => lefF st n + (if st n = 2 then 0 else 1)
def Ms.left (M : Ms) : Nat := lefF M.state M.nt
def sumF (h : Nat → Nat) : Nat → Nat
  | 0 => 0
  | n + 1 => sumF h n + h n
def Ms.next (M : Ms) (t : Nat) : Option Nat := nxB M.w (M.wire t) (M.nxt t)
def Ms.ex (M : Ms) (t : Nat) : Nat := uX M.w (M.wire t)
def Ms.stN (M : Ms) (t : Nat) : Nat := match M.next t with
  | none => M.ex t % M.ns
  | some b => uC M.w b % M.ns
def Ms.asleep (M : Ms) (t : Nat) : Bool := match M.place t with
  | none => false
  | some p => M.down p
def Ms.can (M : Ms) (t : Nat) : Bool := !(M.state t == 2) && !M.asleep t && (decide (M.nl < 60) || M.state t == 1 || M.place t == some (M.stN t))
def Ms.post (M : Ms) (t : Nat) (wy : Int32) (s : Nat) : Ms := (M.w, M.ns, M.nt, M.nl + 1, M.wire, M.place, M.state, M.passed, M.nxt, M.way, M.number, M.ordered, va_up M.la M.nl t, va_up M.lw M.nl wy, va_up M.lt M.nl s, M.down, M.had, M.handed)
def Ms.setOut (M : Ms) (t : Nat) : Ms := (M.w, M.ns, M.nt, M.nl, M.wire, M.place, va_up M.state t 1, M.passed, M.nxt, va_up M.way t (M.way t + 1), M.number, M.ordered, M.la, M.lw, M.lt, M.down, M.had, M.handed)
def Ms.go (M : Ms) (t b : Nat) : Ms := (M.w, M.ns, M.nt, M.nl, va_up M.wire t (if M.had b - M.had b / 2 * 2 = 0 then uU M.w b else uL M.w b), M.place, M.state, va_up M.passed t (M.passed t + 1), va_up M.nxt t (b + 1), M.way, M.number, M.ordered, M.la, M.lw, M.lt, M.down, va_up M.had b (M.had b + 1), M.handed)
def Ms.out (M : Ms) (t i : Nat) : Ms := (M.w, M.ns, M.nt, M.nl, M.wire, M.place, va_up M.state t 2, M.passed, M.nxt, M.way, va_up M.number t (some (i + M.w * M.handed i)), M.ordered, M.la, M.lw, M.lt, M.down, M.had, va_up M.handed i (M.handed i + 1))
def Ms.step (M : Ms) (t : Nat) : Nat × Ms :=
  if M.state t = 1 then (3, M)
  else if ¬ M.place t = some (M.stN t) then (2, (M.setOut t).post t (M.way t + 1) (M.stN t))
  else match M.next t with
    | some b => (0, M.go t b)
    | none => (1, M.out t (M.ex t))
def shf {α : Type} (f : Nat → α) (i : Nat) : Nat → α := fun k => if k < i then f k else f (k + 1)
def Ms.take (M : Ms) (i : Nat) : Ms := (M.w, M.ns, M.nt, M.nl - 1, M.wire, M.place, M.state, M.passed, M.nxt, M.way, M.number, M.ordered, shf M.la i, shf M.lw i, shf M.lt i, M.down, M.had, M.handed)
def Ms.arrive (M : Ms) (t s : Nat) : Ms := (M.w, M.ns, M.nt, M.nl, M.wire, va_up M.place t (some s), va_up M.state t 0, M.passed, M.nxt, M.way, M.number, M.ordered, M.la, M.lw, M.lt, M.down, M.had, M.handed)
def Ms.comes (M : Ms) (i : Nat) : Bool := !(M.down (M.lt i)) && M.state (M.la i) == 1 && M.way (M.la i) == M.lw i
def Ms.deliver (M : Ms) (i : Nat) : Ms := if M.comes i = true then (M.take i).arrive (M.la i) (M.lt i) else M.take i
def hasF (la : Nat → Nat) (lw : Nat → Int32) (t : Nat) (wy : Int32) : Nat → Bool
  | 0 => false
  | n + 1 => hasF la lw t wy n || (la n == t && lw n == wy)
def Ms.holds (M : Ms) (t : Nat) : Bool := hasF M.la M.lw t (M.way t) M.nl
def Ms.res1 (M : Ms) (t : Nat) : Ms := if M.state t = 1 ∧ M.holds t = false then M.post t (M.way t) (M.stN t) else M
def Ms.resF : Nat → Nat → Ms → Ms
  | 0, _, M => M
  | f + 1, t, M => if M.nl < 60 then Ms.resF f (t + 1) (M.res1 t) else M
def Ms.resend (M : Ms) : Ms := Ms.resF M.nt 0 M
def Ms.build (M : Ms) (w ns : Nat) : Ms := (w, ns, 0, 0, M.wire, M.place, M.state, M.passed, M.nxt, M.way, M.number, M.ordered, M.la, M.lw, M.lt, fun _ => false, fun _ => 0, fun _ => 0)
def Ms.enter (M : Ms) (wi : Nat) (o : Bool) : Ms := (M.w, M.ns, M.nt + 1, M.nl, va_up M.wire M.nt wi, va_up M.place M.nt none, va_up M.state M.nt 0, va_up M.passed M.nt 0, va_up M.nxt M.nt 0, va_up M.way M.nt 0, va_up M.number M.nt none, va_up M.ordered M.nt o, M.la, M.lw, M.lt, M.down, M.had, M.handed)
def Ms.stepAll : Nat → Nat → Ms → Ms
  | 0, _, M => M
  | f + 1, t, M => Ms.stepAll f (t + 1) (if M.can t = true then (M.step t).2 else M)
def Ms.delAll : Nat → Ms → Ms
  | 0, M => M
  | f + 1, M => Ms.delAll f (M.deliver 0)
def Ms.round (M : Ms) : Ms := let N := Ms.stepAll M.nt 0 M; Ms.delAll N.nl N
def Ms.settle : Nat → Ms → Nat × Ms
  | 0, M => (0, M)
  | f + 1, M => if M.left = 0 then (0, M) else let q := Ms.settle f M.round; (q.1 + 1, q.2)
/-- what holds of every state that is reached -/
def Inv (M : Ms) : Prop :=
  Wok M.w ∧ (1 ≤ M.ns ∧ M.ns ≤ 6) ∧ M.nt ≤ 200 ∧ M.nl ≤ 60 ∧ M.left ≤ 40 ∧
  (∀ t, t < M.nt → M.wire t < M.w ∧ (∀ p, M.place t = some p → p < M.ns) ∧ M.state t ≤ 2 ∧ M.nxt t ≤ nb M.w ∧ (M.state t = 2 ↔ (M.number t).isSome = true) ∧ (∀ q, M.number t = some q → q / M.w < M.handed (q % M.w))) ∧
  (∀ k, k < M.nl → M.la k < M.nt ∧ M.lt k < M.ns) ∧ sumF M.handed M.w + M.left = M.nt
