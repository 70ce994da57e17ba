/-! how the network is laid, on the class's side: the row, the columns on each wire, the spare row, what is laid, how many columns -/
abbrev Pl : Type := (Nat → Nat) × (Nat → Nat) × (Nat → Nat) × List (Nat × Nat × Nat) × Nat
abbrev Pl.r (P : Pl) : Nat → Nat := P.1
abbrev Pl.c (P : Pl) : Nat → Nat := P.2.1
abbrev Pl.s (P : Pl) : Nat → Nat := P.2.2.1
abbrev Pl.l (P : Pl) : List (Nat × Nat × Nat) := P.2.2.2.1
abbrev Pl.k (P : Pl) : Nat := P.2.2.2.2
def Pl.lay (P : Pl) (a b : Nat) : Pl := (P.r, va_up (va_up P.c a (max (P.c a) (P.c b) + 1)) b (max (P.c a) (P.c b) + 1), P.s, P.l ++ [(a, b, max (P.c a) (P.c b))], max P.k (max (P.c a) (P.c b) + 1))
def Pl.jn1 (P : Pl) (fr hf i : Nat) : Pl := Pl.lay (P.r, P.c, va_up (va_up P.s (2 * i) (P.r (fr + i))) (2 * i + 1) (P.r (fr + hf + i)), P.l, P.k) (P.r (fr + i)) (P.r (fr + hf + i))
def Pl.jnL (fr hf : Nat) : Nat → Pl → Pl
  | 0, P => P
  | i + 1, P => (Pl.jnL fr hf i P).jn1 fr hf i
def Pl.back (P : Pl) (fr hf : Nat) : Pl := (va_cpy P.s P.r 0 fr (2 * hf), P.c, P.s, P.l, P.k)
def Pl.join (P : Pl) (fr hf : Nat) : Pl := (Pl.jnL fr hf hf P).back fr hf
def Pl.so1 (P : Pl) (fr hf i : Nat) : Pl := (P.r, P.c, va_up (va_up P.s ((if i % 2 = 0 then 0 else hf) + i / 2) (P.r (fr + i))) ((if i % 2 = 0 then hf else 0) + hf / 2 + i / 2) (P.r (fr + hf + i)), P.l, P.k)
def Pl.soL (fr hf : Nat) : Nat → Pl → Pl
  | 0, P => P
  | i + 1, P => (Pl.soL fr hf i P).so1 fr hf i
def Pl.sort (P : Pl) (fr hf : Nat) : Pl := (Pl.soL fr hf hf P).back fr hf
/-- merge of a stretch of 2 ^ (d + 1) -/
def Pl.merge : Nat → Nat → Pl → Pl
  | 0, fr, P => P.lay (P.r fr) (P.r (fr + 1))
  | d + 1, fr, P => (Pl.merge d (fr + 2 ^ (d + 1)) (Pl.merge d fr (P.sort fr (2 ^ (d + 1))))).join fr (2 ^ (d + 1))
/-- the laying out of a stretch of 2 ^ d -/
def Pl.layOut : Nat → Nat → Pl → Pl
  | 0, _, P => P
  | d + 1, fr, P => Pl.merge d fr (Pl.layOut d (fr + 2 ^ d) (Pl.layOut d fr P))
def Pl.draw (P : Pl) (d : Nat) : Pl := Pl.layOut d 0 (fun j => if j < 2 ^ d then j else P.r j, fun j => if j < 2 ^ d then 0 else P.c j, P.s, [], 0)
def tab (w : Nat) : List (Nat × Nat × Nat) := (List.range (nb w)).map (fun b => (uU w b, uL w b, uC w b))
theorem draw_1 (P : Pl) : (P.draw 1).l = tab 2 ∧ (P.draw 1).k = nc 2 ∧ ∀ i, i < 2 → (P.draw 1).r i = uE 2 i := by
  refine ⟨rfl, rfl, fun i hi => ?_⟩
  rcases (show i = 0 ∨ i = 1 by omega) with rfl | rfl <;> rfl
theorem draw_2 (P : Pl) : (P.draw 2).l = tab 4 ∧ (P.draw 2).k = nc 4 ∧ ∀ i, i < 4 → (P.draw 2).r i = uE 4 i := by
  refine ⟨rfl, rfl, fun i hi => ?_⟩
  rcases (show i = 0 ∨ i = 1 ∨ i = 2 ∨ i = 3 by omega) with rfl | rfl | rfl | rfl <;> rfl
set_option maxRecDepth 20000 in
theorem draw_3 (P : Pl) : (P.draw 3).l = tab 8 ∧ (P.draw 3).k = nc 8 ∧ ∀ i, i < 8 → (P.draw 3).r i = uE 8 i := by
  refine ⟨rfl, rfl, fun i hi => ?_⟩
  rcases (show i = 0 ∨ i = 1 ∨ i = 2 ∨ i = 3 ∨ i = 4 ∨ i = 5 ∨ i = 6 ∨ i = 7 by omega) with rfl | rfl | rfl | rfl | rfl | rfl | rfl | rfl <;> rfl
/-! and on the reference's side: the rows, what is laid -/
abbrev Ql : Type := (Nat → Nat) × List (Nat × Nat × Nat)
def colF (a b : Nat) : List (Nat × Nat × Nat) → Nat → Nat
  | [], c => c
  | q :: t, c => colF a b t (if (q.1 = a ∨ q.2.1 = a ∨ q.1 = b ∨ q.2.1 = b) ∧ c < q.2.2 + 1 then q.2.2 + 1 else c)
def Ql.lay (P : Ql) (a b : Nat) : Ql := (P.1, P.2 ++ [(a, b, colF a b P.2 0)])
def Ql.ones (P : Ql) (a b to : Nat) : Ql := (va_up (va_up P.1 to a) (to + 1) b, (P.lay a b).2)
def Ql.jnA (p q : Nat) : Nat → Ql → Ql
  | 0, P => P
  | i + 1, P => let Q := Ql.jnA p q i P; Q.lay (Q.1 (p + i)) (Q.1 (q + i))
def Ql.jnB (p q to : Nat) : Nat → Ql → Ql
  | 0, P => P
  | i + 1, P => let Q := Ql.jnB p q to i P; let r := va_up Q.1 (to + 2 * i) (Q.1 (p + i)); (va_up r (to + 2 * i + 1) (r (q + i)), Q.2)
def Ql.join (P : Ql) (p q n to : Nat) : Ql := Ql.jnB p q to n (Ql.jnA p q n P)
def Ql.twos (P : Ql) (x y to : Nat) : Ql :=
  let P1 := P.ones (P.1 x) (P.1 (y + 1)) (to + 4)
  let P2 := P1.ones (P1.1 (x + 1)) (P1.1 y) (to + 6)
  P2.join (to + 4) (to + 6) 2 to
def Ql.pick (P : Ql) (x y to k : Nat) : Nat → Ql
  | 0 => P
  | i + 1 => let Q := Ql.pick P x y to k i; let r := va_up Q.1 (to + 8 + i) (Q.1 (x + 2 * i + k)); (va_up r (to + 10 + i) (r (y + 2 * i + 1 - k)), Q.2)
def Ql.fours (P : Ql) (x y to : Nat) : Ql :=
  let P1 := (P.pick x y to 0 2).twos (to + 8) (to + 10) (to + 16 + 8 * 0)
  let P2 := (P1.pick x y to 1 2).twos (to + 8) (to + 10) (to + 16 + 8 * 1)
  P2.join (to + 16) (to + 24) 4 to
def Ql.four (P : Ql) (f to : Nat) : Ql := ((P.ones f (f + 1) (to + 16)).ones (f + 2) (f + 3) (to + 18)).twos (to + 16) (to + 18) to
def Ql.make (P : Ql) (w : Nat) : Ql := let P0 : Ql := (P.1, []); if w = 2 then P0.ones 0 1 0 else if w = 4 then P0.four 0 0 else ((P0.four 0 40).four 4 48).fours 40 48 0
theorem make_2 (P : Ql) : (P.make 2).2 = tab 2 ∧ ∀ i, i < 2 → (P.make 2).1 i = uE 2 i := by
  refine ⟨rfl, fun i hi => ?_⟩
  rcases (show i = 0 ∨ i = 1 by omega) with rfl | rfl <;> rfl
theorem make_4 (P : Ql) : (P.make 4).2 = tab 4 ∧ ∀ i, i < 4 → (P.make 4).1 i = uE 4 i := by
  refine ⟨rfl, fun i hi => ?_⟩
  rcases (show i = 0 ∨ i = 1 ∨ i = 2 ∨ i = 3 by omega) with rfl | rfl | rfl | rfl <;> rfl
set_option maxRecDepth 20000 in
theorem make_8 (P : Ql) : (P.make 8).2 = tab 8 ∧ ∀ i, i < 8 → (P.make 8).1 i = uE 8 i := by
  refine ⟨rfl, fun i hi => ?_⟩
  rcases (show i = 0 ∨ i = 1 ∨ i = 2 ∨ i = 3 ∨ i = 4 ∨ i = 5 ∨ i = 6 ∨ i = 7 by omega) with rfl | rfl | rfl | rfl | rfl | rfl | rfl | rfl <;> rfl
