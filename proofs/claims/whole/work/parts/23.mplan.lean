/-! how the network is laid, on the reference's side: what the rows hold, where it is known; what is laid -/
abbrev Ql : Type := (Nat → Option Nat) × List (Nat × Nat × Nat)
def meet (q : Nat × Nat × Nat) (a b : Nat) : Bool := q.1 == a || q.2.1 == a || q.1 == b || q.2.1 == b
def coF (l : List (Nat × Nat × Nat)) (a b : Nat) : Nat → Nat
  | 0 => 0
  | n + 1 => if meet (l.getD n (0, 0, 0)) a b = true ∧ coF l a b n < (l.getD n (0, 0, 0)).2.2 + 1 then (l.getD n (0, 0, 0)).2.2 + 1 else coF l a b n
def Ql.lay (Q : Ql) (a b : Nat) : Ql := (Q.1, Q.2 ++ [(a, b, coF Q.2 a b Q.2.length)])
def Ql.ones (Q : Ql) (a b to : Nat) : Ql := (va_up (va_up Q.1 to (some a)) (to + 1) (some b), (Q.lay a b).2)
def Ql.g (Q : Ql) (j : Nat) : Nat := (Q.1 j).getD 0
def Ql.jnA (p q : Nat) : Nat → Ql → Ql
  | 0, Q => Q
  | i + 1, Q => (Ql.jnA p q i Q).lay (Q.g (p + i)) (Q.g (q + i))
def rwB (r : Nat → Option Nat) (p q to n : Nat) : Nat → Option Nat := fun j => if to ≤ j ∧ j < to + 2 * n then (if (j - to) % 2 = 0 then r (p + (j - to) / 2) else r (q + (j - to) / 2)) else r j
def Ql.join (Q : Ql) (p q n to : Nat) : Ql := (rwB Q.1 p q to n, (Ql.jnA p q n Q).2)
def Ql.t1 (Q : Ql) (x y to : Nat) : Ql := Q.ones (Q.g x) (Q.g (y + 1)) (to + 4)
def Ql.t2 (Q : Ql) (x y to : Nat) : Ql := (Q.t1 x y to).ones ((Q.t1 x y to).g (x + 1)) ((Q.t1 x y to).g y) (to + 6)
def Ql.twos (Q : Ql) (x y to : Nat) : Ql := (Q.t2 x y to).join (to + 4) (to + 6) 2 to
def Ql.pk1 (Q : Ql) (x y to k i : Nat) : Ql := (va_up (va_up Q.1 (to + 8 + i) (Q.1 (x + 2 * i + k))) (to + 10 + i) (va_up Q.1 (to + 8 + i) (Q.1 (x + 2 * i + k)) (y + 2 * i + 1 - k)), Q.2)
def Ql.pick (x y to k : Nat) : Nat → Ql → Ql
  | 0, Q => Q
  | i + 1, Q => (Ql.pick x y to k i Q).pk1 x y to k i
def Ql.f1 (Q : Ql) (x y to k : Nat) : Ql := (Ql.pick x y to k 2 Q).twos (to + 8) (to + 10) (to + 16 + 8 * k)
def Ql.fours (Q : Ql) (x y to : Nat) : Ql := ((Q.f1 x y to 0).f1 x y to 1).join (to + 16) (to + 24) 4 to
def Ql.h2 (Q : Ql) (f to : Nat) : Ql := (Q.ones f (f + 1) (to + 16)).ones (f + 2) (f + 3) (to + 18)
def Ql.four (Q : Ql) (f to : Nat) : Ql := (Q.h2 f to).twos (to + 16) (to + 18) to
def Ql0 : Ql := (fun _ => none, [])
def Ql.mk (w : Nat) : Ql := if w = 2 then Ql0.ones 0 1 0 else if w = 4 then Ql0.four 0 0 else ((Ql0.four 0 40).four 4 48).fours 40 48 0
theorem mk_2 : (Ql.mk 2).2 = tab 2 ∧ ∀ i, i < 2 → (Ql.mk 2).1 i = some (uE 2 i) := by decide +kernel
theorem mk_4 : (Ql.mk 4).2 = tab 4 ∧ ∀ i, i < 4 → (Ql.mk 4).1 i = some (uE 4 i) := by decide +kernel
theorem mk_8 : (Ql.mk 8).2 = tab 8 ∧ ∀ i, i < 8 → (Ql.mk 8).1 i = some (uE 8 i) := by decide +kernel
def Ql.join_ok (Q : Ql) (p q n to : Nat) : Bool := decide (to + 2 * n ≤ p) && decide (to + 2 * n ≤ q) && decide (p + n ≤ 80) && decide (q + n ≤ 80) && decide (Q.2.length + n ≤ 24) && (List.range n).all (fun i => (Q.1 (p + i)).isSome && (Q.1 (q + i)).isSome)
def Ql.twos_ok (Q : Ql) (x y to : Nat) : Bool := decide (to + 8 ≤ 80) && decide (x + 2 ≤ 80) && decide (y + 2 ≤ 80) && decide (Q.2.length + 2 ≤ 24) && (Q.1 x).isSome && (Q.1 (y + 1)).isSome && ((Q.t1 x y to).1 (x + 1)).isSome && ((Q.t1 x y to).1 y).isSome && (Q.t2 x y to).join_ok (to + 4) (to + 6) 2 to
def Ql.pk_ok (Q : Ql) (x y to k i : Nat) : Bool := (Q.1 (x + 2 * i + k)).isSome && (va_up Q.1 (to + 8 + i) (Q.1 (x + 2 * i + k)) (y + 2 * i + 1 - k)).isSome
def Ql.f1_ok (Q : Ql) (x y to k : Nat) : Bool := Q.pk_ok x y to k 0 && (Ql.pick x y to k 1 Q).pk_ok x y to k 1 && (Ql.pick x y to k 2 Q).twos_ok (to + 8) (to + 10) (to + 16 + 8 * k)
def Ql.four_ok (Q : Ql) (f to : Nat) : Bool := decide (f + 3 < 8) && decide (to + 20 ≤ 80) && decide (Q.2.length + 2 ≤ 24) && (Q.h2 f to).twos_ok (to + 16) (to + 18) to
theorem mk4_ok : Ql0.four_ok 0 0 = true := by decide +kernel
theorem mk8_ok : Ql0.four_ok 0 40 = true ∧ (Ql0.four 0 40).four_ok 4 48 = true ∧ ((Ql0.four 0 40).four 4 48).f1_ok 40 48 0 0 = true ∧ (((Ql0.four 0 40).four 4 48).f1 40 48 0 0).f1_ok 40 48 0 1 = true ∧ ((((Ql0.four 0 40).four 4 48).f1 40 48 0 0).f1 40 48 0 1).join_ok 16 24 4 0 = true := by decide +kernel
theorem coF_le {l : List (Nat × Nat × Nat)} {a b : Nat} (h : ∀ n, n < l.length → (l.getD n (0, 0, 0)).2.2 ≤ n) : ∀ n, n ≤ l.length → coF l a b n ≤ n
  | 0, _ => Nat.le_refl _
  | n + 1, hn => by
    have h1 := coF_le (a := a) (b := b) h n (by omega)
    have h2 := h n (by omega)
    unfold coF
    split <;> omega
def relQ (σ : St) (th : Int32) (w ns : Nat) (Q : Ql) : Prop :=
  (σ.1 0 = th ∧ σ.1 1 = nI w ∧ σ.1 2 = nI ns ∧ σ.1 4 = 0 ∧ σ.1 5 = 0) ∧ σ.1 3 = nI Q.2.length ∧
  (∀ n, n < Q.2.length → (Q.2.getD n (0, 0, 0)).1 < 8 ∧ (Q.2.getD n (0, 0, 0)).2.1 < 8 ∧ (Q.2.getD n (0, 0, 0)).2.2 ≤ n) ∧
  AR Q.2.length nI (σ.2 0) (fun b => (Q.2.getD b (0, 0, 0)).1) ∧ AR Q.2.length nI (σ.2 1) (fun b => (Q.2.getD b (0, 0, 0)).2.1) ∧ AR Q.2.length nI (σ.2 2) (fun b => (Q.2.getD b (0, 0, 0)).2.2) ∧ (∀ b, b < Q.2.length → σ.2 3 b = 0) ∧
  ∀ j v, Q.1 j = some v → v < 8 ∧ σ.2 7 j = nI v
theorem getD_app {l : List (Nat × Nat × Nat)} {q : Nat × Nat × Nat} {n : Nat} (h : n < l.length) : (l ++ [q]).getD n (0, 0, 0) = l.getD n (0, 0, 0) := by
  rw [List.getD_eq_getElem?_getD, List.getElem?_append_left h, ← List.getD_eq_getElem?_getD]
theorem getD_last {l : List (Nat × Nat × Nat)} {q : Nat × Nat × Nat} : (l ++ [q]).getD l.length (0, 0, 0) = q := by
  rw [List.getD_eq_getElem?_getD, List.getElem?_append_right (Nat.le_refl _), Nat.sub_self]
  rfl
theorem Ql.lay_len (Q : Ql) (a b : Nat) : (Q.lay a b).2.length = Q.2.length + 1 := List.length_append
theorem lay_ok {Q : Ql} {a b : Nat} (ha : a < 8) (hb : b < 8) (h : ∀ n, n < Q.2.length → (Q.2.getD n (0, 0, 0)).1 < 8 ∧ (Q.2.getD n (0, 0, 0)).2.1 < 8 ∧ (Q.2.getD n (0, 0, 0)).2.2 ≤ n) :
    ∀ n, n < (Q.lay a b).2.length → ((Q.lay a b).2.getD n (0, 0, 0)).1 < 8 ∧ ((Q.lay a b).2.getD n (0, 0, 0)).2.1 < 8 ∧ ((Q.lay a b).2.getD n (0, 0, 0)).2.2 ≤ n := by
  intro n hn
  rw [Ql.lay_len] at hn
  show ((Q.2 ++ [(a, b, coF Q.2 a b Q.2.length)]).getD n (0, 0, 0)).1 < 8 ∧ ((Q.2 ++ [(a, b, coF Q.2 a b Q.2.length)]).getD n (0, 0, 0)).2.1 < 8 ∧ ((Q.2 ++ [(a, b, coF Q.2 a b Q.2.length)]).getD n (0, 0, 0)).2.2 ≤ n
  by_cases e : n = Q.2.length
  · rw [e, getD_last]
    exact ⟨ha, hb, coF_le (fun n hn => (h n hn).2.2) _ (Nat.le_refl _)⟩
  · rw [getD_app (by omega)]
    exact h n (by omega)
theorem meet_t {q : Nat × Nat × Nat} {a b : Nat} (h : q.1 = a ∨ q.2.1 = a ∨ q.1 = b ∨ q.2.1 = b) : meet q a b = true := by
  unfold meet
  rcases h with h | h | h | h <;> rw [h] <;> simp
theorem meet_f {q : Nat × Nat × Nat} {a b : Nat} (h1 : ¬ q.1 = a) (h2 : ¬ q.2.1 = a) (h3 : ¬ q.1 = b) (h4 : ¬ q.2.1 = b) : meet q a b = false := by
  unfold meet
  simp [h1, h2, h3, h4]
theorem coF_s0 {l : List (Nat × Nat × Nat)} {a b n : Nat} (h : ¬ (meet (l.getD n (0, 0, 0)) a b = true ∧ coF l a b n < (l.getD n (0, 0, 0)).2.2 + 1)) : coF l a b (n + 1) = coF l a b n := if_neg h
theorem coF_s1 {l : List (Nat × Nat × Nat)} {a b n : Nat} (h : meet (l.getD n (0, 0, 0)) a b = true ∧ coF l a b n < (l.getD n (0, 0, 0)).2.2 + 1) : coF l a b (n + 1) = (l.getD n (0, 0, 0)).2.2 + 1 := if_pos h
theorem zero_at {f : Nat → Int32} {n : Nat} (h : ∀ b, b < n → f b = 0) : ∀ b, b < n + 1 → upd f n 0 b = 0 := zero_s h
theorem Ql.jnA_r (p q : Nat) : ∀ (i : Nat) (Q : Ql), (Ql.jnA p q i Q).1 = Q.1
  | 0, _ => rfl
  | i + 1, Q => Ql.jnA_r p q i Q
theorem Ql.jnA_len (p q : Nat) : ∀ (i : Nat) (Q : Ql), (Ql.jnA p q i Q).2.length = Q.2.length + i
  | 0, _ => rfl
  | i + 1, Q => by
    show ((Ql.jnA p q i Q).lay _ _).2.length = _
    rw [Ql.lay_len, Ql.jnA_len p q i Q]
    rfl
theorem Ql.g_of {Q : Ql} {j : Nat} (h : (Q.1 j).isSome = true) : Q.1 j = some (Q.g j) := by
  obtain ⟨v, hv⟩ := Option.isSome_iff_exists.mp h
  unfold Ql.g
  rw [hv]
  rfl
theorem rwB_s {r : Nat → Option Nat} {p q to n : Nat} : va_up (va_up (rwB r p q to n) (to + 2 * n) (r (p + n))) (to + 2 * n + 1) (r (q + n)) = rwB r p q to (n + 1) := by
  funext j
  by_cases e1 : j = to + 2 * n + 1
  · subst e1
    rw [va_up_self]
    unfold rwB
    rw [if_pos (by omega), if_neg (by omega), show (to + 2 * n + 1 - to) / 2 = n by omega]
  · rw [va_up_ne _ _ e1]
    by_cases e2 : j = to + 2 * n
    · subst e2
      rw [va_up_self]
      unfold rwB
      rw [if_pos (by omega), if_pos (by omega), show (to + 2 * n - to) / 2 = n by omega]
    · rw [va_up_ne _ _ e2]
      unfold rwB
      by_cases c : to ≤ j ∧ j < to + 2 * n
      · rw [if_pos c, if_pos (show to ≤ j ∧ j < to + 2 * (n + 1) by omega)]
      · rw [if_neg c, if_neg (show ¬ (to ≤ j ∧ j < to + 2 * (n + 1)) by omega)]
theorem rwB_off {r : Nat → Option Nat} {p q to n j : Nat} (h : to + 2 * n ≤ j) : rwB r p q to n j = r j := by unfold rwB; rw [if_neg (by omega)]
theorem rwB_0 (r : Nat → Option Nat) (p q to : Nat) : rwB r p q to 0 = r := by funext j; unfold rwB; rw [if_neg (by omega)]
theorem rowUp {r : Nat → Option Nat} {f : Nat → Int32} (h : ∀ j v, r j = some v → v < 8 ∧ f j = nI v) {i v : Nat} {x : Int32} (hv : v < 8) (e : x = nI v) : ∀ j u, va_up r i (some v) j = some u → u < 8 ∧ upd f i x j = nI u := by
  intro j u hu
  by_cases c : j = i
  · subst c
    rw [va_up_self] at hu
    cases hu
    rw [pk_us]
    exact ⟨hv, e⟩
  · rw [va_up_ne _ _ c] at hu
    rw [pk_un c]
    exact h j u hu
