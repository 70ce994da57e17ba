/-! how the network is laid, on the class's side: the row, the columns on each wire, what is laid, how many columns -/
abbrev Pl : Type := (Nat → Nat) × (Nat → Nat) × List (Nat × Nat × Nat) × Nat
abbrev Pl.r (P : Pl) : Nat → Nat := P.1
abbrev Pl.c (P : Pl) : Nat → Nat := P.2.1
abbrev Pl.l (P : Pl) : List (Nat × Nat × Nat) := P.2.2.1
abbrev Pl.k (P : Pl) : Nat := P.2.2.2
def Pl.lay (P : Pl) (a b : Nat) : Pl := (P.r, va_up (va_up P.c a (max (P.c a) (P.c b) + 1)) b (max (P.c a) (P.c b) + 1), P.l ++ [(a, b, max (P.c a) (P.c b))], max P.k (max (P.c a) (P.c b) + 1))
def Pl.jnL (fr hf : Nat) : Nat → Pl → Pl
  | 0, P => P
  | i + 1, P => (Pl.jnL fr hf i P).lay (P.r (fr + i)) (P.r (fr + hf + i))
def jr (r : Nat → Nat) (fr hf j : Nat) : Nat := if j % 2 = 0 then r (fr + j / 2) else r (fr + hf + j / 2)
def bk (g r : Nat → Nat) (fr n : Nat) : Nat → Nat := fun j => if fr ≤ j ∧ j < fr + n then g (j - fr) else r j
def Pl.join (P : Pl) (fr hf : Nat) : Pl := (bk (jr P.r fr hf) P.r fr (2 * hf), (Pl.jnL fr hf hf P).c, (Pl.jnL fr hf hf P).l, (Pl.jnL fr hf hf P).k)
def src (hf p : Nat) : Nat := if p < hf then (if p < hf / 2 then 2 * p else 2 * (p - hf / 2) + 1) else (if p - hf < hf / 2 then 2 * (p - hf) + 1 else 2 * (p - hf - hf / 2))
def sor (r : Nat → Nat) (fr hf p : Nat) : Nat := if p < hf then (if p < hf / 2 then r (fr + 2 * p) else r (fr + hf + (2 * (p - hf / 2) + 1))) else (if p - hf < hf / 2 then r (fr + (2 * (p - hf) + 1)) else r (fr + hf + 2 * (p - hf - hf / 2)))
def Pl.sort (P : Pl) (fr hf : Nat) : Pl := (bk (sor P.r fr hf) P.r fr (2 * hf), P.c, P.l, P.k)
def Pl.m0 (P : Pl) (fr : Nat) : Pl := P.lay (P.r fr) (P.r (fr + 1))
def Pl.m1 (P : Pl) (fr : Nat) : Pl := (((P.sort fr 2).m0 fr).m0 (fr + 2)).join fr 2
def Pl.m2 (P : Pl) (fr : Nat) : Pl := (((P.sort fr 4).m1 fr).m1 (fr + 4)).join fr 4
def Pl.l2 (P : Pl) (fr : Nat) : Pl := ((P.m0 fr).m0 (fr + 2)).m1 fr
def Pl.l3 (P : Pl) : Pl := ((P.l2 0).l2 4).m2 0
def Pl0 : Pl := (fun j => j, fun _ => 0, [], 0)
def tab (w : Nat) : List (Nat × Nat × Nat) := (List.range (nb w)).map (fun b => (uU w b, uL w b, uC w b))
theorem draw_1 : (Pl0.m0 0).l = tab 2 ∧ (Pl0.m0 0).k = nc 2 ∧ ∀ i, i < 2 → (Pl0.m0 0).r i = uE 2 i := by decide +kernel
theorem draw_2 : (Pl0.l2 0).l = tab 4 ∧ (Pl0.l2 0).k = nc 4 ∧ ∀ i, i < 4 → (Pl0.l2 0).r i = uE 4 i := by decide +kernel
theorem draw_3 : Pl0.l3.l = tab 8 ∧ Pl0.l3.k = nc 8 ∧ ∀ i, i < 8 → Pl0.l3.r i = uE 8 i := by decide +kernel
def Pok (w : Nat) (P : Pl) : Prop := (∀ j, j < w → P.r j < w ∧ P.c j ≤ P.l.length) ∧ P.k ≤ P.l.length
def relP (σ : St) (w : Nat) (P : Pl) : Prop :=
  Pok w P ∧ σ.1 1 = nI w ∧ σ.1 2 = nI P.l.length ∧ σ.1 3 = nI P.k ∧ AR P.l.length nI (σ.2 3) (fun b => (P.l.getD b (0, 0, 0)).1) ∧ AR P.l.length nI (σ.2 4) (fun b => (P.l.getD b (0, 0, 0)).2.1) ∧ AR P.l.length nI (σ.2 5) (fun b => (P.l.getD b (0, 0, 0)).2.2) ∧
  AR w nI (σ.2 6) P.r ∧ AR w nI (σ.2 7) P.c
theorem Pok.lay {w : Nat} {P : Pl} (h : Pok w P) {a b : Nat} (ha : a < w) (hb : b < w) : Pok w (P.lay a b) := by
  obtain ⟨h1, h2⟩ := h
  have e : (P.lay a b).l.length = P.l.length + 1 := List.length_append
  have ca := (h1 a ha).2
  have cb := (h1 b hb).2
  refine ⟨fun j hj => ⟨(h1 j hj).1, ?_⟩, ?_⟩
  · rw [e]
    have cj := (h1 j hj).2
    show va_up (va_up P.c a (max (P.c a) (P.c b) + 1)) b (max (P.c a) (P.c b) + 1) j ≤ P.l.length + 1
    unfold va_up
    split
    · omega
    · split <;> omega
  · rw [e]
    show max P.k (max (P.c a) (P.c b) + 1) ≤ P.l.length + 1
    omega
theorem AR_app {f : Nat → Int32} {l : List (Nat × Nat × Nat)} {g : Nat × Nat × Nat → Nat} {q : Nat × Nat × Nat} {x : Int32} (h : AR l.length nI f (fun b => g (l.getD b (0, 0, 0)))) (e : x = nI (g q)) : AR (l ++ [q]).length nI (upd f l.length x) (fun b => g ((l ++ [q]).getD b (0, 0, 0))) := by
  intro t ht
  rw [List.length_append] at ht
  have ht : t < l.length + 1 := ht
  show _ = nI (g ((l ++ [q]).getD t (0, 0, 0)))
  by_cases c : t = l.length
  · subst c
    rw [pk_us, List.getD_eq_getElem?_getD, List.getElem?_append_right (Nat.le_refl _), Nat.sub_self]
    exact e
  · rw [pk_un c, List.getD_eq_getElem?_getD, List.getElem?_append_left (by omega), ← List.getD_eq_getElem?_getD]
    exact h t (by omega)
theorem Pl.jnL_r (fr hf : Nat) : ∀ (i : Nat) (P : Pl), (Pl.jnL fr hf i P).r = P.r
  | 0, _ => rfl
  | i + 1, P => Pl.jnL_r fr hf i P
theorem Pl.jnL_len (fr hf : Nat) : ∀ (i : Nat) (P : Pl), (Pl.jnL fr hf i P).l.length = P.l.length + i
  | 0, _ => rfl
  | i + 1, P => by
    show ((Pl.jnL fr hf i P).l ++ [_]).length = _
    rw [List.length_append, Pl.jnL_len fr hf i P]
    rfl
theorem Pl.m0_len (P : Pl) (fr : Nat) : (P.m0 fr).l.length = P.l.length + 1 := List.length_append
theorem Pl.join_len (P : Pl) (fr hf : Nat) : (P.join fr hf).l.length = P.l.length + hf := Pl.jnL_len fr hf hf P
theorem Pl.m1_len (P : Pl) (fr : Nat) : (P.m1 fr).l.length = P.l.length + 4 := by
  unfold Pl.m1
  rw [Pl.join_len, Pl.m0_len, Pl.m0_len]
  rfl
theorem Pl.m2_len (P : Pl) (fr : Nat) : (P.m2 fr).l.length = P.l.length + 12 := by
  unfold Pl.m2
  rw [Pl.join_len, Pl.m1_len, Pl.m1_len]
  rfl
theorem Pl.l2_len (P : Pl) (fr : Nat) : (P.l2 fr).l.length = P.l.length + 6 := by
  unfold Pl.l2
  rw [Pl.m1_len, Pl.m0_len, Pl.m0_len]
theorem AR_bk {w fr n : Nat} {f s : Nat → Int32} {g r : Nat → Nat} (h : AR w nI f r) (hs : AR n nI s g) : AR w nI (va_cpy s f 0 fr n) (bk g r fr n) := by
  intro j hj
  unfold bk
  by_cases c : fr ≤ j ∧ j < fr + n
  · rw [if_pos c, pk_cpy_in c.1 c.2, Nat.zero_add]
    exact hs _ (by omega)
  · rw [if_neg c, pk_cpy_out (by omega)]
    exact h j hj
theorem Pok.back {w fr n : Nat} {P : Pl} {g : Nat → Nat} (h : Pok w P) (hg : ∀ p, p < n → g p < w) : Pok w (bk g P.r fr n, P.c, P.l, P.k) := by
  refine ⟨fun j hj => ⟨?_, (h.1 j hj).2⟩, h.2⟩
  show bk g P.r fr n j < w
  unfold bk
  split
  · exact hg _ (by omega)
  · exact (h.1 j hj).1
theorem jr_lt {w fr hf : Nat} {P : Pl} (h : Pok w P) (hw : fr + 2 * hf ≤ w) : ∀ p, p < 2 * hf → jr P.r fr hf p < w := by
  intro p hp
  unfold jr
  split
  · exact (h.1 _ (by omega)).1
  · exact (h.1 _ (by omega)).1
theorem sor_lt {w fr hf : Nat} {P : Pl} (h : Pok w P) (hw : fr + 2 * hf ≤ w) (h2 : hf % 2 = 0) : ∀ p, p < 2 * hf → sor P.r fr hf p < w := by
  intro p hp
  unfold sor
  split
  · split
    · exact (h.1 _ (by omega)).1
    · exact (h.1 _ (by omega)).1
  · split
    · exact (h.1 _ (by omega)).1
    · exact (h.1 _ (by omega)).1
/-- the sorting's spare row: what is written by now -/
def sOk (r : Nat → Nat) (s : Nat → Int32) (fr hf i : Nat) : Prop := ∀ p, p < 2 * hf → src hf p < i → s p = nI (sor r fr hf p)
theorem sOk_0 {r : Nat → Nat} {s : Nat → Int32} {fr hf : Nat} : sOk r s fr hf 0 := fun _ _ h => absurd h (Nat.not_lt_zero _)
theorem sOk_all {r : Nat → Nat} {s : Nat → Int32} {fr hf : Nat} (h2 : hf % 2 = 0) (h : sOk r s fr hf hf) : AR (2 * hf) nI s (sor r fr hf) := by
  intro p hp
  refine h p hp ?_
  unfold src
  split
  · split <;> omega
  · split <;> omega
theorem sOk_s {r : Nat → Nat} {s : Nat → Int32} {fr hf i : Nat} (h2 : hf % 2 = 0) (hi : i < hf) (h : sOk r s fr hf i) {a b : Nat} {x y : Int32}
    (ha : a = (if i % 2 = 0 then 0 else hf) + i / 2) (hb : b = (if i % 2 = 0 then hf else 0) + hf / 2 + i / 2) (hx : x = nI (r (fr + i))) (hy : y = nI (r (fr + hf + i))) : sOk r (upd (upd s a x) b y) fr hf (i + 1) := by
  intro p hp hs
  by_cases c1 : p = b
  · subst c1
    rw [pk_us, hy]
    congr 1
    unfold sor
    by_cases e : i % 2 = 0
    · rw [if_pos e] at hb
      rw [if_neg (by omega), if_neg (by omega)]
      congr 1
      omega
    · rw [if_neg e] at hb
      rw [if_pos (by omega), if_neg (by omega)]
      congr 1
      omega
  · rw [pk_un c1]
    by_cases c2 : p = a
    · subst c2
      rw [pk_us, hx]
      congr 1
      unfold sor
      by_cases e : i % 2 = 0
      · rw [if_pos e] at ha
        rw [if_pos (by omega), if_pos (by omega)]
        congr 1
        omega
      · rw [if_neg e] at ha
        rw [if_neg (by omega), if_pos (by omega)]
        congr 1
        omega
    · rw [pk_un c2]
      refine h p hp ?_
      unfold src at hs ⊢
      by_cases e : i % 2 = 0
      · rw [if_pos e] at ha hb
        by_cases q1 : p < hf
        · rw [if_pos q1] at hs ⊢
          by_cases q2 : p < hf / 2
          · rw [if_pos q2] at hs ⊢; omega
          · rw [if_neg q2] at hs ⊢; omega
        · rw [if_neg q1] at hs ⊢
          by_cases q2 : p - hf < hf / 2
          · rw [if_pos q2] at hs ⊢; omega
          · rw [if_neg q2] at hs ⊢; omega
      · rw [if_neg e] at ha hb
        by_cases q1 : p < hf
        · rw [if_pos q1] at hs ⊢
          by_cases q2 : p < hf / 2
          · rw [if_pos q2] at hs ⊢; omega
          · rw [if_neg q2] at hs ⊢; omega
        · rw [if_neg q1] at hs ⊢
          by_cases q2 : p - hf < hf / 2
          · rw [if_pos q2] at hs ⊢; omega
          · rw [if_neg q2] at hs ⊢; omega
theorem sA_sR (σ : St) (k i : Nat) (f : Nat → Int32) (v : Int32) : sA (sR σ k f) k i v = sR σ k (upd f i v) := by
  unfold sA sR
  simp only [va_up_self]
  congr 1
  funext j
  unfold va_up
  split <;> rfl
theorem sR_self (σ : St) (k : Nat) : sR σ k (σ.2 k) = σ := by
  unfold sR
  show (σ.1, _) = σ
  congr 1
  funext j
  unfold va_up
  split
  · rename_i h; rw [h]
  · rfl
theorem jr_s {r : Nat → Nat} {s : Nat → Int32} {fr hf i : Nat} (h : AR (2 * i) nI s (jr r fr hf)) {x y : Int32} (hx : x = nI (r (fr + i))) (hy : y = nI (r (fr + hf + i))) : AR (2 * (i + 1)) nI (upd (upd s (2 * i) x) (2 * i + 1) y) (jr r fr hf) := by
  intro p hp
  by_cases c1 : p = 2 * i + 1
  · subst c1
    rw [pk_us, hy]
    unfold jr
    rw [if_neg (by omega), show (2 * i + 1) / 2 = i by omega]
  · rw [pk_un c1]
    by_cases c2 : p = 2 * i
    · subst c2
      rw [pk_us, hx]
      unfold jr
      rw [if_pos (by omega), show 2 * i / 2 = i by omega]
    · rw [pk_un c2]
      exact h p (by omega)
