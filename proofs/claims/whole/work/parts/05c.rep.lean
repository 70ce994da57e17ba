/-! the value, written in ints: both sides' fields and rows -/
def eO : Option Nat → Int32
  | none => -1
  | some p => nI p
def eB : Bool → Int32
  | false => 0
  | true => 1
def eI (x : Int32) : Int32 := x
def eP (n : Nat) : Int32 := nI n - 1
def AR {α : Type} (n : Nat) (enc : α → Int32) (f : Nat → Int32) (g : Nat → α) : Prop := ∀ t, t < n → f t = enc (g t)
theorem AR.up {α : Type} {n : Nat} {enc : α → Int32} {f : Nat → Int32} {g : Nat → α} (h : AR n enc f g) {x : Int32} {y : α} (i : Nat) (e : x = enc y) : AR n enc (upd f i x) (va_up g i y) := by
  intro t ht
  by_cases q : t = i
  · subst q; rw [pk_us, va_up_self]; exact e
  · rw [pk_un q, va_up_ne _ _ q]; exact h t ht
theorem AR.push {α : Type} {n : Nat} {enc : α → Int32} {f : Nat → Int32} {g : Nat → α} (h : AR n enc f g) {x : Int32} {y : α} (e : x = enc y) : AR (n + 1) enc (upd f n x) (va_up g n y) := by
  intro t ht
  by_cases q : t = n
  · subst q; rw [pk_us, va_up_self]; exact e
  · rw [pk_un q, va_up_ne _ _ q]; exact h t (by omega)
theorem AR.cut {α : Type} {n : Nat} {enc : α → Int32} {f : Nat → Int32} {g : Nat → α} (h : AR n enc f g) {i : Nat} (hi : i < n) : AR (n - 1) enc (va_cpy f f (i + 1) i (n - i - 1)) (shf g i) := by
  intro t ht
  unfold shf
  by_cases q : t < i
  · rw [pk_cpy_out (Or.inl q), if_pos q]; exact h t (by omega)
  · rw [pk_cpy_in (by omega) (by omega), if_neg q, show i + 1 + (t - i) = t + 1 by omega]; exact h (t + 1) (by omega)
theorem AR.of {α : Type} {n : Nat} {enc : α → Int32} {f f' : Nat → Int32} {g : Nat → α} (h : AR n enc f g) (e : ∀ t, t < n → f' t = f t) : AR n enc f' g := fun t ht => (e t ht).trans (h t ht)
def rep (x0 x1 x2 x3 : Int32) (a0 a1 a2 a3 a4 a5 a6 a7 a8 a9 a10 a11 a12 a13 : Nat → Int32) (M : Ms) : Prop :=
  (x0 = nI M.w ∧ x1 = nI M.ns ∧ x2 = nI M.nt ∧ x3 = nI M.nl) ∧ AR M.nt nI a0 M.wire ∧ AR M.nt eO a1 M.place ∧ AR M.nt nI a2 M.state ∧ AR M.nt eI a3 M.passed ∧ AR M.nt eP a4 M.nxt ∧ AR M.nt eI a5 M.way ∧ AR M.nt eO a6 M.number ∧ AR M.nt eB a7 M.ordered ∧
  AR M.nl nI a8 M.la ∧ AR M.nl eI a9 M.lw ∧ AR M.nl nI a10 M.lt ∧ AR 6 eB a11 M.down ∧ AR (nb M.w) eI a12 M.had ∧ AR M.w nI a13 M.handed
section Rep
variable {x0 x1 x2 x3 : Int32} {a0 a1 a2 a3 a4 a5 a6 a7 a8 a9 a10 a11 a12 a13 : Nat → Int32} {M : Ms}
theorem rep.setOut (h : rep x0 x1 x2 x3 a0 a1 a2 a3 a4 a5 a6 a7 a8 a9 a10 a11 a12 a13 M) {t : Nat} (ht : t < M.nt) : rep x0 x1 x2 x3 a0 a1 (upd a2 t 1) a3 a4 (upd a5 t (a5 t + 1)) a6 a7 a8 a9 a10 a11 a12 a13 (M.setOut t) := by
  obtain ⟨s, h0, h1, h2, h3, h4, h5, h6, h7, h8, h9, h10, h11, h12, h13⟩ := h
  exact ⟨s, h0, h1, h2.up t (by decide), h3, h4, h5.up t (by rw [h5 t ht]; rfl), h6, h7, h8, h9, h10, h11, h12, h13⟩
theorem rep.post (h : rep x0 x1 x2 x3 a0 a1 a2 a3 a4 a5 a6 a7 a8 a9 a10 a11 a12 a13 M) {t s : Nat} {y wy z : Int32} (ey : y = nI t) (ez : z = nI s) : rep x0 x1 x2 (x3 + 1) a0 a1 a2 a3 a4 a5 a6 a7 (upd a8 M.nl y) (upd a9 M.nl wy) (upd a10 M.nl z) a11 a12 a13 (M.post t wy s) := by
  obtain ⟨⟨s0, s1, s2, s3⟩, h0, h1, h2, h3, h4, h5, h6, h7, h8, h9, h10, h11, h12, h13⟩ := h
  exact ⟨⟨s0, s1, s2, by rw [s3, nI_1]; rfl⟩, h0, h1, h2, h3, h4, h5, h6, h7, h8.push ey, h9.push rfl, h10.push ez, h11, h12, h13⟩
theorem rep.go (h : rep x0 x1 x2 x3 a0 a1 a2 a3 a4 a5 a6 a7 a8 a9 a10 a11 a12 a13 M) {t b : Nat} (ht : t < M.nt) (hb : b < nb M.w) {v y : Int32} (ev : v = nI (if M.had b - M.had b / 2 * 2 = 0 then uU M.w b else uL M.w b)) (ey : y = nI b) :
    rep x0 x1 x2 x3 (upd a0 t v) a1 a2 (upd a3 t (a3 t + 1)) (upd a4 t y) a5 a6 a7 a8 a9 a10 a11 (upd a12 b (a12 b + 1)) a13 (M.go t b) := by
  obtain ⟨s, h0, h1, h2, h3, h4, h5, h6, h7, h8, h9, h10, h11, h12, h13⟩ := h
  exact ⟨s, h0.up t ev, h1, h2, h3.up t (by rw [h3 t ht]; rfl), h4.up t (by rw [ey]; unfold eP; rw [nI_pred]), h5, h6, h7, h8, h9, h10, h11, h12.up b (by rw [h12 b hb]; rfl), h13⟩
theorem rep.out (h : rep x0 x1 x2 x3 a0 a1 a2 a3 a4 a5 a6 a7 a8 a9 a10 a11 a12 a13 M) {t i : Nat} (hi : i < M.w) {v : Int32} (ev : v = nI (i + M.w * M.handed i)) :
    rep x0 x1 x2 x3 a0 a1 (upd a2 t 2) a3 a4 a5 (upd a6 t v) a7 a8 a9 a10 a11 a12 (upd a13 i (a13 i + 1)) (M.out t i) := by
  obtain ⟨s, h0, h1, h2, h3, h4, h5, h6, h7, h8, h9, h10, h11, h12, h13⟩ := h
  exact ⟨s, h0, h1, h2.up t (by decide), h3, h4, h5, h6.up t ev, h7, h8, h9, h10, h11, h12, h13.up i (by rw [h13 i hi, nI_1])⟩
theorem rep.take (h : rep x0 x1 x2 x3 a0 a1 a2 a3 a4 a5 a6 a7 a8 a9 a10 a11 a12 a13 M) {i : Nat} (hi : i < M.nl) {b8 b9 b10 : Nat → Int32} (e8 : AR (M.nl - 1) nI b8 (shf M.la i)) (e9 : AR (M.nl - 1) eI b9 (shf M.lw i)) (e10 : AR (M.nl - 1) nI b10 (shf M.lt i)) :
    rep x0 x1 x2 (x3 - 1) a0 a1 a2 a3 a4 a5 a6 a7 b8 b9 b10 a11 a12 a13 (M.take i) := by
  obtain ⟨⟨s0, s1, s2, s3⟩, h0, h1, h2, h3, h4, h5, h6, h7, h8, h9, h10, h11, h12, h13⟩ := h
  refine ⟨⟨s0, s1, s2, ?_⟩, h0, h1, h2, h3, h4, h5, h6, h7, e8, e9, e10, h11, h12, h13⟩
  rw [s3]
  obtain ⟨n, hn⟩ : ∃ n, M.nl = n + 1 := ⟨M.nl - 1, by omega⟩
  show nI M.nl - 1 = nI (M.nl - 1)
  rw [hn, nI_pred]
  rfl
theorem rep.arrive (h : rep x0 x1 x2 x3 a0 a1 a2 a3 a4 a5 a6 a7 a8 a9 a10 a11 a12 a13 M) {t s : Nat} {v : Int32} (ev : v = nI s) : rep x0 x1 x2 x3 a0 (upd a1 t v) (upd a2 t 0) a3 a4 a5 a6 a7 a8 a9 a10 a11 a12 a13 (M.arrive t s) := by
  obtain ⟨s, h0, h1, h2, h3, h4, h5, h6, h7, h8, h9, h10, h11, h12, h13⟩ := h
  exact ⟨s, h0, h1.up t ev, h2.up t (by decide), h3, h4, h5, h6, h7, h8, h9, h10, h11, h12, h13⟩
theorem rep.enter (h : rep x0 x1 x2 x3 a0 a1 a2 a3 a4 a5 a6 a7 a8 a9 a10 a11 a12 a13 M) {wi : Nat} {o : Bool} {v z : Int32} (ev : v = nI wi) (ez : z = eB o) :
    rep x0 x1 (x2 + 1) x3 (upd a0 M.nt v) (upd a1 M.nt (-1)) (upd a2 M.nt 0) (upd a3 M.nt 0) (upd a4 M.nt (-1)) (upd a5 M.nt 0) (upd a6 M.nt (-1)) (upd a7 M.nt z) a8 a9 a10 a11 a12 a13 (M.enter wi o) := by
  obtain ⟨⟨s0, s1, s2, s3⟩, h0, h1, h2, h3, h4, h5, h6, h7, h8, h9, h10, h11, h12, h13⟩ := h
  exact ⟨⟨s0, s1, by rw [s2, nI_1]; rfl, s3⟩, h0.push ev, h1.push rfl, h2.push (by decide), h3.push rfl, h4.push (by decide), h5.push rfl, h6.push rfl, h7.push ez, h8, h9, h10, h11, h12, h13⟩
theorem rep.build {w ns : Nat} (e0 : x0 = nI w) (e1 : x1 = nI ns) (e2 : x2 = 0) (e3 : x3 = 0) (h11 : ∀ t, t < 6 → a11 t = 0) (h12 : ∀ t, t < nb w → a12 t = 0) (h13 : ∀ t, t < w → a13 t = 0) : rep x0 x1 x2 x3 a0 a1 a2 a3 a4 a5 a6 a7 a8 a9 a10 a11 a12 a13 (M.build w ns) := by
  refine ⟨⟨e0, e1, e2.trans nI_0.symm, e3.trans nI_0.symm⟩, ?_, ?_, ?_, ?_, ?_, ?_, ?_, ?_, ?_, ?_, ?_, h11, h12, fun t ht => (h13 t ht).trans nI_0.symm⟩
  all_goals (intro t ht; exact absurd ht (Nat.not_lt_zero t))
theorem rep.station (h : rep x0 x1 x2 x3 a0 a1 a2 a3 a4 a5 a6 a7 a8 a9 a10 a11 a12 a13 M) {s : Nat} {o : Bool} {z : Int32} (ez : z = eB o) : rep x0 x1 x2 x3 a0 a1 a2 a3 a4 a5 a6 a7 a8 a9 a10 (upd a11 s z) a12 a13 (M.s_down (va_up M.down s o)) := by
  obtain ⟨s, h0, h1, h2, h3, h4, h5, h6, h7, h8, h9, h10, h11, h12, h13⟩ := h
  exact ⟨s, h0, h1, h2, h3, h4, h5, h6, h7, h8, h9, h10, h11.up _ ez, h12, h13⟩
end Rep
