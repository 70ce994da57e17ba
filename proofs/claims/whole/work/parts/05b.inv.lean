/-! what the value's steps keep -/
theorem lefF_ne {st : Nat → Nat} {t v : Nat} : ∀ n, n ≤ t → lefF (va_up st t v) n = lefF st n
  | 0, _ => rfl
  | n + 1, h => by
    unfold lefF
    rw [lefF_ne n (by omega), va_up_ne _ _ (by omega)]
theorem lefF_up {st : Nat → Nat} {t v : Nat} : ∀ n, t < n → lefF (va_up st t v) n + (if st t = 2 then 0 else 1) = lefF st n + (if v = 2 then 0 else 1)
  | 0, h => by omega
  | n + 1, h => by
    unfold lefF
    by_cases e : t = n
    · subst e
      rw [lefF_ne t (Nat.le_refl _), va_up_self]
      omega
    · have := lefF_up (st := st) (t := t) (v := v) n (by omega)
      rw [va_up_ne _ _ (by omega)]
      omega
theorem sumF_ne {h : Nat → Nat} {i v : Nat} : ∀ n, n ≤ i → sumF (va_up h i v) n = sumF h n
  | 0, _ => rfl
  | n + 1, q => by
    unfold sumF
    rw [sumF_ne n (by omega), va_up_ne _ _ (by omega)]
theorem sumF_up {h : Nat → Nat} {i v : Nat} : ∀ n, i < n → sumF (va_up h i v) n + h i = sumF h n + v
  | 0, q => by omega
  | n + 1, q => by
    unfold sumF
    by_cases e : i = n
    · subst e
      rw [sumF_ne i (Nat.le_refl _), va_up_self]
      omega
    · have := sumF_up (h := h) (i := i) (v := v) n (by omega)
      rw [va_up_ne _ _ (by omega)]
      omega
theorem sumF_0 : ∀ n, sumF (fun _ => 0) n = 0
  | 0 => rfl
  | n + 1 => by unfold sumF; rw [sumF_0 n]
theorem Ms.stN_lt {M : Ms} (h : 1 ≤ M.ns) (t : Nat) : M.stN t < M.ns := by
  unfold Ms.stN
  split
  · exact Nat.mod_lt _ h
  · exact Nat.mod_lt _ h
theorem Inv.setOut {M : Ms} (h : Inv M) {t : Nat} (ht : t < M.nt) (hs : ¬ M.state t = 2) : Inv (M.setOut t) := by
  obtain ⟨h1, h2, h3, h4, h5, h6, h7, h8⟩ := h
  have e : (M.setOut t).left = M.left := by
    have := lefF_up (st := M.state) (t := t) (v := 1) M.nt ht
    rw [if_neg hs, if_neg (by decide)] at this
    show lefF (va_up M.state t 1) M.nt = lefF M.state M.nt
    omega
  refine ⟨h1, h2, h3, h4, by rw [e]; exact h5, fun u hu => ?_, h7, by rw [e]; exact h8⟩
  obtain ⟨a1, a2, a3, a4, a5, a6⟩ := h6 u hu
  refine ⟨a1, a2, ?_, a4, ?_, a6⟩
  · show va_up M.state t 1 u ≤ 2
    unfold va_up; split
    · omega
    · exact a3
  · show va_up M.state t 1 u = 2 ↔ _
    by_cases e2 : u = t
    · subst e2
      rw [va_up_self]
      exact ⟨fun q => (by cases q), fun q => absurd (a5.mpr q) hs⟩
    · rw [va_up_ne _ _ e2]; exact a5
theorem Inv.post {M : Ms} (h : Inv M) {t s : Nat} {wy : Int32} (ht : t < M.nt) (hs : s < M.ns) (hl : M.nl < 60) : Inv (M.post t wy s) := by
  obtain ⟨h1, h2, h3, h4, h5, h6, h7, h8⟩ := h
  refine ⟨h1, h2, h3, hl, h5, h6, fun k hk => ?_, h8⟩
  have hk : k < M.nl + 1 := hk
  show va_up M.la M.nl t k < M.nt ∧ va_up M.lt M.nl s k < M.ns
  by_cases e : k = M.nl
  · subst e; rw [va_up_self, va_up_self]; exact ⟨ht, hs⟩
  · rw [va_up_ne _ _ e, va_up_ne _ _ e]; exact h7 k (by omega)
theorem Inv.go {M : Ms} (h : Inv M) {t b : Nat} (ht : t < M.nt) (hb : b < nb M.w) : Inv (M.go t b) := by
  obtain ⟨h1, h2, h3, h4, h5, h6, h7, h8⟩ := h
  refine ⟨h1, h2, h3, h4, h5, fun u hu => ?_, h7, h8⟩
  obtain ⟨a1, a2, a3, a4, a5, a6⟩ := h6 u hu
  refine ⟨?_, a2, a3, ?_, a5, a6⟩
  · show va_up M.wire t _ u < M.w
    by_cases e : u = t
    · subst e; rw [va_up_self]; split
      · exact uU_lt h1 hb
      · exact uL_lt h1 hb
    · rw [va_up_ne _ _ e]; exact a1
  · show va_up M.nxt t (b + 1) u ≤ nb M.w
    by_cases e : u = t
    · subst e; rw [va_up_self]; exact hb
    · rw [va_up_ne _ _ e]; exact a4
theorem Inv.out {M : Ms} (h : Inv M) {t i : Nat} (ht : t < M.nt) (hs : ¬ M.state t = 2) (hi : i < M.w) : Inv (M.out t i) := by
  obtain ⟨h1, h2, h3, h4, h5, h6, h7, h8⟩ := h
  have e : (M.out t i).left + 1 = M.left := by
    have := lefF_up (st := M.state) (t := t) (v := 2) M.nt ht
    rw [if_neg hs, if_pos rfl] at this
    show lefF (va_up M.state t 2) M.nt + 1 = lefF M.state M.nt
    omega
  have e2 : sumF (M.out t i).handed M.w = sumF M.handed M.w + 1 := by
    have := sumF_up (h := M.handed) (i := i) (v := M.handed i + 1) M.w hi
    show sumF (va_up M.handed i (M.handed i + 1)) M.w = sumF M.handed M.w + 1
    omega
  refine ⟨h1, h2, h3, h4, by omega, fun u hu => ?_, h7, ?_⟩
  · obtain ⟨a1, a2, a3, a4, a5, a6⟩ := h6 u hu
    have mono : ∀ j, M.handed j ≤ va_up M.handed i (M.handed i + 1) j := by
      intro j
      by_cases e : j = i
      · subst e; rw [va_up_self]; omega
      · rw [va_up_ne _ _ e]; exact Nat.le_refl _
    refine ⟨a1, a2, ?_, a4, ?_, ?_⟩
    · show va_up M.state t 2 u ≤ 2
      unfold va_up; split
      · omega
      · exact a3
    · show va_up M.state t 2 u = 2 ↔ (va_up M.number t (some (i + M.w * M.handed i)) u).isSome = true
      by_cases e : u = t
      · subst e; rw [va_up_self, va_up_self]; exact ⟨fun _ => rfl, fun _ => rfl⟩
      · rw [va_up_ne _ _ e, va_up_ne _ _ e]; exact a5
    · show ∀ q, va_up M.number t (some (i + M.w * M.handed i)) u = some q → q / M.w < va_up M.handed i (M.handed i + 1) (q % M.w)
      intro q hq
      by_cases e : u = t
      · subst e; rw [va_up_self] at hq
        cases hq
        have hw : 0 < M.w := by have := h1.pos; omega
        rw [Nat.add_mul_mod_self_left, Nat.mod_eq_of_lt hi, va_up_self, Nat.add_mul_div_left _ _ hw, Nat.div_eq_of_lt hi]
        omega
      · rw [va_up_ne _ _ e] at hq
        exact Nat.lt_of_lt_of_le (a6 q hq) (mono _)
  · show sumF (M.out t i).handed M.w + (M.out t i).left = M.nt
    omega
theorem Inv.take {M : Ms} (h : Inv M) {i : Nat} (hi : i < M.nl) : Inv (M.take i) := by
  obtain ⟨h1, h2, h3, h4, h5, h6, h7, h8⟩ := h
  refine ⟨h1, h2, h3, ?_, h5, h6, fun k hk => ?_, h8⟩
  · show M.nl - 1 ≤ 60
    omega
  · have hk : k < M.nl - 1 := hk
    show shf M.la i k < M.nt ∧ shf M.lt i k < M.ns
    unfold shf
    split
    · exact h7 k (by omega)
    · exact h7 (k + 1) (by omega)
theorem Inv.arrive {M : Ms} (h : Inv M) {t s : Nat} (ht : t < M.nt) (hs : M.state t = 1) (h0 : s < M.ns) : Inv (M.arrive t s) := by
  obtain ⟨h1, h2, h3, h4, h5, h6, h7, h8⟩ := h
  have e : (M.arrive t s).left = M.left := by
    have := lefF_up (st := M.state) (t := t) (v := 0) M.nt ht
    rw [if_neg (by rw [hs]; decide), if_neg (by decide)] at this
    show lefF (va_up M.state t 0) M.nt = lefF M.state M.nt
    omega
  refine ⟨h1, h2, h3, h4, by rw [e]; exact h5, fun u hu => ?_, h7, by rw [e]; exact h8⟩
  obtain ⟨a1, a2, a3, a4, a5, a6⟩ := h6 u hu
  refine ⟨a1, ?_, ?_, a4, ?_, a6⟩
  · show ∀ p, va_up M.place t (some s) u = some p → p < M.ns
    intro p hp
    by_cases e : u = t
    · subst e; rw [va_up_self] at hp; cases hp; exact h0
    · rw [va_up_ne _ _ e] at hp; exact a2 p hp
  · show va_up M.state t 0 u ≤ 2
    unfold va_up; split
    · omega
    · exact a3
  · show va_up M.state t 0 u = 2 ↔ _
    by_cases e2 : u = t
    · subst e2
      rw [va_up_self]
      refine ⟨fun q => (by cases q), fun q => ?_⟩
      have := a5.mpr q
      omega
    · rw [va_up_ne _ _ e2]; exact a5
theorem Inv.enter {M : Ms} (h : Inv M) {wi : Nat} {o : Bool} (hw : wi < M.w) (h9 : M.nt < 200) (hl : M.left < 40) : Inv (M.enter wi o) := by
  obtain ⟨h1, h2, h3, h4, h5, h6, h7, h8⟩ := h
  have e : (M.enter wi o).left = M.left + 1 := by
    show lefF (va_up M.state M.nt 0) M.nt + (if va_up M.state M.nt 0 M.nt = 2 then 0 else 1) = lefF M.state M.nt + 1
    rw [lefF_ne M.nt (Nat.le_refl _), va_up_self, if_neg (by decide)]
  refine ⟨h1, h2, h9, h4, by omega, fun u hu => ?_, fun k hk => ?_, ?_⟩
  · have hu : u < M.nt + 1 := hu
    show va_up M.wire M.nt wi u < M.w ∧ (∀ p, va_up M.place M.nt none u = some p → p < M.ns) ∧ va_up M.state M.nt 0 u ≤ 2 ∧ va_up M.nxt M.nt 0 u ≤ nb M.w ∧ (va_up M.state M.nt 0 u = 2 ↔ (va_up M.number M.nt none u).isSome = true) ∧ (∀ q, va_up M.number M.nt none u = some q → q / M.w < M.handed (q % M.w))
    by_cases e : u = M.nt
    · subst e
      simp only [va_up_self]
      exact ⟨hw, fun p hp => (by cases hp), by omega, by omega, ⟨fun q => (by cases q), fun q => (by cases q)⟩, fun q hq => (by cases hq)⟩
    · simp only [va_up_ne _ _ e]
      exact h6 u (by omega)
  · have := h7 k hk
    exact ⟨Nat.lt_succ_of_lt this.1, this.2⟩
  · show sumF M.handed M.w + (M.enter wi o).left = M.nt + 1
    omega
theorem Inv.build {M : Ms} {w ns : Nat} (hw : Wok w) (hs : 1 ≤ ns ∧ ns ≤ 6) : Inv (M.build w ns) :=
  ⟨hw, hs, Nat.zero_le _, Nat.zero_le _, Nat.zero_le _, fun t ht => absurd ht (Nat.not_lt_zero t), fun t ht => absurd ht (Nat.not_lt_zero t), by show sumF (fun _ => 0) w + 0 = 0; rw [sumF_0]⟩
theorem Inv.station {M : Ms} (h : Inv M) (f : Nat → Bool) : Inv (M.s_down f) := h
theorem Ms.can_spec {M : Ms} {t : Nat} (h : M.can t = true) : ¬ M.state t = 2 ∧ M.asleep t = false ∧ (M.nl < 60 ∨ M.state t = 1 ∨ M.place t = some (M.stN t)) := by
  unfold Ms.can at h
  simp only [Bool.and_eq_true, Bool.or_eq_true, Bool.not_eq_true', beq_iff_eq, beq_eq_false_iff_ne, decide_eq_true_eq, ne_eq] at h
  obtain ⟨⟨h1, h2⟩, h3⟩ := h
  refine ⟨h1, h2, ?_⟩
  rcases h3 with (h3 | h3) | h3
  · exact Or.inl h3
  · exact Or.inr (Or.inl h3)
  · exact Or.inr (Or.inr h3)
theorem Inv.step {M : Ms} (h : Inv M) {t : Nat} (ht : t < M.nt) (hc : M.can t = true) : Inv (M.step t).2 := by
  obtain ⟨c1, c2, c3⟩ := Ms.can_spec hc
  have hw := h.1
  have hn := h.2.1.1
  unfold Ms.step
  split
  · exact h
  · rename_i n1
    split
    · rename_i n2
      refine (h.setOut ht c1).post ht (Ms.stN_lt hn t) ?_
      rcases c3 with c3 | c3 | c3
      · exact c3
      · exact absurd c3 n1
      · exact absurd c3 n2
    · split
      · rename_i b hb
        exact h.go ht (nxB_lt hb)
      · exact h.out ht c1 (uX_lt hw (h.2.2.2.2.2.1 t ht).1)
theorem Ms.step_nt (M : Ms) (t : Nat) : (M.step t).2.nt = M.nt := by
  unfold Ms.step
  split
  · rfl
  · split
    · rfl
    · split <;> rfl
theorem Ms.comes_spec {M : Ms} {i : Nat} (h : M.comes i = true) : M.down (M.lt i) = false ∧ M.state (M.la i) = 1 ∧ M.way (M.la i) = M.lw i := by
  unfold Ms.comes at h
  simp only [Bool.and_eq_true, Bool.not_eq_true', beq_iff_eq] at h
  exact ⟨h.1.1, h.1.2, h.2⟩
theorem Inv.deliver {M : Ms} (h : Inv M) {i : Nat} (hi : i < M.nl) : Inv (M.deliver i) := by
  unfold Ms.deliver
  split
  · rename_i hc
    obtain ⟨c1, c2, c3⟩ := Ms.comes_spec hc
    have := h.2.2.2.2.2.2.1 i hi
    exact (h.take hi).arrive this.1 c2 this.2
  · exact h.take hi
theorem Ms.deliver_nl (M : Ms) (i : Nat) : (M.deliver i).nl = M.nl - 1 := by
  unfold Ms.deliver
  split <;> rfl
theorem Inv.res1 {M : Ms} (h : Inv M) {t : Nat} (ht : t < M.nt) (hl : M.nl < 60) : Inv (M.res1 t) := by
  unfold Ms.res1
  split
  · exact h.post ht (Ms.stN_lt h.2.1.1 t) hl
  · exact h
theorem Ms.res1_nt (M : Ms) (t : Nat) : (M.res1 t).nt = M.nt := by unfold Ms.res1; split <;> rfl
theorem Inv.stepAll : ∀ (f t : Nat) (M : Ms), Inv M → t + f ≤ M.nt → Inv (Ms.stepAll f t M) ∧ (Ms.stepAll f t M).nt = M.nt
  | 0, _, M, h, _ => ⟨h, rfl⟩
  | f + 1, t, M, h, hf => by
    unfold Ms.stepAll
    split
    · rename_i hc
      have := Inv.stepAll f (t + 1) _ (h.step (by omega) hc) (by rw [Ms.step_nt]; omega)
      exact ⟨this.1, this.2.trans (Ms.step_nt M t)⟩
    · exact Inv.stepAll f (t + 1) M h (by omega)
theorem Inv.delAll : ∀ (f : Nat) (M : Ms), Inv M → f ≤ M.nl → Inv (Ms.delAll f M)
  | 0, _, h, _ => h
  | f + 1, M, h, hf => by
    unfold Ms.delAll
    exact Inv.delAll f _ (h.deliver (by omega)) (by rw [Ms.deliver_nl]; omega)
theorem Inv.round {M : Ms} (h : Inv M) : Inv M.round := by
  unfold Ms.round
  exact Inv.delAll _ _ (Inv.stepAll _ _ M h (by omega)).1 (Nat.le_refl _)
theorem Inv.resF : ∀ (f t : Nat) (M : Ms), Inv M → t + f ≤ M.nt → Inv (Ms.resF f t M)
  | 0, _, _, h, _ => h
  | f + 1, t, M, h, hf => by
    unfold Ms.resF
    split
    · rename_i hl
      exact Inv.resF f (t + 1) _ (h.res1 (by omega) hl) (by rw [Ms.res1_nt]; omega)
    · exact h
theorem Inv.settle : ∀ (f : Nat) (M : Ms), Inv M → Inv (Ms.settle f M).2
  | 0, _, h => h
  | f + 1, M, h => by
    unfold Ms.settle
    split
    · exact h
    · exact Inv.settle f _ h.round
