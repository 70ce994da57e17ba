/-! methods that return or throw: their contracts; 'throw new E("..")' -/
def nG : List Cond := [.declares (Bundle.initS "java/lang/RuntimeException"), .declares (Bundle.initS "java/lang/Exception"), .declares (Bundle.initS "java/lang/Throwable"),
  .castable "java/lang/IllegalArgumentException" "java/lang/IllegalArgumentException", .castable "java/lang/IndexOutOfBoundsException" "java/lang/IndexOutOfBoundsException", .castable "java/lang/IllegalStateException" "java/lang/IllegalStateException"]
def strL : List (Nat × String) := [(47, "width"), (52, "stations"), (60, "balancer"), (76, "what"), (80, "exit"), (88, "wire"), (98, "too many tokens"), (109, "token"), (114, "the token can't move"), (120, "letter"), (133, "the bag is full"), (164, "station"), (187, "most")]
/-- a static of references, as it stands in its cell -/
def zS (C n d : String) (A : Nat → Prop) (U : State) (H : Heap) : Prop := ∃ (c : ClassId) (k : Class) (i : Nat) (f : Field) (a : Nat) (cell : Cell) (v : Value), U.vm.findClass C = some c ∧ U.fieldFound? C n d = some (c, k, i, f) ∧ f.isStatic = true ∧ k.statics = some a ∧ H[a]? = some cell ∧ cell.vm.isStatics = true ∧ cell.cls = c ∧ f.slot < cell.slots.size ∧ k.staticTypes[f.slot]? = some f.type ∧ cell.slots[f.slot]? = some v ∧ (v = .null ∨ ∃ t, v = .ref t) ∧ ¬ A a
theorem zS.move {C n d : String} {A B : Nat → Prop} {u U : State} {H H1 : Heap} (h : zS C n d A u H) (hvm : u.vm.Alike U.vm) (hq : ∀ a : Nat, a < H.size → ¬ A a → H1[a]? = H[a]?) (hAB : ∀ q, B q → A q) : zS C n d B U H1 := by
  obtain ⟨c, k, i, f, a, cell, v, h0, h1, h2, h4, h5, h6, h7, h8, h9, h10, h11, h12⟩ := h
  obtain ⟨k', hi', he⟩ := State.fieldFound?_setVm hvm h1
  exact ⟨c, k', i, f, a, cell, v, by rw [hvm.findClass]; exact h0, hi', h2, by rw [he]; exact h4, by rw [hq a (Array.getElem?_eq_some_iff.mp h5).1 h12]; exact h5, h6, h7, h8, by rw [he]; exact h9, h10, h11, fun z => h12 (hAB a z)⟩
theorem zS.of {args : Array Value} {s : State} {C n d : String} {A : Nat → Prop} (hl : (Cond.laysStatic C n d).before args s = true) (h : (Cond.isRef (.static C n d)).before args s = true) (hA : ∀ a : Nat, a < s.heap.size → ¬ A a) : zS C n d A s s.heap := by
  obtain ⟨c, k, i, f, a, cell, hc, hi, hst, ha, hcell, hs, hcls, hlt, hty⟩ := Cond.laysStatic_spec hl
  obtain ⟨u, hu⟩ := Cond.staticRefV hi hst ha hcell hs h
  have hr : u.v = .null ∨ ∃ t, u.v = .ref t := by
    obtain ⟨v, hv⟩ := u
    cases v <;> simp [Value.isRef] at hv ⊢
  exact ⟨c, k, i, f, a, cell, u.v, hc, hi, hst, ha, hcell, hs, hcls, hlt, hty, hu, hr, hA a (Array.getElem?_eq_some_iff.mp hcell).1⟩
theorem zS.lays {C n d : String} {A : Nat → Prop} {U : State} {a : Array Value} (h : zS C n d A U U.heap) : (Cond.laysStatic C n d).before a U = true := by
  obtain ⟨c, k, i, f, ad, cell, v, h0, h1, h2, h4, h5, h6, h7, h8, h9, h10, h11, h12⟩ := h
  exact Cond.laysStatic_of h0 h1 h2 h4 h5 h6 h7 h8 h9
theorem zS.ref {C n d : String} {A : Nat → Prop} {U : State} {a : Array Value} (h : zS C n d A U U.heap) : (Cond.isRef (.static C n d)).before a U = true := by
  obtain ⟨c, k, i, f, ad, cell, v, h0, h1, h2, h4, h5, h6, h7, h8, h9, h10, h11, h12⟩ := h
  rcases h11 with rfl | ⟨t, rfl⟩
  · simp [Cond.before, Cond.holds, Cond.value, Term.eval, State.fieldNamed?, h1, h2, h4, h5, h6, h10]
  · simp [Cond.before, Cond.holds, Cond.value, Term.eval, State.fieldNamed?, h1, h2, h4, h5, h6, h10]
def oxW (U : State) (H : Heap) (A : Nat → Prop) : Prop :=
  (∀ w ∈ nG, w.before #[] U = true) ∧ (∀ q ∈ strL, ∃ a, vk_R RN q.1 q.2 a U) ∧ zS Bundle.tN "UNASSIGNED_STACK" Bundle.steD A U H ∧ zS Bundle.tN "SUPPRESSED_SENTINEL" Bundle.listD A U H
theorem tabs_to {c : Cond} (hc : c.onTables = true) {a a' : Array Value} {s U : State} (h : c.before a (s.setVm U.vm) = true) : c.before a' U = true := va_tabs (u := s.setVm U.vm) hc rfl h
theorem nG_move {s U : State} (hW : s.WarmedH U.vm) {a a' : Array Value} : ∀ w ∈ nG, w.before a s = true → w.before a' U = true := by
  intro w hw h
  simp only [nG, List.mem_cons, List.not_mem_nil, or_false] at hw
  rcases hw with rfl | rfl | rfl | rfl | rfl | rfl
  · exact tabs_to rfl (by rw [Cond.declares_setVm hW.alike]; exact h)
  · exact tabs_to rfl (by rw [Cond.declares_setVm hW.alike]; exact h)
  · exact tabs_to rfl (by rw [Cond.declares_setVm hW.alike]; exact h)
  · exact tabs_to rfl (by rw [Cond.castable_setVm hW.alike]; exact h)
  · exact tabs_to rfl (by rw [Cond.castable_setVm hW.alike]; exact h)
  · exact tabs_to rfl (by rw [Cond.castable_setVm hW.alike]; exact h)
theorem oxW.move {s U : State} {H H1 : Heap} {A B : Nat → Prop} (h : oxW s H A) (hW : s.WarmedH U.vm) (hq : ∀ a : Nat, a < H.size → ¬ A a → H1[a]? = H[a]?) (hAB : ∀ q, B q → A q) : oxW U H1 B :=
  ⟨fun w hw => nG_move hW w hw (h.1 w hw), fun q hq => (h.2.1 q hq).imp fun _ ha => ha.warm hW, h.2.2.1.move hW.alike hq hAB, h.2.2.2.move hW.alike hq hAB⟩
/-- the chain of an exception's constructors, and what its making asks -/
def chn : List String := ["java/lang/RuntimeException", "java/lang/Exception"]
def exOk (own : String) (im : Nat) (E : String) : Bool := (Bundle.ownAtoms own im E chn).all (fun w => (decide (w ∈ lw_tbl) && goodWord w) || decide (w ∈ nG) || decide (w = .isRef (.static Bundle.tN "UNASSIGNED_STACK" Bundle.steD)) || decide (w = .isRef (.static Bundle.tN "SUPPRESSED_SENTINEL" Bundle.listD)) || decide (w = .laysStatic Bundle.tN "UNASSIGNED_STACK" Bundle.steD) || decide (w = .laysStatic Bundle.tN "SUPPRESSED_SENTINEL" Bundle.listD))
set_option maxRecDepth 100000 in
theorem exOk_1 : exOk RN 49 "java/lang/IllegalArgumentException" = true := by decide +kernel
set_option maxRecDepth 100000 in
theorem exOk_2 : exOk RN 62 "java/lang/IndexOutOfBoundsException" = true := by decide +kernel
set_option maxRecDepth 100000 in
theorem exOk_3 : exOk RN 100 "java/lang/IllegalStateException" = true := by decide +kernel
theorem own_at {own E : String} {im : Nat} (hk : exOk own im E = true) {s : State} {a : Array Value} {w0 : Cond} (hts : ∀ w ∈ w0 :: TT, w.before a s = true) (ho : oxW s s.heap (fun _ => False)) : ∀ w ∈ Bundle.ownAtoms own im E chn, w.before a s = true := by
  intro w hw
  have h1 := List.all_eq_true.mp hk w hw
  simp only [Bool.or_eq_true, Bool.and_eq_true, decide_eq_true_eq] at h1
  rcases h1 with ((((h1 | h1) | h1) | h1) | h1) | h1
  · exact hts w (List.mem_cons_of_mem _ (TT_mem h1.1 h1.2))
  · exact nG_move (State.WarmedH.refl s) w h1 (ho.1 w h1)
  · rw [h1]; exact ho.2.2.1.ref
  · rw [h1]; exact ho.2.2.2.ref
  · rw [h1]; exact ho.2.2.1.lays
  · rw [h1]; exact ho.2.2.2.lays
theorem same_old {s s' : State} {k n : Nat} (h : s.sameButNew s' [] k n) : ∀ (q : Nat) (c : Cell), s.heap[q]? = some c → s'.heap[q]? = some c := by
  intro q c hc
  obtain ⟨-, -, -, -, -, h6⟩ := h
  obtain ⟨c', h1, h2, h3, h4⟩ := h6 q c hc
  rw [h1]
  have e : c'.slots = c.slots := by
    apply Array.ext_getElem?
    intro i
    exact h4 i (by simp)
  rw [h2, e]
theorem W.mono9 {p : Program} {l : Launch} {e : Env} {R : Room} {s : State} {m : MethodId} {args : Array Value} {below : List Frame} {meth : Method} {c : Code} {H : Heap} {locs : List Loc} {cells slots : Nat} {Q Q' : State → Prop} {g : JFrame} (hq : ∀ t, Q t → Q' t) (h : W p l e R s m args below meth c H locs cells slots Q g) : W p l e R s m args below meth c H locs cells slots Q' g := by
  intro T hT X
  obtain ⟨t, a, b⟩ := h T hT X
  exact ⟨t, a, hq t b⟩
def jQX (X : Cx) (Qc : Outcome → State → Prop) (free : Addr → Prop) : State → Prop := fun t =>
  ∃ o, t.status = .running ∧ Ended t X.below o ∧ Qc o t ∧ ∃ L, (X.s.WarmedH t.vm ∧ X.s.sameButNew ({ t with vm := X.s.vm } : State) L 1 6) ∧ ∀ q ∈ L, free q.base
theorem jQX_of {X : Cx} {Qc : Outcome → State → Prop} {free : Addr → Prop} {t : State} (h : MQ X.below (fun _ _ o t => Qc o t) X.args X.s 0 0 free t) : jQX X Qc free t := by
  obtain ⟨o, h1, h2, h3, L, ⟨-, h5, h6⟩, h7⟩ := h
  exact ⟨o, h1, h2, h3, L, ⟨h5, h6.mono (by decide) (by decide)⟩, h7⟩
/-- what a throw leaves: an object of that class, all old cells as they were -/
def thrw (s : State) (E : String) (o : Outcome) (t : State) : Prop :=
  ∃ (x : Nat) (ce : Cell), o = .threw x ∧ s.heap.size ≤ x ∧ t.heap[x]? = some ce ∧ ce.vm.isStatics = false ∧ s.vm.findClass E = some ce.cls ∧ ∀ (q : Nat) (c : Cell), s.heap[q]? = some c → t.heap[q]? = some c
def rmx (k : Nat) : Room := { frames := k, cells := 1, slots := 6, locals := 64 * k }
section JThrow
variable {l : Launch} {X : Cx} {Y : Wx} {A : Nat → Prop} {cc : ByteArray} {nL : Nat} {own : String} {w0 : Cond} {R : Room} {ret : Option FieldType} {σ : St} {pc : Nat} {L : Lv} {st : List Value}
set_option maxHeartbeats 4000000 in
theorem jx_throw {Qc : Outcome → State → Prop} {free : Addr → Prop} (h : jX X Y A cc nL RN (w0 :: TT) R ret) (ho : oxW X.s X.s.heap (fun _ => False)) (htr : l.stackTraces = false) (hno : X.c.exceptionTable.isEmpty = true)
    {E tx : String} {ic is im : Nat} (hE : Bundle.fit E = true ∧ exOk RN im E = true ∧ Cond.classLink RN ic E ∈ TT ∧ Cond.instantiable E 6 ∈ TT ∧ Cond.initialized E ∈ TT) (hs : (is, tx) ∈ strL)
    (hR : 5 < R.frames ∧ 200 ≤ R.locals ∧ 1 ≤ R.cells ∧ 6 ≤ R.slots) (hst : st = [])
    (hd0 : decode cc pc = .ok (.new ic, 3)) (hd3 : decode cc (pc + 3) = .ok (.dup, 1)) (hd4 : decode cc (pc + 4) = .ok (.ldc is, 2)) (hd6 : decode cc (pc + 6) = .ok (.invokespecial im, 3)) (hd9 : decode cc (pc + 9) = .ok (.athrow, 1))
    (hQ : ∀ (o : Outcome) (t : State), thrw X.s E o t → Qc o t) : jW l X Y A nL 0 0 (k0 X) (jQX X Qc free) σ pc L st := by
  subst hst
  intro H locs ls hk hP hD hS hl
  obtain ⟨hx, hb, hml, hown, hts, hK, hA, hRR, hret, hlk⟩ := h
  obtain ⟨rfl, rfl⟩ := hk
  subst hRR
  obtain ⟨e1, e2, e3, e4, e5⟩ := hE
  obtain ⟨qs, hqs⟩ := ho.2.1 _ hs
  refine W.newc (C := E) (index := ic) (n := 6) hx hb hown (hts _ (List.mem_cons_of_mem _ e3)) (hts _ (List.mem_cons_of_mem _ e4)) (hts _ (List.mem_cons_of_mem _ e5)) rfl hd0 (by simpa using hR.2.2.1) (by simpa using hR.2.2.2) (fun cC kC hfc hkc hkind hsize => ?_)
  refine W.eq (g2 := F0 X.m (pc + 3) ls [.ref X.s.heap.size]) rfl ?_
  refine lv_dup hx hb hd3 rfl ?_
  refine va_ldcS hx hb hown hqs hd4 ?_
  intro T hT XS
  have htr' : X.e.platform.stackTraces = false := by rw [XS.admits.platform]; exact htr
  have hcell : T.heap[X.s.heap.size]? = some (freshCell cC kC) := by rw [hT]; simp
  obtain ⟨U, s1, s2, s3, s4, s5, ce, s6, s7⟩ := XS.ctorThrowS (cls := E) (names := chn) (ic := im) hx htr' hown e1 (by decide) (own_at e2 hts ho) (fun x hx => absurd hx List.not_mem_nil) hfc hkc hcell (Nat.le_refl _) (msg := .ref qs) rfl
    (g := F0 X.m (pc + 6) ls [.ref qs, .ref X.s.heap.size, .ref X.s.heap.size]) rfl (by rw [hml]; exact hl.1.1) rfl rfl (rest := []) rfl (by rw [hb]; exact hd6) (by rw [hb]; exact hd9) (fun x hx => by rw [Array.isEmpty_iff.mp hno] at hx; simp at hx) (by show 2 + 3 < _; omega)
    (by show 2 * 0 + 1 + (13 * (2 + 1) + 42) ≤ _; omega) hlk
  refine ⟨U, s1, .threw X.s.heap.size, s2, s3, hQ _ _ ⟨X.s.heap.size, ce, rfl, Nat.le_refl _, s6, by rw [s7.vm]; rfl, s7.cls, fun q c hc => ?_⟩, [], ⟨s4, s5.mono (by decide) (by decide)⟩, fun q hq => absurd hq List.not_mem_nil⟩
  exact same_old (s' := ({ U with vm := X.s.vm } : State)) s5 q c hc
theorem jx_iretX {Qc : Outcome → State → Prop} {K : Heap → List Loc → Prop} (h : jX X Y A cc nL own (w0 :: TT) R (some .int)) {v : Int32} (hd : decode cc pc = .ok (.ireturn, 1)) (hq : ∀ t : State, (∃ q ∈ [0], q = 0) → jB Y A σ t → va_F A X.s t → Qc (.returned (some (.int v))) t) : jW l X Y A nL 0 0 K (jQX X Qc A) σ pc L [.int v] := by
  intro H locs ls hk9 hP hD hS hl
  obtain ⟨hx, hb, hml, hown, hts, hK, hA, hRR, hret, hlk⟩ := h
  refine W.mono9 (fun t ht => jQX_of ht) ?_
  exact W.iret (Qc := fun _ _ o t => Qc o t) (free := A) (v := v) hx hb hret (fun t ht hW => hq t ⟨0, by simp, rfl⟩ ⟨by rw [ht]; exact hP, va_K.moved hW.alike hK, hD⟩ (hS.F ht)) hS.2.2 hd hlk
theorem jx_vretX {Qc : Outcome → State → Prop} {K : Heap → List Loc → Prop} (h : jX X Y A cc nL own (w0 :: TT) R none) (hd : decode cc pc = .ok (.return_, 1)) (hq : ∀ t : State, jB Y A σ t → va_F A X.s t → Qc (.returned none) t) : jW l X Y A nL 0 0 K (jQX X Qc A) σ pc L [] := by
  intro H locs ls hk9 hP hD hS hl
  obtain ⟨hx, hb, hml, hown, hts, hK, hA, hRR, hret, hlk⟩ := h
  refine W.mono9 (fun t ht => jQX_of ht) ?_
  exact W.vret (Qc := fun _ _ o t => Qc o t) (free := A) hx hb hret (fun t ht hW => hq t ⟨by rw [ht]; exact hP, va_K.moved hW.alike hK, hD⟩ (hS.F ht)) hS.2.2 hd hlk
end JThrow
def exN (c1 c2 : String) : Int32 → String := fun c => if c = 1 then c1 else c2
def cIA : String := "java/lang/IllegalArgumentException"
def cIO : String := "java/lang/IndexOutOfBoundsException"
def cIS : String := "java/lang/IllegalStateException"
/-- the class's end: it returns the answer, or throws the exception of that code and has changed nothing -/
def endC (vd : Bool) (Y : Wx) (A : Nat → Prop) (s : State) (ex : Int32 → String) (q : Rs) (o : Outcome) (t : State) : Prop :=
  (q.1 = 0 ∧ (∃ u, o = .returned (if vd = true then none else some (.int q.2.1)) ∧ repC u q.2.2 ∧ jB Y A u t) ∧ va_F A s t) ∨ (¬ q.1 = 0 ∧ thrw s (ex q.1) o t)
def jPX (Y : Wx) (av : List Value) (σ : St) (sz : Nat) : Array Value → State → Prop := va_Pc av (fun U => (U.heap.size = sz ∧ va_P Y.D Y.cl (Y.sh σ) U.heap ∧ va_K Y.D Y.cl Y.tys U ∧ va_D (fun _ => True) (Y.sh σ)) ∧ oxW U U.heap (fun _ => False))
def jMX (l : Launch) (vd : Bool) (Y : Wx) (t : Mt) (rm : Room) (av : List Value) (σ : St) (ex : Int32 → String) (q : Rs) : Prop :=
  ∀ sz : Nat, MetFree l t.y (headSpec (t.w :: TT) rm) (jPX Y av σ sz) (fun _ _ _ _ _ => True) (fun _ st o tt => endC vd Y (va_A (Y.sh σ) sz) st ex q o tt ∧ ∃ L, (st.WarmedH tt.vm ∧ st.sameButNew ({ tt with vm := st.vm } : State) L 1 6) ∧ ∀ q ∈ L, va_A (Y.sh σ) sz q.base)
theorem jMX_of {l : Launch} {vd : Bool} {Y : Wx} {t : Mt} {rm : Room} {av : List Value} {σ : St} {ex : Int32 → String} {q : Rs} (hy : plainName t.y.cls = true) (hn : av.length ≤ t.n) (hav : ∀ v ∈ av, v.category = 1)
    (body : ∀ (X : Cx) (A : Nat → Prop), jX X Y A t.b t.n t.y.cls (t.w :: TT) rm t.r → oxW X.s X.s.heap (fun _ => False) → X.c.exceptionTable.isEmpty = true → jW l X Y A t.n 0 0 (k0 X) (jQX X (endC vd Y A X.s ex q) A) σ 0 (lv_args 0 av) []) : jMX l vd Y t rm av σ ex q := by
  intro sz
  refine MetFree.of_bodyS (code := t.b) (maxLocals := t.n) (ret := t.r) hy ?_ ?_
  · intro args s m h hn
    obtain ⟨meth, c, h1, h2, h3, h4, h5, h6, -, -⟩ := Cond.code_spec hn (atoms_spec (ws := t.w :: TT) h _ List.mem_cons_self)
    exact ⟨meth, c, h1, h2, h3, h4, h5, h6⟩
  · intro p e s m args below meth c s₁ B hml hv _
    obtain ⟨rfl, ⟨hsz, hP, hK, hD0⟩, hox⟩ := hv
    have hh0 : s₁.heap = s.heap := by rw [B.state]; rfl
    have hts := atoms_spec (ws := t.w :: TT) B.pre
    have hown : s.vm.findClass t.y.cls = some m.cls := findClass_of_methodNamed B.named
    have hno := B.noHandlers (hts _ List.mem_cons_self)
    subst hsz
    have hD := hD0.self (sz := s.heap.size)
    generalize hAe : va_A (Y.sh σ) s.heap.size = A at hD ⊢
    have hA : ∀ q : Nat, s.heap.size ≤ q → A q := fun q h => by rw [← hAe]; exact Or.inr h
    have hl := lv_entry av (n := t.n) (by rw [lg_len av hav]; exact hn)
    have K := body (p, e, rm, s, m, av.toArray, below, meth, c) A ⟨B.exec, B.bytes, hml, hown, hts, hK, hA, rfl, B.returns, B.notSynchronized⟩ hox hno s.heap [] _ ⟨rfl, rfl⟩ hP hD va_S.rf ⟨hl, lv_args_cat av 0 hav⟩
    rw [← lg_entry_eq] at K
    obtain ⟨t2, a1, o, b1, b2, b3, b4⟩ := K s₁ hh0 (Stand.of_body B)
    exact ⟨t2, o, a1, b1, b2, b3, b4⟩
