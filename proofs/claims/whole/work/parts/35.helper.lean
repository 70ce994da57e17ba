/-! the law's helpers: a call of the class's method, its answer laid into a long, or a code for what was thrown -/
abbrev yH (D : va_G) (ad : Nat → Nat) (ac : Nat → ClassId) (o : Nat) (cO : ClassId) (gg : Nat → Int64) : Wx := (D, cls, (yC D ad ac).tys ++ [(cO, .long)], fun σ => (yC D ad ac).sh σ ++ [(o, .inl (cO, (1, .inr (.inl gg))))])
theorem callVT {p : Program} {l : Launch} {e : Env} {R : Room} {s : State} {m : MethodId} {args : Array Value} {below : List Frame} {meth : Method} {c : Code} {T : State} {locs : List Loc} {cells slots : Nat} (X : Stand p l e R s m args below meth c T locs cells slots) (hexec : p.tables.exec = Jvm.exec) {own C : String} {index : Nat} {y : MethodName} {bytes : ByteArray} {maxL : Nat} {ret : Option FieldType}
    (hown : s.vm.findClass own = some m.cls) (hlink : (Cond.methodLink own index y).before args s = true) (hinst : (Cond.instanceMethod y).before args s = true) (hsel : (Cond.selects C y y).before args s = true)
    (hcode : (Cond.code y bytes maxL ret).before args s = true) (hy : y.cls ≠ "java/lang/invoke/MethodHandle" ∧ y.cls ≠ "java/lang/invoke/VarHandle")
    {ws : List Cond} {rm : Room} {P : Array Value → State → Prop} {E : State → Outcome → State → Prop} {F : Addr → Prop} {mc ms : Nat}
    (hM : MetFree l y (headSpec ws rm) P (fun _ _ _ _ _ => True) (fun _ st o t => E st o t ∧ ∃ L, (st.WarmedH t.vm ∧ st.sameButNew ({ t with vm := st.vm } : State) L mc ms) ∧ ∀ z ∈ L, F z.base)) (hE : ∀ st o t, E st o t → ∃ x, o = .threw x)
    (hrm : rm.frames + 1 ≤ R.frames ∧ 8 + (maxL + 11) + rm.locals ≤ R.locals ∧ cells + rm.cells ≤ R.cells ∧ slots + rm.slots ≤ R.slots)
    (hws : ∀ w ∈ ws, ∀ (a' : Array Value) (U : State), s.WarmedH U.vm → w.before a' U = true) (hcw : Cond.code y bytes maxL ret ∈ ws) (hini : Cond.initialized y.cls ∈ ws)
    {b : Addr} {cellB : Cell} (hcell : T.heap[b]? = some cellB) (hobj : cellB.vm.isStatics = false) (hcls : s.vm.findClass C = some cellB.cls)
    {g : JFrame} (hg : g.method = m) (hsize : g.locals.size = c.maxLocals) {argsL rest : List Value} (hlen : ∀ sig, parseMethodDescriptor y.desc = some sig → argsL.length = sig.parameters.length)
    (hstack : g.stack = argsL.reverse ++ .ref b :: rest) (hW : 2 * g.monitorRoom + (rest.map fun v => v.category).sum ≤ 8) (hdg : decode c.code g.pc = .ok (.invokevirtual index, 3))
    (hP : ∀ (vm₁ : Vm) (g' : JFrame) (mk : MethodId), s.WarmedH vm₁ → P (Value.ref b :: argsL).toArray ((T.setVm vm₁).calling g' mk (Value.ref b :: argsL).toArray)) :
    ∃ (x : Addr) (vm₁ : Vm) (g' : JFrame) (mk : MethodId) (t U : State) (L : List Loc), s.WarmedH vm₁ ∧ Stand p l e R s m args below meth c U (locs ++ L) (cells + mc) (slots + ms) ∧ U.heap = t.heap ∧ E ((T.setVm vm₁).calling g' mk (Value.ref b :: argsL).toArray) (.threw x) t ∧ (∀ z ∈ L, F z.base) ∧
      ∀ target, Steps p.tables e below ((U.setTop { g with stack := rest }).pushFrame (.throwing x)) target → Steps p.tables e below (T.setTop g) target := by
  obtain ⟨mk, methM, hnamed, hmethM, hstM, habM⟩ := Cond.instanceMethod_spec hinst
  obtain ⟨methM', cM, hmethM', -, -, -, -, -, -, hsigM⟩ := Cond.code_spec hnamed hcode
  cases hmethM.symm.trans hmethM'
  obtain ⟨c2, r2, m2, q1, q2, q3, q4, kP, hkP, hkPi⟩ := Cond.selects_spec hsel
  cases hcls.symm.trans q1
  cases (State.methodFound?_of_named hnamed hy).symm.trans q2
  cases hnamed.symm.trans q3
  have hselP : selectMethod e.platform s.vm cellB.cls mk = .method mk := by rw [Launch.admits_selectMethod X.admits]; exact q4
  obtain ⟨vm₁, X₁, hstep₁⟩ := X.invokevirtual hexec hown hlink hnamed hmethM hstM hkP hkPi hy (a := b) (cell := cellB) hcell
    (fun z h => by rw [h] at hobj; cases hobj) hselP hmethM habM hkP hkPi (g := g) hg (argsL := argsL) (rest := rest) (hlen _ hsigM) hstack hdg
  have hn := X₁.named hnamed
  have hc1 : (Cond.code y bytes maxL ret).before (Value.ref b :: argsL).toArray (T.setVm vm₁) = true := hws _ hcw _ _ X₁.warmed
  obtain ⟨methY, cY, hmY, hcY, -, hlY, -⟩ := Cond.code_spec hn hc1
  obtain ⟨kY, hkY, -⟩ := className_of_methodNamed hn
  have hiY : kY.init = .initialized := Cond.initialized_spec (args := (Value.ref b :: argsL).toArray) (findClass_of_methodNamed hn) hkY (hws _ hini _ _ X₁.warmed)
  have hAt : At (T.setVm vm₁) ({ g with stack := rest } : JFrame).method c below := by
    rw [show ({ g with stack := rest } : JFrame).method = m from hg]
    exact X₁.here
  have happ : (headSpec ws rm).appliesLoose y e.platform ((T.setVm vm₁).calling { g with stack := rest } mk (Value.ref b :: argsL).toArray) = true :=
    Spec.appliesLoose_calling (g := { g with stack := rest }) hAt hdg hn hkY hiY (X₁.room_calling (g := { g with stack := rest }) (R' := rm) hsize hmY hcY hrm.1 (by rw [hlY]; have h9 := hrm.2.1; have hW' : 2 * ({ g with stack := rest } : JFrame).monitorRoom + (({ g with stack := rest } : JFrame).stack.map fun v => v.category).sum ≤ 8 := hW; omega) hrm.2.2.1 hrm.2.2.2) (atoms_intro fun w hw => hws w hw _ _ X₁.warmed)
  obtain ⟨g₀, hf0⟩ := X₁.frames_eq
  have hfr : ((T.setVm vm₁).setTop { g with stack := rest }).frames = [.java { g with stack := rest }] ++ below := State.frames_setTop _ hf0
  obtain ⟨o9, s₂, hsteps, -, hend, hq⟩ := Steps.callFree hM p X₁.admits X₁.cas X₁.clock (acts := []) hfr happ (hP vm₁ _ mk X₁.warmed) trivial
  obtain ⟨hE9, L, hL, hF⟩ := hq
  obtain ⟨x, rfl⟩ := hE _ _ _ hE9
  rw [hfr] at hend
  obtain ⟨T', X', hW', hsame', ht⟩ := X₁.outOfThrown (g := { g with stack := rest }) hg (mk := mk) (a := (Value.ref b :: argsL).toArray) hend hL.1 hL.2
  have hhp : T'.heap = s₂.heap := by rw [ht, Stand.throwing_heap]
  exact ⟨x, vm₁, { g with stack := rest }, mk, s₂, T', L, X₁.warmed, X', hhp, hE9, hF, fun target h => hstep₁ _ fun acts => by rw [doInvoke_state]; exact hsteps.trans (by rw [ht]; exact h)⟩
theorem jPX_blind (Y : Wx) (av : List Value) (σ : St) (sz : Nat) : FrameBlind (jPX Y av σ sz) := by
  intro a U g mk q
  obtain ⟨q0, ⟨q1, qP, qK, qD⟩, q9⟩ := q
  exact ⟨q0, ⟨q1, qP, va_K.moved (u := U) (U := U.calling g mk a) (Vm.Alike.refl U.vm) qK, qD⟩, oxW.move (U := U.calling g mk a) q9 (State.WarmedH.refl U) (fun _ _ _ => rfl) (fun _ h => h)⟩
theorem jMX.ret {l : Launch} {Y : Wx} {t : Mt} {rm : Room} {av : List Value} {σ : St} {ex : Int32 → String} {q : Rs} (hM : jMX l false Y t rm av σ ex q) (hq : q.1 = 0) (sz : Nat) :
    Met l t.y (t.w :: TT) rm (jPX Y av σ sz) (va_Qi (fun r u => r = q.2.1 ∧ repC u q.2.2) (jB Y (va_A (Y.sh σ) sz)) (va_A (Y.sh σ) sz)) 1 6 (va_A (Y.sh σ) sz) := by
  intro p e ha hc hk s m args below hf happ hP hK
  obtain ⟨n, o, h1, h2, h3, hE, L, hL, hfr⟩ := hM sz p e ha hc hk s m args below hf happ hP hK
  rcases hE with ⟨-, ⟨u, ho, hr, hB⟩, hF⟩ | ⟨hne, -⟩
  · exact ⟨n, o, h1, h2, h3, ⟨⟨_, u, ho, ⟨rfl, hr⟩, hB⟩, hF⟩, L, ⟨⟨_, ho⟩, hL.1, hL.2⟩, hfr⟩
  · exact absurd hq hne
theorem jMX.retv {l : Launch} {Y : Wx} {t : Mt} {rm : Room} {av : List Value} {σ : St} {ex : Int32 → String} {q : Rs} (hM : jMX l true Y t rm av σ ex q) (hq : q.1 = 0) (sz : Nat) :
    Met l t.y (t.w :: TT) rm (jPX Y av σ sz) (va_Qv (fun u => repC u q.2.2) (jB Y (va_A (Y.sh σ) sz)) (va_A (Y.sh σ) sz)) 1 6 (va_A (Y.sh σ) sz) := by
  intro p e ha hc hk s m args below hf happ hP hK
  obtain ⟨n, o, h1, h2, h3, hE, L, hL, hfr⟩ := hM sz p e ha hc hk s m args below hf happ hP hK
  rcases hE with ⟨-, ⟨u, ho, hr, hB⟩, hF⟩ | ⟨hne, -⟩
  · exact ⟨n, o, h1, h2, h3, ⟨⟨u, ho, hr, hB⟩, hF⟩, L, ⟨⟨_, ho⟩, hL.1, hL.2⟩, hfr⟩
  · exact absurd hq hne
section JHelp
variable {l : Launch} {X : Cx} {D : va_G} {ad : Nat → Nat} {ac : Nat → ClassId} {o : Nat} {cO : ClassId} {gg : Nat → Int64} {A : Nat → Prop} {cc : ByteArray} {nL : Nat} {own : String} {w0 : Cond} {R : Room} {ret : Option FieldType} {Q : State → Prop} {σ : St} {pc : Nat} {L : Lv} {rest st As : List Value}
variable {t : Mt} {index n : Nat} {rm : Room} {ex : Int32 → String} {q : Rs}
def jRx (rm : Room) (n : Nat) (R : Room) : Prop := rm.cells = 1 ∧ rm.slots = 6 ∧ rm.frames + 1 ≤ R.frames ∧ 8 + (n + 11) + rm.locals ≤ R.locals
theorem jx_callR (h : jX X (yH D ad ac o cO gg) A cc nL own (w0 :: TT) R ret) (ho : oxW X.s X.s.heap (fun _ => False)) (g : jcV TT own index t n) (hcl : t.y.cls = RN) (hM : jMX l false (yC D ad ac) t rm (.ref (ad 20) :: As) σ ex q) (hq : q.1 = 0)
    (hR : jRx rm t.n R) (hcs : 1 ≤ R.cells ∧ 6 ≤ R.slots) (hn : As.length = n) (hst : st = As.reverse ++ .ref (ad 20) :: rest) (hcat : (rest.map fun v => v.category).sum ≤ 8) (hd : decode cc pc = .ok (.invokevirtual index, 3))
    (kk : ∀ u, repC u q.2.2 → jW l X (yH D ad ac o cO gg) A nL 1 6 kT Q u (pc + 3) L (.int q.2.1 :: rest)) : jW l X (yH D ad ac o cO gg) A nL 0 0 (k0 X) Q σ pc L st := by
  intro H locs ls hk9 hP hD hS hl
  obtain ⟨rfl, rfl⟩ := hk9
  obtain ⟨hx, hb, hml, hown, hts, hK, hA, hRR, hret, hlk⟩ := h
  subst hRR
  have hPc : va_P D cls ((yC D ad ac).sh σ) X.s.heap := hP.sub (ws' := (yC D ad ac).sh σ) (List.range 24) rfl
  have hDc : va_D A ((yC D ad ac).sh σ) := hD.sub (ws' := (yC D ad ac).sh σ) (List.range 24) (by decide) rfl
  have hKc : va_K D cls (yC D ad ac).tys X.s := hK.sub (tys' := (yC D ad ac).tys) (List.range 20) rfl
  have hF := jA_in hDc hS hA
  refine va_calli (mc := 1) (ms := 6) (va_runV (As := As) (rest := rest) ⟨hx, hb, hml, hown, hts⟩ (hM.ret hq X.s.heap.size) (cwV n hts (g.good w0) rfl hR.1 hR.2.1 ⟨rfl, g.2.2.2.2.2.2.1, g.2.2.2.2.2.2.2.1, g.2.2.2.2.2.2.2.2⟩ ⟨hR.2.2.1, hR.2.2.2⟩)
    ⟨jPX_blind _ _ _ _, (by rw [hcl]; exact va_recv hKc hPc (q := (RN, FdN, 7)) (rfl : cls[0]? = some (RN, FdN, 7)) (eC20 (D := D) (ad := ad) (ac := ac) (σ := σ))), fun U hU hW => ⟨rfl, ⟨by rw [hU], by rw [hU]; exact hPc, va_K.moved hW.alike hKc, hDc.weaken (fun _ _ _ _ => trivial)⟩, ho.move hW (fun a _ _ => by rw [hU]) (fun _ h => h)⟩⟩ rfl hn hl.1.1 hst (lv_room hcat) hd ⟨by simpa using hcs.1, by simpa using hcs.2⟩) hS (fun q _ hq => hF q hq) hF ?_
  intro r u t' H1 locs1 ht hvm hp hB hz hk hS1
  obtain ⟨rfl, hrep⟩ := hp
  obtain ⟨hP1, hK1, hD1⟩ := hB
  rw [ht] at hP1
  obtain ⟨hP2, hD2⟩ := va_join (wr := [(o, .inl (cO, (1, .inr (.inl gg))))]) (w1 := (yC D ad ac).sh u) hP hD (List.range 24) [24] rfl rfl (by decide) (by decide) hk hF hP1 hD1
  exact kk u hrep H1 locs1 ls trivial (hP2.sub (ws' := (yH D ad ac o cO gg).sh u) ((List.range 24).map (· + 1) ++ [0]) rfl) (hD2.sub (ws' := (yH D ad ac o cO gg).sh u) ((List.range 24).map (· + 1) ++ [0]) (by decide) rfl) hS1 hl
theorem jx_callRv (h : jX X (yH D ad ac o cO gg) A cc nL own (w0 :: TT) R ret) (ho : oxW X.s X.s.heap (fun _ => False)) (g : jcV TT own index t n) (hcl : t.y.cls = RN) (hM : jMX l true (yC D ad ac) t rm (.ref (ad 20) :: As) σ ex q) (hq : q.1 = 0)
    (hR : jRx rm t.n R) (hcs : 1 ≤ R.cells ∧ 6 ≤ R.slots) (hn : As.length = n) (hst : st = As.reverse ++ .ref (ad 20) :: rest) (hcat : (rest.map fun v => v.category).sum ≤ 8) (hd : decode cc pc = .ok (.invokevirtual index, 3))
    (kk : ∀ u, repC u q.2.2 → jW l X (yH D ad ac o cO gg) A nL 1 6 kT Q u (pc + 3) L rest) : jW l X (yH D ad ac o cO gg) A nL 0 0 (k0 X) Q σ pc L st := by
  intro H locs ls hk9 hP hD hS hl
  obtain ⟨rfl, rfl⟩ := hk9
  obtain ⟨hx, hb, hml, hown, hts, hK, hA, hRR, hret, hlk⟩ := h
  subst hRR
  have hPc : va_P D cls ((yC D ad ac).sh σ) X.s.heap := hP.sub (ws' := (yC D ad ac).sh σ) (List.range 24) rfl
  have hDc : va_D A ((yC D ad ac).sh σ) := hD.sub (ws' := (yC D ad ac).sh σ) (List.range 24) (by decide) rfl
  have hKc : va_K D cls (yC D ad ac).tys X.s := hK.sub (tys' := (yC D ad ac).tys) (List.range 20) rfl
  have hF := jA_in hDc hS hA
  refine va_callv (mc := 1) (ms := 6) (va_runV (As := As) (rest := rest) ⟨hx, hb, hml, hown, hts⟩ (hM.retv hq X.s.heap.size) (cwV n hts (g.good w0) rfl hR.1 hR.2.1 ⟨rfl, g.2.2.2.2.2.2.1, g.2.2.2.2.2.2.2.1, g.2.2.2.2.2.2.2.2⟩ ⟨hR.2.2.1, hR.2.2.2⟩)
    ⟨jPX_blind _ _ _ _, (by rw [hcl]; exact va_recv hKc hPc (q := (RN, FdN, 7)) (rfl : cls[0]? = some (RN, FdN, 7)) (eC20 (D := D) (ad := ad) (ac := ac) (σ := σ))), fun U hU hW => ⟨rfl, ⟨by rw [hU], by rw [hU]; exact hPc, va_K.moved hW.alike hKc, hDc.weaken (fun _ _ _ _ => trivial)⟩, ho.move hW (fun a _ _ => by rw [hU]) (fun _ h => h)⟩⟩ rfl hn hl.1.1 hst (lv_room hcat) hd ⟨by simpa using hcs.1, by simpa using hcs.2⟩) hS (fun q _ hq => hF q hq) hF ?_
  intro u t' H1 locs1 ht hvm hrep hB hz hk hS1
  obtain ⟨hP1, hK1, hD1⟩ := hB
  rw [ht] at hP1
  obtain ⟨hP2, hD2⟩ := va_join (wr := [(o, .inl (cO, (1, .inr (.inl gg))))]) (w1 := (yC D ad ac).sh u) hP hD (List.range 24) [24] rfl rfl (by decide) (by decide) hk hF hP1 hD1
  exact kk u hrep H1 locs1 ls trivial (hP2.sub (ws' := (yH D ad ac o cO gg).sh u) ((List.range 24).map (· + 1) ++ [0]) rfl) (hD2.sub (ws' := (yH D ad ac o cO gg).sh u) ((List.range 24).map (· + 1) ++ [0]) (by decide) rfl) hS1 hl
/-- the search for a handler from the call's place finds hpc -/
def jFind (l : Launch) (X : Cx) (pc hpc : Nat) (E : String) : Prop := ∀ (T : State) (locs : List Loc) (cells slots : Nat) (ls : Array Slot) (st : List Value) (a : Addr) (cell : Cell), Stand X.p l X.e X.R X.s X.m X.args X.below X.meth X.c T locs cells slots → T.heap[a]? = some cell → cell.vm.isStatics = false → X.s.vm.findClass E = some cell.cls →
  ∃ vm' : Vm, X.s.WarmedH vm' ∧ ∀ (Q : Handler → Pre) (E : CtlPost) (d : Bool) (acts : List Action), wp (findHandler (F0 X.m pc ls st) a) Q E X.e d acts ((T.setTop (F0 X.m pc ls st)).pushFrame (.throwing a)) ↔ Q (.found hpc) d acts (((T.setTop (F0 X.m pc ls st)).pushFrame (.throwing a)).setVm vm')
theorem jx_callT {vd : Bool} {hpc : Nat} (h : jX X (yH D ad ac o cO gg) A cc nL own (w0 :: TT) R ret) (ho : oxW X.s X.s.heap (fun _ => False)) (g : jcV TT own index t n) (hcl : t.y.cls = RN) (hM : jMX l vd (yC D ad ac) t rm (.ref (ad 20) :: As) σ ex q) (hq : ¬ q.1 = 0)
    (hR : jRx rm t.n R) (hcs : 1 ≤ R.cells ∧ 6 ≤ R.slots) (hn : As.length = n) (hst : st = As.reverse ++ .ref (ad 20) :: rest) (hcat : (rest.map fun v => v.category).sum ≤ 8) (hd : decode cc pc = .ok (.invokevirtual index, 3)) (hfind : jFind l X pc hpc (ex q.1))
    (kk : ∀ x, jW l X (yH D ad ac o cO gg) A nL 1 6 kT Q σ hpc L [.ref x]) : jW l X (yH D ad ac o cO gg) A nL 0 0 (k0 X) Q σ pc L st := by
  intro H locs ls hk9 hP hD hS hl
  obtain ⟨rfl, rfl⟩ := hk9
  obtain ⟨hx, hb, hml, hown, hts, hK, hA, hRR, hret, hlk⟩ := h
  subst hRR
  have hPc : va_P D cls ((yC D ad ac).sh σ) X.s.heap := hP.sub (ws' := (yC D ad ac).sh σ) (List.range 24) rfl
  have hDc : va_D A ((yC D ad ac).sh σ) := hD.sub (ws' := (yC D ad ac).sh σ) (List.range 24) (by decide) rfl
  have hKc : va_K D cls (yC D ad ac).tys X.s := hK.sub (tys' := (yC D ad ac).tys) (List.range 20) rfl
  have hF := jA_in hDc hS hA
  intro T hT XS
  obtain ⟨cellB, hcB, hoB, hclB⟩ := va_recv hKc hPc (q := (RN, FdN, 7)) (rfl : cls[0]? = some (RN, FdN, 7)) (eC20 (D := D) (ad := ad) (ac := ac) (σ := σ))
  have hG := g.good w0
  have hw := pay_in hts (TT_goodIn (w0 := w0) g.2.1)
  obtain ⟨x, vm₁, g', mk, t9, U, LL, hW₁, XU, hUh, hE9, e2, hstep⟩ := callVT XS hx (C := t.y.cls) (bytes := t.b) (maxL := t.n) (ret := t.r) hown (hts _ (List.mem_cons_of_mem _ g.2.2.1)) (hts _ (List.mem_cons_of_mem _ g.2.2.2.1)) (hts _ (List.mem_cons_of_mem _ g.2.2.2.2.1)) (hts _ (List.mem_cons_of_mem _ g.2.1)) ⟨g.2.2.2.2.2.2.1, g.2.2.2.2.2.2.2.1⟩ (hM X.s.heap.size)
    (fun st9 o9 t9 hE => by
      rcases hE with ⟨h0, -⟩ | ⟨-, x, ce, hox, -⟩
      · exact absurd h0 hq
      · exact ⟨x, hox⟩)
    ⟨hR.2.2.1, hR.2.2.2, by rw [hR.1]; simpa using hcs.1, by rw [hR.2.1]; simpa using hcs.2⟩ hw List.mem_cons_self (List.mem_cons_of_mem _ g.2.2.2.2.2.1) (by rw [hT]; exact hcB) hoB (by rw [hcl]; exact hclB) (g := F0 X.m pc ls st) rfl (by rw [hml]; exact hl.1.1) (argsL := As) (rest := rest)
    (fun sig hs => by have h2 := g.2.2.2.2.2.2.2.2; rw [hs] at h2; exact hn.trans (Option.some.inj h2).symm) hst (lv_room hcat) (by rw [hb]; exact hd)
    (fun vm₁ g' mk hW => jPX_blind _ _ _ _ _ _ _ _ ⟨rfl, ⟨by show T.heap.size = _; rw [hT], by show va_P _ _ _ T.heap; rw [hT]; exact hPc, va_K.moved hW.alike hKc, hDc.weaken (fun _ _ _ _ => trivial)⟩, ho.move (U := T.setVm vm₁) hW (fun a _ _ => by show T.heap[a]? = _; rw [hT]) (fun _ h => h)⟩)
  obtain ⟨cell, c1, c2, c3, c4⟩ : ∃ cell, U.heap[x]? = some cell ∧ cell.vm.isStatics = false ∧ vm₁.findClass (ex q.1) = some cell.cls ∧ ∀ (b : Nat) (c : Cell), T.heap[b]? = some c → U.heap[b]? = some c := by
    rcases hE9 with ⟨h0, -⟩ | ⟨-, x', ce, hox, -, h1, h2, h3, h4⟩
    · exact absurd h0 hq
    · cases hox
      exact ⟨ce, by rw [hUh]; exact h1, h2, h3, fun b c hbc => by rw [hUh]; exact h4 b c hbc⟩
  have d4 : ∀ (b : Nat) (c : Cell), X.s.heap[b]? = some c → U.heap[b]? = some c := fun b c hbc => c4 b c (by rw [hT]; exact hbc)
  have c3 : X.s.vm.findClass (ex q.1) = some cell.cls := by
    have c3' : vm₁.findClass (ex q.1) = some cell.cls := c3
    rw [hW₁.alike.findClass] at c3'
    exact c3'
  obtain ⟨vm', hW', hfd⟩ := hfind U ([] ++ LL) (0 + 1) (0 + 6) ls rest x cell XU c1 c2 c3
  have hkp : ∀ b : Nat, b < X.s.heap.size → U.heap[b]? = X.s.heap[b]? := fun b hb9 => by
    have hh : X.s.heap[b]? = some X.s.heap[b] := Array.getElem?_eq_getElem hb9
    rw [hh]; exact d4 b _ hh
  have hsz : X.s.heap.size ≤ U.heap.size := by
    rcases Nat.eq_zero_or_pos X.s.heap.size with h0 | h0
    · omega
    · have h1 := hkp (X.s.heap.size - 1) (by omega)
      rw [Array.getElem?_eq_getElem (show X.s.heap.size - 1 < X.s.heap.size by omega)] at h1
      have := (Array.getElem?_eq_some_iff.mp h1).1
      omega
  obtain ⟨t2, a1, b1⟩ := kk x U.heap ([] ++ LL) ls trivial (hP.kept (fun k y hy => hkp y.1 ((hP k y hy).lt))) hD ⟨hsz, fun b hb9 _ => hkp b hb9, fun z hz => hF z.base (e2 z (by simpa using hz))⟩ hl (U.setVm vm') rfl (XU.noted hW')
  exact ⟨t2, hstep _ (caughtC XU x rfl hfd a1), b1⟩
end JHelp
