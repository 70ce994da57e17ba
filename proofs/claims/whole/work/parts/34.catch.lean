/-! a call of a method that throws, in a method with a handler: the handler's class may be new in the pool -/
theorem go_cold {Q : Handler → Pre} {E : CtlPost} {e : Env} {d : Bool} {acts : List Action} {s : State} {f : JFrame} {a : Addr} {x : ExceptionTableEntry} {t : List ExceptionTableEntry} {c : ClassId} {cell : Cell} {vm' : Vm} (hx : covers x f.pc = true) (h0 : x.catchType ≠ 0)
    (hg : (Jvm.resolveClass f.method.cls x.catchType).Gives e.toSetting s.vm (.ok c) vm') (hsz : vm'.classes.size ≤ s.vm.classes.size) (hcell : s.heap[a]? = some cell) (hobj : ∀ k, cell.vm ≠ .statics k)
    (hk : ∃ k, vm'.classes[cell.cls]? = some k) (hc : ∃ k, vm'.classes[c]? = some k) :
    wp (findHandler.go f a (x :: t)) Q E e d acts s ↔ if vm'.assignable cell.cls c = true then Q (.found x.handlerPc) d acts (s.setVm vm') else wp (findHandler.go f a t) Q E e d acts (s.setVm vm') := by
  simp only [covers] at hx
  obtain ⟨ha, ht⟩ := hg.op (op := VmOp.resolveClass f.method.cls x.catchType) rfl
  have hcell' : (s.setVm vm').heap[a]? = some cell := hcell
  cases hfit : vm'.assignable cell.cls c <;>
    simp [findHandler.go, hx, h0, ha, ht, hsz, hcell, hcell', hobj, hk, hc, hfit, VmOp.dirties, VmOp.acts]
section Caught
variable {p : Program} {l : Launch} {e : Env} {R : Room} {s : State} {m : MethodId} {args : Array Value} {below : List Frame} {meth : Method} {c : Code} {T : State} {locs : List Loc} {cells slots : Nat}
theorem st_catchC {s : State} {a : Addr} {f : JFrame} {r : List Frame} {pc : Nat} {vm' : Vm} (hfind : ∀ (Q : Handler → Pre) (E : CtlPost) (d : Bool) (acts : List Action), wp (findHandler f a) Q E e d acts s ↔ Q (.found pc) d acts (s.setVm vm')) :
    (stepThrowing e s a (.java f :: r)).1 = (s.setVm vm').setFrames (.java { f with pc := pc, stack := [.ref a] } :: r) := by
  simp only [stepThrowing, searchFrame, vmDo]
  generalize hr : Sem.go _ e false [] s = res
  obtain ⟨as, rfl, ha⟩ := Sem.eq_ok_of hr (a := Handler.found pc) (s' := s.setVm vm') (acts' := []) (by simp [hfind _ _ _ _])
  rfl
theorem caughtC (X : Stand p l e R s m args below meth c T locs cells slots) (a : Addr) {g : JFrame} (hg : g.method = m) {pc : Nat} {vm' : Vm}
    (hfind : ∀ (Q : Handler → Pre) (E : CtlPost) (d : Bool) (acts : List Action), wp (findHandler g a) Q E e d acts ((T.setTop g).pushFrame (.throwing a)) ↔ Q (.found pc) d acts (((T.setTop g).pushFrame (.throwing a)).setVm vm')) {target : State}
    (hrest : Steps p.tables e below ((T.setVm vm').setTop { g with pc := pc, stack := [.ref a] }) target) :
    Steps p.tables e below ((T.setTop g).pushFrame (.throwing a)) target := by
  have h : At T g.method c below := by rw [hg]; exact X.here
  obtain ⟨hgo, hw⟩ := h.throwing a
  refine Steps.head hgo hw ?_
  rw [stepThread_throwing (frames_entered h.top _), st_catchC hfind]
  obtain ⟨g₀, hg0⟩ := Option.isSome_iff_exists.mp h.top
  obtain ⟨r, hr⟩ := State.topJava?_eq_some.mp hg0
  have hr' : (T.setVm vm').frames = .java g₀ :: r := hr
  rw [State.setTop_of_frames _ hr'] at hrest
  have e1 : (((T.setTop g).pushFrame (.throwing a)).setVm vm') = (T.setVm vm').setFrames (.throwing a :: .java g :: r) := by
    rw [State.pushFrame, State.setTop_of_frames _ hr, State.setFrames_setFrames]
    rw [State.frames_setFrames _ (State.cur_lt_of_frames hr)]
    rfl
  rw [e1, State.setFrames_setFrames, hr]
  exact hrest
end Caught
theorem not_cast {A B : String} {args : Array Value} {s : State} (h : (Cond.not (.castable A B)).before args s = true) {a b : ClassId} (ha : s.vm.findClass A = some a) (hb : s.vm.findClass B = some b) : s.vm.assignable a b = false := by
  cases hx : s.vm.assignable a b with
  | false => rfl
  | true =>
    simp [Cond.before, Cond.holds, Cond.value, ha, hb, hx] at h
section Finds
variable {p : Program} {l : Launch} {e : Env} {R : Room} {s : State} {m : MethodId} {args : Array Value} {below : List Frame} {meth : Method} {c : Code} {T : State} {locs : List Loc} {cells slots : Nat}
theorem finds_1 (X : Stand p l e R s m args below meth c T locs cells slots) (a : Addr) {g : JFrame} (hg : g.method = m) {own C : String} (hown : s.vm.findClass own = some m.cls) {x : ExceptionTableEntry} {rest : List ExceptionTableEntry} (htab : c.exceptionTable.toList = x :: rest) (hx : covers x g.pc = true) (h0 : x.catchType ≠ 0)
    (hlink : (Cond.classLink own x.catchType C).before args s = true) {cell : Cell} (hcell : T.heap[a]? = some cell) (hobj : cell.vm.isStatics = false) (hcls : s.vm.findClass C = some cell.cls) {aa : Array Value} (hcast : (Cond.castable C C).before aa s = true) (hk : ∃ k, s.vm.classes[cell.cls]? = some k) :
    ∃ vm' : Vm, s.WarmedH vm' ∧ ∀ (Q : Handler → Pre) (E : CtlPost) (d : Bool) (acts : List Action), wp (findHandler g a) Q E e d acts ((T.setTop g).pushFrame (.throwing a)) ↔ Q (.found x.handlerPc) d acts (((T.setTop g).pushFrame (.throwing a)).setVm vm') := by
  have hpl : e.platform.magicAccessors = ({} : Platform).magicAccessors := by rw [X.admits.platform]
  obtain ⟨cc, hfcc, hcl⟩ := Cond.classLink_spec hown hlink e.platform hpl
  cases hcls.symm.trans hfcc
  obtain ⟨c3, t3, w1, w2, w3⟩ := Cond.castable_spec hcast
  cases hcls.symm.trans w1
  cases hcls.symm.trans w2
  obtain ⟨hg₁, hwarm₁, hready₁⟩ := State.classEntry (e := e) X.warmed hcl
  have hsz : (T.vm.noted m.cls x.catchType (.cls cell.cls)).classes.size ≤ T.vm.classes.size := by no_record
  generalize T.vm.noted m.cls x.catchType (.cls cell.cls) = vm₁ at hg₁ hwarm₁ hready₁ hsz
  obtain ⟨k, hk⟩ := hk
  obtain ⟨k', hk', -⟩ := hwarm₁.alike.2.2 _ _ hk
  refine ⟨vm₁, hwarm₁, fun Q E d acts => ?_⟩
  have hv : ((T.setTop g).pushFrame (.throwing a)).vm = T.vm := Stand.throwing_vm T g a
  have hh : ((T.setTop g).pushFrame (.throwing a)).heap = T.heap := Stand.throwing_heap T g a
  rw [W.findHandler_eq (meth := meth) (code := c) (by rw [hv, hg]; exact X.method') X.code, htab, go_cold hx h0 (by rw [hv, hg]; exact hg₁) (by rw [hv]; exact hsz) (by rw [hh]; exact hcell) (VmData.ne_statics_of hobj) ⟨k', hk'⟩ ⟨k', hk'⟩, if_pos (by rw [hwarm₁.alike.assignable]; exact w3)]
theorem finds_2 (X : Stand p l e R s m args below meth c T locs cells slots) (a : Addr) {g : JFrame} (hg : g.method = m) {own C C1 : String} (hown : s.vm.findClass own = some m.cls) {x1 x : ExceptionTableEntry} {rest : List ExceptionTableEntry} (htab : c.exceptionTable.toList = x1 :: x :: rest) (hx1 : covers x1 g.pc = true) (h01 : x1.catchType ≠ 0) (hx : covers x g.pc = true) (h0 : x.catchType ≠ 0)
    (hlink1 : (Cond.classLink own x1.catchType C1).before args s = true) (hlink : (Cond.classLink own x.catchType C).before args s = true) {cell : Cell} (hcell : T.heap[a]? = some cell) (hobj : cell.vm.isStatics = false) (hcls : s.vm.findClass C = some cell.cls) {aa : Array Value} (hcast : (Cond.castable C C).before aa s = true) {ab : Array Value} (hnot : (Cond.not (.castable C C1)).before ab s = true) (hk : ∃ k, s.vm.classes[cell.cls]? = some k)
    (hk1 : ∃ (c1 : ClassId) (k : Class), s.vm.findClass C1 = some c1 ∧ s.vm.classes[c1]? = some k) :
    ∃ vm' : Vm, s.WarmedH vm' ∧ ∀ (Q : Handler → Pre) (E : CtlPost) (d : Bool) (acts : List Action), wp (findHandler g a) Q E e d acts ((T.setTop g).pushFrame (.throwing a)) ↔ Q (.found x.handlerPc) d acts (((T.setTop g).pushFrame (.throwing a)).setVm vm') := by
  have hpl : e.platform.magicAccessors = ({} : Platform).magicAccessors := by rw [X.admits.platform]
  obtain ⟨c1, hf1, hcl1⟩ := Cond.classLink_spec hown hlink1 e.platform hpl
  obtain ⟨c1', k1, hf1', hk1⟩ := hk1
  cases hf1.symm.trans hf1'
  obtain ⟨cc, hfcc, hcl⟩ := Cond.classLink_spec hown hlink e.platform hpl
  cases hcls.symm.trans hfcc
  obtain ⟨c3, t3, w1, w2, w3⟩ := Cond.castable_spec hcast
  cases hcls.symm.trans w1
  cases hcls.symm.trans w2
  have hno := not_cast hnot hcls hf1
  obtain ⟨hg₁, hwarm₁, hready₁⟩ := State.classEntry (e := e) X.warmed hcl1
  have hsz1 : (T.vm.noted m.cls x1.catchType (.cls c1)).classes.size ≤ T.vm.classes.size := by no_record
  generalize T.vm.noted m.cls x1.catchType (.cls c1) = vm₁ at hg₁ hwarm₁ hready₁ hsz1
  obtain ⟨hg₂, hwarm₂, hready₂⟩ := State.classEntry (e := e) hwarm₁ hcl
  have hsz2 : (vm₁.noted m.cls x.catchType (.cls cell.cls)).classes.size ≤ vm₁.classes.size := by no_record
  generalize vm₁.noted m.cls x.catchType (.cls cell.cls) = vm₂ at hg₂ hwarm₂ hready₂ hsz2
  obtain ⟨k, hk⟩ := hk
  obtain ⟨ka, hka, -⟩ := hwarm₁.alike.2.2 _ _ hk
  obtain ⟨kb, hkb, -⟩ := hwarm₁.alike.2.2 _ _ hk1
  obtain ⟨k', hk', -⟩ := hwarm₂.alike.2.2 _ _ hk
  refine ⟨vm₂, hwarm₂, fun Q E d acts => ?_⟩
  have hv : ((T.setTop g).pushFrame (.throwing a)).vm = T.vm := Stand.throwing_vm T g a
  have hh : ((T.setTop g).pushFrame (.throwing a)).heap = T.heap := Stand.throwing_heap T g a
  rw [W.findHandler_eq (meth := meth) (code := c) (by rw [hv, hg]; exact X.method') X.code, htab, go_cold hx1 h01 (by rw [hv, hg]; exact hg₁) (by rw [hv]; exact hsz1) (by rw [hh]; exact hcell) (VmData.ne_statics_of hobj) ⟨ka, hka⟩ ⟨kb, hkb⟩, if_neg (by rw [hwarm₁.alike.assignable, hno]; decide),
    go_cold hx h0 (s := ((T.setTop g).pushFrame (.throwing a)).setVm vm₁) (vm' := vm₂) (c := cell.cls) (by rw [hg]; exact hg₂) hsz2 (cell := cell) (by show ((T.setTop g).pushFrame (.throwing a)).heap[a]? = _; rw [hh]; exact hcell) (VmData.ne_statics_of hobj) ⟨k', hk'⟩ ⟨k', hk'⟩, if_pos (by rw [hwarm₂.alike.assignable]; exact w3)]
  rfl
end Finds
