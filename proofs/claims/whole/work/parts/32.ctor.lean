/-! constructors: a world that grows -/
abbrev yG (D : va_G) (tys : List (ClassId × FieldType)) (ws : va_W) : Wx := (D, cls, tys, fun _ => ws)
abbrev Ux : Type := (Nat → Nat) × (Nat → ClassId) × St
def zA (n : Nat) : vp_A := (n, .inl (fun _ => 0))
def jPn (D : va_G) (h0 : Nat) (e0 : va_E) (Pex : State → Prop) (sz : Nat) : Array Value → State → Prop := va_Pc [.ref h0] (fun U => (U.heap.size = sz ∧ va_P D cls [(h0, e0)] U.heap ∧ va_K D cls [] U ∧ va_D (fun _ => True) [(h0, e0)]) ∧ Pex U)
def jBn (D : va_G) (wB : Ux → va_W) (tB : Ux → List (ClassId × FieldType)) (A : Nat → Prop) : Ux → State → Prop := fun u t => va_P D cls (wB u) t.heap ∧ va_K D cls (tB u) t ∧ va_D A (wB u)
def jMn (l : Launch) (t : Mt) (rm : Room) (D : va_G) (h0 : Nat) (e0 : va_E) (mc ms : Nat) (Pex : State → Prop) (post : Ux → Prop) (wB : Ux → va_W) (tB : Ux → List (ClassId × FieldType)) : Prop :=
  ∀ sz : Nat, Met l t.y (t.w :: TT) rm (jPn D h0 e0 Pex sz) (va_Qv post (jBn D wB tB (va_A [(h0, e0)] sz)) (va_A [(h0, e0)] sz)) mc ms (va_A [(h0, e0)] sz)
abbrev jQn (X : Cx) (D : va_G) (A : Nat → Prop) (mc ms : Nat) (post : Ux → Prop) (wB : Ux → va_W) (tB : Ux → List (ClassId × FieldType)) : State → Prop := MQ X.below (va_Qv post (jBn D wB tB A) A) X.args X.s mc ms A
theorem jMn_of {l : Launch} {t : Mt} {rm : Room} {D : va_G} {h0 : Nat} {e0 : va_E} {mc ms : Nat} {Pex : State → Prop} {post : Ux → Prop} {wB : Ux → va_W} {tB : Ux → List (ClassId × FieldType)} (hy : plainName t.y.cls = true) (hn : 1 ≤ t.n) (hnm : t.y.name = "<init>")
    (body : ∀ (X : Cx) (A : Nat → Prop), jX X (yG D [] [(h0, e0)]) A t.b t.n t.y.cls (t.w :: TT) rm t.r → X.meth.name = "<init>" → Pex X.s → jW l X (yG D [] [(h0, e0)]) A t.n 0 0 kT (jQn X D A mc ms post wB tB) (fun _ => 0, fun _ _ => 0) 0 [(0, .ref h0)] []) : jMn l t rm D h0 e0 mc ms Pex post wB tB := by
  intro sz
  refine Met.ofW (cc := t.b) (maxL := t.n) (ret := t.r) hy rfl ?_
  intro p e s m args below meth c s₁ B hml hv
  obtain ⟨rfl, ⟨hsz, hP, hK, hD0⟩, hpx⟩ := hv
  have hts := atoms_spec (ws := t.w :: TT) B.pre
  have hown : s.vm.findClass t.y.cls = some m.cls := findClass_of_methodNamed B.named
  have hin : meth.name = "<init>" := (name_of_methodNamed B.named B.method).1.trans hnm
  subst hsz
  have hD := hD0.self (sz := s.heap.size)
  generalize hAe : va_A [(h0, e0)] s.heap.size = A at hD ⊢
  have hA : ∀ q : Nat, s.heap.size ≤ q → A q := fun q h => by rw [← hAe]; exact Or.inr h
  have hav : ∀ v ∈ [Value.ref h0], v.category = 1 := fun v hv => by rw [List.mem_singleton.mp hv]; rfl
  have hl := lv_entry [.ref h0] (n := t.n) (by rw [lg_len _ hav]; exact hn)
  rw [lg_entry_eq]
  exact body (p, e, rm, s, m, [Value.ref h0].toArray, below, meth, c) A ⟨B.exec, B.bytes, hml, hown, hts, hK, hA, rfl, B.returns, B.notSynchronized⟩ hin hpx s.heap [] _ trivial hP hD va_S.rf ⟨hl, lv_args_cat [.ref h0] 0 hav⟩
section JNew
variable {l : Launch} {X : Cx} {D : va_G} {tys : List (ClassId × FieldType)} {ws : va_W} {Y : Wx} {A : Nat → Prop} {cc : ByteArray} {nL : Nat} {own : String} {Ts : List Cond} {w0 : Cond} {R : Room} {ret : Option FieldType} {cells slots : Nat} {K : Heap → List Loc → Prop} {Q : State → Prop} {σ : St} {pc : Nat} {L : Lv} {rest : List Value}
theorem jx_objInit (h : jX X Y A cc nL own Ts R ret) {idx : Nat} (hw : Cond.methodLink own idx Lib.objectInit ∈ Ts ∧ Cond.instanceMethod Lib.objectInit ∈ Ts ∧ Cond.code Lib.objectInit ⟨#[0xb1]⟩ 1 none ∈ Ts) {a : Nat} (hd : decode cc pc = .ok (.invokespecial idx, 3)) (hR : 1 ≤ R.frames ∧ (rest.map fun v => v.category).sum + 12 ≤ R.locals)
    (kk : jW l X Y A nL cells slots K Q σ (pc + 3) L rest) : jW l X Y A nL cells slots K Q σ pc L (.ref a :: rest) := by
  intro H locs ls hk hP hD hS hl
  obtain ⟨hx, hb, hml, hown, hts, hK, hA, hRR, hret, hlk⟩ := h
  subst hRR
  refine W.objInit hx hb hown (hts _ hw.1) (hts _ hw.2.1) (hts _ hw.2.2) rfl (by rw [hml]; exact hl.1.1) rfl hd hR.1 (by show 2 * 0 + _ + 12 ≤ _; omega) ?_
  exact kk H locs ls hk hP hD hS hl
theorem jx_newa (h : jX X (yG D tys ws) A cc nL own Ts R ret) {atype : ArrayType} {ty : FieldType} (harr : Cond.arrayClass (newarray.typeOf atype) ∈ Ts) (hty : newarray.typeOf atype = ty) (hdv : defaultValue ty = .int 0) {n : Int32} (N : Nat) (hn : ¬ n < 0) (hN : n.toNatClampNeg = N) (hb4 : N * componentBytes ty ≤ 536870912) (hcells : cells + 1 ≤ R.cells) (hslots : slots + N ≤ R.slots) (hd : decode cc pc = .ok (.newarray atype, 2))
    (kk : ∀ (q : Nat) (cA : ClassId), jX X (yG D (tys ++ [(cA, ty)]) (ws ++ [(q, .inl (cA, zA N))])) A cc nL own Ts R ret → jW l X (yG D (tys ++ [(cA, ty)]) (ws ++ [(q, .inl (cA, zA N))])) A nL (cells + 1) (slots + N) kT Q σ (pc + 2) L (.ref q :: rest)) : jW l X (yG D tys ws) A nL cells slots K Q σ pc L (.int n :: rest) := by
  intro H locs ls hk hP hD hS hl
  obtain ⟨hx, hb, hml, hown, hts, hK, hA, hRR, hret, hlk⟩ := h
  subst hRR
  refine va_newa (a0 := zA N) (ty := ty) hx hb (hts _ harr) hty hK hP hD hS hA (fun cA => by rw [hdv]; rfl) hn hN hb4 hcells hslots hd (fun q cA H1 hK1 hP1 hD1 hS1 => ?_)
  exact kk q cA ⟨hx, hb, hml, hown, hts, hK1, hA, rfl, hret, hlk⟩ H1 locs ls trivial hP1 hD1 hS1 hl
theorem jx_putR (h : jX X (yG D tys ws) A cc nL own Ts R ret) (hin : X.meth.name = "<init>") {T : u_T} {N ci index a q0 : Nat} {ty0 : Nat → FieldType} {fs : List Value} {b : Nat} (hF : jF Ts own T N ty0) (he : ws[q0]? = some (a, .inr (ci, fs))) (hc : cls[ci]? = some (own, T, N)) (k : Nat) (hk : k < N)
    (hw : Cond.fieldLink own index own (T k).2.1 (T k).2.2.1 ∈ Ts) (hfin : (T k).2.2.2 = true) {ty : FieldType} (hi : parseFieldDescriptor (T k).2.2.1 = some ty) (hnw : narrow ty (.ref b) = .ref b) (hft : fits ty (.ref b) = true) (hl0 : k < fs.length) {ws' : va_W} (hs : ws.set q0 (a, .inr (ci, fs.set k (.ref b))) = ws') (hd : decode cc pc = .ok (.putfield index, 3))
    (kk : jX X (yG D tys ws') A cc nL own Ts R ret → jW l X (yG D tys ws') A nL cells slots kT Q σ (pc + 3) L rest) : jW l X (yG D tys ws) A nL cells slots K Q σ pc L (.ref b :: .ref a :: rest) := by
  intro H locs ls hk9 hP hD hS hl
  subst hs
  refine va_putF (ref := own) (v := .ref b) h.1 h.2.1 h.2.2.2.2.1 hF.1 ty0 hF.2.1 hF.2.2.1 h.2.2.2.1 h.2.2.2.2.2.1 hP hD hS q0 he hc k hk (h.2.2.2.2.1 _ hw) (fun x hx => ?_) hfin hin (hF.2.2.2 k hk) hi hnw hft hl0 hd (fun H1 locs1 hP1 hD1 hS1 => ?_)
  · rw [hF.2.2.2 k hk] at hx
    exact hx
  · exact kk h H1 locs1 ls trivial hP1 hD1 hS1 hl
theorem jx_newo (h : jX X (yG D tys ws) A cc nL own Ts R ret) {C : String} {T : u_T} {N ci index : Nat} {ty0 : Nat → FieldType} {fs : List Value} (hF : jF Ts C T N ty0) (hc : cls[ci]? = some (C, T, N)) (hw : Cond.classLink own index C ∈ Ts ∧ Cond.instantiable C N ∈ Ts ∧ Cond.initialized C ∈ Ts) (hfs : ∀ j, j < N → defaultValue (ty0 j) = vp_V fs j) (hcells : cells + 1 ≤ R.cells) (hslots : slots + N ≤ R.slots) (hd : decode cc pc = .ok (.new index, 3))
    (kk : ∀ (q : Nat), jX X (yG D tys (ws ++ [(q, .inr (ci, fs))])) A cc nL own Ts R ret → jW l X (yG D tys (ws ++ [(q, .inr (ci, fs))])) A nL (cells + 1) (slots + N) kT Q σ (pc + 3) L (.ref q :: rest)) : jW l X (yG D tys ws) A nL cells slots K Q σ pc L rest := by
  intro H locs ls hk hP hD hS hl
  have h0 := h
  obtain ⟨hx, hb, hml, hown, hts, hK, hA, hRR, hret, hlk⟩ := h
  subst hRR
  refine va_new (ci := ci) (fs := fs) hx hb hts hF.1 ty0 hF.2.1 hown (hts _ hw.1) (hts _ hw.2.1) (hts _ hw.2.2) hK hP hD hS hA hc hfs hcells hslots hd (fun q H1 hP1 hD1 hS1 => ?_)
  exact kk q h0 H1 locs ls trivial hP1 hD1 hS1 hl
theorem jPn_blind (D : va_G) (h0 : Nat) (e0 : va_E) {Pex : State → Prop} (hpx : ∀ (U V : State), U.vm = V.vm → Pex U → Pex V) (sz : Nat) : FrameBlind (jPn D h0 e0 Pex sz) := by
  intro a U g mk q
  obtain ⟨q0, ⟨q1, qP, qK, qD⟩, q9⟩ := q
  exact ⟨q0, ⟨q1, qP, va_K.moved (u := U) (U := U.calling g mk a) (Vm.Alike.refl U.vm) qK, qD⟩, hpx U (U.calling g mk a) rfl q9⟩
/-- what a call of a constructor of the nest asks of the tables -/
def jcN (own : String) (index : Nat) (t : Mt) : Prop := t.w ∈ TT ∧ Cond.initialized t.y.cls ∈ TT ∧ Cond.instanceMethod t.y ∈ TT ∧ t.y.name = "<init>" ∧
    t.y.cls ≠ "java/lang/invoke/MethodHandle" ∧ t.y.cls ≠ "java/lang/invoke/VarHandle" ∧ (parseMethodDescriptor t.y.desc).map (fun d => d.parameters.length) = some 0
theorem TT_goodIn {w0 : Cond} {t : Mt} (h : t.w ∈ TT) : GoodIn (w0 :: TT) (t.w :: TT) := by
  intro w hw
  have hm : w ∈ TT := by
    rcases List.mem_cons.mp hw with rfl | hw
    · exact h
    · exact hw
  exact ⟨List.mem_cons_of_mem _ hm, good_of_word (TT_good w hm)⟩
theorem jx_ctorN (h : jX X (yG D tys ws) A cc nL own (w0 :: TT) R ret) {t : Mt} (ht : t.r = none) {index : Nat} {host : String} (g : jcN own index t) (hnw : va_Nw (.methodLinkNest own index t.y host) X.s) {rm : Room} {q mc ms : Nat} {e0 : va_E} {post : Ux → Prop} {wB : Ux → va_W} {tB : Ux → List (ClassId × FieldType)}
    (hM : jMn l t rm D q e0 mc ms (fun _ => True) post wB tB) (isC isR : List Nat) {wr : va_W} (hC : isC.map (fun i => ws[i]?) = [(q, e0)].map some) (hR' : isR.map (fun i => ws[i]?) = wr.map some) (hn : va_nd isR = true) (hdis : ∀ i ∈ isR, i ∉ isC)
    (hrm : rm.cells = mc ∧ rm.slots = ms ∧ rm.frames + 1 ≤ R.frames ∧ 8 + (t.n + 11) + rm.locals ≤ R.locals) (hcat : (rest.map fun v => v.category).sum ≤ 8) (hcs : cells + mc ≤ R.cells ∧ slots + ms ≤ R.slots) (hd : decode cc pc = .ok (.invokespecial index, 3))
    (kk : ∀ (u : Ux), post u → jX X (yG D (tys ++ tB u) (wr ++ wB u)) A cc nL own (w0 :: TT) R ret → jW l X (yG D (tys ++ tB u) (wr ++ wB u)) A nL (cells + mc) (slots + ms) kT Q σ (pc + 3) L rest) : jW l X (yG D tys ws) A nL cells slots K Q σ pc L (.ref q :: rest) := by
  intro H locs ls hk9 hP hD hS hl
  obtain ⟨hx, hb, hml, hown, hts, hK, hA, hRR, hret, hlk⟩ := h
  subst hRR
  obtain ⟨y, b, n, r⟩ := t
  have ht : r = none := ht
  subst ht
  have hPc : va_P D cls [(q, e0)] H := hP.sub (ws' := [(q, e0)]) isC (by
    have e : isC.filterMap (fun i => ws[i]?) = ((isC.map (fun i => ws[i]?)).filterMap id) := by rw [List.filterMap_map]; rfl
    rw [e, hC]; rfl)
  have hFc := va_free (wc := [(q, e0)]) hD hS hA isC hC
  have hDc : va_D (fun _ => True) [(q, e0)] := ⟨fun i j a b ha hb _ => by
    have h1 : i < 1 := (List.getElem?_eq_some_iff.mp ha).1
    have h2 : j < 1 := (List.getElem?_eq_some_iff.mp hb).1
    omega, fun _ _ _ => trivial⟩
  have hKc : va_K D cls [] X.s := hK.sub (tys' := []) [] rfl
  refine va_callv (va_runIN (As := []) (rest := rest) ⟨hx, hb, hml, hown, hts⟩ (hM H.size) ⟨va_cnB 0 hts (TT_goodIn g.1) rfl hrm.1 hrm.2.1 hnw (hts _ (List.mem_cons_of_mem _ g.2.1)) ⟨g.2.2.2.2.1, g.2.2.2.2.2.1, g.2.2.2.2.2.2⟩ ⟨hrm.2.2.1, hrm.2.2.2⟩, g.2.2.2.1, hts _ (List.mem_cons_of_mem _ g.2.2.1)⟩
    ⟨jPn_blind D q e0 (fun _ _ _ h => h) _, fun U hU hW => ⟨rfl, ⟨by rw [hU], by rw [hU]; exact hPc, va_K.moved hW.alike hKc, hDc⟩, trivial⟩⟩ rfl rfl hl.1.1 rfl (lv_room hcat) hd hcs) hS (fun q _ h => hFc q h) hFc (fun u t H1 locs1 ht hvm hp hB hz1 hk1 hS1 => ?_)
  obtain ⟨hP1, hK1, hD1⟩ := hB
  rw [ht] at hP1
  have hK1 := va_K.moved hvm.symm hK1
  obtain ⟨hP2, hD2⟩ := va_join hP hD isC isR hC hR' hn hdis hk1 hFc hP1 hD1
  exact kk u hp ⟨hx, hb, hml, hown, hts, hK.app hK1, hA, rfl, hret, hlk⟩ H1 locs1 ls trivial hP2 hD2 hS1 hl
theorem jx_vretN {post : Ux → Prop} {wB : Ux → va_W} {tB : Ux → List (ClassId × FieldType)} (h : jX X Y A cc nL own Ts R none) (hd : decode cc pc = .ok (.return_, 1)) (hYD : Y.D = D) (hYc : Y.cl = cls) (u : Ux) (hp : post u) (is : List Nat) (hn : va_nd is = true) (hw : is.map (fun i => (Y.sh σ)[i]?) = (wB u).map some) (js : List Nat) (hk : js.filterMap (fun i => Y.tys[i]?) = tB u) : jW l X Y A nL cells slots K (jQn X D A cells slots post wB tB) σ pc L [] := by
  intro H locs ls hk9 hP hD hS hl
  obtain ⟨hx, hb, hml, hown, hts, hK, hA, hRR, hret, hlk⟩ := h
  subst hYD
  rw [hYc] at hP hK
  have hP9 := hP.sub (ws' := wB u) is (by
    have e : is.filterMap (fun i => (Y.sh σ)[i]?) = ((is.map (fun i => (Y.sh σ)[i]?)).filterMap id) := by rw [List.filterMap_map]; rfl
    rw [e, hw, List.filterMap_map]
    exact List.filterMap_some)
  have hD9 := hD.sub (ws' := wB u) is hn hw
  have hK9 := hK.sub (tys' := tB u) js hk
  exact W.vret hx hb hret (fun t ht hW => ⟨⟨u, rfl, hp, by rw [ht]; exact hP9, va_K.moved hW.alike hK9, hD9⟩, hS.F ht⟩) hS.2.2 hd hlk
end JNew
