/-! the law: its world of the class, the reference and the long; its calls -/
abbrev yL (D : va_G) (ad : Nat → Nat) (ac : Nat → ClassId) (bd : Nat → Nat) (bc : Nat → ClassId) (o : Nat) (cO : ClassId) (τ : St) (gg : Nat → Int64) : Wx := (D, cls, (yC D ad ac).tys ++ (yM D bd bc).tys ++ [(cO, .long)], fun σ => (yC D ad ac).sh σ ++ (yM D bd bc).sh τ ++ [(o, .inl (cO, (1, .inr (.inl gg))))])
theorem jPh_blind (Y : Wx) (av : List Value) (σ : St) (sz : Nat) : FrameBlind (jPh Y av σ sz) := by
  intro a U g mk q
  obtain ⟨q0, ⟨⟨q1, qP, qK, qD⟩, q9⟩, q8⟩ := q
  exact ⟨q0, ⟨⟨q1, qP, va_K.moved (u := U) (U := U.calling g mk a) (Vm.Alike.refl U.vm) qK, qD⟩, oxW.move (U := U.calling g mk a) q9 (State.WarmedH.refl U) (fun _ _ _ => rfl) (fun _ h => h)⟩, nCast.move (U := U.calling g mk a) q8 (State.WarmedH.refl U)⟩
theorem callSW {p : Program} {l : Launch} {e : Env} {R : Room} {s : State} {m : MethodId} {args : Array Value} {below : List Frame} {meth : Method} {c : Code} {T : State} {locs : List Loc} {cells slots : Nat} (X : Stand p l e R s m args below meth c T locs cells slots) (hexec : p.tables.exec = Jvm.exec) {own : String} {index : Nat} {y : MethodName} {bytes : ByteArray} {maxL : Nat} {ret : Option FieldType} {hh : List (Nat × Nat × Nat × Nat)}
    (hown : s.vm.findClass own = some m.cls) (hlink : (Cond.methodLink own index y).before args s = true) (hstat : (Cond.static y).before args s = true) (hinit : (Cond.initialized y.cls).before args s = true)
    (hcode : (Cond.codeWith y bytes maxL ret hh).before args s = true) (hy : y.cls ≠ "java/lang/invoke/MethodHandle" ∧ y.cls ≠ "java/lang/invoke/VarHandle")
    {W : Nat} {Pre : Pt → Array Value → Prop} {Post : Pt → Array Value → Option Value → Pt → Prop} (hK : Back l R p e below s args y 3 W Pre Post)
    {g : JFrame} (hg : g.method = m) (hsize : g.locals.size = c.maxLocals) {argsL rest : List Value} (hlen : ∀ sig, parseMethodDescriptor y.desc = some sig → argsL.length = sig.parameters.length)
    (hstack : g.stack = argsL.reverse ++ rest) (hW : 2 * g.monitorRoom + (rest.map fun v => v.category).sum ≤ W) (hdg : decode c.code g.pc = .ok (.invokestatic index, 3))
    (hpre : ∀ vm₁, s.WarmedH vm₁ → Pre ⟨T.setVm vm₁, locs, cells, slots⟩ argsL.toArray) :
    ∃ (v : Option Value) (vm₁ : Vm) (B : Pt), s.WarmedH vm₁ ∧ Stand p l e R s m args below meth c B.U B.locs B.cells B.slots ∧ Post ⟨T.setVm vm₁, locs, cells, slots⟩ argsL.toArray v B ∧
      ∀ target, Steps p.tables e below (B.U.setTop { g with pc := g.pc + 3, stack := v.toList ++ rest }) target → Steps p.tables e below (T.setTop g) target := by
  obtain ⟨mk, methM, cM, hnamed, hmethM, -, -, -, -, -, -, hsigM⟩ := Cond.codeWith_spec hcode
  have hstatic : methM.isStatic = true := Cond.static_spec hnamed hmethM hstat
  obtain ⟨kP, hkP, -⟩ := className_of_methodNamed hnamed
  have hinitP : kP.init = .initialized := Cond.initialized_spec (findClass_of_methodNamed hnamed) hkP hinit
  obtain ⟨vm₁, X₁, hstep₁⟩ := X.invokestatic hexec hown hlink hnamed hmethM hstatic hkP hinitP hy (g := g) hg (argsL := argsL) (rest := rest) (hlen _ hsigM) hstack hdg
  obtain ⟨v, B, X', hpost, hsteps⟩ := hK m meth c ⟨T.setVm vm₁, locs, cells, slots⟩ { g with stack := rest } (.invokestatic index) mk argsL.toArray X₁ hg hsize hdg hW (X₁.named hnamed) (hpre vm₁ X₁.warmed)
  exact ⟨v, vm₁, B, X₁.warmed, X', hpost, fun target h => hstep₁ _ fun acts => by rw [doInvoke_state]; exact hsteps.trans h⟩
def jcSW (own : String) (index : Nat) (t : Mt) (hh : List (Nat × Nat × Nat × Nat)) (n : Nat) : Prop := wH t hh ∈ TT ∧ Cond.methodLink own index t.y ∈ TT ∧ Cond.static t.y ∈ TT ∧ Cond.initialized t.y.cls ∈ TT ∧
    t.y.cls ≠ "java/lang/invoke/MethodHandle" ∧ t.y.cls ≠ "java/lang/invoke/VarHandle" ∧ (parseMethodDescriptor t.y.desc).map (fun d => d.parameters.length) = some n
theorem wH_goodIn {w0 : Cond} {t : Mt} {hh : List (Nat × Nat × Nat × Nat)} (h : wH t hh ∈ TT) : GoodIn (w0 :: TT) (wH t hh :: TT) := by
  intro w hw
  have hm : w ∈ TT := by
    rcases List.mem_cons.mp hw with rfl | hw
    · exact h
    · exact hw
  exact ⟨List.mem_cons_of_mem _ hm, good_of_word (TT_good w hm)⟩
section JLaw
variable {l : Launch} {X : Cx} {Y : Wx} {D : va_G} {ad bd : Nat → Nat} {ac bc : Nat → ClassId} {o : Nat} {cO : ClassId} {τ : St} {gg : Nat → Int64} {A : Nat → Prop} {cc : ByteArray} {nL : Nat} {own : String} {w0 : Cond} {Ts : List Cond} {R : Room} {ret : Option FieldType} {cells slots : Nat} {K : Heap → List Loc → Prop} {Q : State → Prop} {σ : St} {pc : Nat} {L : Lv} {rest st As : List Value}
variable {t : Mt} {index n : Nat} {rm : Room}
set_option maxRecDepth 100000 in
set_option maxHeartbeats 4000000 in
theorem jx_callH {hh : List (Nat × Nat × Nat × Nat)} {vd : Bool} {q : Rs} (h : jX X (yL D ad ac bd bc o cO τ gg) A cc nL own (w0 :: TT) R ret) (ho : oxW X.s X.s.heap (fun _ => False)) (hnc : nCast X.s) (hAo : ∀ q, q < X.s.heap.size → ¬ A q) (g : jcSW own index t hh n) (hM : jMh l t hh D ad ac o cO gg rm As σ vd q)
    (hR : jRx rm t.n R) (hcs : cells + 1 ≤ R.cells ∧ slots + 6 ≤ R.slots) (hn : As.length = n) (hst : st = As.reverse ++ rest) (hcat : (rest.map fun v => v.category).sum ≤ 8) (hd : decode cc pc = .ok (.invokestatic index, 3))
    (kk : ∀ (u : Hs), psH vd q q.1 u → jX X (yL D ad ac bd bc o cO τ u.2) A cc nL own (w0 :: TT) R ret → jW l X (yL D ad ac bd bc o cO τ u.2) A nL (cells + 1) (slots + 6) kT Q u.1 (pc + 3) L (.int q.1 :: rest)) : jW l X (yL D ad ac bd bc o cO τ gg) A nL cells slots K Q σ pc L st := by
  intro H locs ls hk9 hP hD hS hl
  have h9 := h
  obtain ⟨hx, hb, hml, hown, hts, hK, hA, hRR, hret, hlk⟩ := h
  subst hRR
  have hPc : va_P D cls ((yH D ad ac o cO gg).sh σ) H := hP.sub (ws' := (yH D ad ac o cO gg).sh σ) (List.range 24 ++ [44]) rfl
  have hDc : va_D A ((yH D ad ac o cO gg).sh σ) := hD.sub (ws' := (yH D ad ac o cO gg).sh σ) (List.range 24 ++ [44]) (by decide) rfl
  have hKc : va_K D cls ((yH D ad ac o cO gg).tys) X.s := hK.sub (tys' := (yH D ad ac o cO gg).tys) (List.range 20 ++ [39]) rfl
  have hF := jA_in hDc hS hA
  have hw := pay_in hts (wH_goodIn (w0 := w0) g.1)
  have hBk : Back l X.R X.p X.e X.below X.s X.args t.y 3 8 (PreOf X.R 1 6 (jPh (yH D ad ac o cO gg) As σ H.size)) (PostOf (va_Qi (psH vd q) (jBh D ad ac o cO (va_A ((yH D ad ac o cO gg).sh σ) H.size)) (va_A ((yH D ad ac o cO gg).sh σ) H.size)) 1 6 (va_A ((yH D ad ac o cO gg).sh σ) H.size)) :=
    va_backW (hh := hh) (hM H.size) (jPh_blind _ _ _ _) hR.1 hR.2.1 hR.2.2.1 hR.2.2.2 hw List.mem_cons_self (hw _ (List.mem_cons_of_mem _ g.2.2.2.1))
  have hrun : va_Run X.p l X.e X.R X.s X.m X.args X.below X.meth X.c H locs cells slots 1 6 (F0 X.m pc ls st) rest (va_Qi (psH vd q) (jBh D ad ac o cO (va_A ((yH D ad ac o cO gg).sh σ) H.size)) (va_A ((yH D ad ac o cO gg).sh σ) H.size) As.toArray) (va_A ((yH D ad ac o cO gg).sh σ) H.size) := by
    intro T hT XS
    obtain ⟨v, vm₁, ⟨U', l2, c2, s2⟩, hW₁, X', ⟨g', mk, t', LL, e1, e2, hq, h1, hL, h2, h3⟩, stp⟩ := callSW XS hx (bytes := t.b) (maxL := t.n) (ret := t.r) (hh := hh) hown (hts _ (List.mem_cons_of_mem _ g.2.1)) (hts _ (List.mem_cons_of_mem _ g.2.2.1)) (hts _ (List.mem_cons_of_mem _ g.2.2.2.1)) (hts _ (List.mem_cons_of_mem _ g.1)) ⟨g.2.2.2.2.1, g.2.2.2.2.2.1⟩ hBk (g := F0 X.m pc ls st) rfl (hl.1.1.trans hml.symm) (argsL := As) (rest := rest)
      (fun sig hs => by have h2 := g.2.2.2.2.2.2; rw [hs] at h2; exact hn.trans (Option.some.inj h2).symm) hst (lv_room hcat) (by rw [hb]; exact hd)
      (fun vm₁ hW => ⟨hcs.1, hcs.2, rfl, ⟨⟨by show T.heap.size = _; rw [hT], by show va_P _ _ _ T.heap; rw [hT]; exact hPc, va_K.moved hW.alike hKc, hDc.weaken (fun _ _ _ _ => trivial)⟩, ho.move (U := T.setVm vm₁) hW (fun a ha _ => by show T.heap[a]? = _; rw [hT]; exact hS.2.1 a ha (hAo a ha)) (fun _ h => h)⟩, hnc.move (U := T.setVm vm₁) hW⟩)
    dsimp only [Pt.U, Pt.locs, Pt.cells, Pt.slots] at X' e1 e2 h1 h2 h3 stp
    subst h1; subst h2; subst h3
    exact ⟨v, (T.setVm vm₁).calling g' mk As.toArray, t', U', LL, hT, X', hL, e1, e2, hq, stp⟩
  refine va_calli (mc := 1) (ms := 6) hrun hS (fun q _ hq => hF q hq) hF ?_
  intro r u t' H1 locs1 ht hvm hp hB hz hk hS1
  have hr := hp.1
  subst hr
  obtain ⟨hP1, hK1, hD1⟩ := hB
  rw [ht] at hP1
  obtain ⟨hP2, hD2⟩ := va_join (wr := (yM D bd bc).sh τ) (w1 := (yH D ad ac o cO u.2).sh u.1) hP hD (List.range 24 ++ [44]) ((List.range 20).map (· + 24)) rfl rfl (by decide) (by decide) hk hF hP1 hD1
  exact kk u hp h9 H1 locs1 ls trivial (hP2.sub (ws' := (yL D ad ac bd bc o cO τ u.2).sh u.1) ((List.range 24).map (· + 20) ++ List.range 20 ++ [44]) rfl) (hD2.sub (ws' := (yL D ad ac bd bc o cO τ u.2).sh u.1) ((List.range 24).map (· + 20) ++ List.range 20 ++ [44]) (by decide) rfl) hS1 hl
set_option maxRecDepth 100000 in
set_option maxHeartbeats 4000000 in
theorem jx_cMi {post : Int32 → St → Prop} (h : jX X (yL D ad ac bd bc o cO τ gg) A cc nL own (w0 :: TT) R ret) (g : jcV TT own index t n) (hcl : t.y.cls = RM) (hM : jMi l (yM D bd bc) t TT rm (.ref (bd 19) :: As) τ post) (hR : jRm rm t.n R) (hcs : cells ≤ R.cells ∧ slots ≤ R.slots) (hn : As.length = n) (hst : st = As.reverse ++ .ref (bd 19) :: rest) (hcat : (rest.map fun v => v.category).sum ≤ 8) (hd : decode cc pc = .ok (.invokevirtual index, 3))
    (kk : ∀ (r : Int32) (u : St), post r u → jX X (yL D ad ac bd bc o cO u gg) A cc nL own (w0 :: TT) R ret → jW l X (yL D ad ac bd bc o cO u gg) A nL cells slots kT Q σ (pc + 3) L (.int r :: rest)) : jW l X (yL D ad ac bd bc o cO τ gg) A nL cells slots K Q σ pc L st := by
  intro H locs ls hk9 hP hD hS hl
  have h9 := h
  obtain ⟨hx, hb, hml, hown, hts, hK, hA, hRR, hret, hlk⟩ := h
  subst hRR
  have hPc : va_P D cls ((yM D bd bc).sh τ) H := hP.sub (ws' := (yM D bd bc).sh τ) ((List.range 20).map (· + 24)) rfl
  have hDc : va_D A ((yM D bd bc).sh τ) := hD.sub (ws' := (yM D bd bc).sh τ) ((List.range 20).map (· + 24)) (by decide) rfl
  have hKc : va_K D cls ((yM D bd bc).tys) X.s := hK.sub (tys' := (yM D bd bc).tys) ((List.range 19).map (· + 20)) rfl
  have hF := jA_in hDc hS hA
  refine va_calli (va_runV (As := As) (rest := rest) ⟨hx, hb, hml, hown, hts⟩ (hM H.size) (cwV n hts (g.good w0) rfl hR.1 hR.2.1 ⟨rfl, g.2.2.2.2.2.2.1, g.2.2.2.2.2.2.2.1, g.2.2.2.2.2.2.2.2⟩ ⟨hR.2.2.1, hR.2.2.2⟩)
    ⟨jPre_blind _ _ _ _, (by rw [hcl]; exact va_recv hKc hPc (q := (RM, FdM, 25)) (rfl : cls[4]? = some (RM, FdM, 25)) (eM19 (D := D) (ad := bd) (ac := bc) (σ := τ))), fun U hU hW => ⟨rfl, by rw [hU], by rw [hU]; exact hPc, va_K.moved hW.alike hKc, hDc.weaken (fun _ _ _ _ => trivial)⟩⟩ rfl hn hl.1.1 hst (lv_room hcat) hd ⟨hcs.1, hcs.2⟩) hS (fun q _ hq => hF q hq) hF ?_
  intro r u t' H1 locs1 ht hvm hp hB hz hk hS1
  obtain ⟨hP1, hK1, hD1⟩ := hB
  rw [ht] at hP1
  obtain ⟨hP2, hD2⟩ := va_join (wr := (yC D ad ac).sh σ ++ [(o, .inl (cO, (1, .inr (.inl gg))))]) (w1 := (yM D bd bc).sh u) hP hD ((List.range 20).map (· + 24)) (List.range 24 ++ [44]) rfl rfl (by decide) (by decide) hk hF hP1 hD1
  exact kk r u hp h9 H1 locs1 ls trivial (hP2.sub (ws' := (yL D ad ac bd bc o cO u gg).sh σ) (List.range 24 ++ (List.range 20).map (· + 25) ++ [24]) rfl) (hD2.sub (ws' := (yL D ad ac bd bc o cO u gg).sh σ) (List.range 24 ++ (List.range 20).map (· + 25) ++ [24]) (by decide) rfl) hS1 hl
set_option maxRecDepth 100000 in
set_option maxHeartbeats 4000000 in
theorem jx_cMv {post : St → Prop} (h : jX X (yL D ad ac bd bc o cO τ gg) A cc nL own (w0 :: TT) R ret) (g : jcV TT own index t n) (hcl : t.y.cls = RM) (hM : jMv l (yM D bd bc) t TT rm (.ref (bd 19) :: As) τ post) (hR : jRm rm t.n R) (hcs : cells ≤ R.cells ∧ slots ≤ R.slots) (hn : As.length = n) (hst : st = As.reverse ++ .ref (bd 19) :: rest) (hcat : (rest.map fun v => v.category).sum ≤ 8) (hd : decode cc pc = .ok (.invokevirtual index, 3))
    (kk : ∀ (u : St), post u → jX X (yL D ad ac bd bc o cO u gg) A cc nL own (w0 :: TT) R ret → jW l X (yL D ad ac bd bc o cO u gg) A nL cells slots kT Q σ (pc + 3) L rest) : jW l X (yL D ad ac bd bc o cO τ gg) A nL cells slots K Q σ pc L st := by
  intro H locs ls hk9 hP hD hS hl
  have h9 := h
  obtain ⟨hx, hb, hml, hown, hts, hK, hA, hRR, hret, hlk⟩ := h
  subst hRR
  have hPc : va_P D cls ((yM D bd bc).sh τ) H := hP.sub (ws' := (yM D bd bc).sh τ) ((List.range 20).map (· + 24)) rfl
  have hDc : va_D A ((yM D bd bc).sh τ) := hD.sub (ws' := (yM D bd bc).sh τ) ((List.range 20).map (· + 24)) (by decide) rfl
  have hKc : va_K D cls ((yM D bd bc).tys) X.s := hK.sub (tys' := (yM D bd bc).tys) ((List.range 19).map (· + 20)) rfl
  have hF := jA_in hDc hS hA
  refine va_callv (va_runV (As := As) (rest := rest) ⟨hx, hb, hml, hown, hts⟩ (hM H.size) (cwV n hts (g.good w0) rfl hR.1 hR.2.1 ⟨rfl, g.2.2.2.2.2.2.1, g.2.2.2.2.2.2.2.1, g.2.2.2.2.2.2.2.2⟩ ⟨hR.2.2.1, hR.2.2.2⟩)
    ⟨jPre_blind _ _ _ _, (by rw [hcl]; exact va_recv hKc hPc (q := (RM, FdM, 25)) (rfl : cls[4]? = some (RM, FdM, 25)) (eM19 (D := D) (ad := bd) (ac := bc) (σ := τ))), fun U hU hW => ⟨rfl, by rw [hU], by rw [hU]; exact hPc, va_K.moved hW.alike hKc, hDc.weaken (fun _ _ _ _ => trivial)⟩⟩ rfl hn hl.1.1 hst (lv_room hcat) hd ⟨hcs.1, hcs.2⟩) hS (fun q _ hq => hF q hq) hF ?_
  intro u t' H1 locs1 ht hvm hp hB hz hk hS1
  obtain ⟨hP1, hK1, hD1⟩ := hB
  rw [ht] at hP1
  obtain ⟨hP2, hD2⟩ := va_join (wr := (yC D ad ac).sh σ ++ [(o, .inl (cO, (1, .inr (.inl gg))))]) (w1 := (yM D bd bc).sh u) hP hD ((List.range 20).map (· + 24)) (List.range 24 ++ [44]) rfl rfl (by decide) (by decide) hk hF hP1 hD1
  exact kk u hp h9 H1 locs1 ls trivial (hP2.sub (ws' := (yL D ad ac bd bc o cO u gg).sh σ) (List.range 24 ++ (List.range 20).map (· + 25) ++ [24]) rfl) (hD2.sub (ws' := (yL D ad ac bd bc o cO u gg).sh σ) (List.range 24 ++ (List.range 20).map (· + 25) ++ [24]) (by decide) rfl) hS1 hl
set_option maxRecDepth 100000 in
set_option maxHeartbeats 4000000 in
theorem jx_cMp {post : Int32 → Prop} (h : jX X (yL D ad ac bd bc o cO τ gg) A cc nL own (w0 :: TT) R ret) (g : jcV TT own index t n) (hcl : t.y.cls = RM) (hM : jMp l (yM D bd bc) t TT rm (.ref (bd 19) :: As) τ post) (hR : jRm rm t.n R) (hcs : cells ≤ R.cells ∧ slots ≤ R.slots) (hn : As.length = n) (hst : st = As.reverse ++ .ref (bd 19) :: rest) (hcat : (rest.map fun v => v.category).sum ≤ 8) (hd : decode cc pc = .ok (.invokevirtual index, 3))
    (kk : ∀ (r : Int32), post r → jW l X (yL D ad ac bd bc o cO τ gg) A nL cells slots kT Q σ (pc + 3) L (.int r :: rest)) : jW l X (yL D ad ac bd bc o cO τ gg) A nL cells slots K Q σ pc L st := by
  intro H locs ls hk9 hP hD hS hl
  have h9 := h
  obtain ⟨hx, hb, hml, hown, hts, hK, hA, hRR, hret, hlk⟩ := h
  subst hRR
  have hPc : va_P D cls ((yM D bd bc).sh τ) H := hP.sub (ws' := (yM D bd bc).sh τ) ((List.range 20).map (· + 24)) rfl
  have hDc : va_D A ((yM D bd bc).sh τ) := hD.sub (ws' := (yM D bd bc).sh τ) ((List.range 20).map (· + 24)) (by decide) rfl
  have hKc : va_K D cls ((yM D bd bc).tys) X.s := hK.sub (tys' := (yM D bd bc).tys) ((List.range 19).map (· + 20)) rfl
  have hF := jA_in hDc hS hA
  refine vp_callSi (W.runV (As := As) (rest := rest) ⟨hx, hb, hml, hown, hts⟩ (hM H.size) (cwV n hts (g.good w0) rfl hR.1 hR.2.1 ⟨rfl, g.2.2.2.2.2.2.1, g.2.2.2.2.2.2.2.1, g.2.2.2.2.2.2.2.2⟩ ⟨hR.2.2.1, hR.2.2.2⟩)
    ⟨jPre_blind _ _ _ _, (by rw [hcl]; exact va_recv hKc hPc (q := (RM, FdM, 25)) (rfl : cls[4]? = some (RM, FdM, 25)) (eM19 (D := D) (ad := bd) (ac := bc) (σ := τ))), fun U hU hW => ⟨rfl, by rw [hU], by rw [hU]; exact hPc, va_K.moved hW.alike hKc, hDc.weaken (fun _ _ _ _ => trivial)⟩⟩ rfl hn hl.1.1 hst (lv_room hcat) hd ⟨hcs.1, hcs.2⟩) ?_
  intro r hp
  exact kk r hp H locs ls trivial hP hD hS hl
set_option maxRecDepth 100000 in
set_option maxHeartbeats 4000000 in
theorem jx_cCi {post : Int32 → St → Prop} (h : jX X (yL D ad ac bd bc o cO τ gg) A cc nL own (w0 :: TT) R ret) (g : jcV TT own index t n) (hcl : t.y.cls = RN) (hM : jMi l (yC D ad ac) t TT rm (.ref (ad 20) :: As) σ post) (hR : jRm rm t.n R) (hcs : cells ≤ R.cells ∧ slots ≤ R.slots) (hn : As.length = n) (hst : st = As.reverse ++ .ref (ad 20) :: rest) (hcat : (rest.map fun v => v.category).sum ≤ 8) (hd : decode cc pc = .ok (.invokevirtual index, 3))
    (kk : ∀ (r : Int32) (u : St), post r u → jX X (yL D ad ac bd bc o cO τ gg) A cc nL own (w0 :: TT) R ret → jW l X (yL D ad ac bd bc o cO τ gg) A nL cells slots kT Q u (pc + 3) L (.int r :: rest)) : jW l X (yL D ad ac bd bc o cO τ gg) A nL cells slots K Q σ pc L st := by
  intro H locs ls hk9 hP hD hS hl
  have h9 := h
  obtain ⟨hx, hb, hml, hown, hts, hK, hA, hRR, hret, hlk⟩ := h
  subst hRR
  have hPc : va_P D cls ((yC D ad ac).sh σ) H := hP.sub (ws' := (yC D ad ac).sh σ) (List.range 24) rfl
  have hDc : va_D A ((yC D ad ac).sh σ) := hD.sub (ws' := (yC D ad ac).sh σ) (List.range 24) (by decide) rfl
  have hKc : va_K D cls ((yC D ad ac).tys) X.s := hK.sub (tys' := (yC D ad ac).tys) (List.range 20) rfl
  have hF := jA_in hDc hS hA
  refine va_calli (va_runV (As := As) (rest := rest) ⟨hx, hb, hml, hown, hts⟩ (hM H.size) (cwV n hts (g.good w0) rfl hR.1 hR.2.1 ⟨rfl, g.2.2.2.2.2.2.1, g.2.2.2.2.2.2.2.1, g.2.2.2.2.2.2.2.2⟩ ⟨hR.2.2.1, hR.2.2.2⟩)
    ⟨jPre_blind _ _ _ _, (by rw [hcl]; exact va_recv hKc hPc (q := (RN, FdN, 7)) (rfl : cls[0]? = some (RN, FdN, 7)) (eC20 (D := D) (ad := ad) (ac := ac) (σ := σ))), fun U hU hW => ⟨rfl, by rw [hU], by rw [hU]; exact hPc, va_K.moved hW.alike hKc, hDc.weaken (fun _ _ _ _ => trivial)⟩⟩ rfl hn hl.1.1 hst (lv_room hcat) hd ⟨hcs.1, hcs.2⟩) hS (fun q _ hq => hF q hq) hF ?_
  intro r u t' H1 locs1 ht hvm hp hB hz hk hS1
  obtain ⟨hP1, hK1, hD1⟩ := hB
  rw [ht] at hP1
  obtain ⟨hP2, hD2⟩ := va_join (wr := (yM D bd bc).sh τ ++ [(o, .inl (cO, (1, .inr (.inl gg))))]) (w1 := (yC D ad ac).sh u) hP hD (List.range 24) ((List.range 21).map (· + 24)) rfl rfl (by decide) (by decide) hk hF hP1 hD1
  exact kk r u hp h9 H1 locs1 ls trivial (hP2.sub (ws' := (yL D ad ac bd bc o cO τ gg).sh u) ((List.range 24).map (· + 21) ++ List.range 20 ++ [20]) rfl) (hD2.sub (ws' := (yL D ad ac bd bc o cO τ gg).sh u) ((List.range 24).map (· + 21) ++ List.range 20 ++ [20]) (by decide) rfl) hS1 hl
theorem jx_sld {b LL : Nat} {xs : Nat → Int32} (h : jX X Y A cc nL own Ts R ret) (hXs : va_X b LL xs X.s X.s.heap) (hbl : b < X.s.heap.size) (hbA : ¬ A b) (hLL : LL < 2 ^ 31) {i : Int32} (j : Nat) (hi : i = nI j) (hj : j < LL) (hd : decode cc pc = .ok (.iaload, 1))
    (kk : jW l X Y A nL cells slots K Q σ (pc + 1) L (.int (xs j) :: rest)) : jW l X Y A nL cells slots K Q σ pc L (.int i :: .ref b :: rest) := by
  intro H locs ls hk hP hD hS hl
  subst hi
  refine va_sld h.1 h.2.1 hXs hbl hbA hS (vp_in_nI hj hLL) hd ?_
  rw [nI_clamp (by omega)]
  exact kk H locs ls hk hP hD hS hl
theorem jx_slen {b LL : Nat} {xs : Nat → Int32} (h : jX X Y A cc nL own Ts R ret) (hXs : va_X b LL xs X.s X.s.heap) (hbl : b < X.s.heap.size) (hbA : ¬ A b) (hd : decode cc pc = .ok (.arraylength, 1))
    (kk : jW l X Y A nL cells slots K Q σ (pc + 1) L (.int (nI LL) :: rest)) : jW l X Y A nL cells slots K Q σ pc L (.ref b :: rest) :=
  fun H locs ls hk hP hD hS hl => va_slen h.1 h.2.1 hXs hbl hbA hS hd (kk H locs ls hk hP hD hS hl)
theorem jx_iand (h : jX X Y A cc nL own Ts R ret) {x y : Int32} (hd : decode cc pc = .ok (.iand, 1)) (k : jW l X Y A nL cells slots K Q σ (pc + 1) L (.int (x &&& y) :: rest)) : jW l X Y A nL cells slots K Q σ pc L (.int y :: .int x :: rest) :=
  fun H locs ls hk hP hD hS hl => lv_iand h.1 h.2.1 hd (k H locs ls hk hP hD hS hl)
theorem jx_lcmp (h : jX X Y A cc nL own Ts R ret) {x y : Int64} (hd : decode cc pc = .ok (.lcmp, 1)) (k : jW l X Y A nL cells slots K Q σ (pc + 1) L (.int (lg_cmp x y) :: rest)) : jW l X Y A nL cells slots K Q σ pc L (.long y :: .long x :: rest) :=
  fun H locs ls hk hP hD hS hl => W.lcmp h.1 h.2.1 hd (k H locs ls hk hP hD hS hl)
theorem lg_cmp_self (x : Int64) : lg_cmp x x = 0 := by
  unfold lg_cmp
  rw [if_neg (by simp), if_pos rfl]
theorem jx_lald (h : jX X (yL D ad ac bd bc o cO τ gg) A cc nL own Ts R ret) (hd : decode cc pc = .ok (.laload, 1)) (kk : jW l X (yL D ad ac bd bc o cO τ gg) A nL cells slots K Q σ (pc + 1) L (.long (gg 0) :: rest)) : jW l X (yL D ad ac bd bc o cO τ gg) A nL cells slots K Q σ pc L (.int 0 :: .ref o :: rest) :=
  fun H locs ls hk hP hD hS hl => va_lald h.1 h.2.1 h.2.2.2.2.2.1 hP 44 39 rfl rfl (i := 0) (show vp_in (nI 0) 1 from vp_in_nI (by decide) (by decide)) hd (kk H locs ls hk hP hD hS hl)
theorem jx_widen {c2 s2 : Nat} (h1 : cells ≤ c2) (h2 : slots ≤ s2) (kk : jW l X Y A nL c2 s2 K Q σ pc L st) : jW l X Y A nL cells slots K Q σ pc L st :=
  fun H locs ls hk hP hD hS hl => W.widen h1 h2 (kk H locs ls hk hP hD hS hl)
end JLaw
