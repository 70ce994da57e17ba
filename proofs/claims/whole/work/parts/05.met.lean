/-! contracts of the methods of one side: from a state σ, with an answer and a state behind it -/
def jPre (Y : Wx) (av : List Value) (σ : St) (sz : Nat) : Array Value → State → Prop := va_Pc av (fun U => U.heap.size = sz ∧ va_P Y.D Y.cl (Y.sh σ) U.heap ∧ va_K Y.D Y.cl Y.tys U ∧ va_D (fun _ => True) (Y.sh σ))
def jB (Y : Wx) (A : Nat → Prop) : St → State → Prop := fun σ' t => va_P Y.D Y.cl (Y.sh σ') t.heap ∧ va_K Y.D Y.cl Y.tys t ∧ va_D A (Y.sh σ')
def jMi (l : Launch) (Y : Wx) (t : Mt) (TT : List Cond) (rm : Room) (av : List Value) (σ : St) (post : Int32 → St → Prop) : Prop :=
  ∀ sz : Nat, Met l t.y (t.w :: TT) rm (jPre Y av σ sz) (va_Qi post (jB Y (va_A (Y.sh σ) sz)) (va_A (Y.sh σ) sz)) 0 0 (va_A (Y.sh σ) sz)
def jMv (l : Launch) (Y : Wx) (t : Mt) (TT : List Cond) (rm : Room) (av : List Value) (σ : St) (post : St → Prop) : Prop :=
  ∀ sz : Nat, Met l t.y (t.w :: TT) rm (jPre Y av σ sz) (va_Qv post (jB Y (va_A (Y.sh σ) sz)) (va_A (Y.sh σ) sz)) 0 0 (va_A (Y.sh σ) sz)
def jMp (l : Launch) (Y : Wx) (t : Mt) (TT : List Cond) (rm : Room) (av : List Value) (σ : St) (post : Int32 → Prop) : Prop :=
  ∀ sz : Nat, Met l t.y (t.w :: TT) rm (jPre Y av σ sz) (vp_Si post) 0 0 (fun _ => False)
abbrev jQp (X : Cx) (post : Int32 → Prop) : State → Prop := MQ X.below (vp_Si post) X.args X.s 0 0 (fun _ => False)
abbrev jQi (X : Cx) (Y : Wx) (A : Nat → Prop) (post : Int32 → St → Prop) : State → Prop := MQ X.below (va_Qi post (jB Y A) A) X.args X.s 0 0 A
abbrev jQv (X : Cx) (Y : Wx) (A : Nat → Prop) (post : St → Prop) : State → Prop := MQ X.below (va_Qv post (jB Y A) A) X.args X.s 0 0 A
theorem lg_len : ∀ (av : List Value), (∀ v ∈ av, v.category = 1) → (lg_sl av).length = av.length
  | [], _ => rfl
  | v :: t, h => by
    have h1 := h v List.mem_cons_self
    have h2 := lg_len t (fun w hw => h w (List.mem_cons_of_mem _ hw))
    unfold lg_sl at h2 ⊢
    rw [List.flatMap_cons, List.length_append, h2, if_neg (by omega)]
    simp [Nat.add_comm]
theorem lv_args_cat : ∀ (av : List Value) (i : Nat), (∀ v ∈ av, v.category = 1) → ∀ q ∈ lv_args i av, q.2.category = 1
  | [], _, _, q, hq => by cases hq
  | v :: t, i, h, q, hq => by
    unfold lv_args at hq
    rcases List.mem_cons.mp hq with rfl | hq
    · exact h v List.mem_cons_self
    · exact lv_args_cat t _ (fun w hw => h w (List.mem_cons_of_mem _ hw)) q hq
section JMet
variable {l : Launch} {Y : Wx} {TT : List Cond} {rm : Room} {av : List Value} {σ : St}
theorem jMi_of {t : Mt} {post : Int32 → St → Prop} (hy : plainName t.y.cls = true) (hn : av.length ≤ t.n) (hav : ∀ v ∈ av, v.category = 1)
    (body : ∀ (X : Cx) (A : Nat → Prop), jX X Y A t.b t.n t.y.cls (t.w :: TT) rm t.r → jW l X Y A t.n 0 0 kT (jQi X Y A post) σ 0 (lv_args 0 av) []) : jMi l Y t TT rm av σ post := by
  intro sz
  refine Met.ofW (cc := t.b) (maxL := t.n) (ret := t.r) hy rfl ?_
  intro p e s m args below meth c s₁ B hml hv
  obtain ⟨rfl, hsz, hP, hK, hD0⟩ := hv
  have hts := atoms_spec (ws := t.w :: TT) B.pre
  have hown : s.vm.findClass t.y.cls = some m.cls := findClass_of_methodNamed B.named
  subst hsz
  have hD := hD0.self (sz := s.heap.size)
  generalize hAe : va_A (Y.sh σ) s.heap.size = A at hD ⊢
  have hA : ∀ q : Nat, s.heap.size ≤ q → A q := fun q h => by rw [← hAe]; exact Or.inr h
  have hl := lv_entry av (n := t.n) (by rw [lg_len av hav]; exact hn)
  rw [lg_entry_eq]
  exact body (p, e, rm, s, m, av.toArray, below, meth, c) A ⟨B.exec, B.bytes, hml, hown, hts, hK, hA, rfl, B.returns, B.notSynchronized⟩ s.heap [] _ trivial hP hD va_S.rf ⟨hl, lv_args_cat av 0 hav⟩
theorem jMv_of {t : Mt} {post : St → Prop} (hy : plainName t.y.cls = true) (hn : av.length ≤ t.n) (hav : ∀ v ∈ av, v.category = 1)
    (body : ∀ (X : Cx) (A : Nat → Prop), jX X Y A t.b t.n t.y.cls (t.w :: TT) rm t.r → jW l X Y A t.n 0 0 kT (jQv X Y A post) σ 0 (lv_args 0 av) []) : jMv l Y t TT rm av σ post := by
  intro sz
  refine Met.ofW (cc := t.b) (maxL := t.n) (ret := t.r) hy rfl ?_
  intro p e s m args below meth c s₁ B hml hv
  obtain ⟨rfl, hsz, hP, hK, hD0⟩ := hv
  have hts := atoms_spec (ws := t.w :: TT) B.pre
  have hown : s.vm.findClass t.y.cls = some m.cls := findClass_of_methodNamed B.named
  subst hsz
  have hD := hD0.self (sz := s.heap.size)
  generalize hAe : va_A (Y.sh σ) s.heap.size = A at hD ⊢
  have hA : ∀ q : Nat, s.heap.size ≤ q → A q := fun q h => by rw [← hAe]; exact Or.inr h
  have hl := lv_entry av (n := t.n) (by rw [lg_len av hav]; exact hn)
  rw [lg_entry_eq]
  exact body (p, e, rm, s, m, av.toArray, below, meth, c) A ⟨B.exec, B.bytes, hml, hown, hts, hK, hA, rfl, B.returns, B.notSynchronized⟩ s.heap [] _ trivial hP hD va_S.rf ⟨hl, lv_args_cat av 0 hav⟩
theorem jMp_of {t : Mt} {post : Int32 → Prop} (hy : plainName t.y.cls = true) (hn : av.length ≤ t.n) (hav : ∀ v ∈ av, v.category = 1)
    (body : ∀ (X : Cx) (A : Nat → Prop), jX X Y A t.b t.n t.y.cls (t.w :: TT) rm t.r → jW l X Y A t.n 0 0 (k0 X) (jQp X post) σ 0 (lv_args 0 av) []) : jMp l Y t TT rm av σ post := by
  intro sz
  refine Met.ofW (cc := t.b) (maxL := t.n) (ret := t.r) hy rfl ?_
  intro p e s m args below meth c s₁ B hml hv
  obtain ⟨rfl, hsz, hP, hK, hD0⟩ := hv
  have hts := atoms_spec (ws := t.w :: TT) B.pre
  have hown : s.vm.findClass t.y.cls = some m.cls := findClass_of_methodNamed B.named
  subst hsz
  have hD := hD0.self (sz := s.heap.size)
  generalize hAe : va_A (Y.sh σ) s.heap.size = A at hD
  have hA : ∀ q : Nat, s.heap.size ≤ q → A q := fun q h => by rw [← hAe]; exact Or.inr h
  have hl := lv_entry av (n := t.n) (by rw [lg_len av hav]; exact hn)
  rw [lg_entry_eq]
  exact body (p, e, rm, s, m, av.toArray, below, meth, c) A ⟨B.exec, B.bytes, hml, hown, hts, hK, hA, rfl, B.returns, B.notSynchronized⟩ s.heap [] _ ⟨rfl, rfl⟩ hP hD va_S.rf ⟨hl, lv_args_cat av 0 hav⟩
theorem jMi.mono {t : Mt} {post post' : Int32 → St → Prop} (h : jMi l Y t TT rm av σ post) (hp : ∀ r u, post r u → post' r u) : jMi l Y t TT rm av σ post' := by
  intro sz p e ha hc hk s m args below hf happ hP hK
  obtain ⟨n, o, h1, h2, h3, ⟨⟨⟨r, u, e1, e2, e3⟩, hF⟩, hL⟩⟩ := h sz p e ha hc hk s m args below hf happ hP hK
  exact ⟨n, o, h1, h2, h3, ⟨⟨⟨r, u, e1, hp r u e2, e3⟩, hF⟩, hL⟩⟩
theorem jMv.mono {t : Mt} {post post' : St → Prop} (h : jMv l Y t TT rm av σ post) (hp : ∀ u, post u → post' u) : jMv l Y t TT rm av σ post' := by
  intro sz p e ha hc hk s m args below hf happ hP hK
  obtain ⟨n, o, h1, h2, h3, ⟨⟨⟨u, e1, e2, e3⟩, hF⟩, hL⟩⟩ := h sz p e ha hc hk s m args below hf happ hP hK
  exact ⟨n, o, h1, h2, h3, ⟨⟨⟨u, e1, hp u e2, e3⟩, hF⟩, hL⟩⟩
end JMet
section JEnd
variable {l : Launch} {X : Cx} {Y : Wx} {A : Nat → Prop} {cc : ByteArray} {nL : Nat} {own : String} {Ts : List Cond} {R : Room} {K : Heap → List Loc → Prop} {σ : St} {pc : Nat} {L : Lv}
theorem jx_iret {post : Int32 → St → Prop} (h : jX X Y A cc nL own Ts R (some .int)) {v : Int32} (hd : decode cc pc = .ok (.ireturn, 1)) (hp : post v σ) : jW l X Y A nL 0 0 K (jQi X Y A post) σ pc L [.int v] := by
  intro H locs ls hk9 hP hD hS hl
  obtain ⟨hx, hb, hml, hown, hts, hK, hA, hR, hret, hlk⟩ := h
  exact W.iret (v := v) hx hb hret (fun t ht hW => ⟨⟨v, σ, rfl, hp, by rw [ht]; exact hP, va_K.moved hW.alike hK, hD⟩, hS.F ht⟩) hS.2.2 hd hlk
theorem jx_zret {post : Int32 → St → Prop} (h : jX X Y A cc nL own Ts R (some .boolean)) {v : Int32} (hd : decode cc pc = .ok (.ireturn, 1)) (hz : narrow .boolean (.int v) = .int v) (hp : post v σ) : jW l X Y A nL 0 0 K (jQi X Y A post) σ pc L [.int v] := by
  intro H locs ls hk9 hP hD hS hl
  obtain ⟨hx, hb, hml, hown, hts, hK, hA, hR, hret, hlk⟩ := h
  exact W.zret (v := v) hx hb hret hz (fun t ht hW => ⟨⟨v, σ, rfl, hp, by rw [ht]; exact hP, va_K.moved hW.alike hK, hD⟩, hS.F ht⟩) hS.2.2 hd hlk
theorem jx_vret {post : St → Prop} (h : jX X Y A cc nL own Ts R none) (hd : decode cc pc = .ok (.return_, 1)) (hp : post σ) : jW l X Y A nL 0 0 K (jQv X Y A post) σ pc L [] := by
  intro H locs ls hk9 hP hD hS hl
  obtain ⟨hx, hb, hml, hown, hts, hK, hA, hR, hret, hlk⟩ := h
  exact W.vret hx hb hret (fun t ht hW => ⟨⟨σ, rfl, hp, by rw [ht]; exact hP, va_K.moved hW.alike hK, hD⟩, hS.F ht⟩) hS.2.2 hd hlk
theorem jx_iretp {post : Int32 → Prop} (h : jX X Y A cc nL own Ts R (some .int)) {v : Int32} (hd : decode cc pc = .ok (.ireturn, 1)) (hp : post v) : jW l X Y A nL 0 0 (k0 X) (jQp X post) σ pc L [.int v] := by
  intro H locs ls hk hP hD hS hl
  obtain ⟨hx, hb, hml, hown, hts, hK, hA, hR, hret, hlk⟩ := h
  obtain ⟨hk1, hk2⟩ := hk
  subst hk2
  exact W.iret (v := v) hx hb hret (fun t ht hW => ⟨v, rfl, hp, ht.trans hk1⟩) (fun q hq => absurd hq List.not_mem_nil) hd hlk
theorem jx_zretp {post : Int32 → Prop} (h : jX X Y A cc nL own Ts R (some .boolean)) {v : Int32} (hd : decode cc pc = .ok (.ireturn, 1)) (hz : narrow .boolean (.int v) = .int v) (hp : post v) : jW l X Y A nL 0 0 (k0 X) (jQp X post) σ pc L [.int v] := by
  intro H locs ls hk hP hD hS hl
  obtain ⟨hx, hb, hml, hown, hts, hK, hA, hR, hret, hlk⟩ := h
  obtain ⟨hk1, hk2⟩ := hk
  subst hk2
  exact W.zret (v := v) hx hb hret hz (fun t ht hW => ⟨v, rfl, hp, ht.trans hk1⟩) (fun q hq => absurd hq List.not_mem_nil) hd hlk
end JEnd
/-- what a call asks of the tables: of a method of an object, of a static one -/
def jcV (TT : List Cond) (own : String) (index : Nat) (t : Mt) (n : Nat) : Prop :=
  (∀ w ∈ TT, goodWord w = true) ∧ t.w ∈ TT ∧ Cond.methodLink own index t.y ∈ TT ∧ Cond.instanceMethod t.y ∈ TT ∧ Cond.selects t.y.cls t.y t.y ∈ TT ∧ Cond.initialized t.y.cls ∈ TT ∧
    t.y.cls ≠ "java/lang/invoke/MethodHandle" ∧ t.y.cls ≠ "java/lang/invoke/VarHandle" ∧ (parseMethodDescriptor t.y.desc).map (fun d => d.parameters.length) = some n
def jcS (TT : List Cond) (own : String) (index : Nat) (t : Mt) (n : Nat) : Prop :=
  (∀ w ∈ TT, goodWord w = true) ∧ t.w ∈ TT ∧ Cond.methodLink own index t.y ∈ TT ∧ Cond.static t.y ∈ TT ∧ Cond.initialized own ∈ TT ∧
    t.y.cls = own ∧ t.y.cls ≠ "java/lang/invoke/MethodHandle" ∧ t.y.cls ≠ "java/lang/invoke/VarHandle" ∧ (parseMethodDescriptor t.y.desc).map (fun d => d.parameters.length) = some n
theorem jcV.good {TT : List Cond} {own : String} {index n : Nat} {t : Mt} (g : jcV TT own index t n) (w0 : Cond) : GoodIn (w0 :: TT) (wsV own index t.y.cls t.y (t.w :: TT)) := by
  obtain ⟨h0, h1, h2, h3, h4, h5, -⟩ := g
  intro w hw
  have hm : w ∈ TT := by
    unfold wsV at hw
    rcases List.mem_append.mp hw with hw | hw
    · simp only [List.mem_cons, List.not_mem_nil, or_false] at hw
      rcases hw with rfl | rfl | rfl | rfl
      · exact h2
      · exact h3
      · exact h4
      · exact h5
    · rcases List.mem_cons.mp hw with rfl | hw
      · exact h1
      · exact hw
  exact ⟨List.mem_cons_of_mem _ hm, good_of_word (h0 w hm)⟩
theorem jcS.good {TT : List Cond} {own : String} {index n : Nat} {t : Mt} (g : jcS TT own index t n) (w0 : Cond) : GoodIn (w0 :: TT) (wsS own index t.y (t.w :: TT)) := by
  obtain ⟨h0, h1, h2, h3, h4, -⟩ := g
  intro w hw
  have hm : w ∈ TT := by
    unfold wsS at hw
    rcases List.mem_append.mp hw with hw | hw
    · simp only [List.mem_cons, List.not_mem_nil, or_false] at hw
      rcases hw with rfl | rfl | rfl
      · exact h2
      · exact h3
      · exact h4
    · rcases List.mem_cons.mp hw with rfl | hw
      · exact h1
      · exact hw
  exact ⟨List.mem_cons_of_mem _ hm, good_of_word (h0 w hm)⟩
theorem jPre_blind (Y : Wx) (av : List Value) (σ : St) (sz : Nat) : FrameBlind (jPre Y av σ sz) := by
  intro a U g mk q
  obtain ⟨q0, q1, qP, qK, qD⟩ := q
  exact ⟨q0, q1, qP, va_K.moved (u := U) (U := U.calling g mk a) (Vm.Alike.refl U.vm) qK, qD⟩
theorem jA_in {A : Nat → Prop} {ws : va_W} {H0 H : Heap} {locs : List Loc} (hD : va_D A ws) (hS : va_S A H0 H locs) (hA : ∀ q, H0.size ≤ q → A q) : ∀ q, va_A ws H.size q → A q := by
  intro q h
  rcases h with ⟨k, e, hk⟩ | h
  · exact hD.2 k _ hk
  · exact hA q (Nat.le_trans hS.1 h)
/-- the callee's room in the caller's -/
def jRm (rm : Room) (n : Nat) (R : Room) : Prop := rm.cells = 0 ∧ rm.slots = 0 ∧ rm.frames + 1 ≤ R.frames ∧ 8 + (n + 11) + rm.locals ≤ R.locals
section JCall
variable {l : Launch} {X : Cx} {Y : Wx} {A : Nat → Prop} {cc : ByteArray} {nL : Nat} {own : String} {w0 : Cond} {TT : List Cond} {R : Room} {ret : Option FieldType} {cells slots : Nat} {K : Heap → List Loc → Prop} {Q : State → Prop} {σ : St} {pc : Nat} {L : Lv} {rest st As : List Value}
variable {t : Mt} {index n a q0 ci N : Nat} {rm : Room} {fs : List Value} {T : u_T}
theorem jx_callVi {post : Int32 → St → Prop} (h : jX X Y A cc nL own (w0 :: TT) R ret) (g : jcV TT own index t n) (hM : jMi l Y t TT rm (.ref a :: As) σ post) (he : (Y.sh σ)[q0]? = some (a, .inr (ci, fs))) (hc : Y.cl[ci]? = some (t.y.cls, T, N))
    (hR : jRm rm t.n R) (hn : As.length = n) (hst : st = As.reverse ++ .ref a :: rest) (hcat : (rest.map fun v => v.category).sum ≤ 8) (hcs : cells ≤ R.cells ∧ slots ≤ R.slots) (hd : decode cc pc = .ok (.invokevirtual index, 3))
    (kk : ∀ (r : Int32) (σ' : St), post r σ' → jW l X Y A nL cells slots kT Q σ' (pc + 3) L (.int r :: rest)) : jW l X Y A nL cells slots K Q σ pc L st := by
  intro H locs ls hk9 hP hD hS hl
  obtain ⟨hx, hb, hml, hown, hts, hK, hA, hRR, hret, hlk⟩ := h
  subst hRR
  have hF := jA_in hD hS hA
  refine va_calli (va_runV (As := As) (rest := rest) ⟨hx, hb, hml, hown, hts⟩ (hM H.size) (cwV n hts (g.good w0) rfl hR.1 hR.2.1 ⟨rfl, g.2.2.2.2.2.2.1, g.2.2.2.2.2.2.2.1, g.2.2.2.2.2.2.2.2⟩ ⟨hR.2.2.1, hR.2.2.2⟩)
    ⟨jPre_blind _ _ _ _, va_recv hK hP hc he, fun U hU hW => ⟨rfl, by rw [hU], by rw [hU]; exact hP, va_K.moved hW.alike hK, hD.weaken (fun _ _ _ _ => trivial)⟩⟩ rfl hn hl.1.1 hst (lv_room hcat) hd ⟨hcs.1, hcs.2⟩) hS (fun q _ hq => hF q hq) hF ?_
  intro r u t' H1 locs1 ht hvm hp hB hz hk hS1
  exact kk r u hp H1 locs1 ls trivial (by rw [← ht]; exact hB.1) (hB.2.2.weaken (fun _ q _ hq => hF q.1 hq)) hS1 hl
theorem jx_callVv {post : St → Prop} (h : jX X Y A cc nL own (w0 :: TT) R ret) (g : jcV TT own index t n) (hM : jMv l Y t TT rm (.ref a :: As) σ post) (he : (Y.sh σ)[q0]? = some (a, .inr (ci, fs))) (hc : Y.cl[ci]? = some (t.y.cls, T, N))
    (hR : jRm rm t.n R) (hn : As.length = n) (hst : st = As.reverse ++ .ref a :: rest) (hcat : (rest.map fun v => v.category).sum ≤ 8) (hcs : cells ≤ R.cells ∧ slots ≤ R.slots) (hd : decode cc pc = .ok (.invokevirtual index, 3))
    (kk : ∀ (σ' : St), post σ' → jW l X Y A nL cells slots kT Q σ' (pc + 3) L rest) : jW l X Y A nL cells slots K Q σ pc L st := by
  intro H locs ls hk9 hP hD hS hl
  obtain ⟨hx, hb, hml, hown, hts, hK, hA, hRR, hret, hlk⟩ := h
  subst hRR
  have hF := jA_in hD hS hA
  refine va_callv (va_runV (As := As) (rest := rest) ⟨hx, hb, hml, hown, hts⟩ (hM H.size) (cwV n hts (g.good w0) rfl hR.1 hR.2.1 ⟨rfl, g.2.2.2.2.2.2.1, g.2.2.2.2.2.2.2.1, g.2.2.2.2.2.2.2.2⟩ ⟨hR.2.2.1, hR.2.2.2⟩)
    ⟨jPre_blind _ _ _ _, va_recv hK hP hc he, fun U hU hW => ⟨rfl, by rw [hU], by rw [hU]; exact hP, va_K.moved hW.alike hK, hD.weaken (fun _ _ _ _ => trivial)⟩⟩ rfl hn hl.1.1 hst (lv_room hcat) hd ⟨hcs.1, hcs.2⟩) hS (fun q _ hq => hF q hq) hF ?_
  intro u t' H1 locs1 ht hvm hp hB hz hk hS1
  exact kk u hp H1 locs1 ls trivial (by rw [← ht]; exact hB.1) (hB.2.2.weaken (fun _ q _ hq => hF q.1 hq)) hS1 hl
theorem jx_callSi {post : Int32 → St → Prop} (h : jX X Y A cc nL own (w0 :: TT) R ret) (g : jcS TT own index t n) (hM : jMi l Y t TT rm As σ post)
    (hR : jRm rm t.n R) (hn : As.length = n) (hst : st = As.reverse ++ rest) (hcat : (rest.map fun v => v.category).sum ≤ 8) (hcs : cells ≤ R.cells ∧ slots ≤ R.slots) (hd : decode cc pc = .ok (.invokestatic index, 3))
    (kk : ∀ (r : Int32) (σ' : St), post r σ' → jW l X Y A nL cells slots kT Q σ' (pc + 3) L (.int r :: rest)) : jW l X Y A nL cells slots K Q σ pc L st := by
  intro H locs ls hk9 hP hD hS hl
  obtain ⟨hx, hb, hml, hown, hts, hK, hA, hRR, hret, hlk⟩ := h
  subst hRR
  have hF := jA_in hD hS hA
  refine va_calli (va_runS (As := As) (rest := rest) ⟨hx, hb, hml, hown, hts⟩ (hM H.size) (cwS n hts (g.good w0) rfl hR.1 hR.2.1 ⟨g.2.2.2.2.2.1, g.2.2.2.2.2.2.1, g.2.2.2.2.2.2.2.1, g.2.2.2.2.2.2.2.2⟩ ⟨hR.2.2.1, hR.2.2.2⟩)
    ⟨jPre_blind _ _ _ _, fun U hU hW => ⟨rfl, by rw [hU], by rw [hU]; exact hP, va_K.moved hW.alike hK, hD.weaken (fun _ _ _ _ => trivial)⟩⟩ rfl hn hl.1.1 hst (lv_room hcat) hd ⟨hcs.1, hcs.2⟩) hS (fun q _ hq => hF q hq) hF ?_
  intro r u t' H1 locs1 ht hvm hp hB hz hk hS1
  exact kk r u hp H1 locs1 ls trivial (by rw [← ht]; exact hB.1) (hB.2.2.weaken (fun _ q _ hq => hF q.1 hq)) hS1 hl
theorem jx_callVp {post : Int32 → Prop} (h : jX X Y A cc nL own (w0 :: TT) R ret) (g : jcV TT own index t n) (hM : jMp l Y t TT rm (.ref a :: As) σ post) (he : (Y.sh σ)[q0]? = some (a, .inr (ci, fs))) (hc : Y.cl[ci]? = some (t.y.cls, T, N))
    (hR : jRm rm t.n R) (hn : As.length = n) (hst : st = As.reverse ++ .ref a :: rest) (hcat : (rest.map fun v => v.category).sum ≤ 8) (hcs : cells ≤ R.cells ∧ slots ≤ R.slots) (hd : decode cc pc = .ok (.invokevirtual index, 3))
    (kk : ∀ (r : Int32), post r → jW l X Y A nL cells slots K Q σ (pc + 3) L (.int r :: rest)) : jW l X Y A nL cells slots K Q σ pc L st := by
  intro H locs ls hk9 hP hD hS hl
  obtain ⟨hx, hb, hml, hown, hts, hK, hA, hRR, hret, hlk⟩ := h
  subst hRR
  refine vp_callSi (W.runV (As := As) (rest := rest) ⟨hx, hb, hml, hown, hts⟩ (hM H.size) (cwV n hts (g.good w0) rfl hR.1 hR.2.1 ⟨rfl, g.2.2.2.2.2.2.1, g.2.2.2.2.2.2.2.1, g.2.2.2.2.2.2.2.2⟩ ⟨hR.2.2.1, hR.2.2.2⟩)
    ⟨jPre_blind _ _ _ _, va_recv hK hP hc he, fun U hU hW => ⟨rfl, by rw [hU], by rw [hU]; exact hP, va_K.moved hW.alike hK, hD.weaken (fun _ _ _ _ => trivial)⟩⟩ rfl hn hl.1.1 hst (lv_room hcat) hd ⟨hcs.1, hcs.2⟩) ?_
  intro r hp
  exact kk r hp H locs ls hk9 hP hD hS hl
theorem jx_callSp {post : Int32 → Prop} (h : jX X Y A cc nL own (w0 :: TT) R ret) (g : jcS TT own index t n) (hM : jMp l Y t TT rm As σ post)
    (hR : jRm rm t.n R) (hn : As.length = n) (hst : st = As.reverse ++ rest) (hcat : (rest.map fun v => v.category).sum ≤ 8) (hcs : cells ≤ R.cells ∧ slots ≤ R.slots) (hd : decode cc pc = .ok (.invokestatic index, 3))
    (kk : ∀ (r : Int32), post r → jW l X Y A nL cells slots K Q σ (pc + 3) L (.int r :: rest)) : jW l X Y A nL cells slots K Q σ pc L st := by
  intro H locs ls hk9 hP hD hS hl
  obtain ⟨hx, hb, hml, hown, hts, hK, hA, hRR, hret, hlk⟩ := h
  subst hRR
  refine vp_callSi (W.runS (As := As) (rest := rest) ⟨hx, hb, hml, hown, hts⟩ (hM H.size) (cwS n hts (g.good w0) rfl hR.1 hR.2.1 ⟨g.2.2.2.2.2.1, g.2.2.2.2.2.2.1, g.2.2.2.2.2.2.2.1, g.2.2.2.2.2.2.2.2⟩ ⟨hR.2.2.1, hR.2.2.2⟩)
    ⟨jPre_blind _ _ _ _, fun U hU hW => ⟨rfl, by rw [hU], by rw [hU]; exact hP, va_K.moved hW.alike hK, hD.weaken (fun _ _ _ _ => trivial)⟩⟩ rfl hn hl.1.1 hst (lv_room hcat) hd ⟨hcs.1, hcs.2⟩) ?_
  intro r hp
  exact kk r hp H locs ls hk9 hP hD hS hl
end JCall
