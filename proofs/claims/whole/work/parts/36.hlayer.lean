/-! contracts of the law's helpers -/
def nN : List Cond := [.not (.castable cIA cIO), .not (.castable cIS cIA), .not (.castable cIS cIO)]
def nCast (U : State) : Prop := ∀ w ∈ nN, w.before #[] U = true
theorem ncast_move {A B : String} {s U : State} (hW : s.WarmedH U.vm) {a a' : Array Value} (h : (Cond.not (.castable A B)).before a s = true) : (Cond.not (.castable A B)).before a' U = true := by
  simp only [Cond.before, Cond.holds, Cond.value] at h ⊢
  rw [hW.alike.findClass, hW.alike.findClass]
  cases h1 : s.vm.findClass A with
  | none => simp [h1] at h
  | some x =>
    cases h2 : s.vm.findClass B with
    | none => simp [h1, h2] at h
    | some y =>
      simp only [h1, h2] at h ⊢
      rw [hW.alike.assignable]
      exact h
theorem nCast.move {s U : State} (h : nCast s) (hW : s.WarmedH U.vm) : nCast U := by
  intro w hw
  have h1 := h w hw
  simp only [nN, List.mem_cons, List.not_mem_nil, or_false] at hw
  rcases hw with rfl | rfl | rfl
  · exact ncast_move hW h1
  · exact ncast_move hW h1
  · exact ncast_move hW h1
abbrev Hs : Type := St × (Nat → Int64)
abbrev wH (t : Mt) (hh : List (Nat × Nat × Nat × Nat)) : Cond := Cond.codeWith t.y t.b t.n t.r hh
def jPh (Y : Wx) (av : List Value) (σ : St) (sz : Nat) : Array Value → State → Prop := va_Pc av (fun U => ((U.heap.size = sz ∧ va_P Y.D Y.cl (Y.sh σ) U.heap ∧ va_K Y.D Y.cl Y.tys U ∧ va_D (fun _ => True) (Y.sh σ)) ∧ oxW U U.heap (fun _ => False)) ∧ nCast U)
def jBh (D : va_G) (ad : Nat → Nat) (ac : Nat → ClassId) (o : Nat) (cO : ClassId) (A : Nat → Prop) : Hs → State → Prop := fun u t => jB (yH D ad ac o cO u.2) A u.1 t
def psH (vd : Bool) (q : Rs) : Int32 → Hs → Prop := fun r u => r = q.1 ∧ (q.1 = 0 → vd = false → u.2 0 = q.2.1.toInt64) ∧ repC u.1 q.2.2
def jMh (l : Launch) (t : Mt) (hh : List (Nat × Nat × Nat × Nat)) (D : va_G) (ad : Nat → Nat) (ac : Nat → ClassId) (o : Nat) (cO : ClassId) (gg : Nat → Int64) (rm : Room) (av : List Value) (σ : St) (vd : Bool) (q : Rs) : Prop :=
  ∀ sz : Nat, Met l t.y (wH t hh :: TT) rm (jPh (yH D ad ac o cO gg) av σ sz) (va_Qi (psH vd q) (jBh D ad ac o cO (va_A ((yH D ad ac o cO gg).sh σ) sz)) (va_A ((yH D ad ac o cO gg).sh σ) sz)) 1 6 (va_A ((yH D ad ac o cO gg).sh σ) sz)
abbrev jQh (X : Cx) (D : va_G) (ad : Nat → Nat) (ac : Nat → ClassId) (o : Nat) (cO : ClassId) (A : Nat → Prop) (vd : Bool) (q : Rs) : State → Prop := MQ X.below (va_Qi (psH vd q) (jBh D ad ac o cO A) A) X.args X.s 1 6 A
theorem jMh_of {l : Launch} {t : Mt} {hh : List (Nat × Nat × Nat × Nat)} {D : va_G} {ad : Nat → Nat} {ac : Nat → ClassId} {o : Nat} {cO : ClassId} {gg : Nat → Int64} {rm : Room} {av : List Value} {σ : St} {vd : Bool} {q : Rs} (hy : plainName t.y.cls = true) (hn : av.length ≤ t.n) (hav : ∀ v ∈ av, v.category = 1)
    (body : ∀ (X : Cx) (A : Nat → Prop), jX X (yH D ad ac o cO gg) A t.b t.n t.y.cls (wH t hh :: TT) rm t.r → oxW X.s X.s.heap (fun _ => False) → nCast X.s → X.c.exceptionTable.toList = tableOf hh → jW l X (yH D ad ac o cO gg) A t.n 0 0 (k0 X) (jQh X D ad ac o cO A vd q) σ 0 (lv_args 0 av) []) : jMh l t hh D ad ac o cO gg rm av σ vd q := by
  intro sz
  refine va_MetW (cc := t.b) (maxL := t.n) (ret := t.r) (hh := hh) hy rfl ?_
  intro p e s m args below meth c s₁ B hml hv
  obtain ⟨rfl, ⟨⟨hsz, hP, hK, hD0⟩, hox⟩, hnc⟩ := hv
  have hts := atoms_spec (ws := wH t hh :: TT) B.pre
  have hown : s.vm.findClass t.y.cls = some m.cls := findClass_of_methodNamed B.named
  obtain ⟨m9, meth9, c9, hn9, h1, h2, -, -, htb, -⟩ := Cond.codeWith_spec (hts _ List.mem_cons_self)
  cases B.named.symm.trans hn9
  cases B.method.symm.trans h1
  cases (Stand.of_body B).code.symm.trans h2
  have htab : c.exceptionTable.toList = tableOf hh := by rw [← htb, table_eq]
  subst hsz
  have hD := hD0.self (sz := s.heap.size)
  generalize hAe : va_A ((yH D ad ac o cO gg).sh σ) s.heap.size = A at hD ⊢
  have hA : ∀ q : Nat, s.heap.size ≤ q → A q := fun q h => by rw [← hAe]; exact Or.inr h
  have hl := lv_entry av (n := t.n) (by rw [lg_len av hav]; exact hn)
  rw [lg_entry_eq]
  exact body (p, e, rm, s, m, av.toArray, below, meth, c) A ⟨B.exec, B.bytes, hml, hown, hts, hK, hA, rfl, B.returns, B.notSynchronized⟩ hox hnc htab s.heap [] _ ⟨rfl, rfl⟩ hP hD va_S.rf ⟨hl, lv_args_cat av 0 hav⟩
section JHrow
variable {l : Launch} {X : Cx} {Y : Wx} {D : va_G} {ad : Nat → Nat} {ac : Nat → ClassId} {o : Nat} {cO : ClassId} {gg : Nat → Int64} {A : Nat → Prop} {cc : ByteArray} {nL : Nat} {own : String} {w0 : Cond} {Ts : List Cond} {R : Room} {ret : Option FieldType} {cells slots : Nat} {K : Heap → List Loc → Prop} {Q : State → Prop} {σ : St} {pc : Nat} {L : Lv} {rest : List Value}
theorem jx_astore_n (h : jX X Y A cc nL own Ts R ret) {k : Fin 4} {i : Nat} {x : Nat} {L' : Lv} (hd : decode cc pc = .ok (.astore_n k, 1)) (hi : (k : Nat) = i) (hn : i < nL) (hL : lput L i (.ref x) = L') (kk : jW l X Y A nL cells slots K Q σ (pc + 1) L' rest) : jW l X Y A nL cells slots K Q σ pc L (.ref x :: rest) :=
  fun H locs _ hk hP hD hS hl => lv_astore_n h.1 h.2.1 hd hi hl.1 hn rfl (fun ls' h' => kk H locs ls' hk hP hD hS (hL ▸ jL.put hl.2 rfl h'))
theorem jx_astore (h : jX X Y A cc nL own Ts R ret) {i : Nat} {x : Nat} {L' : Lv} (hd : decode cc pc = .ok (.astore i, 2)) (hn : i < nL) (hL : lput L i (.ref x) = L') (kk : jW l X Y A nL cells slots K Q σ (pc + 2) L' rest) : jW l X Y A nL cells slots K Q σ pc L (.ref x :: rest) :=
  fun H locs _ hk hP hD hS hl => lv_astore h.1 h.2.1 hd hl.1 hn rfl (fun ls' h' => kk H locs ls' hk hP hD hS (hL ▸ jL.put hl.2 rfl h'))
theorem jx_i2l (h : jX X Y A cc nL own Ts R ret) {x : Int32} (hd : decode cc pc = .ok (.i2l, 1)) (kk : jW l X Y A nL cells slots K Q σ (pc + 1) L (.long x.toInt64 :: rest)) : jW l X Y A nL cells slots K Q σ pc L (.int x :: rest) :=
  fun H locs ls hk hP hD hS hl => lv_i2l h.1 h.2.1 hd rfl (kk H locs ls hk hP hD hS hl)
theorem jx_last (h : jX X (yH D ad ac o cO gg) A cc nL own Ts R ret) {x : Int64} (hd : decode cc pc = .ok (.lastore, 1)) (kk : jX X (yH D ad ac o cO (vp_updL gg 0 x)) A cc nL own Ts R ret → jW l X (yH D ad ac o cO (vp_updL gg 0 x)) A nL cells slots kT Q σ (pc + 1) L rest) : jW l X (yH D ad ac o cO gg) A nL cells slots K Q σ pc L (.long x :: .int 0 :: .ref o :: rest) := by
  intro H locs ls hk hP hD hS hl
  refine va_last h.1 h.2.1 h.2.2.2.2.2.1 hP hD hS 24 20 rfl rfl (i := 0) (show vp_in (nI 0) 1 from vp_in_nI (by decide) (by decide)) hd (fun H1 locs1 hP1 hD1 hS1 => ?_)
  exact kk h H1 locs1 ls trivial hP1 hD1 hS1 hl
theorem jx_iretH {vd : Bool} {q : Rs} (h : jX X (yH D ad ac o cO gg) A cc nL own Ts R (some .int)) {v : Int32} (hd : decode cc pc = .ok (.ireturn, 1)) (hp : psH vd q v (σ, gg)) : jW l X (yH D ad ac o cO gg) A nL 1 6 K (jQh X D ad ac o cO A vd q) σ pc L [.int v] := by
  intro H locs ls hk9 hP hD hS hl
  obtain ⟨hx, hb, hml, hown, hts, hK, hA, hRR, hret, hlk⟩ := h
  exact W.iret (v := v) hx hb hret (fun t ht hW => ⟨⟨v, (σ, gg), rfl, hp, by rw [ht]; exact hP, va_K.moved hW.alike hK, hD⟩, hS.F ht⟩) hS.2.2 hd hlk
theorem jFind_1 (h : jX X Y A cc nL own (w0 :: TT) R ret) (ho : oxW X.s X.s.heap (fun _ => False)) {s0 e0 hpc i : Nat} {r : List (Nat × Nat × Nat × Nat)} (htab : X.c.exceptionTable.toList = tableOf ((s0, e0, hpc, i) :: r)) {pc : Nat} (hc : covers ⟨s0, e0, hpc, i⟩ pc = true) (hi : i ≠ 0) {E : String} (hw : Cond.classLink own i E ∈ TT ∧ Cond.instantiable E 6 ∈ TT) (hg : Cond.castable E E ∈ nG) : jFind l X pc hpc E := by
  intro T locs cells slots ls st a cell XS h1 h2 h3
  obtain ⟨hx, hb, hml, hown, hts, hK, hA, hRR, hret, hlk⟩ := h
  obtain ⟨cC, kC, hfc, hk, -⟩ := Cond.instantiable_spec (hts _ (List.mem_cons_of_mem _ hw.2))
  cases h3.symm.trans hfc
  exact finds_1 XS a (g := F0 X.m pc ls st) rfl hown htab hc hi (hts _ (List.mem_cons_of_mem _ hw.1)) h1 h2 h3 (ho.1 _ hg) ⟨kC, hk⟩
theorem jFind_2 (h : jX X Y A cc nL own (w0 :: TT) R ret) (ho : oxW X.s X.s.heap (fun _ => False)) (hnc : nCast X.s) {s1 e1 p1 i1 s0 e0 hpc i : Nat} {r : List (Nat × Nat × Nat × Nat)} (htab : X.c.exceptionTable.toList = tableOf ((s1, e1, p1, i1) :: (s0, e0, hpc, i) :: r)) {pc : Nat} (hc1 : covers ⟨s1, e1, p1, i1⟩ pc = true) (hi1 : i1 ≠ 0) (hc : covers ⟨s0, e0, hpc, i⟩ pc = true) (hi : i ≠ 0) {E1 E : String} (hw1 : Cond.classLink own i1 E1 ∈ TT ∧ Cond.instantiable E1 6 ∈ TT) (hw : Cond.classLink own i E ∈ TT ∧ Cond.instantiable E 6 ∈ TT) (hg : Cond.castable E E ∈ nG) (hnt : Cond.not (.castable E E1) ∈ nN) : jFind l X pc hpc E := by
  intro T locs cells slots ls st a cell XS h1 h2 h3
  obtain ⟨hx, hb, hml, hown, hts, hK, hA, hRR, hret, hlk⟩ := h
  obtain ⟨cC, kC, hfc, hk, -⟩ := Cond.instantiable_spec (hts _ (List.mem_cons_of_mem _ hw.2))
  obtain ⟨c1, k1, hf1, hk1, -⟩ := Cond.instantiable_spec (hts _ (List.mem_cons_of_mem _ hw1.2))
  cases h3.symm.trans hfc
  exact finds_2 XS a (g := F0 X.m pc ls st) rfl hown htab hc1 hi1 hc hi (hts _ (List.mem_cons_of_mem _ hw1.1)) (hts _ (List.mem_cons_of_mem _ hw.1)) h1 h2 h3 (ho.1 _ hg) (hnc _ hnt) ⟨kC, hk⟩ ⟨c1, k1, hf1, hk1⟩
end JHrow
theorem exN_1 (a b : String) : exN a b 1 = a := if_pos rfl
theorem exN_2 (a b : String) : exN a b 2 = b := if_neg (by decide)
def cd2 (q : Rs) (M : Ms) : Prop := q.1 = 0 ∨ (q.1 = 1 ∧ q.2.2 = M) ∨ (q.1 = 2 ∧ q.2.2 = M)
def cd1 (q : Rs) (M : Ms) : Prop := q.1 = 0 ∨ (q.1 = 1 ∧ q.2.2 = M)
theorem psH_1 {vd : Bool} {q : Rs} {M : Ms} {u : Hs} {v : Int32} (h : q.1 = v ∧ q.2.2 = M) (hv : ¬ v = 0) (hM : repC u.1 M) : psH vd q v u := ⟨h.1.symm, fun h0 => absurd (h.1.symm.trans h0) hv, by rw [h.2]; exact hM⟩
theorem cd_build (M : Ms) (x y : Int32) : cd1 (o_build M x y) M := by
  unfold o_build
  split
  · exact Or.inl rfl
  · exact Or.inr ⟨rfl, rfl⟩
theorem cd_balancer (M : Ms) (x y : Int32) : cd2 (o_balancer M x y) M := by
  unfold o_balancer
  split
  · exact Or.inr (Or.inl ⟨rfl, rfl⟩)
  · exact Or.inr (Or.inr ⟨rfl, rfl⟩)
  · exact Or.inl rfl
theorem cd_exit (M : Ms) (x y : Int32) : cd2 (o_exit M x y) M := by
  unfold o_exit
  split
  · exact Or.inr (Or.inl ⟨rfl, rfl⟩)
  · exact Or.inr (Or.inr ⟨rfl, rfl⟩)
  · exact Or.inl rfl
theorem cd_enter (M : Ms) (x : Int32) (b : Bool) : cd2 (o_enter M x b) M := by
  unfold o_enter
  split
  · exact Or.inr (Or.inl ⟨rfl, rfl⟩)
  · split
    · exact Or.inr (Or.inr ⟨rfl, rfl⟩)
    · exact Or.inl rfl
theorem cd_move (M : Ms) (x : Int32) : cd2 (o_move M x) M := by
  unfold o_move
  split
  · exact Or.inr (Or.inl ⟨rfl, rfl⟩)
  · split
    · exact Or.inl rfl
    · exact Or.inr (Or.inr ⟨rfl, rfl⟩)
theorem cd_deliver (M : Ms) (x : Int32) : cd1 (o_deliver M x) M := by
  unfold o_deliver
  split
  · exact Or.inr ⟨rfl, rfl⟩
  · exact Or.inl rfl
theorem cd_lose (M : Ms) (x : Int32) : cd1 (o_lose M x) M := by
  unfold o_lose
  split
  · exact Or.inr ⟨rfl, rfl⟩
  · exact Or.inl rfl
theorem cd_twin (M : Ms) (x : Int32) : cd2 (o_twin M x) M := by
  unfold o_twin
  split
  · exact Or.inr (Or.inl ⟨rfl, rfl⟩)
  · split
    · exact Or.inr (Or.inr ⟨rfl, rfl⟩)
    · exact Or.inl rfl
theorem cd_letter (M : Ms) (x y : Int32) : cd2 (o_letter M x y) M := by
  unfold o_letter
  split
  · exact Or.inl rfl
  · split
    · exact Or.inr (Or.inl ⟨rfl, rfl⟩)
    · exact Or.inr (Or.inr ⟨rfl, rfl⟩)
    · exact Or.inl rfl
theorem cd_station (M : Ms) (x : Int32) (b : Bool) : cd1 (o_station M x b) M := by
  unfold o_station
  split
  · exact Or.inr ⟨rfl, rfl⟩
  · exact Or.inl rfl
theorem cd_token (M : Ms) (x y : Int32) : cd1 (o_token M x y) M := by
  unfold o_token
  split
  · exact Or.inl rfl
  · exact Or.inr ⟨rfl, rfl⟩
theorem cd_about (M : Ms) (y : Int32) : cd1 (o_about M y) M := by
  unfold o_about
  split
  · exact Or.inr ⟨rfl, rfl⟩
  · exact Or.inl rfl
theorem cd_settle (M : Ms) (y : Int32) : cd1 (o_settle M y) M := by
  unfold o_settle
  split
  · exact Or.inr ⟨rfl, rfl⟩
  · exact Or.inl rfl
