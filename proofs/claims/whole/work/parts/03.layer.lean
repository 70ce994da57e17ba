/-! My own layer over the kit's rows: a method's walk over a state St (scalars, arrays) of one side. -/
abbrev St : Type := (Nat → Int32) × (Nat → Nat → Int32)
def sF (σ : St) (k : Nat) (v : Int32) : St := (va_up σ.1 k v, σ.2)
def sR (σ : St) (k : Nat) (f : Nat → Int32) : St := (σ.1, va_up σ.2 k f)
def sA (σ : St) (k i : Nat) (v : Int32) : St := sR σ k (upd (σ.2 k) i v)
abbrev Cx : Type := Program × Env × Room × State × MethodId × Array Value × List Frame × Method × Code
abbrev Cx.p (X : Cx) : Program := X.1
abbrev Cx.e (X : Cx) : Env := X.2.1
abbrev Cx.R (X : Cx) : Room := X.2.2.1
abbrev Cx.s (X : Cx) : State := X.2.2.2.1
abbrev Cx.m (X : Cx) : MethodId := X.2.2.2.2.1
abbrev Cx.args (X : Cx) : Array Value := X.2.2.2.2.2.1
abbrev Cx.below (X : Cx) : List Frame := X.2.2.2.2.2.2.1
abbrev Cx.meth (X : Cx) : Method := X.2.2.2.2.2.2.2.1
abbrev Cx.c (X : Cx) : Code := X.2.2.2.2.2.2.2.2
abbrev Wx : Type := va_G × List vw_C × List (ClassId × FieldType) × (St → va_W)
abbrev Wx.D (Y : Wx) : va_G := Y.1
abbrev Wx.cl (Y : Wx) : List vw_C := Y.2.1
abbrev Wx.tys (Y : Wx) : List (ClassId × FieldType) := Y.2.2.1
abbrev Wx.sh (Y : Wx) : St → va_W := Y.2.2.2
abbrev Mt : Type := MethodName × ByteArray × Nat × Option FieldType
abbrev Mt.y (t : Mt) : MethodName := t.1
abbrev Mt.b (t : Mt) : ByteArray := t.2.1
abbrev Mt.n (t : Mt) : Nat := t.2.2.1
abbrev Mt.r (t : Mt) : Option FieldType := t.2.2.2
abbrev Mt.w (t : Mt) : Cond := Cond.code t.y t.b t.n t.r
abbrev Lv : Type := List (Nat × Value)
def lput (L : Lv) (i : Nat) (v : Value) : Lv := if L.any (fun q => q.1 == i) then L.map (fun q => if q.1 == i then (i, v) else q) else L ++ [(i, v)]
def lget : Lv → Nat → Option Value
  | [], _ => none
  | q :: r, i => if q.1 == i then some q.2 else lget r i
theorem lget_mem : ∀ (L : Lv) (i : Nat) (v : Value), lget L i = some v → (i, v) ∈ L
  | [], _, _, h => by cases h
  | q :: r, i, v, h => by
    unfold lget at h
    split at h
    · rename_i hq
      have h1 : q.1 = i := by simpa using hq
      have h2 : q.2 = v := by simpa using h
      have : q = (i, v) := by rw [← h1, ← h2]
      rw [this]; exact List.mem_cons_self
    · exact List.mem_cons_of_mem _ (lget_mem r i v h)
theorem lput_mem {L : Lv} {i : Nat} {v : Value} {q : Nat × Value} (h : q ∈ lput L i v) : q = (i, v) ∨ (q ∈ L ∧ q.1 ≠ i) := by
  unfold lput at h
  split at h
  · obtain ⟨r, hr, he⟩ := List.mem_map.mp h
    by_cases hi : r.1 = i
    · rw [if_pos (by simpa using hi)] at he
      exact Or.inl he.symm
    · rw [if_neg (by simpa using hi)] at he
      subst he
      exact Or.inr ⟨hr, hi⟩
  · rename_i hn
    rcases List.mem_append.mp h with h | h
    · refine Or.inr ⟨h, fun hi => hn ?_⟩
      exact List.any_eq_true.mpr ⟨q, h, by simpa using hi⟩
    · exact Or.inl (by simpa using h)
def jL (ls : Array Slot) (nL : Nat) (L : Lv) : Prop := lv_has ls nL L ∧ ∀ q ∈ L, q.2.category = 1
theorem jL.get {ls : Array Slot} {nL : Nat} {L : Lv} (h : jL ls nL L) {i : Nat} {v : Value} (hv : lget L i = some v) : ls[i]? = some (.val v) := h.1.2.2 (i, v) (lget_mem L i v hv)
theorem jL.put {ls : Array Slot} {nL : Nat} {L : Lv} (hc : ∀ q ∈ L, q.2.category = 1) {i : Nat} {v : Value} (hv : v.category = 1)
    (h : lv_has ls nL ((i, v) :: L.filter (fun q => !(q.1 == i) && !(q.1 + 1 == i && q.2.category == 2)))) : jL ls nL (lput L i v) := by
  refine ⟨⟨h.1, h.2.1, fun q hq => ?_⟩, fun q hq => ?_⟩
  · rcases lput_mem hq with rfl | ⟨hq, hi⟩
    · exact h.2.2 _ List.mem_cons_self
    · refine h.2.2 _ (List.mem_cons_of_mem _ (List.mem_filter.mpr ⟨hq, ?_⟩))
      have h1 := hc q hq
      simp [hi, h1]
  · rcases lput_mem hq with rfl | ⟨hq, -⟩
    · exact hv
    · exact hc q hq
/-- a walk of a method over one side's state -/
def kT : Heap → List Loc → Prop := fun _ _ => True
def k0 (X : Cx) : Heap → List Loc → Prop := fun H locs => H = X.s.heap ∧ locs = []
def jW (l : Launch) (X : Cx) (Y : Wx) (A : Nat → Prop) (nL cells slots : Nat) (K : Heap → List Loc → Prop) (Q : State → Prop) (σ : St) (pc : Nat) (L : Lv) (st : List Value) : Prop :=
  ∀ (H : Heap) (locs : List Loc) (ls : Array Slot), K H locs → va_P Y.D Y.cl (Y.sh σ) H → va_D A (Y.sh σ) → va_S A X.s.heap H locs → jL ls nL L →
    W X.p l X.e X.R X.s X.m X.args X.below X.meth X.c H locs cells slots Q (F0 X.m pc ls st)
/-- what stands fixed in a method's walk -/
def jX (X : Cx) (Y : Wx) (A : Nat → Prop) (cc : ByteArray) (nL : Nat) (own : String) (Ts : List Cond) (R : Room) (ret : Option FieldType) : Prop :=
  X.p.tables.exec = Jvm.exec ∧ X.c.code = cc ∧ X.c.maxLocals = nL ∧ X.s.vm.findClass own = some X.m.cls ∧ (∀ w ∈ Ts, w.before X.args X.s = true) ∧
    va_K Y.D Y.cl Y.tys X.s ∧ (∀ q, X.s.heap.size ≤ q → A q) ∧ X.R = R ∧ X.meth.sig.returnType = ret ∧ X.meth.locks = false
section JPure
variable {l : Launch} {X : Cx} {Y : Wx} {A : Nat → Prop} {cc : ByteArray} {nL : Nat} {own : String} {Ts : List Cond} {R : Room} {ret : Option FieldType} {cells slots : Nat} {K : Heap → List Loc → Prop} {Q : State → Prop} {σ : St} {pc : Nat} {L : Lv} {rest : List Value}
theorem jx_iconst (h : jX X Y A cc nL own Ts R ret) {n : Int} {v : Int32} (hd : decode cc pc = .ok (.iconst n, 1)) (hv : Int32.ofInt n = v) (k : jW l X Y A nL cells slots K Q σ (pc + 1) L (.int v :: rest)) : jW l X Y A nL cells slots K Q σ pc L rest :=
  fun H locs ls hk hP hD hS hl => lv_iconst h.1 h.2.1 hd hv (k H locs ls hk hP hD hS hl)
theorem jx_bipush (h : jX X Y A cc nL own Ts R ret) {n : Int} {v : Int32} (hd : decode cc pc = .ok (.bipush n, 2)) (hv : (Int8.ofInt n).toInt32 = v) (k : jW l X Y A nL cells slots K Q σ (pc + 2) L (.int v :: rest)) : jW l X Y A nL cells slots K Q σ pc L rest :=
  fun H locs ls hk hP hD hS hl => lv_bipush h.1 h.2.1 hd hv (k H locs ls hk hP hD hS hl)
theorem jx_sipush (h : jX X Y A cc nL own Ts R ret) {n : Int} {v : Int32} (hd : decode cc pc = .ok (.sipush n, 3)) (hv : (Int16.ofInt n).toInt32 = v) (k : jW l X Y A nL cells slots K Q σ (pc + 3) L (.int v :: rest)) : jW l X Y A nL cells slots K Q σ pc L rest :=
  fun H locs ls hk hP hD hS hl => lv_sipush h.1 h.2.1 hd hv (k H locs ls hk hP hD hS hl)
theorem jx_iload_n (h : jX X Y A cc nL own Ts R ret) {k : Fin 4} {i : Nat} {x : Int32} (hd : decode cc pc = .ok (.iload_n k, 1)) (hi : (k : Nat) = i) (hv : lget L i = some (.int x)) (kk : jW l X Y A nL cells slots K Q σ (pc + 1) L (.int x :: rest)) : jW l X Y A nL cells slots K Q σ pc L rest :=
  fun H locs ls hk hP hD hS hl => lv_iload_n h.1 h.2.1 hd hi (hl.get hv) (kk H locs ls hk hP hD hS hl)
theorem jx_iload (h : jX X Y A cc nL own Ts R ret) {i : Nat} {x : Int32} (hd : decode cc pc = .ok (.iload i, 2)) (hv : lget L i = some (.int x)) (kk : jW l X Y A nL cells slots K Q σ (pc + 2) L (.int x :: rest)) : jW l X Y A nL cells slots K Q σ pc L rest :=
  fun H locs ls hk hP hD hS hl => lv_iload h.1 h.2.1 hd (hl.get hv) (kk H locs ls hk hP hD hS hl)
theorem jx_aload_n (h : jX X Y A cc nL own Ts R ret) {k : Fin 4} {i : Nat} {x : Nat} (hd : decode cc pc = .ok (.aload_n k, 1)) (hi : (k : Nat) = i) (hv : lget L i = some (.ref x)) (kk : jW l X Y A nL cells slots K Q σ (pc + 1) L (.ref x :: rest)) : jW l X Y A nL cells slots K Q σ pc L rest :=
  fun H locs ls hk hP hD hS hl => lv_aload_n h.1 h.2.1 hd hi (hl.get hv) (kk H locs ls hk hP hD hS hl)
theorem jx_aload (h : jX X Y A cc nL own Ts R ret) {i : Nat} {x : Nat} (hd : decode cc pc = .ok (.aload i, 2)) (hv : lget L i = some (.ref x)) (kk : jW l X Y A nL cells slots K Q σ (pc + 2) L (.ref x :: rest)) : jW l X Y A nL cells slots K Q σ pc L rest :=
  fun H locs ls hk hP hD hS hl => lv_aload h.1 h.2.1 hd (hl.get hv) (kk H locs ls hk hP hD hS hl)
theorem jx_istore_n (h : jX X Y A cc nL own Ts R ret) {k : Fin 4} {i : Nat} {x : Int32} {L' : Lv} (hd : decode cc pc = .ok (.istore_n k, 1)) (hi : (k : Nat) = i) (hn : i < nL) (hL : lput L i (.int x) = L') (kk : jW l X Y A nL cells slots K Q σ (pc + 1) L' rest) : jW l X Y A nL cells slots K Q σ pc L (.int x :: rest) :=
  fun H locs _ hk hP hD hS hl => lv_istore_n h.1 h.2.1 hd hi hl.1 hn rfl (fun ls' h' => kk H locs ls' hk hP hD hS (hL ▸ jL.put hl.2 rfl h'))
theorem jx_istore (h : jX X Y A cc nL own Ts R ret) {i : Nat} {x : Int32} {L' : Lv} (hd : decode cc pc = .ok (.istore i, 2)) (hn : i < nL) (hL : lput L i (.int x) = L') (kk : jW l X Y A nL cells slots K Q σ (pc + 2) L' rest) : jW l X Y A nL cells slots K Q σ pc L (.int x :: rest) :=
  fun H locs _ hk hP hD hS hl => lv_istore h.1 h.2.1 hd hl.1 hn rfl (fun ls' h' => kk H locs ls' hk hP hD hS (hL ▸ jL.put hl.2 rfl h'))
theorem jx_iinc (h : jX X Y A cc nL own Ts R ret) {i : Nat} {n : Int} {x v : Int32} {L' : Lv} (hd : decode cc pc = .ok (.iinc i n, 3)) (hx : lget L i = some (.int x)) (hv : x + Int32.ofInt n = v) (hn : i < nL) (hL : lput L i (.int v) = L') (kk : jW l X Y A nL cells slots K Q σ (pc + 3) L' rest) : jW l X Y A nL cells slots K Q σ pc L rest :=
  fun H locs _ hk hP hD hS hl => by
    obtain ⟨k, hk9⟩ := List.getElem?_of_mem (lget_mem L i _ hx)
    exact lv_iinc h.1 h.2.1 hd hl.1 hk9 hv hn rfl (fun ls' h' => kk H locs ls' hk hP hD hS (hL ▸ jL.put hl.2 rfl h'))
theorem jx_iadd (h : jX X Y A cc nL own Ts R ret) {x y : Int32} (hd : decode cc pc = .ok (.iadd, 1)) (k : jW l X Y A nL cells slots K Q σ (pc + 1) L (.int (x + y) :: rest)) : jW l X Y A nL cells slots K Q σ pc L (.int y :: .int x :: rest) :=
  fun H locs ls hk hP hD hS hl => lv_iadd h.1 h.2.1 hd (k H locs ls hk hP hD hS hl)
theorem jx_isub (h : jX X Y A cc nL own Ts R ret) {x y : Int32} (hd : decode cc pc = .ok (.isub, 1)) (k : jW l X Y A nL cells slots K Q σ (pc + 1) L (.int (x - y) :: rest)) : jW l X Y A nL cells slots K Q σ pc L (.int y :: .int x :: rest) :=
  fun H locs ls hk hP hD hS hl => lv_isub h.1 h.2.1 hd (k H locs ls hk hP hD hS hl)
theorem jx_imul (h : jX X Y A cc nL own Ts R ret) {x y : Int32} (hd : decode cc pc = .ok (.imul, 1)) (k : jW l X Y A nL cells slots K Q σ (pc + 1) L (.int (x * y) :: rest)) : jW l X Y A nL cells slots K Q σ pc L (.int y :: .int x :: rest) :=
  fun H locs ls hk hP hD hS hl => lv_imul h.1 h.2.1 hd (k H locs ls hk hP hD hS hl)
theorem jx_idiv (h : jX X Y A cc nL own Ts R ret) {x y : Int32} (hd : decode cc pc = .ok (.idiv, 1)) (hne : ¬ y = 0) (k : jW l X Y A nL cells slots K Q σ (pc + 1) L (.int (x / y) :: rest)) : jW l X Y A nL cells slots K Q σ pc L (.int y :: .int x :: rest) :=
  fun H locs ls hk hP hD hS hl => lv_idiv h.1 h.2.1 hd hne (k H locs ls hk hP hD hS hl)
theorem jx_irem (h : jX X Y A cc nL own Ts R ret) {x y : Int32} (hd : decode cc pc = .ok (.irem, 1)) (hne : ¬ y = 0) (k : jW l X Y A nL cells slots K Q σ (pc + 1) L (.int (x - x / y * y) :: rest)) : jW l X Y A nL cells slots K Q σ pc L (.int y :: .int x :: rest) :=
  fun H locs ls hk hP hD hS hl => lv_irem h.1 h.2.1 hd hne (k H locs ls hk hP hD hS hl)
theorem jx_dup (h : jX X Y A cc nL own Ts R ret) {va : Value} (hd : decode cc pc = .ok (.dup, 1)) (ha : va.category = 1) (k : jW l X Y A nL cells slots K Q σ (pc + 1) L (va :: va :: rest)) : jW l X Y A nL cells slots K Q σ pc L (va :: rest) :=
  fun H locs ls hk hP hD hS hl => lv_dup h.1 h.2.1 hd ha (k H locs ls hk hP hD hS hl)
theorem jx_dup2 (h : jX X Y A cc nL own Ts R ret) {va vb : Value} (hd : decode cc pc = .ok (.dup2, 1)) (ha : va.category = 1) (hb : vb.category = 1) (k : jW l X Y A nL cells slots K Q σ (pc + 1) L (va :: vb :: va :: vb :: rest)) : jW l X Y A nL cells slots K Q σ pc L (va :: vb :: rest) :=
  fun H locs ls hk hP hD hS hl => lv_dup2_11 h.1 h.2.1 hd ha hb (k H locs ls hk hP hD hS hl)
theorem jx_dup_x1 (h : jX X Y A cc nL own Ts R ret) {va vb : Value} (hd : decode cc pc = .ok (.dup_x1, 1)) (ha : va.category = 1) (hb : vb.category = 1) (k : jW l X Y A nL cells slots K Q σ (pc + 1) L (va :: vb :: va :: rest)) : jW l X Y A nL cells slots K Q σ pc L (va :: vb :: rest) :=
  fun H locs ls hk hP hD hS hl => lv_dup_x1 h.1 h.2.1 hd ha hb (k H locs ls hk hP hD hS hl)
theorem jx_pop (h : jX X Y A cc nL own Ts R ret) {va : Value} (hd : decode cc pc = .ok (.pop, 1)) (ha : va.category = 1) (k : jW l X Y A nL cells slots K Q σ (pc + 1) L rest) : jW l X Y A nL cells slots K Q σ pc L (va :: rest) :=
  fun H locs ls hk hP hD hS hl => lv_pop h.1 h.2.1 hd ha (k H locs ls hk hP hD hS hl)
theorem jx_goto (h : jX X Y A cc nL own Ts R ret) {off : Int} (tgt : Nat) (hd : decode cc pc = .ok (.goto off, 3)) (ht : (pc : Int) + off = (tgt : Int)) (k : jW l X Y A nL cells slots K Q σ tgt L rest) : jW l X Y A nL cells slots K Q σ pc L rest :=
  fun H locs ls hk hP hD hS hl => lv_goto h.1 h.2.1 hd ht (k H locs ls hk hP hD hS hl)
theorem jx_if_eq (h : jX X Y A cc nL own Ts R ret) {x : Int32} {off : Int} (tgt : Nat) (hd : decode cc pc = .ok (.ifCond .eq off, 3)) (ht : (pc : Int) + off = (tgt : Int)) (kt : x = 0 → jW l X Y A nL cells slots K Q σ tgt L rest) (kf : ¬ x = 0 → jW l X Y A nL cells slots K Q σ (pc + 3) L rest) : jW l X Y A nL cells slots K Q σ pc L (.int x :: rest) :=
  fun H locs ls hk hP hD hS hl => lv_if_eq h.1 h.2.1 hd ht (fun q => kt q H locs ls hk hP hD hS hl) (fun q => kf q H locs ls hk hP hD hS hl)
theorem jx_if_ne (h : jX X Y A cc nL own Ts R ret) {x : Int32} {off : Int} (tgt : Nat) (hd : decode cc pc = .ok (.ifCond .ne off, 3)) (ht : (pc : Int) + off = (tgt : Int)) (kt : ¬ x = 0 → jW l X Y A nL cells slots K Q σ tgt L rest) (kf : x = 0 → jW l X Y A nL cells slots K Q σ (pc + 3) L rest) : jW l X Y A nL cells slots K Q σ pc L (.int x :: rest) :=
  fun H locs ls hk hP hD hS hl => lv_if_ne h.1 h.2.1 hd ht (fun q => kt q H locs ls hk hP hD hS hl) (fun q => kf q H locs ls hk hP hD hS hl)
theorem jx_if_lt (h : jX X Y A cc nL own Ts R ret) {x : Int32} {off : Int} (tgt : Nat) (hd : decode cc pc = .ok (.ifCond .lt off, 3)) (ht : (pc : Int) + off = (tgt : Int)) (kt : x < 0 → jW l X Y A nL cells slots K Q σ tgt L rest) (kf : ¬ x < 0 → jW l X Y A nL cells slots K Q σ (pc + 3) L rest) : jW l X Y A nL cells slots K Q σ pc L (.int x :: rest) :=
  fun H locs ls hk hP hD hS hl => lv_if_lt h.1 h.2.1 hd ht (fun q => kt q H locs ls hk hP hD hS hl) (fun q => kf q H locs ls hk hP hD hS hl)
theorem jx_if_ge (h : jX X Y A cc nL own Ts R ret) {x : Int32} {off : Int} (tgt : Nat) (hd : decode cc pc = .ok (.ifCond .ge off, 3)) (ht : (pc : Int) + off = (tgt : Int)) (kt : 0 ≤ x → jW l X Y A nL cells slots K Q σ tgt L rest) (kf : ¬ 0 ≤ x → jW l X Y A nL cells slots K Q σ (pc + 3) L rest) : jW l X Y A nL cells slots K Q σ pc L (.int x :: rest) :=
  fun H locs ls hk hP hD hS hl => lv_if_ge h.1 h.2.1 hd ht (fun q => kt q H locs ls hk hP hD hS hl) (fun q => kf q H locs ls hk hP hD hS hl)
theorem jx_if_gt (h : jX X Y A cc nL own Ts R ret) {x : Int32} {off : Int} (tgt : Nat) (hd : decode cc pc = .ok (.ifCond .gt off, 3)) (ht : (pc : Int) + off = (tgt : Int)) (kt : 0 < x → jW l X Y A nL cells slots K Q σ tgt L rest) (kf : ¬ 0 < x → jW l X Y A nL cells slots K Q σ (pc + 3) L rest) : jW l X Y A nL cells slots K Q σ pc L (.int x :: rest) :=
  fun H locs ls hk hP hD hS hl => lv_if_gt h.1 h.2.1 hd ht (fun q => kt q H locs ls hk hP hD hS hl) (fun q => kf q H locs ls hk hP hD hS hl)
theorem jx_if_le (h : jX X Y A cc nL own Ts R ret) {x : Int32} {off : Int} (tgt : Nat) (hd : decode cc pc = .ok (.ifCond .le off, 3)) (ht : (pc : Int) + off = (tgt : Int)) (kt : x ≤ 0 → jW l X Y A nL cells slots K Q σ tgt L rest) (kf : ¬ x ≤ 0 → jW l X Y A nL cells slots K Q σ (pc + 3) L rest) : jW l X Y A nL cells slots K Q σ pc L (.int x :: rest) :=
  fun H locs ls hk hP hD hS hl => lv_if_le h.1 h.2.1 hd ht (fun q => kt q H locs ls hk hP hD hS hl) (fun q => kf q H locs ls hk hP hD hS hl)
theorem jx_icmp_eq (h : jX X Y A cc nL own Ts R ret) {x y : Int32} {off : Int} (tgt : Nat) (hd : decode cc pc = .ok (.if_icmp .eq off, 3)) (ht : (pc : Int) + off = (tgt : Int)) (kt : x = y → jW l X Y A nL cells slots K Q σ tgt L rest) (kf : ¬ x = y → jW l X Y A nL cells slots K Q σ (pc + 3) L rest) : jW l X Y A nL cells slots K Q σ pc L (.int y :: .int x :: rest) :=
  fun H locs ls hk hP hD hS hl => lv_icmp_eq h.1 h.2.1 hd ht (fun q => kt q H locs ls hk hP hD hS hl) (fun q => kf q H locs ls hk hP hD hS hl)
theorem jx_icmp_ne (h : jX X Y A cc nL own Ts R ret) {x y : Int32} {off : Int} (tgt : Nat) (hd : decode cc pc = .ok (.if_icmp .ne off, 3)) (ht : (pc : Int) + off = (tgt : Int)) (kt : ¬ x = y → jW l X Y A nL cells slots K Q σ tgt L rest) (kf : x = y → jW l X Y A nL cells slots K Q σ (pc + 3) L rest) : jW l X Y A nL cells slots K Q σ pc L (.int y :: .int x :: rest) :=
  fun H locs ls hk hP hD hS hl => lv_icmp_ne h.1 h.2.1 hd ht (fun q => kt q H locs ls hk hP hD hS hl) (fun q => kf q H locs ls hk hP hD hS hl)
theorem jx_icmp_lt (h : jX X Y A cc nL own Ts R ret) {x y : Int32} {off : Int} (tgt : Nat) (hd : decode cc pc = .ok (.if_icmp .lt off, 3)) (ht : (pc : Int) + off = (tgt : Int)) (kt : x < y → jW l X Y A nL cells slots K Q σ tgt L rest) (kf : ¬ x < y → jW l X Y A nL cells slots K Q σ (pc + 3) L rest) : jW l X Y A nL cells slots K Q σ pc L (.int y :: .int x :: rest) :=
  fun H locs ls hk hP hD hS hl => lv_icmp_lt h.1 h.2.1 hd ht (fun q => kt q H locs ls hk hP hD hS hl) (fun q => kf q H locs ls hk hP hD hS hl)
theorem jx_icmp_ge (h : jX X Y A cc nL own Ts R ret) {x y : Int32} {off : Int} (tgt : Nat) (hd : decode cc pc = .ok (.if_icmp .ge off, 3)) (ht : (pc : Int) + off = (tgt : Int)) (kt : y ≤ x → jW l X Y A nL cells slots K Q σ tgt L rest) (kf : ¬ y ≤ x → jW l X Y A nL cells slots K Q σ (pc + 3) L rest) : jW l X Y A nL cells slots K Q σ pc L (.int y :: .int x :: rest) :=
  fun H locs ls hk hP hD hS hl => lv_icmp_ge h.1 h.2.1 hd ht (fun q => kt q H locs ls hk hP hD hS hl) (fun q => kf q H locs ls hk hP hD hS hl)
theorem jx_icmp_gt (h : jX X Y A cc nL own Ts R ret) {x y : Int32} {off : Int} (tgt : Nat) (hd : decode cc pc = .ok (.if_icmp .gt off, 3)) (ht : (pc : Int) + off = (tgt : Int)) (kt : y < x → jW l X Y A nL cells slots K Q σ tgt L rest) (kf : ¬ y < x → jW l X Y A nL cells slots K Q σ (pc + 3) L rest) : jW l X Y A nL cells slots K Q σ pc L (.int y :: .int x :: rest) :=
  fun H locs ls hk hP hD hS hl => lv_icmp_gt h.1 h.2.1 hd ht (fun q => kt q H locs ls hk hP hD hS hl) (fun q => kf q H locs ls hk hP hD hS hl)
theorem jx_icmp_le (h : jX X Y A cc nL own Ts R ret) {x y : Int32} {off : Int} (tgt : Nat) (hd : decode cc pc = .ok (.if_icmp .le off, 3)) (ht : (pc : Int) + off = (tgt : Int)) (kt : x ≤ y → jW l X Y A nL cells slots K Q σ tgt L rest) (kf : ¬ x ≤ y → jW l X Y A nL cells slots K Q σ (pc + 3) L rest) : jW l X Y A nL cells slots K Q σ pc L (.int y :: .int x :: rest) :=
  fun H locs ls hk hP hD hS hl => lv_icmp_le h.1 h.2.1 hd ht (fun q => kt q H locs ls hk hP hD hS hl) (fun q => kf q H locs ls hk hP hD hS hl)
theorem jx_tsIn (h : jX X Y A cc nL own Ts R ret) {dflt lo hi : Int} {offs : Array Int} {len : Nat} {x : Int32} {off : Int} (tgt : Nat) (hd : decode cc pc = .ok (.tableswitch dflt lo hi offs, len)) (h1 : ¬ x.toInt < lo) (h2 : ¬ hi < x.toInt) (ho : offs[(x.toInt - lo).toNat]? = some off) (ht : (pc : Int) + off = (tgt : Int))
    (k : jW l X Y A nL cells slots K Q σ tgt L rest) : jW l X Y A nL cells slots K Q σ pc L (.int x :: rest) :=
  fun H locs ls hk hP hD hS hl => lv_tableIn h.1 h.2.1 hd h1 h2 ho ht (k H locs ls hk hP hD hS hl)
theorem jx_tsOut (h : jX X Y A cc nL own Ts R ret) {dflt lo hi : Int} {offs : Array Int} {len : Nat} {x : Int32} (tgt : Nat) (hd : decode cc pc = .ok (.tableswitch dflt lo hi offs, len)) (h1 : x.toInt < lo ∨ hi < x.toInt) (ht : (pc : Int) + dflt = (tgt : Int))
    (k : jW l X Y A nL cells slots K Q σ tgt L rest) : jW l X Y A nL cells slots K Q σ pc L (.int x :: rest) :=
  fun H locs ls hk hP hD hS hl => lv_tableOut h.1 h.2.1 hd h1 ht (k H locs ls hk hP hD hS hl)
end JPure
section JTop
variable {l : Launch} {X : Cx} {Y : Wx} {A : Nat → Prop} {nL : Nat} {cells slots : Nat} {K : Heap → List Loc → Prop} {Q : State → Prop} {σ : St} {pc : Nat} {L : Lv} {rest : List Value}
theorem jx_kT {st : List Value} (k : jW l X Y A nL cells slots kT Q σ pc L st) : jW l X Y A nL cells slots K Q σ pc L st := fun H locs ls _ hP hD hS hl => k H locs ls trivial hP hD hS hl
theorem jx_top {x y : Int32} (e : x = y) (k : jW l X Y A nL cells slots K Q σ pc L (.int y :: rest)) : jW l X Y A nL cells slots K Q σ pc L (.int x :: rest) := e ▸ k
theorem jx_to {σ' : St} {pc' : Nat} {L' : Lv} {st st' : List Value} (k : jW l X Y A nL cells slots K Q σ' pc' L' st') (e1 : σ = σ') (e2 : pc = pc') (e3 : L = L') (e4 : st = st') : jW l X Y A nL cells slots K Q σ pc L st := by
  subst e1; subst e2; subst e3; subst e4; exact k
end JTop
