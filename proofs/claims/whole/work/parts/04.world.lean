/-! one side's world: n arrays of ints (or booleans) at ad 0 .. ad (n-1), then its objects -/
def jWd (n : Nat) (ad : Nat → Nat) (ac : Nat → ClassId) (ln : Nat → Nat) (ob : (Nat → Int32) → va_W) (σ : St) : va_W :=
  (List.range n).map (fun k => (ad k, Sum.inl (ac k, (ln k, Sum.inl (σ.2 k))))) ++ ob σ.1
def jTy (n : Nat) (ac : Nat → ClassId) (ty : Nat → FieldType) : List (ClassId × FieldType) := (List.range n).map (fun k => (ac k, ty k))
def jY (D : va_G) (cl : List vw_C) (n : Nat) (ad : Nat → Nat) (ac : Nat → ClassId) (ln : Nat → Nat) (ty : Nat → FieldType) (ob : (Nat → Int32) → va_W) : Wx := (D, cl, jTy n ac ty, jWd n ad ac ln ob)
theorem jWd_get {n : Nat} {ad : Nat → Nat} {ac : Nat → ClassId} {ln : Nat → Nat} {ob : (Nat → Int32) → va_W} {σ : St} {k : Nat} (hk : k < n) : (jWd n ad ac ln ob σ)[k]? = some (ad k, Sum.inl (ac k, (ln k, Sum.inl (σ.2 k)))) := by
  unfold jWd
  rw [List.getElem?_append_left (by simpa using hk), List.getElem?_map, List.getElem?_range hk]
  rfl
theorem jTy_get {n : Nat} {ac : Nat → ClassId} {ty : Nat → FieldType} {k : Nat} (hk : k < n) : (jTy n ac ty)[k]? = some (ac k, ty k) := by
  unfold jTy
  rw [List.getElem?_map, List.getElem?_range hk]
  rfl
theorem jWd_set {n : Nat} {ad : Nat → Nat} {ac : Nat → ClassId} {ln : Nat → Nat} {ob : (Nat → Int32) → va_W} {σ : St} {k : Nat} {f : Nat → Int32} (hk : k < n) : (jWd n ad ac ln ob σ).set k (ad k, Sum.inl (ac k, (ln k, Sum.inl f))) = jWd n ad ac ln ob (sR σ k f) := by
  unfold jWd
  rw [List.set_append_left _ _ (by simpa using hk)]
  congr 1
  apply List.ext_getElem?
  intro j
  rw [List.getElem?_set]
  by_cases hj : k = j
  · subst hj
    simp [hk, sR, va_up]
  · simp only [hj, if_false, List.getElem?_map]
    by_cases hjn : j < n
    · rw [List.getElem?_range hjn]
      simp [sR, va_up, Ne.symm hj]
    · rw [List.getElem?_eq_none (by simpa using hjn)]
      rfl
section JArr
variable {l : Launch} {X : Cx} {D : va_G} {cl : List vw_C} {n : Nat} {ad : Nat → Nat} {ac : Nat → ClassId} {ln : Nat → Nat} {ty : Nat → FieldType} {ob : (Nat → Int32) → va_W} {A : Nat → Prop} {cc : ByteArray} {nL : Nat} {own : String} {Ts : List Cond} {R : Room} {ret : Option FieldType} {cells slots : Nat} {K : Heap → List Loc → Prop} {Q : State → Prop} {σ : St} {pc : Nat} {L : Lv} {rest : List Value}
theorem jx_iald (h : jX X (jY D cl n ad ac ln ty ob) A cc nL own Ts R ret) {k : Nat} (hk : k < n ∧ ty k = .int ∧ ln k < 2 ^ 31) {i : Int32} (j : Nat) (hi : i = nI j) (hj : j < ln k) (hd : decode cc pc = .ok (.iaload, 1))
    (kk : jW l X (jY D cl n ad ac ln ty ob) A nL cells slots K Q σ (pc + 1) L (.int (σ.2 k j) :: rest)) : jW l X (jY D cl n ad ac ln ty ob) A nL cells slots K Q σ pc L (.int i :: .ref (ad k) :: rest) := by
  intro H locs ls hk9 hP hD hS hl
  subst hi
  obtain ⟨h1, h2, h3⟩ := hk
  have hj2 : j < 2 ^ 31 := Nat.lt_trans hj h3
  refine va_iald h.1 h.2.1 h.2.2.2.2.2.1 hP k k (jWd_get h1) (by rw [← h2]; exact jTy_get h1) (vp_in_nI hj h3) hd ?_
  rw [nI_clamp hj2]
  exact kk H locs ls hk9 hP hD hS hl
theorem jx_zald (h : jX X (jY D cl n ad ac ln ty ob) A cc nL own Ts R ret) {k : Nat} (hk : k < n ∧ ty k = .boolean ∧ ln k < 2 ^ 31) {i : Int32} (j : Nat) (hi : i = nI j) (hj : j < ln k) (hd : decode cc pc = .ok (.baload, 1))
    (kk : jW l X (jY D cl n ad ac ln ty ob) A nL cells slots K Q σ (pc + 1) L (.int (σ.2 k j) :: rest)) : jW l X (jY D cl n ad ac ln ty ob) A nL cells slots K Q σ pc L (.int i :: .ref (ad k) :: rest) := by
  intro H locs ls hk9 hP hD hS hl
  subst hi
  obtain ⟨h1, h2, h3⟩ := hk
  have hj2 : j < 2 ^ 31 := Nat.lt_trans hj h3
  refine va_zald h.1 h.2.1 h.2.2.2.2.2.1 hP k k (jWd_get h1) (by rw [← h2]; exact jTy_get h1) (vp_in_nI hj h3) hd ?_
  rw [nI_clamp hj2]
  exact kk H locs ls hk9 hP hD hS hl
theorem jx_iast (h : jX X (jY D cl n ad ac ln ty ob) A cc nL own Ts R ret) {k : Nat} (hk : k < n ∧ ty k = .int ∧ ln k < 2 ^ 31) {i x : Int32} (j : Nat) (hi : i = nI j) (hj : j < ln k) (hd : decode cc pc = .ok (.iastore, 1))
    (kk : jW l X (jY D cl n ad ac ln ty ob) A nL cells slots kT Q (sA σ k j x) (pc + 1) L rest) : jW l X (jY D cl n ad ac ln ty ob) A nL cells slots K Q σ pc L (.int x :: .int i :: .ref (ad k) :: rest) := by
  intro H locs ls hk9 hP hD hS hl
  subst hi
  obtain ⟨h1, h2, h3⟩ := hk
  have hj2 : j < 2 ^ 31 := Nat.lt_trans hj h3
  refine va_iast h.1 h.2.1 h.2.2.2.2.2.1 hP hD hS k k (jWd_get h1) (by rw [← h2]; exact jTy_get h1) (vp_in_nI hj h3) hd (fun H1 locs1 hP1 hD1 hS1 => ?_)
  rw [nI_clamp hj2] at hP1 hD1
  have e : ((jY D cl n ad ac ln ty ob).sh σ).set k (ad k, Sum.inl (ac k, (ln k, Sum.inl (upd (σ.2 k) j x)))) = (jY D cl n ad ac ln ty ob).sh (sA σ k j x) := jWd_set h1
  exact kk H1 locs1 ls trivial (by rw [← e]; exact hP1) (by rw [← e]; exact hD1) hS1 hl
theorem jx_zast (h : jX X (jY D cl n ad ac ln ty ob) A cc nL own Ts R ret) {k : Nat} (hk : k < n ∧ ty k = .boolean ∧ ln k < 2 ^ 31) {i x : Int32} (j : Nat) (hi : i = nI j) (hj : j < ln k) (hx : vp_nar .boolean x = x) (hd : decode cc pc = .ok (.bastore, 1))
    (kk : jW l X (jY D cl n ad ac ln ty ob) A nL cells slots kT Q (sA σ k j x) (pc + 1) L rest) : jW l X (jY D cl n ad ac ln ty ob) A nL cells slots K Q σ pc L (.int x :: .int i :: .ref (ad k) :: rest) := by
  intro H locs ls hk9 hP hD hS hl
  subst hi
  obtain ⟨h1, h2, h3⟩ := hk
  have hj2 : j < 2 ^ 31 := Nat.lt_trans hj h3
  refine va_zast h.1 h.2.1 h.2.2.2.2.2.1 hP hD hS k k (jWd_get h1) (by rw [← h2]; exact jTy_get h1) (vp_in_nI hj h3) hd (fun H1 locs1 hP1 hD1 hS1 => ?_)
  rw [nI_clamp hj2, hx] at hP1 hD1
  have e : ((jY D cl n ad ac ln ty ob).sh σ).set k (ad k, Sum.inl (ac k, (ln k, Sum.inl (upd (σ.2 k) j x)))) = (jY D cl n ad ac ln ty ob).sh (sA σ k j x) := jWd_set h1
  exact kk H1 locs1 ls trivial (by rw [← e]; exact hP1) (by rw [← e]; exact hD1) hS1 hl
theorem jx_copy (h : jX X (jY D cl n ad ac ln ty ob) A cc nL own Ts R ret) {index : Nat} (hw : Cond.methodLink own index arraycopyName ∈ Ts ∧ Cond.native arraycopyName ∈ Ts ∧ Cond.static arraycopyName ∈ Ts ∧ Cond.initialized "java/lang/System" ∈ Ts)
    {k0 k1 : Nat} (hk0 : k0 < n ∧ ty k0 = .int ∧ ln k0 < 2 ^ 31) (hk1 : k1 < n ∧ ty k1 = .int ∧ ln k1 < 2 ^ 31) {x y z : Int32} (sp dp m : Nat) (hx : x = nI sp) (hy : y = nI dp) (hz : z = nI m) (h4 : sp + m ≤ ln k0) (h5 : dp + m ≤ ln k1)
    (hf : 1 ≤ R.frames) (hlo : (rest.map fun v => v.category).sum + (nativeFrameWords "java/lang/System" "arraycopy" 5 + 11) ≤ R.locals) (hd : decode cc pc = .ok (.invokestatic index, 3))
    (kk : jW l X (jY D cl n ad ac ln ty ob) A nL cells slots kT Q (sR σ k1 (va_cpy (σ.2 k0) (σ.2 k1) sp dp m)) (pc + 3) L rest) : jW l X (jY D cl n ad ac ln ty ob) A nL cells slots K Q σ pc L (.int z :: .int y :: .ref (ad k1) :: .int x :: .ref (ad k0) :: rest) := by
  intro H locs ls hk9 hP hD hS hl
  subst hx; subst hy; subst hz
  obtain ⟨a1, a2, a3⟩ := hk0
  obtain ⟨b1, b2, b3⟩ := hk1
  obtain ⟨hx, hb, hml, hown, hts, hK, hA, hR, hret, hlk⟩ := h
  subst hR
  have c1 : sp < 2 ^ 31 := by omega
  have c2 : dp < 2 ^ 31 := by omega
  have c3 : m < 2 ^ 31 := by omega
  refine va_copyi (ty := .int) hx hb (hml.trans hl.1.1.symm) hown (hts _ hw.1) (hts _ hw.2.1) (hts _ hw.2.2.1) (hts _ hw.2.2.2) hK hP hD hS k0 k1 k0 k1 (jWd_get a1) (jWd_get b1) (by rw [← a2]; exact jTy_get a1) (by rw [← b2]; exact jTy_get b1) rfl
    (nI_pos c1) (nI_pos c2) (nI_pos c3) (by rw [nI_clamp c1, nI_clamp c3]; exact h4) (by rw [nI_clamp c2, nI_clamp c3]; exact h5) (fun _ _ => rfl) hf hlo hd (fun H1 locs1 hP1 hD1 hS1 => ?_)
  rw [nI_clamp c1, nI_clamp c2, nI_clamp c3] at hP1 hD1
  have e : ((jY D cl n ad ac ln ty ob).sh σ).set k1 (ad k1, Sum.inl (ac k1, (ln k1, Sum.inl (va_cpy (σ.2 k0) (σ.2 k1) sp dp m)))) = (jY D cl n ad ac ln ty ob).sh (sR σ k1 (va_cpy (σ.2 k0) (σ.2 k1) sp dp m)) := jWd_set b1
  exact kk H1 locs1 ls trivial (by rw [← e]; exact hP1) (by rw [← e]; exact hD1) hS1 hl
end JArr
section JFld
variable {l : Launch} {X : Cx} {Y : Wx} {A : Nat → Prop} {cc : ByteArray} {nL : Nat} {own : String} {Ts : List Cond} {R : Room} {ret : Option FieldType} {cells slots : Nat} {K : Heap → List Loc → Prop} {Q : State → Prop} {σ : St} {pc : Nat} {L : Lv} {rest : List Value}
/-- what a class's fields ask of the tables, once for a class -/
def jF (Ts : List Cond) (C : String) (T : u_T) (N : Nat) (ty0 : Nat → FieldType) : Prop :=
  (∀ w ∈ u_ws C T N, w ∈ Ts) ∧ (∀ k, k < N → parseFieldDescriptor (T k).2.2.1 = some (ty0 k)) ∧ (∀ a, a < N → ∀ b, b < N → a ≠ b → (T a).2.1 ≠ (T b).2.1) ∧ ∀ k, k < N → (T k).1 = C
theorem jx_get (h : jX X Y A cc nL own Ts R ret) {C : String} {T : u_T} {N ci index a q0 : Nat} {ty0 : Nat → FieldType} {fs : List Value} {v : Value} (hF : jF Ts C T N ty0) (he : (Y.sh σ)[q0]? = some (a, .inr (ci, fs))) (hc : Y.cl[ci]? = some (C, T, N)) (k : Nat) (hk : k < N)
    (hw : Cond.fieldLink own index C (T k).2.1 (T k).2.2.1 ∈ Ts) (hv : fs[k]? = some v) (hd : decode cc pc = .ok (.getfield index, 3))
    (kk : jW l X Y A nL cells slots K Q σ (pc + 3) L (v :: rest)) : jW l X Y A nL cells slots K Q σ pc L (.ref a :: rest) := by
  intro H locs ls hk9 hP hD hS hl
  refine va_get (ref := C) h.1 h.2.1 h.2.2.2.2.1 hF.1 h.2.2.2.1 h.2.2.2.2.2.1 hP q0 he hc k hk (h.2.2.2.2.1 _ hw) (fun x hx => ?_) hv hd (kk H locs ls hk9 hP hD hS hl)
  rw [hF.2.2.2 k hk] at hx
  exact hx
theorem jx_put (h : jX X Y A cc nL own Ts R ret) {C : String} {T : u_T} {N ci index a q0 : Nat} {ty0 : Nat → FieldType} {fs : List Value} {v : Int32} {σ' : St} (hF : jF Ts C T N ty0) (he : (Y.sh σ)[q0]? = some (a, .inr (ci, fs))) (hc : Y.cl[ci]? = some (C, T, N)) (k : Nat) (hk : k < N)
    (hw : Cond.fieldLink own index C (T k).2.1 (T k).2.2.1 ∈ Ts) (hfin : (T k).2.2.2 = false) (hi : parseFieldDescriptor (T k).2.2.1 = some .int) (hl0 : k < fs.length) (hs : (Y.sh σ).set q0 (a, .inr (ci, fs.set k (.int v))) = Y.sh σ') (hd : decode cc pc = .ok (.putfield index, 3))
    (kk : jW l X Y A nL cells slots kT Q σ' (pc + 3) L rest) : jW l X Y A nL cells slots K Q σ pc L (.int v :: .ref a :: rest) := by
  intro H locs ls hk9 hP hD hS hl
  refine va_put (ref := C) h.1 h.2.1 h.2.2.2.2.1 hF.1 ty0 hF.2.1 hF.2.2.1 h.2.2.2.1 h.2.2.2.2.2.1 hP hD hS q0 he hc k hk (h.2.2.2.2.1 _ hw) (fun x hx => ?_) hfin hi rfl rfl hl0 hd (fun H1 locs1 hP1 hD1 hS1 => ?_)
  · rw [hF.2.2.2 k hk] at hx
    exact hx
  · exact kk H1 locs1 ls trivial (by rw [← hs]; exact hP1) (by rw [← hs]; exact hD1) hS1 hl
theorem jx_max (h : jX X Y A cc nL own Ts R ret) {index : Nat} (hw : Cond.methodLink own index Lib.Math.max.name ∈ Ts ∧ Cond.static Lib.Math.max.name ∈ Ts ∧ Cond.initialized "java/lang/Math" ∈ Ts ∧ Cond.code Lib.Math.max.name Lib.Math.max.code 2 (some .int) ∈ Ts)
    (hR : 1 ≤ R.frames ∧ (rest.map fun v => v.category).sum + 13 ≤ R.locals ∧ cells ≤ R.cells ∧ slots ≤ R.slots) {x y : Int32} (hd : decode cc pc = .ok (.invokestatic index, 3))
    (kk : jW l X Y A nL cells slots K Q σ (pc + 3) L (.int (if x < y then y else x) :: rest)) : jW l X Y A nL cells slots K Q σ pc L (.int y :: .int x :: rest) := by
  intro H locs ls hk9 hP hD hS hl
  obtain ⟨hx, hb, hml, hown, hts, hK, hA, hRR, hret, hlk⟩ := h
  subst hRR
  exact va_mmax hx hb (hml.trans hl.1.1.symm) hown (hts _ hw.1) (hts _ hw.2.1) (hts _ hw.2.2.1) (hts _ hw.2.2.2) hR.1 hR.2.1 hR.2.2.1 hR.2.2.2 hd (kk H locs ls hk9 hP hD hS hl)
theorem jx_min (h : jX X Y A cc nL own Ts R ret) {index : Nat} (hw : Cond.methodLink own index Lib.Math.min.name ∈ Ts ∧ Cond.static Lib.Math.min.name ∈ Ts ∧ Cond.initialized "java/lang/Math" ∈ Ts ∧ Cond.code Lib.Math.min.name Lib.Math.min.code 2 (some .int) ∈ Ts)
    (hR : 1 ≤ R.frames ∧ (rest.map fun v => v.category).sum + 13 ≤ R.locals ∧ cells ≤ R.cells ∧ slots ≤ R.slots) {x y : Int32} (hd : decode cc pc = .ok (.invokestatic index, 3))
    (kk : jW l X Y A nL cells slots K Q σ (pc + 3) L (.int (if y < x then y else x) :: rest)) : jW l X Y A nL cells slots K Q σ pc L (.int y :: .int x :: rest) := by
  intro H locs ls hk9 hP hD hS hl
  obtain ⟨hx, hb, hml, hown, hts, hK, hA, hRR, hret, hlk⟩ := h
  subst hRR
  exact va_mmin hx hb (hml.trans hl.1.1.symm) hown (hts _ hw.1) (hts _ hw.2.1) (hts _ hw.2.2.1) (hts _ hw.2.2.2) hR.1 hR.2.1 hR.2.2.1 hR.2.2.2 hd (kk H locs ls hk9 hP hD hS hl)
end JFld
