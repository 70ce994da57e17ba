/-! the class's methods that answer or throw -/
theorem xE_49 : Bundle.fit cIA = true ∧ exOk RN 49 cIA = true ∧ Cond.classLink RN 45 cIA ∈ TT ∧ Cond.instantiable cIA 6 ∈ TT ∧ Cond.initialized cIA ∈ TT := ⟨by decide +kernel, exOk_1, TT_mem (by decide +kernel) (by decide +kernel), TT_mem (by decide +kernel) (by decide +kernel), TT_mem (by decide +kernel) (by decide +kernel)⟩
theorem xE_62 : Bundle.fit cIO = true ∧ exOk RN 62 cIO = true ∧ Cond.classLink RN 58 cIO ∈ TT ∧ Cond.instantiable cIO 6 ∈ TT ∧ Cond.initialized cIO ∈ TT := ⟨by decide +kernel, exOk_2, TT_mem (by decide +kernel) (by decide +kernel), TT_mem (by decide +kernel) (by decide +kernel), TT_mem (by decide +kernel) (by decide +kernel)⟩
theorem xE_100 : Bundle.fit cIS = true ∧ exOk RN 100 cIS = true ∧ Cond.classLink RN 96 cIS ∈ TT ∧ Cond.instantiable cIS 6 ∈ TT ∧ Cond.initialized cIS ∈ TT := ⟨by decide +kernel, exOk_3, TT_mem (by decide +kernel) (by decide +kernel), TT_mem (by decide +kernel) (by decide +kernel), TT_mem (by decide +kernel) (by decide +kernel)⟩
theorem sl_47 : (47, "width") ∈ strL := by simp [strL]
theorem sl_52 : (52, "stations") ∈ strL := by simp [strL]
theorem sl_60 : (60, "balancer") ∈ strL := by simp [strL]
theorem sl_76 : (76, "what") ∈ strL := by simp [strL]
theorem sl_80 : (80, "exit") ∈ strL := by simp [strL]
theorem sl_88 : (88, "wire") ∈ strL := by simp [strL]
theorem sl_98 : (98, "too many tokens") ∈ strL := by simp [strL]
theorem sl_109 : (109, "token") ∈ strL := by simp [strL]
theorem sl_114 : (114, "the token can't move") ∈ strL := by simp [strL]
theorem sl_120 : (120, "letter") ∈ strL := by simp [strL]
theorem sl_133 : (133, "the bag is full") ∈ strL := by simp [strL]
theorem sl_164 : (164, "station") ∈ strL := by simp [strL]
theorem sl_187 : (187, "most") ∈ strL := by simp [strL]
theorem jx_look {l : Launch} {X : Cx} {Y : Wx} {A : Nat → Prop} {cc : ByteArray} {nL : Nat} {own : String} {Ts : List Cond} {R : Room} {ret : Option FieldType} {cells slots : Nat} {K : Heap → List Loc → Prop} {Q : State → Prop} {σ : St} {pc : Nat} {L : Lv} {rest : List Value} (h : jX X Y A cc nL own Ts R ret) {dflt : Int} {ps : Array (Int × Int)} {len : Nat} {x : Int32} {off : Int} (tgt : Nat) (hd : decode cc pc = .ok (.lookupswitch dflt ps, len)) (hp : (ps.toList.zip (ps.toList.drop 1)).all (fun (a, next) => a.1 < next.1) = true) (ho : Op.lookupswitch.offset ps.toList dflt x.toInt = off) (ht : (pc : Int) + off = (tgt : Int))
    (k : jW l X Y A nL cells slots K Q σ tgt L rest) : jW l X Y A nL cells slots K Q σ pc L (.int x :: rest) :=
  fun H locs ls hk hP hD hS hl => lv_lookup h.1 h.2.1 hd hp ho ht (k H locs ls hk hP hD hS hl)
section EndC
variable {vd : Bool} {Y : Wx} {A : Nat → Prop} {s : State} {c1 c2 : String} {ex : Int32 → String} {q : Rs} {o : Outcome} {t : State} {M : Ms} {v : Int32} {u : St}
theorem endC_1 (hq : q = (1, 0, M)) (h : thrw s c1 o t) : endC vd Y A s (exN c1 c2) q o t := by
  subst hq
  exact Or.inr ⟨show ¬ (1 : Int32) = 0 by decide, by show thrw s (if (1 : Int32) = 1 then c1 else c2) o t; rw [if_pos rfl]; exact h⟩
theorem endC_2 (hq : q = (2, 0, M)) (h : thrw s c2 o t) : endC vd Y A s (exN c1 c2) q o t := by
  subst hq
  exact Or.inr ⟨show ¬ (2 : Int32) = 0 by decide, by show thrw s (if (2 : Int32) = 1 then c1 else c2) o t; rw [if_neg (by decide)]; exact h⟩
theorem endC_r (hq : q = (0, v, M)) (hr : repC u M) (hB : jB Y A u t) (hF : va_F A s t) : endC false Y A s ex q (.returned (some (.int v))) t := by
  subst hq
  exact Or.inl ⟨rfl, ⟨u, rfl, hr, hB⟩, hF⟩
theorem endC_v (hq : q = (0, v, M)) (hr : repC u M) (hB : jB Y A u t) (hF : va_F A s t) : endC true Y A s ex q (.returned none) t := by
  subst hq
  exact Or.inl ⟨rfl, ⟨u, rfl, hr, hB⟩, hF⟩
end EndC
theorem inR_nb {x : Int32} {n : Nat} (h : inR x n = none) (h0 : ¬ x < 0) : ¬ x < nI n := fun q => inR_none h ⟨Int32.not_lt.mp h0, q⟩
theorem inR_lo {x : Int32} {n : Nat} (hn : n + 1 < 2 ^ 30) (h : inR x (n + 1) = none) : x.toInt < 0 ∨ (n : Int) < x.toInt := by
  have q := inR_none h
  rcases Int.lt_or_le x.toInt 0 with a | a
  · exact Or.inl a
  · refine Or.inr ?_
    have h0 : 0 ≤ x := by rw [Int32.le_iff_toInt_le]; exact a
    have h1 : ¬ x < nI (n + 1) := fun z => q ⟨h0, z⟩
    rw [Int32.lt_iff_toInt_lt, nI_toInt (by omega)] at h1
    omega
theorem look_d {y : Int32} {d a b : Int} (h : inR y (1 + 1) = none) : Op.lookupswitch.offset (#[((0 : Int), a), (1, b)] : Array (Int × Int)).toList d y.toInt = d := by
  have q := inR_lo (by decide) h
  have h0 : ¬ y.toInt = 0 := by omega
  have h1 : ¬ y.toInt = 1 := by omega
  have h0' : ¬ 0 = y.toInt := by omega
  have h1' : ¬ 1 = y.toInt := by omega
  simp [Op.lookupswitch.offset, List.find?, h0, h1, h0', h1']
theorem o_build_1 {M : Ms} {x y : Int32} (h : widthOf x = none ∨ ∀ s, ¬ inR y 7 = some (s + 1)) : o_build M x y = (1, 0, M) := by
  unfold o_build
  cases hw : widthOf x with
  | none => rfl
  | some w =>
    rcases h with h | hy
    · rw [hw] at h; cases h
    · cases h : inR y 7 with
      | none => rfl
      | some s =>
        cases s with
        | zero => rfl
        | succ s => exact absurd h (hy s)
set_option maxRecDepth 100000 in
set_option maxHeartbeats 4000000 in
theorem t_N_balancer_a {l : Launch} (htr : l.stackTraces = false) {D : va_G} {ad : Nat → Nat} {ac : Nat → ClassId} (σ : St) (M : Ms) (hI : Inv M) (hM : repC σ M) (x y : Int32) (hx : inR x (nb M.w) = none) : jMX l false (yC D ad ac) mt_N_balancer (rmx 12) [.ref (ad 20), .int x, .int y] σ (exN cIO cIA) (o_balancer M x y) := by
  obtain ⟨⟨⟨s0, s1, s2, s3⟩, h0, h1, h2, h3, h4, h5, h6, h7, h8, h9, h10, h11, h12, h13⟩, hlf, hpl⟩ := id hM
  obtain ⟨i1, i2, i3, i4, i5, i6, i7, i8⟩ := id hI
  obtain ⟨p1, p2, p3, p4, p5, p6⟩ := id hpl
  have hw8 := i1.le
  have hw2 := i1.pos
  have hnb := nb_le M.w
  have hlft : M.left ≤ 40 := i5
  have hq : o_balancer M x y = (1, 0, M) := by unfold o_balancer; rw [hx]
  refine jMX_of (by decide) (Nat.le_of_ble_eq_true rfl) (List.forall_mem_cons.mpr ⟨rfl, List.forall_mem_cons.mpr ⟨rfl, List.forall_mem_cons.mpr ⟨rfl, fun _ h => absurd h List.not_mem_nil⟩⟩⟩) ?_
  intro X A hX ho hno
  have hX : jX X (yC D ad ac) A b_N_balancer 3 RN (mt_N_balancer.w :: TT) (rmx 12) (some .int) := hX
  show jW l X (yC D ad ac) A 3 0 0 (k0 X) (jQX X (endC false (yC D ad ac) A X.s (exN cIO cIA) (o_balancer M x y)) A) σ 0 [(0, .ref (ad 20)), (1, .int x), (2, .int y)] []
  refine jx_iload_n (pc := 0) hX d_N_balancer_0 rfl rfl ?_
  refine jx_if_lt (pc := 1) hX 15 d_N_balancer_1 rfl (fun q1 => ?_) (fun q1 => ?_)
  · exact jx_throw (pc := 15) hX ho htr hno xE_62 sl_60 ⟨(Nat.le_of_ble_eq_true rfl), (Nat.le_of_ble_eq_true rfl), (Nat.le_of_ble_eq_true rfl), (Nat.le_of_ble_eq_true rfl)⟩ rfl d_N_balancer_15 d_N_balancer_18 d_N_balancer_19 d_N_balancer_21 d_N_balancer_24 (fun o t ht => endC_1 hq ht)
  · refine jx_iload_n (pc := 4) hX d_N_balancer_4 rfl rfl ?_
    refine jx_aload_n (pc := 5) hX d_N_balancer_5 rfl rfl ?_
    refine g_N_10 (pc := 6) hX d_N_balancer_6 ?_
    refine g_N_54 (pc := 9) hX d_N_balancer_9 ?_
    refine jx_top (y := nI (nb M.w)) (p1) ?_
    refine jx_icmp_lt (pc := 12) hX 25 d_N_balancer_12 rfl (fun hh => absurd hh (inR_nb hx q1)) (fun _ => ?_)
    exact jx_throw (pc := 15) hX ho htr hno xE_62 sl_60 ⟨(Nat.le_of_ble_eq_true rfl), (Nat.le_of_ble_eq_true rfl), (Nat.le_of_ble_eq_true rfl), (Nat.le_of_ble_eq_true rfl)⟩ rfl d_N_balancer_15 d_N_balancer_18 d_N_balancer_19 d_N_balancer_21 d_N_balancer_24 (fun o t ht => endC_1 hq ht)
set_option maxRecDepth 100000 in
set_option maxHeartbeats 4000000 in
theorem t_N_balancer_b {l : Launch} (htr : l.stackTraces = false) {D : va_G} {ad : Nat → Nat} {ac : Nat → ClassId} (σ : St) (M : Ms) (hI : Inv M) (hM : repC σ M) (j : Nat) (hj : j < nb M.w) (y : Int32) (hy : inR y (4 + 1) = none) : jMX l false (yC D ad ac) mt_N_balancer (rmx 12) [.ref (ad 20), .int (nI j), .int y] σ (exN cIO cIA) (o_balancer M (nI j) y) := by
  obtain ⟨⟨⟨s0, s1, s2, s3⟩, h0, h1, h2, h3, h4, h5, h6, h7, h8, h9, h10, h11, h12, h13⟩, hlf, hpl⟩ := id hM
  obtain ⟨i1, i2, i3, i4, i5, i6, i7, i8⟩ := id hI
  obtain ⟨p1, p2, p3, p4, p5, p6⟩ := id hpl
  have hw8 := i1.le
  have hw2 := i1.pos
  have hnb := nb_le M.w
  have hlft : M.left ≤ 40 := i5
  have hq : o_balancer M (nI j) y = (2, 0, M) := by unfold o_balancer; rw [inR_nI hj (by omega), show inR y 5 = none from hy]
  refine jMX_of (by decide) (Nat.le_of_ble_eq_true rfl) (List.forall_mem_cons.mpr ⟨rfl, List.forall_mem_cons.mpr ⟨rfl, List.forall_mem_cons.mpr ⟨rfl, fun _ h => absurd h List.not_mem_nil⟩⟩⟩) ?_
  intro X A hX ho hno
  have hX : jX X (yC D ad ac) A b_N_balancer 3 RN (mt_N_balancer.w :: TT) (rmx 12) (some .int) := hX
  show jW l X (yC D ad ac) A 3 0 0 (k0 X) (jQX X (endC false (yC D ad ac) A X.s (exN cIO cIA) (o_balancer M (nI j) y)) A) σ 0 [(0, .ref (ad 20)), (1, .int (nI j)), (2, .int y)] []
  refine jx_iload_n (pc := 0) hX d_N_balancer_0 rfl rfl ?_
  refine jx_if_lt (pc := 1) hX 15 d_N_balancer_1 rfl (fun hh => absurd hh (Int32.not_lt.mpr (nI_pos' (by omega)))) (fun _ => ?_)
  refine jx_iload_n (pc := 4) hX d_N_balancer_4 rfl rfl ?_
  refine jx_aload_n (pc := 5) hX d_N_balancer_5 rfl rfl ?_
  refine g_N_10 (pc := 6) hX d_N_balancer_6 ?_
  refine g_N_54 (pc := 9) hX d_N_balancer_9 ?_
  refine jx_top (y := nI (nb M.w)) (p1) ?_
  refine jx_icmp_lt (pc := 12) hX 25 d_N_balancer_12 rfl (fun _ => ?_) (fun hh => absurd ((nI_ltI (by omega) (by omega)).mpr hj) hh)
  refine jx_iload_n (pc := 25) hX d_N_balancer_25 rfl rfl ?_
  refine jx_tsOut (pc := 26) hX 103 d_N_balancer_26 (inR_lo (by decide) hy) rfl ?_
  exact jx_throw (pc := 103) hX ho htr hno xE_49 sl_76 ⟨(Nat.le_of_ble_eq_true rfl), (Nat.le_of_ble_eq_true rfl), (Nat.le_of_ble_eq_true rfl), (Nat.le_of_ble_eq_true rfl)⟩ rfl d_N_balancer_103 d_N_balancer_106 d_N_balancer_107 d_N_balancer_109 d_N_balancer_112 (fun o t ht => endC_2 hq ht)
set_option maxRecDepth 100000 in
set_option maxHeartbeats 4000000 in
theorem t_N_balancer_c0 {l : Launch} (htr : l.stackTraces = false) {D : va_G} {ad : Nat → Nat} {ac : Nat → ClassId} (σ : St) (M : Ms) (hI : Inv M) (hM : repC σ M) (j : Nat) (hj : j < nb M.w) : jMX l false (yC D ad ac) mt_N_balancer (rmx 12) [.ref (ad 20), .int (nI j), .int (nI 0)] σ (exN cIO cIA) (o_balancer M (nI j) (nI 0)) := by
  obtain ⟨⟨⟨s0, s1, s2, s3⟩, h0, h1, h2, h3, h4, h5, h6, h7, h8, h9, h10, h11, h12, h13⟩, hlf, hpl⟩ := id hM
  obtain ⟨i1, i2, i3, i4, i5, i6, i7, i8⟩ := id hI
  obtain ⟨p1, p2, p3, p4, p5, p6⟩ := id hpl
  have hw8 := i1.le
  have hw2 := i1.pos
  have hnb := nb_le M.w
  have hlft : M.left ≤ 40 := i5
  refine jMX_of (by decide) (Nat.le_of_ble_eq_true rfl) (List.forall_mem_cons.mpr ⟨rfl, List.forall_mem_cons.mpr ⟨rfl, List.forall_mem_cons.mpr ⟨rfl, fun _ h => absurd h List.not_mem_nil⟩⟩⟩) ?_
  intro X A hX ho hno
  have hX : jX X (yC D ad ac) A b_N_balancer 3 RN (mt_N_balancer.w :: TT) (rmx 12) (some .int) := hX
  show jW l X (yC D ad ac) A 3 0 0 (k0 X) (jQX X (endC false (yC D ad ac) A X.s (exN cIO cIA) (o_balancer M (nI j) (nI 0))) A) σ 0 [(0, .ref (ad 20)), (1, .int (nI j)), (2, .int (nI 0))] []
  refine jx_iload_n (pc := 0) hX d_N_balancer_0 rfl rfl ?_
  refine jx_if_lt (pc := 1) hX 15 d_N_balancer_1 rfl (fun hh => absurd hh (Int32.not_lt.mpr (nI_pos' (by omega)))) (fun _ => ?_)
  refine jx_iload_n (pc := 4) hX d_N_balancer_4 rfl rfl ?_
  refine jx_aload_n (pc := 5) hX d_N_balancer_5 rfl rfl ?_
  refine g_N_10 (pc := 6) hX d_N_balancer_6 ?_
  refine g_N_54 (pc := 9) hX d_N_balancer_9 ?_
  refine jx_top (y := nI (nb M.w)) (p1) ?_
  refine jx_icmp_lt (pc := 12) hX 25 d_N_balancer_12 rfl (fun _ => ?_) (fun hh => absurd ((nI_ltI (by omega) (by omega)).mpr hj) hh)
  refine jx_iload_n (pc := 25) hX d_N_balancer_25 rfl rfl ?_
  refine jx_tsIn (pc := 26) hX 60 d_N_balancer_26 (by decide) (by decide) rfl rfl ?_
  refine jx_aload_n (pc := 60) hX d_N_balancer_60 rfl rfl ?_
  refine g_N_10 (pc := 61) hX d_N_balancer_61 ?_
  refine g_N_63 (pc := 64) hX d_N_balancer_64 ?_
  refine jx_iload_n (pc := 67) hX d_N_balancer_67 rfl rfl ?_
  refine jx_iald (pc := 68) hX oC_3 _ rfl (show j < 24 by omega) d_N_balancer_68 ?_
  refine jx_top (y := nI (uU M.w j)) (p3 j hj) ?_
  exact jx_iretX (pc := 69) hX d_N_balancer_69 (fun t _ hB hF => endC_r (by unfold o_balancer; rw [inR_nI hj (by omega), inR_nI (show 0 < 5 by decide) (by decide)]; rfl) hM hB hF)
set_option maxRecDepth 100000 in
set_option maxHeartbeats 4000000 in
theorem t_N_balancer_c1 {l : Launch} (htr : l.stackTraces = false) {D : va_G} {ad : Nat → Nat} {ac : Nat → ClassId} (σ : St) (M : Ms) (hI : Inv M) (hM : repC σ M) (j : Nat) (hj : j < nb M.w) : jMX l false (yC D ad ac) mt_N_balancer (rmx 12) [.ref (ad 20), .int (nI j), .int (nI 1)] σ (exN cIO cIA) (o_balancer M (nI j) (nI 1)) := by
  obtain ⟨⟨⟨s0, s1, s2, s3⟩, h0, h1, h2, h3, h4, h5, h6, h7, h8, h9, h10, h11, h12, h13⟩, hlf, hpl⟩ := id hM
  obtain ⟨i1, i2, i3, i4, i5, i6, i7, i8⟩ := id hI
  obtain ⟨p1, p2, p3, p4, p5, p6⟩ := id hpl
  have hw8 := i1.le
  have hw2 := i1.pos
  have hnb := nb_le M.w
  have hlft : M.left ≤ 40 := i5
  refine jMX_of (by decide) (Nat.le_of_ble_eq_true rfl) (List.forall_mem_cons.mpr ⟨rfl, List.forall_mem_cons.mpr ⟨rfl, List.forall_mem_cons.mpr ⟨rfl, fun _ h => absurd h List.not_mem_nil⟩⟩⟩) ?_
  intro X A hX ho hno
  have hX : jX X (yC D ad ac) A b_N_balancer 3 RN (mt_N_balancer.w :: TT) (rmx 12) (some .int) := hX
  show jW l X (yC D ad ac) A 3 0 0 (k0 X) (jQX X (endC false (yC D ad ac) A X.s (exN cIO cIA) (o_balancer M (nI j) (nI 1))) A) σ 0 [(0, .ref (ad 20)), (1, .int (nI j)), (2, .int (nI 1))] []
  refine jx_iload_n (pc := 0) hX d_N_balancer_0 rfl rfl ?_
  refine jx_if_lt (pc := 1) hX 15 d_N_balancer_1 rfl (fun hh => absurd hh (Int32.not_lt.mpr (nI_pos' (by omega)))) (fun _ => ?_)
  refine jx_iload_n (pc := 4) hX d_N_balancer_4 rfl rfl ?_
  refine jx_aload_n (pc := 5) hX d_N_balancer_5 rfl rfl ?_
  refine g_N_10 (pc := 6) hX d_N_balancer_6 ?_
  refine g_N_54 (pc := 9) hX d_N_balancer_9 ?_
  refine jx_top (y := nI (nb M.w)) (p1) ?_
  refine jx_icmp_lt (pc := 12) hX 25 d_N_balancer_12 rfl (fun _ => ?_) (fun hh => absurd ((nI_ltI (by omega) (by omega)).mpr hj) hh)
  refine jx_iload_n (pc := 25) hX d_N_balancer_25 rfl rfl ?_
  refine jx_tsIn (pc := 26) hX 70 d_N_balancer_26 (by decide) (by decide) rfl rfl ?_
  refine jx_aload_n (pc := 70) hX d_N_balancer_70 rfl rfl ?_
  refine g_N_10 (pc := 71) hX d_N_balancer_71 ?_
  refine g_N_66 (pc := 74) hX d_N_balancer_74 ?_
  refine jx_iload_n (pc := 77) hX d_N_balancer_77 rfl rfl ?_
  refine jx_iald (pc := 78) hX oC_4 _ rfl (show j < 24 by omega) d_N_balancer_78 ?_
  refine jx_top (y := nI (uL M.w j)) (p4 j hj) ?_
  exact jx_iretX (pc := 79) hX d_N_balancer_79 (fun t _ hB hF => endC_r (by unfold o_balancer; rw [inR_nI hj (by omega), inR_nI (show 1 < 5 by decide) (by decide)]; rfl) hM hB hF)
set_option maxRecDepth 100000 in
set_option maxHeartbeats 4000000 in
theorem t_N_balancer_c2 {l : Launch} (htr : l.stackTraces = false) {D : va_G} {ad : Nat → Nat} {ac : Nat → ClassId} (σ : St) (M : Ms) (hI : Inv M) (hM : repC σ M) (j : Nat) (hj : j < nb M.w) : jMX l false (yC D ad ac) mt_N_balancer (rmx 12) [.ref (ad 20), .int (nI j), .int (nI 2)] σ (exN cIO cIA) (o_balancer M (nI j) (nI 2)) := by
  obtain ⟨⟨⟨s0, s1, s2, s3⟩, h0, h1, h2, h3, h4, h5, h6, h7, h8, h9, h10, h11, h12, h13⟩, hlf, hpl⟩ := id hM
  obtain ⟨i1, i2, i3, i4, i5, i6, i7, i8⟩ := id hI
  obtain ⟨p1, p2, p3, p4, p5, p6⟩ := id hpl
  have hw8 := i1.le
  have hw2 := i1.pos
  have hnb := nb_le M.w
  have hlft : M.left ≤ 40 := i5
  refine jMX_of (by decide) (Nat.le_of_ble_eq_true rfl) (List.forall_mem_cons.mpr ⟨rfl, List.forall_mem_cons.mpr ⟨rfl, List.forall_mem_cons.mpr ⟨rfl, fun _ h => absurd h List.not_mem_nil⟩⟩⟩) ?_
  intro X A hX ho hno
  have hX : jX X (yC D ad ac) A b_N_balancer 3 RN (mt_N_balancer.w :: TT) (rmx 12) (some .int) := hX
  show jW l X (yC D ad ac) A 3 0 0 (k0 X) (jQX X (endC false (yC D ad ac) A X.s (exN cIO cIA) (o_balancer M (nI j) (nI 2))) A) σ 0 [(0, .ref (ad 20)), (1, .int (nI j)), (2, .int (nI 2))] []
  refine jx_iload_n (pc := 0) hX d_N_balancer_0 rfl rfl ?_
  refine jx_if_lt (pc := 1) hX 15 d_N_balancer_1 rfl (fun hh => absurd hh (Int32.not_lt.mpr (nI_pos' (by omega)))) (fun _ => ?_)
  refine jx_iload_n (pc := 4) hX d_N_balancer_4 rfl rfl ?_
  refine jx_aload_n (pc := 5) hX d_N_balancer_5 rfl rfl ?_
  refine g_N_10 (pc := 6) hX d_N_balancer_6 ?_
  refine g_N_54 (pc := 9) hX d_N_balancer_9 ?_
  refine jx_top (y := nI (nb M.w)) (p1) ?_
  refine jx_icmp_lt (pc := 12) hX 25 d_N_balancer_12 rfl (fun _ => ?_) (fun hh => absurd ((nI_ltI (by omega) (by omega)).mpr hj) hh)
  refine jx_iload_n (pc := 25) hX d_N_balancer_25 rfl rfl ?_
  refine jx_tsIn (pc := 26) hX 80 d_N_balancer_26 (by decide) (by decide) rfl rfl ?_
  refine jx_aload_n (pc := 80) hX d_N_balancer_80 rfl rfl ?_
  refine g_N_10 (pc := 81) hX d_N_balancer_81 ?_
  refine g_N_69 (pc := 84) hX d_N_balancer_84 ?_
  refine jx_iload_n (pc := 87) hX d_N_balancer_87 rfl rfl ?_
  refine jx_iald (pc := 88) hX oC_5 _ rfl (show j < 24 by omega) d_N_balancer_88 ?_
  refine jx_top (y := nI (uC M.w j)) (p5 j hj) ?_
  exact jx_iretX (pc := 89) hX d_N_balancer_89 (fun t _ hB hF => endC_r (by unfold o_balancer; rw [inR_nI hj (by omega), inR_nI (show 2 < 5 by decide) (by decide)]; rfl) hM hB hF)
set_option maxRecDepth 100000 in
set_option maxHeartbeats 4000000 in
theorem t_N_balancer_c3 {l : Launch} (htr : l.stackTraces = false) {D : va_G} {ad : Nat → Nat} {ac : Nat → ClassId} (σ : St) (M : Ms) (hI : Inv M) (hM : repC σ M) (j : Nat) (hj : j < nb M.w) : jMX l false (yC D ad ac) mt_N_balancer (rmx 12) [.ref (ad 20), .int (nI j), .int (nI 3)] σ (exN cIO cIA) (o_balancer M (nI j) (nI 3)) := by
  obtain ⟨⟨⟨s0, s1, s2, s3⟩, h0, h1, h2, h3, h4, h5, h6, h7, h8, h9, h10, h11, h12, h13⟩, hlf, hpl⟩ := id hM
  obtain ⟨i1, i2, i3, i4, i5, i6, i7, i8⟩ := id hI
  obtain ⟨p1, p2, p3, p4, p5, p6⟩ := id hpl
  have hw8 := i1.le
  have hw2 := i1.pos
  have hnb := nb_le M.w
  have hlft : M.left ≤ 40 := i5
  refine jMX_of (by decide) (Nat.le_of_ble_eq_true rfl) (List.forall_mem_cons.mpr ⟨rfl, List.forall_mem_cons.mpr ⟨rfl, List.forall_mem_cons.mpr ⟨rfl, fun _ h => absurd h List.not_mem_nil⟩⟩⟩) ?_
  intro X A hX ho hno
  have hX : jX X (yC D ad ac) A b_N_balancer 3 RN (mt_N_balancer.w :: TT) (rmx 12) (some .int) := hX
  show jW l X (yC D ad ac) A 3 0 0 (k0 X) (jQX X (endC false (yC D ad ac) A X.s (exN cIO cIA) (o_balancer M (nI j) (nI 3))) A) σ 0 [(0, .ref (ad 20)), (1, .int (nI j)), (2, .int (nI 3))] []
  refine jx_iload_n (pc := 0) hX d_N_balancer_0 rfl rfl ?_
  refine jx_if_lt (pc := 1) hX 15 d_N_balancer_1 rfl (fun hh => absurd hh (Int32.not_lt.mpr (nI_pos' (by omega)))) (fun _ => ?_)
  refine jx_iload_n (pc := 4) hX d_N_balancer_4 rfl rfl ?_
  refine jx_aload_n (pc := 5) hX d_N_balancer_5 rfl rfl ?_
  refine g_N_10 (pc := 6) hX d_N_balancer_6 ?_
  refine g_N_54 (pc := 9) hX d_N_balancer_9 ?_
  refine jx_top (y := nI (nb M.w)) (p1) ?_
  refine jx_icmp_lt (pc := 12) hX 25 d_N_balancer_12 rfl (fun _ => ?_) (fun hh => absurd ((nI_ltI (by omega) (by omega)).mpr hj) hh)
  refine jx_iload_n (pc := 25) hX d_N_balancer_25 rfl rfl ?_
  refine jx_tsIn (pc := 26) hX 90 d_N_balancer_26 (by decide) (by decide) rfl rfl ?_
  refine jx_aload_n (pc := 90) hX d_N_balancer_90 rfl rfl ?_
  refine jx_iload_n (pc := 91) hX d_N_balancer_91 rfl rfl ?_
  refine k_N_72 (pc := 92) hX (t_N_stationOfBalancer σ M.ns M.w j (by omega) (by omega) i1 hj s1 hpl) ⟨rfl, rfl, (Nat.le_of_ble_eq_true rfl), (Nat.le_of_ble_eq_true rfl)⟩ rfl rfl (Nat.le_of_ble_eq_true rfl) ⟨Nat.zero_le _, Nat.zero_le _⟩ d_N_balancer_92 (fun r hr => ?_)
  subst hr
  exact jx_iretX (pc := 95) hX d_N_balancer_95 (fun t _ hB hF => endC_r (by unfold o_balancer; rw [inR_nI hj (by omega), inR_nI (show 3 < 5 by decide) (by decide)]; rfl) hM hB hF)
set_option maxRecDepth 100000 in
set_option maxHeartbeats 4000000 in
theorem t_N_balancer_c4 {l : Launch} (htr : l.stackTraces = false) {D : va_G} {ad : Nat → Nat} {ac : Nat → ClassId} (σ : St) (M : Ms) (hI : Inv M) (hM : repC σ M) (j : Nat) (hj : j < nb M.w) : jMX l false (yC D ad ac) mt_N_balancer (rmx 12) [.ref (ad 20), .int (nI j), .int (nI 4)] σ (exN cIO cIA) (o_balancer M (nI j) (nI 4)) := by
  obtain ⟨⟨⟨s0, s1, s2, s3⟩, h0, h1, h2, h3, h4, h5, h6, h7, h8, h9, h10, h11, h12, h13⟩, hlf, hpl⟩ := id hM
  obtain ⟨i1, i2, i3, i4, i5, i6, i7, i8⟩ := id hI
  obtain ⟨p1, p2, p3, p4, p5, p6⟩ := id hpl
  have hw8 := i1.le
  have hw2 := i1.pos
  have hnb := nb_le M.w
  have hlft : M.left ≤ 40 := i5
  refine jMX_of (by decide) (Nat.le_of_ble_eq_true rfl) (List.forall_mem_cons.mpr ⟨rfl, List.forall_mem_cons.mpr ⟨rfl, List.forall_mem_cons.mpr ⟨rfl, fun _ h => absurd h List.not_mem_nil⟩⟩⟩) ?_
  intro X A hX ho hno
  have hX : jX X (yC D ad ac) A b_N_balancer 3 RN (mt_N_balancer.w :: TT) (rmx 12) (some .int) := hX
  show jW l X (yC D ad ac) A 3 0 0 (k0 X) (jQX X (endC false (yC D ad ac) A X.s (exN cIO cIA) (o_balancer M (nI j) (nI 4))) A) σ 0 [(0, .ref (ad 20)), (1, .int (nI j)), (2, .int (nI 4))] []
  refine jx_iload_n (pc := 0) hX d_N_balancer_0 rfl rfl ?_
  refine jx_if_lt (pc := 1) hX 15 d_N_balancer_1 rfl (fun hh => absurd hh (Int32.not_lt.mpr (nI_pos' (by omega)))) (fun _ => ?_)
  refine jx_iload_n (pc := 4) hX d_N_balancer_4 rfl rfl ?_
  refine jx_aload_n (pc := 5) hX d_N_balancer_5 rfl rfl ?_
  refine g_N_10 (pc := 6) hX d_N_balancer_6 ?_
  refine g_N_54 (pc := 9) hX d_N_balancer_9 ?_
  refine jx_top (y := nI (nb M.w)) (p1) ?_
  refine jx_icmp_lt (pc := 12) hX 25 d_N_balancer_12 rfl (fun _ => ?_) (fun hh => absurd ((nI_ltI (by omega) (by omega)).mpr hj) hh)
  refine jx_iload_n (pc := 25) hX d_N_balancer_25 rfl rfl ?_
  refine jx_tsIn (pc := 26) hX 96 d_N_balancer_26 (by decide) (by decide) rfl rfl ?_
  refine jx_aload_n (pc := 96) hX d_N_balancer_96 rfl rfl ?_
  refine g_N_30 (pc := 97) hX d_N_balancer_97 ?_
  refine jx_iload_n (pc := 100) hX d_N_balancer_100 rfl rfl ?_
  refine jx_iald (pc := 101) hX oC_0 _ rfl (show j < 24 by omega) d_N_balancer_101 ?_
  refine jx_top (y := M.had j) (h12 j hj) ?_
  exact jx_iretX (pc := 102) hX d_N_balancer_102 (fun t _ hB hF => endC_r (by unfold o_balancer; rw [inR_nI hj (by omega), inR_nI (show 4 < 5 by decide) (by decide)]; rfl) hM hB hF)
set_option maxRecDepth 100000 in
set_option maxHeartbeats 4000000 in
theorem t_N_exit_a {l : Launch} (htr : l.stackTraces = false) {D : va_G} {ad : Nat → Nat} {ac : Nat → ClassId} (σ : St) (M : Ms) (hI : Inv M) (hM : repC σ M) (x y : Int32) (hx : inR x (M.w) = none) : jMX l false (yC D ad ac) mt_N_exit (rmx 12) [.ref (ad 20), .int x, .int y] σ (exN cIO cIA) (o_exit M x y) := by
  obtain ⟨⟨⟨s0, s1, s2, s3⟩, h0, h1, h2, h3, h4, h5, h6, h7, h8, h9, h10, h11, h12, h13⟩, hlf, hpl⟩ := id hM
  obtain ⟨i1, i2, i3, i4, i5, i6, i7, i8⟩ := id hI
  obtain ⟨p1, p2, p3, p4, p5, p6⟩ := id hpl
  have hw8 := i1.le
  have hw2 := i1.pos
  have hnb := nb_le M.w
  have hlft : M.left ≤ 40 := i5
  have hq : o_exit M x y = (1, 0, M) := by unfold o_exit; rw [hx]
  refine jMX_of (by decide) (Nat.le_of_ble_eq_true rfl) (List.forall_mem_cons.mpr ⟨rfl, List.forall_mem_cons.mpr ⟨rfl, List.forall_mem_cons.mpr ⟨rfl, fun _ h => absurd h List.not_mem_nil⟩⟩⟩) ?_
  intro X A hX ho hno
  have hX : jX X (yC D ad ac) A b_N_exit 3 RN (mt_N_exit.w :: TT) (rmx 12) (some .int) := hX
  show jW l X (yC D ad ac) A 3 0 0 (k0 X) (jQX X (endC false (yC D ad ac) A X.s (exN cIO cIA) (o_exit M x y)) A) σ 0 [(0, .ref (ad 20)), (1, .int x), (2, .int y)] []
  refine jx_iload_n (pc := 0) hX d_N_exit_0 rfl rfl ?_
  refine jx_if_lt (pc := 1) hX 15 d_N_exit_1 rfl (fun q1 => ?_) (fun q1 => ?_)
  · exact jx_throw (pc := 15) hX ho htr hno xE_62 sl_80 ⟨(Nat.le_of_ble_eq_true rfl), (Nat.le_of_ble_eq_true rfl), (Nat.le_of_ble_eq_true rfl), (Nat.le_of_ble_eq_true rfl)⟩ rfl d_N_exit_15 d_N_exit_18 d_N_exit_19 d_N_exit_21 d_N_exit_24 (fun o t ht => endC_1 hq ht)
  · refine jx_iload_n (pc := 4) hX d_N_exit_4 rfl rfl ?_
    refine jx_aload_n (pc := 5) hX d_N_exit_5 rfl rfl ?_
    refine g_N_10 (pc := 6) hX d_N_exit_6 ?_
    refine g_N_78 (pc := 9) hX d_N_exit_9 ?_
    refine jx_top (y := nI (M.w)) (s0) ?_
    refine jx_icmp_lt (pc := 12) hX 25 d_N_exit_12 rfl (fun hh => absurd hh (inR_nb hx q1)) (fun _ => ?_)
    exact jx_throw (pc := 15) hX ho htr hno xE_62 sl_80 ⟨(Nat.le_of_ble_eq_true rfl), (Nat.le_of_ble_eq_true rfl), (Nat.le_of_ble_eq_true rfl), (Nat.le_of_ble_eq_true rfl)⟩ rfl d_N_exit_15 d_N_exit_18 d_N_exit_19 d_N_exit_21 d_N_exit_24 (fun o t ht => endC_1 hq ht)
set_option maxRecDepth 100000 in
set_option maxHeartbeats 4000000 in
theorem t_N_exit_b {l : Launch} (htr : l.stackTraces = false) {D : va_G} {ad : Nat → Nat} {ac : Nat → ClassId} (σ : St) (M : Ms) (hI : Inv M) (hM : repC σ M) (j : Nat) (hj : j < M.w) (y : Int32) (hy : inR y (2 + 1) = none) : jMX l false (yC D ad ac) mt_N_exit (rmx 12) [.ref (ad 20), .int (nI j), .int y] σ (exN cIO cIA) (o_exit M (nI j) y) := by
  obtain ⟨⟨⟨s0, s1, s2, s3⟩, h0, h1, h2, h3, h4, h5, h6, h7, h8, h9, h10, h11, h12, h13⟩, hlf, hpl⟩ := id hM
  obtain ⟨i1, i2, i3, i4, i5, i6, i7, i8⟩ := id hI
  obtain ⟨p1, p2, p3, p4, p5, p6⟩ := id hpl
  have hw8 := i1.le
  have hw2 := i1.pos
  have hnb := nb_le M.w
  have hlft : M.left ≤ 40 := i5
  have hq : o_exit M (nI j) y = (2, 0, M) := by unfold o_exit; rw [inR_nI hj (by omega), show inR y 3 = none from hy]
  refine jMX_of (by decide) (Nat.le_of_ble_eq_true rfl) (List.forall_mem_cons.mpr ⟨rfl, List.forall_mem_cons.mpr ⟨rfl, List.forall_mem_cons.mpr ⟨rfl, fun _ h => absurd h List.not_mem_nil⟩⟩⟩) ?_
  intro X A hX ho hno
  have hX : jX X (yC D ad ac) A b_N_exit 3 RN (mt_N_exit.w :: TT) (rmx 12) (some .int) := hX
  show jW l X (yC D ad ac) A 3 0 0 (k0 X) (jQX X (endC false (yC D ad ac) A X.s (exN cIO cIA) (o_exit M (nI j) y)) A) σ 0 [(0, .ref (ad 20)), (1, .int (nI j)), (2, .int y)] []
  refine jx_iload_n (pc := 0) hX d_N_exit_0 rfl rfl ?_
  refine jx_if_lt (pc := 1) hX 15 d_N_exit_1 rfl (fun hh => absurd hh (Int32.not_lt.mpr (nI_pos' (by omega)))) (fun _ => ?_)
  refine jx_iload_n (pc := 4) hX d_N_exit_4 rfl rfl ?_
  refine jx_aload_n (pc := 5) hX d_N_exit_5 rfl rfl ?_
  refine g_N_10 (pc := 6) hX d_N_exit_6 ?_
  refine g_N_78 (pc := 9) hX d_N_exit_9 ?_
  refine jx_top (y := nI (M.w)) (s0) ?_
  refine jx_icmp_lt (pc := 12) hX 25 d_N_exit_12 rfl (fun _ => ?_) (fun hh => absurd ((nI_ltI (by omega) (by omega)).mpr hj) hh)
  refine jx_iload_n (pc := 25) hX d_N_exit_25 rfl rfl ?_
  refine jx_tsOut (pc := 26) hX 75 d_N_exit_26 (inR_lo (by decide) hy) rfl ?_
  exact jx_throw (pc := 75) hX ho htr hno xE_49 sl_76 ⟨(Nat.le_of_ble_eq_true rfl), (Nat.le_of_ble_eq_true rfl), (Nat.le_of_ble_eq_true rfl), (Nat.le_of_ble_eq_true rfl)⟩ rfl d_N_exit_75 d_N_exit_78 d_N_exit_79 d_N_exit_81 d_N_exit_84 (fun o t ht => endC_2 hq ht)
set_option maxRecDepth 100000 in
set_option maxHeartbeats 4000000 in
theorem t_N_exit_c0 {l : Launch} (htr : l.stackTraces = false) {D : va_G} {ad : Nat → Nat} {ac : Nat → ClassId} (σ : St) (M : Ms) (hI : Inv M) (hM : repC σ M) (j : Nat) (hj : j < M.w) : jMX l false (yC D ad ac) mt_N_exit (rmx 12) [.ref (ad 20), .int (nI j), .int (nI 0)] σ (exN cIO cIA) (o_exit M (nI j) (nI 0)) := by
  obtain ⟨⟨⟨s0, s1, s2, s3⟩, h0, h1, h2, h3, h4, h5, h6, h7, h8, h9, h10, h11, h12, h13⟩, hlf, hpl⟩ := id hM
  obtain ⟨i1, i2, i3, i4, i5, i6, i7, i8⟩ := id hI
  obtain ⟨p1, p2, p3, p4, p5, p6⟩ := id hpl
  have hw8 := i1.le
  have hw2 := i1.pos
  have hnb := nb_le M.w
  have hlft : M.left ≤ 40 := i5
  refine jMX_of (by decide) (Nat.le_of_ble_eq_true rfl) (List.forall_mem_cons.mpr ⟨rfl, List.forall_mem_cons.mpr ⟨rfl, List.forall_mem_cons.mpr ⟨rfl, fun _ h => absurd h List.not_mem_nil⟩⟩⟩) ?_
  intro X A hX ho hno
  have hX : jX X (yC D ad ac) A b_N_exit 3 RN (mt_N_exit.w :: TT) (rmx 12) (some .int) := hX
  show jW l X (yC D ad ac) A 3 0 0 (k0 X) (jQX X (endC false (yC D ad ac) A X.s (exN cIO cIA) (o_exit M (nI j) (nI 0))) A) σ 0 [(0, .ref (ad 20)), (1, .int (nI j)), (2, .int (nI 0))] []
  refine jx_iload_n (pc := 0) hX d_N_exit_0 rfl rfl ?_
  refine jx_if_lt (pc := 1) hX 15 d_N_exit_1 rfl (fun hh => absurd hh (Int32.not_lt.mpr (nI_pos' (by omega)))) (fun _ => ?_)
  refine jx_iload_n (pc := 4) hX d_N_exit_4 rfl rfl ?_
  refine jx_aload_n (pc := 5) hX d_N_exit_5 rfl rfl ?_
  refine g_N_10 (pc := 6) hX d_N_exit_6 ?_
  refine g_N_78 (pc := 9) hX d_N_exit_9 ?_
  refine jx_top (y := nI (M.w)) (s0) ?_
  refine jx_icmp_lt (pc := 12) hX 25 d_N_exit_12 rfl (fun _ => ?_) (fun hh => absurd ((nI_ltI (by omega) (by omega)).mpr hj) hh)
  refine jx_iload_n (pc := 25) hX d_N_exit_25 rfl rfl ?_
  refine jx_tsIn (pc := 26) hX 52 d_N_exit_26 (by decide) (by decide) rfl rfl ?_
  refine jx_aload_n (pc := 52) hX d_N_exit_52 rfl rfl ?_
  refine g_N_10 (pc := 53) hX d_N_exit_53 ?_
  refine g_N_82 (pc := 56) hX d_N_exit_56 ?_
  refine jx_iload_n (pc := 59) hX d_N_exit_59 rfl rfl ?_
  refine jx_iald (pc := 60) hX oC_6 _ rfl (show j < 8 by omega) d_N_exit_60 ?_
  refine jx_top (y := nI (uE M.w j)) (p6 j hj) ?_
  exact jx_iretX (pc := 61) hX d_N_exit_61 (fun t _ hB hF => endC_r (by unfold o_exit; rw [inR_nI hj (by omega), inR_nI (show 0 < 3 by decide) (by decide)]; rfl) hM hB hF)
set_option maxRecDepth 100000 in
set_option maxHeartbeats 4000000 in
theorem t_N_exit_c1 {l : Launch} (htr : l.stackTraces = false) {D : va_G} {ad : Nat → Nat} {ac : Nat → ClassId} (σ : St) (M : Ms) (hI : Inv M) (hM : repC σ M) (j : Nat) (hj : j < M.w) : jMX l false (yC D ad ac) mt_N_exit (rmx 12) [.ref (ad 20), .int (nI j), .int (nI 1)] σ (exN cIO cIA) (o_exit M (nI j) (nI 1)) := by
  obtain ⟨⟨⟨s0, s1, s2, s3⟩, h0, h1, h2, h3, h4, h5, h6, h7, h8, h9, h10, h11, h12, h13⟩, hlf, hpl⟩ := id hM
  obtain ⟨i1, i2, i3, i4, i5, i6, i7, i8⟩ := id hI
  obtain ⟨p1, p2, p3, p4, p5, p6⟩ := id hpl
  have hw8 := i1.le
  have hw2 := i1.pos
  have hnb := nb_le M.w
  have hlft : M.left ≤ 40 := i5
  refine jMX_of (by decide) (Nat.le_of_ble_eq_true rfl) (List.forall_mem_cons.mpr ⟨rfl, List.forall_mem_cons.mpr ⟨rfl, List.forall_mem_cons.mpr ⟨rfl, fun _ h => absurd h List.not_mem_nil⟩⟩⟩) ?_
  intro X A hX ho hno
  have hX : jX X (yC D ad ac) A b_N_exit 3 RN (mt_N_exit.w :: TT) (rmx 12) (some .int) := hX
  show jW l X (yC D ad ac) A 3 0 0 (k0 X) (jQX X (endC false (yC D ad ac) A X.s (exN cIO cIA) (o_exit M (nI j) (nI 1))) A) σ 0 [(0, .ref (ad 20)), (1, .int (nI j)), (2, .int (nI 1))] []
  refine jx_iload_n (pc := 0) hX d_N_exit_0 rfl rfl ?_
  refine jx_if_lt (pc := 1) hX 15 d_N_exit_1 rfl (fun hh => absurd hh (Int32.not_lt.mpr (nI_pos' (by omega)))) (fun _ => ?_)
  refine jx_iload_n (pc := 4) hX d_N_exit_4 rfl rfl ?_
  refine jx_aload_n (pc := 5) hX d_N_exit_5 rfl rfl ?_
  refine g_N_10 (pc := 6) hX d_N_exit_6 ?_
  refine g_N_78 (pc := 9) hX d_N_exit_9 ?_
  refine jx_top (y := nI (M.w)) (s0) ?_
  refine jx_icmp_lt (pc := 12) hX 25 d_N_exit_12 rfl (fun _ => ?_) (fun hh => absurd ((nI_ltI (by omega) (by omega)).mpr hj) hh)
  refine jx_iload_n (pc := 25) hX d_N_exit_25 rfl rfl ?_
  refine jx_tsIn (pc := 26) hX 62 d_N_exit_26 (by decide) (by decide) rfl rfl ?_
  refine jx_aload_n (pc := 62) hX d_N_exit_62 rfl rfl ?_
  refine jx_iload_n (pc := 63) hX d_N_exit_63 rfl rfl ?_
  refine k_N_85 (pc := 64) hX (t_N_stationOfExit σ M.ns j (by omega) (by omega) (by omega) s1) ⟨rfl, rfl, (Nat.le_of_ble_eq_true rfl), (Nat.le_of_ble_eq_true rfl)⟩ rfl rfl (Nat.le_of_ble_eq_true rfl) ⟨Nat.zero_le _, Nat.zero_le _⟩ d_N_exit_64 (fun r hr => ?_)
  subst hr
  exact jx_iretX (pc := 67) hX d_N_exit_67 (fun t _ hB hF => endC_r (by unfold o_exit; rw [inR_nI hj (by omega), inR_nI (show 1 < 3 by decide) (by decide)]; rfl) hM hB hF)
set_option maxRecDepth 100000 in
set_option maxHeartbeats 4000000 in
theorem t_N_exit_c2 {l : Launch} (htr : l.stackTraces = false) {D : va_G} {ad : Nat → Nat} {ac : Nat → ClassId} (σ : St) (M : Ms) (hI : Inv M) (hM : repC σ M) (j : Nat) (hj : j < M.w) : jMX l false (yC D ad ac) mt_N_exit (rmx 12) [.ref (ad 20), .int (nI j), .int (nI 2)] σ (exN cIO cIA) (o_exit M (nI j) (nI 2)) := by
  obtain ⟨⟨⟨s0, s1, s2, s3⟩, h0, h1, h2, h3, h4, h5, h6, h7, h8, h9, h10, h11, h12, h13⟩, hlf, hpl⟩ := id hM
  obtain ⟨i1, i2, i3, i4, i5, i6, i7, i8⟩ := id hI
  obtain ⟨p1, p2, p3, p4, p5, p6⟩ := id hpl
  have hw8 := i1.le
  have hw2 := i1.pos
  have hnb := nb_le M.w
  have hlft : M.left ≤ 40 := i5
  refine jMX_of (by decide) (Nat.le_of_ble_eq_true rfl) (List.forall_mem_cons.mpr ⟨rfl, List.forall_mem_cons.mpr ⟨rfl, List.forall_mem_cons.mpr ⟨rfl, fun _ h => absurd h List.not_mem_nil⟩⟩⟩) ?_
  intro X A hX ho hno
  have hX : jX X (yC D ad ac) A b_N_exit 3 RN (mt_N_exit.w :: TT) (rmx 12) (some .int) := hX
  show jW l X (yC D ad ac) A 3 0 0 (k0 X) (jQX X (endC false (yC D ad ac) A X.s (exN cIO cIA) (o_exit M (nI j) (nI 2))) A) σ 0 [(0, .ref (ad 20)), (1, .int (nI j)), (2, .int (nI 2))] []
  refine jx_iload_n (pc := 0) hX d_N_exit_0 rfl rfl ?_
  refine jx_if_lt (pc := 1) hX 15 d_N_exit_1 rfl (fun hh => absurd hh (Int32.not_lt.mpr (nI_pos' (by omega)))) (fun _ => ?_)
  refine jx_iload_n (pc := 4) hX d_N_exit_4 rfl rfl ?_
  refine jx_aload_n (pc := 5) hX d_N_exit_5 rfl rfl ?_
  refine g_N_10 (pc := 6) hX d_N_exit_6 ?_
  refine g_N_78 (pc := 9) hX d_N_exit_9 ?_
  refine jx_top (y := nI (M.w)) (s0) ?_
  refine jx_icmp_lt (pc := 12) hX 25 d_N_exit_12 rfl (fun _ => ?_) (fun hh => absurd ((nI_ltI (by omega) (by omega)).mpr hj) hh)
  refine jx_iload_n (pc := 25) hX d_N_exit_25 rfl rfl ?_
  refine jx_tsIn (pc := 26) hX 68 d_N_exit_26 (by decide) (by decide) rfl rfl ?_
  refine jx_aload_n (pc := 68) hX d_N_exit_68 rfl rfl ?_
  refine g_N_34 (pc := 69) hX d_N_exit_69 ?_
  refine jx_iload_n (pc := 72) hX d_N_exit_72 rfl rfl ?_
  refine jx_iald (pc := 73) hX oC_1 _ rfl (show j < 8 by omega) d_N_exit_73 ?_
  refine jx_top (y := nI (M.handed j)) (h13 j hj) ?_
  exact jx_iretX (pc := 74) hX d_N_exit_74 (fun t _ hB hF => endC_r (by unfold o_exit; rw [inR_nI hj (by omega), inR_nI (show 2 < 3 by decide) (by decide)]; rfl) hM hB hF)
set_option maxRecDepth 100000 in
set_option maxHeartbeats 4000000 in
theorem t_N_build_a {l : Launch} (htr : l.stackTraces = false) {D : va_G} {ad : Nat → Nat} {ac : Nat → ClassId} (σ : St) (M : Ms) (hI : Inv M) (hM : repC σ M) (x y : Int32) (hx : widthOf x = none) : jMX l false (yC D ad ac) mt_N_build (rmx 12) [.ref (ad 20), .int x, .int y] σ (exN cIA cIA) (o_build M x y) := by
  obtain ⟨⟨⟨s0, s1, s2, s3⟩, h0, h1, h2, h3, h4, h5, h6, h7, h8, h9, h10, h11, h12, h13⟩, hlf, hpl⟩ := id hM
  obtain ⟨i1, i2, i3, i4, i5, i6, i7, i8⟩ := id hI
  obtain ⟨p1, p2, p3, p4, p5, p6⟩ := id hpl
  have hw8 := i1.le
  have hw2 := i1.pos
  have hnb := nb_le M.w
  have hlft : M.left ≤ 40 := i5
  have hq : o_build M x y = (1, 0, M) := by exact o_build_1 (Or.inl hx)
  refine jMX_of (by decide) (Nat.le_of_ble_eq_true rfl) (List.forall_mem_cons.mpr ⟨rfl, List.forall_mem_cons.mpr ⟨rfl, List.forall_mem_cons.mpr ⟨rfl, fun _ h => absurd h List.not_mem_nil⟩⟩⟩) ?_
  intro X A hX ho hno
  have hX : jX X (yC D ad ac) A b_N_build 3 RN (mt_N_build.w :: TT) (rmx 12) (some .int) := hX
  show jW l X (yC D ad ac) A 3 0 0 (k0 X) (jQX X (endC false (yC D ad ac) A X.s (exN cIA cIA) (o_build M x y)) A) σ 0 [(0, .ref (ad 20)), (1, .int x), (2, .int y)] []
  refine jx_iload_n (pc := 0) hX d_N_build_0 rfl rfl ?_
  refine jx_iconst (pc := 1) hX (v := 2) d_N_build_1 rfl ?_
  refine jx_icmp_eq (pc := 2) hX 26 d_N_build_2 rfl (fun hh => absurd hh ((widthOf_none hx).1)) (fun _ => ?_)
  refine jx_iload_n (pc := 5) hX d_N_build_5 rfl rfl ?_
  refine jx_iconst (pc := 6) hX (v := 4) d_N_build_6 rfl ?_
  refine jx_icmp_eq (pc := 7) hX 26 d_N_build_7 rfl (fun hh => absurd hh ((widthOf_none hx).2.1)) (fun _ => ?_)
  refine jx_iload_n (pc := 10) hX d_N_build_10 rfl rfl ?_
  refine jx_bipush (pc := 11) hX (v := 8) d_N_build_11 rfl ?_
  refine jx_icmp_eq (pc := 13) hX 26 d_N_build_13 rfl (fun hh => absurd hh ((widthOf_none hx).2.2)) (fun _ => ?_)
  exact jx_throw (pc := 16) hX ho htr hno xE_49 sl_47 ⟨(Nat.le_of_ble_eq_true rfl), (Nat.le_of_ble_eq_true rfl), (Nat.le_of_ble_eq_true rfl), (Nat.le_of_ble_eq_true rfl)⟩ rfl d_N_build_16 d_N_build_19 d_N_build_20 d_N_build_22 d_N_build_25 (fun o t ht => endC_1 hq ht)
set_option maxRecDepth 100000 in
set_option maxHeartbeats 4000000 in
theorem t_N_build_b {l : Launch} (htr : l.stackTraces = false) {D : va_G} {ad : Nat → Nat} {ac : Nat → ClassId} (σ : St) (M : Ms) (hI : Inv M) (hM : repC σ M) (w : Nat) (hw : Wok w) (y : Int32) (hy : ∀ s, ¬ inR y 7 = some (s + 1)) : jMX l false (yC D ad ac) mt_N_build (rmx 12) [.ref (ad 20), .int (nI w), .int y] σ (exN cIA cIA) (o_build M (nI w) y) := by
  obtain ⟨⟨⟨s0, s1, s2, s3⟩, h0, h1, h2, h3, h4, h5, h6, h7, h8, h9, h10, h11, h12, h13⟩, hlf, hpl⟩ := id hM
  obtain ⟨i1, i2, i3, i4, i5, i6, i7, i8⟩ := id hI
  obtain ⟨p1, p2, p3, p4, p5, p6⟩ := id hpl
  have hw8 := i1.le
  have hw2 := i1.pos
  have hnb := nb_le M.w
  have hlft : M.left ≤ 40 := i5
  have hq : o_build M (nI w) y = (1, 0, M) := by exact o_build_1 (Or.inr hy)
  have hf := of_decide_eq_false (in1_f hy)
  refine jMX_of (by decide) (Nat.le_of_ble_eq_true rfl) (List.forall_mem_cons.mpr ⟨rfl, List.forall_mem_cons.mpr ⟨rfl, List.forall_mem_cons.mpr ⟨rfl, fun _ h => absurd h List.not_mem_nil⟩⟩⟩) ?_
  intro X A hX ho hno
  have hX : jX X (yC D ad ac) A b_N_build 3 RN (mt_N_build.w :: TT) (rmx 12) (some .int) := hX
  show jW l X (yC D ad ac) A 3 0 0 (k0 X) (jQX X (endC false (yC D ad ac) A X.s (exN cIA cIA) (o_build M (nI w) y)) A) σ 0 [(0, .ref (ad 20)), (1, .int (nI w)), (2, .int y)] []
  refine jx_iload_n (pc := 0) hX d_N_build_0 rfl rfl ?_
  refine jx_iconst (pc := 1) hX (v := 2) d_N_build_1 rfl ?_
  refine jx_icmp_eq (pc := 2) hX 26 d_N_build_2 rfl (fun q2 => ?_) (fun q2 => ?_)
  · refine jx_iload_n (pc := 26) hX d_N_build_26 rfl rfl ?_
    refine jx_iconst (pc := 27) hX (v := 1) d_N_build_27 rfl ?_
    refine jx_icmp_lt (pc := 28) hX 37 d_N_build_28 rfl (fun q28 => ?_) (fun q28 => ?_)
    · exact jx_throw (pc := 37) hX ho htr hno xE_49 sl_52 ⟨(Nat.le_of_ble_eq_true rfl), (Nat.le_of_ble_eq_true rfl), (Nat.le_of_ble_eq_true rfl), (Nat.le_of_ble_eq_true rfl)⟩ rfl d_N_build_37 d_N_build_40 d_N_build_41 d_N_build_43 d_N_build_46 (fun o t ht => endC_1 hq ht)
    · refine jx_iload_n (pc := 31) hX d_N_build_31 rfl rfl ?_
      refine jx_bipush (pc := 32) hX (v := 6) d_N_build_32 rfl ?_
      refine jx_icmp_le (pc := 34) hX 47 d_N_build_34 rfl (fun hh => absurd hh (fun q => hf ⟨Int32.not_lt.mp q28, q⟩)) (fun _ => ?_)
      exact jx_throw (pc := 37) hX ho htr hno xE_49 sl_52 ⟨(Nat.le_of_ble_eq_true rfl), (Nat.le_of_ble_eq_true rfl), (Nat.le_of_ble_eq_true rfl), (Nat.le_of_ble_eq_true rfl)⟩ rfl d_N_build_37 d_N_build_40 d_N_build_41 d_N_build_43 d_N_build_46 (fun o t ht => endC_1 hq ht)
  · refine jx_iload_n (pc := 5) hX d_N_build_5 rfl rfl ?_
    refine jx_iconst (pc := 6) hX (v := 4) d_N_build_6 rfl ?_
    refine jx_icmp_eq (pc := 7) hX 26 d_N_build_7 rfl (fun q7 => ?_) (fun q7 => ?_)
    · refine jx_iload_n (pc := 26) hX d_N_build_26 rfl rfl ?_
      refine jx_iconst (pc := 27) hX (v := 1) d_N_build_27 rfl ?_
      refine jx_icmp_lt (pc := 28) hX 37 d_N_build_28 rfl (fun q28 => ?_) (fun q28 => ?_)
      · exact jx_throw (pc := 37) hX ho htr hno xE_49 sl_52 ⟨(Nat.le_of_ble_eq_true rfl), (Nat.le_of_ble_eq_true rfl), (Nat.le_of_ble_eq_true rfl), (Nat.le_of_ble_eq_true rfl)⟩ rfl d_N_build_37 d_N_build_40 d_N_build_41 d_N_build_43 d_N_build_46 (fun o t ht => endC_1 hq ht)
      · refine jx_iload_n (pc := 31) hX d_N_build_31 rfl rfl ?_
        refine jx_bipush (pc := 32) hX (v := 6) d_N_build_32 rfl ?_
        refine jx_icmp_le (pc := 34) hX 47 d_N_build_34 rfl (fun hh => absurd hh (fun q => hf ⟨Int32.not_lt.mp q28, q⟩)) (fun _ => ?_)
        exact jx_throw (pc := 37) hX ho htr hno xE_49 sl_52 ⟨(Nat.le_of_ble_eq_true rfl), (Nat.le_of_ble_eq_true rfl), (Nat.le_of_ble_eq_true rfl), (Nat.le_of_ble_eq_true rfl)⟩ rfl d_N_build_37 d_N_build_40 d_N_build_41 d_N_build_43 d_N_build_46 (fun o t ht => endC_1 hq ht)
    · refine jx_iload_n (pc := 10) hX d_N_build_10 rfl rfl ?_
      refine jx_bipush (pc := 11) hX (v := 8) d_N_build_11 rfl ?_
      refine jx_icmp_eq (pc := 13) hX 26 d_N_build_13 rfl (fun _ => ?_) (fun hh => absurd (hw.elim (fun q => absurd (by rw [q]; rfl) q2) (fun q => q.elim (fun q => absurd (by rw [q]; rfl) q7) (fun q => by rw [q]; rfl))) hh)
      refine jx_iload_n (pc := 26) hX d_N_build_26 rfl rfl ?_
      refine jx_iconst (pc := 27) hX (v := 1) d_N_build_27 rfl ?_
      refine jx_icmp_lt (pc := 28) hX 37 d_N_build_28 rfl (fun q28 => ?_) (fun q28 => ?_)
      · exact jx_throw (pc := 37) hX ho htr hno xE_49 sl_52 ⟨(Nat.le_of_ble_eq_true rfl), (Nat.le_of_ble_eq_true rfl), (Nat.le_of_ble_eq_true rfl), (Nat.le_of_ble_eq_true rfl)⟩ rfl d_N_build_37 d_N_build_40 d_N_build_41 d_N_build_43 d_N_build_46 (fun o t ht => endC_1 hq ht)
      · refine jx_iload_n (pc := 31) hX d_N_build_31 rfl rfl ?_
        refine jx_bipush (pc := 32) hX (v := 6) d_N_build_32 rfl ?_
        refine jx_icmp_le (pc := 34) hX 47 d_N_build_34 rfl (fun hh => absurd hh (fun q => hf ⟨Int32.not_lt.mp q28, q⟩)) (fun _ => ?_)
        exact jx_throw (pc := 37) hX ho htr hno xE_49 sl_52 ⟨(Nat.le_of_ble_eq_true rfl), (Nat.le_of_ble_eq_true rfl), (Nat.le_of_ble_eq_true rfl), (Nat.le_of_ble_eq_true rfl)⟩ rfl d_N_build_37 d_N_build_40 d_N_build_41 d_N_build_43 d_N_build_46 (fun o t ht => endC_1 hq ht)
set_option maxRecDepth 100000 in
set_option maxHeartbeats 4000000 in
theorem t_N_build_c {l : Launch} (htr : l.stackTraces = false) {D : va_G} {ad : Nat → Nat} {ac : Nat → ClassId} (σ : St) (M : Ms) (hI : Inv M) (hM : repC σ M) (w s : Nat) (hw : Wok w) (hs : s + 1 < 7) : jMX l false (yC D ad ac) mt_N_build (rmx 12) [.ref (ad 20), .int (nI w), .int (nI (s + 1))] σ (exN cIA cIA) (o_build M (nI w) (nI (s + 1))) := by
  obtain ⟨⟨⟨s0, s1, s2, s3⟩, h0, h1, h2, h3, h4, h5, h6, h7, h8, h9, h10, h11, h12, h13⟩, hlf, hpl⟩ := id hM
  obtain ⟨i1, i2, i3, i4, i5, i6, i7, i8⟩ := id hI
  obtain ⟨p1, p2, p3, p4, p5, p6⟩ := id hpl
  have hw8 := i1.le
  have hw2 := i1.pos
  have hnb := nb_le M.w
  have hlft : M.left ≤ 40 := i5
  have hq : o_build M (nI w) (nI (s + 1)) = (0, nI (nb w), M.build w (s + 1)) := by unfold o_build; rw [widthOf_nI hw, inR_nI hs (by decide)]
  have hf := of_decide_eq_true (in1_t (inR_nI hs (by decide)))
  refine jMX_of (by decide) (Nat.le_of_ble_eq_true rfl) (List.forall_mem_cons.mpr ⟨rfl, List.forall_mem_cons.mpr ⟨rfl, List.forall_mem_cons.mpr ⟨rfl, fun _ h => absurd h List.not_mem_nil⟩⟩⟩) ?_
  intro X A hX ho hno
  have hX : jX X (yC D ad ac) A b_N_build 3 RN (mt_N_build.w :: TT) (rmx 12) (some .int) := hX
  show jW l X (yC D ad ac) A 3 0 0 (k0 X) (jQX X (endC false (yC D ad ac) A X.s (exN cIA cIA) (o_build M (nI w) (nI (s + 1)))) A) σ 0 [(0, .ref (ad 20)), (1, .int (nI w)), (2, .int (nI (s + 1)))] []
  refine jx_iload_n (pc := 0) hX d_N_build_0 rfl rfl ?_
  refine jx_iconst (pc := 1) hX (v := 2) d_N_build_1 rfl ?_
  refine jx_icmp_eq (pc := 2) hX 26 d_N_build_2 rfl (fun q2 => ?_) (fun q2 => ?_)
  · refine jx_iload_n (pc := 26) hX d_N_build_26 rfl rfl ?_
    refine jx_iconst (pc := 27) hX (v := 1) d_N_build_27 rfl ?_
    refine jx_icmp_lt (pc := 28) hX 37 d_N_build_28 rfl (fun hh => absurd hh (Int32.not_lt.mpr hf.1)) (fun _ => ?_)
    refine jx_iload_n (pc := 31) hX d_N_build_31 rfl rfl ?_
    refine jx_bipush (pc := 32) hX (v := 6) d_N_build_32 rfl ?_
    refine jx_icmp_le (pc := 34) hX 47 d_N_build_34 rfl (fun _ => ?_) (fun hh => absurd (hf.2) hh)
    refine jx_kT ?_
    refine jx_aload_n (pc := 47) hX d_N_build_47 rfl rfl ?_
    refine jx_iload_n (pc := 48) hX d_N_build_48 rfl rfl ?_
    refine jx_iload_n (pc := 49) hX d_N_build_49 rfl rfl ?_
    refine k_N_41 (pc := 50) hX (t_N_startAnew σ M w (s + 1) hw) ⟨rfl, rfl, (Nat.le_of_ble_eq_true rfl), (Nat.le_of_ble_eq_true rfl)⟩ rfl rfl (Nat.le_of_ble_eq_true rfl) ⟨Nat.zero_le _, Nat.zero_le _⟩ d_N_build_50 (fun u hu => ?_)
    refine jx_aload_n (pc := 53) hX d_N_build_53 rfl rfl ?_
    refine g_N_10 (pc := 54) hX d_N_build_54 ?_
    refine g_N_54 (pc := 57) hX d_N_build_57 ?_
    refine jx_top (y := nI (nb w)) (hu.2.2.1) ?_
    exact jx_iretX (pc := 60) hX d_N_build_60 (fun t _ hB hF => endC_r hq hu hB hF)
  · refine jx_iload_n (pc := 5) hX d_N_build_5 rfl rfl ?_
    refine jx_iconst (pc := 6) hX (v := 4) d_N_build_6 rfl ?_
    refine jx_icmp_eq (pc := 7) hX 26 d_N_build_7 rfl (fun q7 => ?_) (fun q7 => ?_)
    · refine jx_iload_n (pc := 26) hX d_N_build_26 rfl rfl ?_
      refine jx_iconst (pc := 27) hX (v := 1) d_N_build_27 rfl ?_
      refine jx_icmp_lt (pc := 28) hX 37 d_N_build_28 rfl (fun hh => absurd hh (Int32.not_lt.mpr hf.1)) (fun _ => ?_)
      refine jx_iload_n (pc := 31) hX d_N_build_31 rfl rfl ?_
      refine jx_bipush (pc := 32) hX (v := 6) d_N_build_32 rfl ?_
      refine jx_icmp_le (pc := 34) hX 47 d_N_build_34 rfl (fun _ => ?_) (fun hh => absurd (hf.2) hh)
      refine jx_kT ?_
      refine jx_aload_n (pc := 47) hX d_N_build_47 rfl rfl ?_
      refine jx_iload_n (pc := 48) hX d_N_build_48 rfl rfl ?_
      refine jx_iload_n (pc := 49) hX d_N_build_49 rfl rfl ?_
      refine k_N_41 (pc := 50) hX (t_N_startAnew σ M w (s + 1) hw) ⟨rfl, rfl, (Nat.le_of_ble_eq_true rfl), (Nat.le_of_ble_eq_true rfl)⟩ rfl rfl (Nat.le_of_ble_eq_true rfl) ⟨Nat.zero_le _, Nat.zero_le _⟩ d_N_build_50 (fun u hu => ?_)
      refine jx_aload_n (pc := 53) hX d_N_build_53 rfl rfl ?_
      refine g_N_10 (pc := 54) hX d_N_build_54 ?_
      refine g_N_54 (pc := 57) hX d_N_build_57 ?_
      refine jx_top (y := nI (nb w)) (hu.2.2.1) ?_
      exact jx_iretX (pc := 60) hX d_N_build_60 (fun t _ hB hF => endC_r hq hu hB hF)
    · refine jx_iload_n (pc := 10) hX d_N_build_10 rfl rfl ?_
      refine jx_bipush (pc := 11) hX (v := 8) d_N_build_11 rfl ?_
      refine jx_icmp_eq (pc := 13) hX 26 d_N_build_13 rfl (fun _ => ?_) (fun hh => absurd (hw.elim (fun q => absurd (by rw [q]; rfl) q2) (fun q => q.elim (fun q => absurd (by rw [q]; rfl) q7) (fun q => by rw [q]; rfl))) hh)
      refine jx_iload_n (pc := 26) hX d_N_build_26 rfl rfl ?_
      refine jx_iconst (pc := 27) hX (v := 1) d_N_build_27 rfl ?_
      refine jx_icmp_lt (pc := 28) hX 37 d_N_build_28 rfl (fun hh => absurd hh (Int32.not_lt.mpr hf.1)) (fun _ => ?_)
      refine jx_iload_n (pc := 31) hX d_N_build_31 rfl rfl ?_
      refine jx_bipush (pc := 32) hX (v := 6) d_N_build_32 rfl ?_
      refine jx_icmp_le (pc := 34) hX 47 d_N_build_34 rfl (fun _ => ?_) (fun hh => absurd (hf.2) hh)
      refine jx_kT ?_
      refine jx_aload_n (pc := 47) hX d_N_build_47 rfl rfl ?_
      refine jx_iload_n (pc := 48) hX d_N_build_48 rfl rfl ?_
      refine jx_iload_n (pc := 49) hX d_N_build_49 rfl rfl ?_
      refine k_N_41 (pc := 50) hX (t_N_startAnew σ M w (s + 1) hw) ⟨rfl, rfl, (Nat.le_of_ble_eq_true rfl), (Nat.le_of_ble_eq_true rfl)⟩ rfl rfl (Nat.le_of_ble_eq_true rfl) ⟨Nat.zero_le _, Nat.zero_le _⟩ d_N_build_50 (fun u hu => ?_)
      refine jx_aload_n (pc := 53) hX d_N_build_53 rfl rfl ?_
      refine g_N_10 (pc := 54) hX d_N_build_54 ?_
      refine g_N_54 (pc := 57) hX d_N_build_57 ?_
      refine jx_top (y := nI (nb w)) (hu.2.2.1) ?_
      exact jx_iretX (pc := 60) hX d_N_build_60 (fun t _ hB hF => endC_r hq hu hB hF)
set_option maxRecDepth 100000 in
set_option maxHeartbeats 4000000 in
theorem t_N_enter_a {l : Launch} (htr : l.stackTraces = false) {D : va_G} {ad : Nat → Nat} {ac : Nat → ClassId} (σ : St) (M : Ms) (hI : Inv M) (hM : repC σ M) (x : Int32) (ob : Bool) (hx : inR x M.w = none) : jMX l false (yC D ad ac) mt_N_enter (rmx 12) [.ref (ad 20), .int x, .int (eB ob)] σ (exN cIA cIS) (o_enter M x ob) := by
  obtain ⟨⟨⟨s0, s1, s2, s3⟩, h0, h1, h2, h3, h4, h5, h6, h7, h8, h9, h10, h11, h12, h13⟩, hlf, hpl⟩ := id hM
  obtain ⟨i1, i2, i3, i4, i5, i6, i7, i8⟩ := id hI
  obtain ⟨p1, p2, p3, p4, p5, p6⟩ := id hpl
  have hw8 := i1.le
  have hw2 := i1.pos
  have hnb := nb_le M.w
  have hlft : M.left ≤ 40 := i5
  have hq : o_enter M x ob = (1, 0, M) := by unfold o_enter; rw [hx]
  refine jMX_of (by decide) (Nat.le_of_ble_eq_true rfl) (List.forall_mem_cons.mpr ⟨rfl, List.forall_mem_cons.mpr ⟨rfl, List.forall_mem_cons.mpr ⟨rfl, fun _ h => absurd h List.not_mem_nil⟩⟩⟩) ?_
  intro X A hX ho hno
  have hX : jX X (yC D ad ac) A b_N_enter 3 RN (mt_N_enter.w :: TT) (rmx 12) (some .int) := hX
  show jW l X (yC D ad ac) A 3 0 0 (k0 X) (jQX X (endC false (yC D ad ac) A X.s (exN cIA cIS) (o_enter M x ob)) A) σ 0 [(0, .ref (ad 20)), (1, .int x), (2, .int (eB ob))] []
  refine jx_iload_n (pc := 0) hX d_N_enter_0 rfl rfl ?_
  refine jx_if_lt (pc := 1) hX 15 d_N_enter_1 rfl (fun q1 => ?_) (fun q1 => ?_)
  · exact jx_throw (pc := 15) hX ho htr hno xE_49 sl_88 ⟨(Nat.le_of_ble_eq_true rfl), (Nat.le_of_ble_eq_true rfl), (Nat.le_of_ble_eq_true rfl), (Nat.le_of_ble_eq_true rfl)⟩ rfl d_N_enter_15 d_N_enter_18 d_N_enter_19 d_N_enter_21 d_N_enter_24 (fun o t ht => endC_1 hq ht)
  · refine jx_iload_n (pc := 4) hX d_N_enter_4 rfl rfl ?_
    refine jx_aload_n (pc := 5) hX d_N_enter_5 rfl rfl ?_
    refine g_N_10 (pc := 6) hX d_N_enter_6 ?_
    refine g_N_78 (pc := 9) hX d_N_enter_9 ?_
    refine jx_top (y := nI M.w) (s0) ?_
    refine jx_icmp_lt (pc := 12) hX 25 d_N_enter_12 rfl (fun hh => absurd hh (inR_nb hx q1)) (fun _ => ?_)
    exact jx_throw (pc := 15) hX ho htr hno xE_49 sl_88 ⟨(Nat.le_of_ble_eq_true rfl), (Nat.le_of_ble_eq_true rfl), (Nat.le_of_ble_eq_true rfl), (Nat.le_of_ble_eq_true rfl)⟩ rfl d_N_enter_15 d_N_enter_18 d_N_enter_19 d_N_enter_21 d_N_enter_24 (fun o t ht => endC_1 hq ht)
set_option maxRecDepth 100000 in
set_option maxHeartbeats 4000000 in
theorem t_N_enter_b {l : Launch} (htr : l.stackTraces = false) {D : va_G} {ad : Nat → Nat} {ac : Nat → ClassId} (σ : St) (M : Ms) (hI : Inv M) (hM : repC σ M) (j : Nat) (ob : Bool) (hj : j < M.w) (hf : M.nt = 200) : jMX l false (yC D ad ac) mt_N_enter (rmx 12) [.ref (ad 20), .int (nI j), .int (eB ob)] σ (exN cIA cIS) (o_enter M (nI j) ob) := by
  obtain ⟨⟨⟨s0, s1, s2, s3⟩, h0, h1, h2, h3, h4, h5, h6, h7, h8, h9, h10, h11, h12, h13⟩, hlf, hpl⟩ := id hM
  obtain ⟨i1, i2, i3, i4, i5, i6, i7, i8⟩ := id hI
  obtain ⟨p1, p2, p3, p4, p5, p6⟩ := id hpl
  have hw8 := i1.le
  have hw2 := i1.pos
  have hnb := nb_le M.w
  have hlft : M.left ≤ 40 := i5
  have hq : o_enter M (nI j) ob = (2, 0, M) := by unfold o_enter; rw [inR_nI hj (by omega)]; dsimp only; rw [if_pos (Or.inl hf)]
  refine jMX_of (by decide) (Nat.le_of_ble_eq_true rfl) (List.forall_mem_cons.mpr ⟨rfl, List.forall_mem_cons.mpr ⟨rfl, List.forall_mem_cons.mpr ⟨rfl, fun _ h => absurd h List.not_mem_nil⟩⟩⟩) ?_
  intro X A hX ho hno
  have hX : jX X (yC D ad ac) A b_N_enter 3 RN (mt_N_enter.w :: TT) (rmx 12) (some .int) := hX
  show jW l X (yC D ad ac) A 3 0 0 (k0 X) (jQX X (endC false (yC D ad ac) A X.s (exN cIA cIS) (o_enter M (nI j) ob)) A) σ 0 [(0, .ref (ad 20)), (1, .int (nI j)), (2, .int (eB ob))] []
  refine jx_iload_n (pc := 0) hX d_N_enter_0 rfl rfl ?_
  refine jx_if_lt (pc := 1) hX 15 d_N_enter_1 rfl (fun hh => absurd hh (Int32.not_lt.mpr (nI_pos' (by omega)))) (fun _ => ?_)
  refine jx_iload_n (pc := 4) hX d_N_enter_4 rfl rfl ?_
  refine jx_aload_n (pc := 5) hX d_N_enter_5 rfl rfl ?_
  refine g_N_10 (pc := 6) hX d_N_enter_6 ?_
  refine g_N_78 (pc := 9) hX d_N_enter_9 ?_
  refine jx_top (y := nI M.w) (s0) ?_
  refine jx_icmp_lt (pc := 12) hX 25 d_N_enter_12 rfl (fun _ => ?_) (fun hh => absurd ((nI_ltI (by omega) (by omega)).mpr hj) hh)
  refine jx_aload_n (pc := 25) hX d_N_enter_25 rfl rfl ?_
  refine g_N_19 (pc := 26) hX d_N_enter_26 ?_
  refine g_N_90 (pc := 29) hX d_N_enter_29 ?_
  refine jx_top (y := nI M.nt) (s2) ?_
  refine jx_sipush (pc := 32) hX (v := 200) d_N_enter_32 rfl ?_
  refine jx_icmp_ge (pc := 35) hX 50 d_N_enter_35 rfl (fun _ => ?_) (fun hh => absurd (by rw [hf]; decide) hh)
  exact jx_throw (pc := 50) hX ho htr hno xE_100 sl_98 ⟨(Nat.le_of_ble_eq_true rfl), (Nat.le_of_ble_eq_true rfl), (Nat.le_of_ble_eq_true rfl), (Nat.le_of_ble_eq_true rfl)⟩ rfl d_N_enter_50 d_N_enter_53 d_N_enter_54 d_N_enter_56 d_N_enter_59 (fun o t ht => endC_2 hq ht)
set_option maxRecDepth 100000 in
set_option maxHeartbeats 4000000 in
theorem t_N_enter_d {l : Launch} (htr : l.stackTraces = false) {D : va_G} {ad : Nat → Nat} {ac : Nat → ClassId} (σ : St) (M : Ms) (hI : Inv M) (hM : repC σ M) (j : Nat) (ob : Bool) (hj : j < M.w) (hf : ¬ M.nt = 200) (hg : M.left = 40) : jMX l false (yC D ad ac) mt_N_enter (rmx 12) [.ref (ad 20), .int (nI j), .int (eB ob)] σ (exN cIA cIS) (o_enter M (nI j) ob) := by
  obtain ⟨⟨⟨s0, s1, s2, s3⟩, h0, h1, h2, h3, h4, h5, h6, h7, h8, h9, h10, h11, h12, h13⟩, hlf, hpl⟩ := id hM
  obtain ⟨i1, i2, i3, i4, i5, i6, i7, i8⟩ := id hI
  obtain ⟨p1, p2, p3, p4, p5, p6⟩ := id hpl
  have hw8 := i1.le
  have hw2 := i1.pos
  have hnb := nb_le M.w
  have hlft : M.left ≤ 40 := i5
  have hq : o_enter M (nI j) ob = (2, 0, M) := by unfold o_enter; rw [inR_nI hj (by omega)]; dsimp only; rw [if_pos (Or.inr hg)]
  refine jMX_of (by decide) (Nat.le_of_ble_eq_true rfl) (List.forall_mem_cons.mpr ⟨rfl, List.forall_mem_cons.mpr ⟨rfl, List.forall_mem_cons.mpr ⟨rfl, fun _ h => absurd h List.not_mem_nil⟩⟩⟩) ?_
  intro X A hX ho hno
  have hX : jX X (yC D ad ac) A b_N_enter 3 RN (mt_N_enter.w :: TT) (rmx 12) (some .int) := hX
  show jW l X (yC D ad ac) A 3 0 0 (k0 X) (jQX X (endC false (yC D ad ac) A X.s (exN cIA cIS) (o_enter M (nI j) ob)) A) σ 0 [(0, .ref (ad 20)), (1, .int (nI j)), (2, .int (eB ob))] []
  refine jx_iload_n (pc := 0) hX d_N_enter_0 rfl rfl ?_
  refine jx_if_lt (pc := 1) hX 15 d_N_enter_1 rfl (fun hh => absurd hh (Int32.not_lt.mpr (nI_pos' (by omega)))) (fun _ => ?_)
  refine jx_iload_n (pc := 4) hX d_N_enter_4 rfl rfl ?_
  refine jx_aload_n (pc := 5) hX d_N_enter_5 rfl rfl ?_
  refine g_N_10 (pc := 6) hX d_N_enter_6 ?_
  refine g_N_78 (pc := 9) hX d_N_enter_9 ?_
  refine jx_top (y := nI M.w) (s0) ?_
  refine jx_icmp_lt (pc := 12) hX 25 d_N_enter_12 rfl (fun _ => ?_) (fun hh => absurd ((nI_ltI (by omega) (by omega)).mpr hj) hh)
  refine jx_aload_n (pc := 25) hX d_N_enter_25 rfl rfl ?_
  refine g_N_19 (pc := 26) hX d_N_enter_26 ?_
  refine g_N_90 (pc := 29) hX d_N_enter_29 ?_
  refine jx_top (y := nI M.nt) (s2) ?_
  refine jx_sipush (pc := 32) hX (v := 200) d_N_enter_32 rfl ?_
  refine jx_icmp_ge (pc := 35) hX 50 d_N_enter_35 rfl (fun hh => absurd hh (fun q => by have := (nI_leI (a := 200) (by omega) (by omega)).mp q; omega)) (fun _ => ?_)
  refine jx_aload_n (pc := 38) hX d_N_enter_38 rfl rfl ?_
  refine g_N_19 (pc := 39) hX d_N_enter_39 ?_
  refine g_N_93 (pc := 42) hX d_N_enter_42 ?_
  refine jx_top (y := nI M.left) (hlf) ?_
  refine jx_bipush (pc := 45) hX (v := 40) d_N_enter_45 rfl ?_
  refine jx_icmp_lt (pc := 47) hX 60 d_N_enter_47 rfl (fun hh => absurd hh (by rw [hg]; decide)) (fun _ => ?_)
  exact jx_throw (pc := 50) hX ho htr hno xE_100 sl_98 ⟨(Nat.le_of_ble_eq_true rfl), (Nat.le_of_ble_eq_true rfl), (Nat.le_of_ble_eq_true rfl), (Nat.le_of_ble_eq_true rfl)⟩ rfl d_N_enter_50 d_N_enter_53 d_N_enter_54 d_N_enter_56 d_N_enter_59 (fun o t ht => endC_2 hq ht)
set_option maxRecDepth 100000 in
set_option maxHeartbeats 4000000 in
theorem t_N_enter_c {l : Launch} (htr : l.stackTraces = false) {D : va_G} {ad : Nat → Nat} {ac : Nat → ClassId} (σ : St) (M : Ms) (hI : Inv M) (hM : repC σ M) (j : Nat) (ob : Bool) (hj : j < M.w) (hf : ¬ M.nt = 200) (hg : ¬ M.left = 40) : jMX l false (yC D ad ac) mt_N_enter (rmx 12) [.ref (ad 20), .int (nI j), .int (eB ob)] σ (exN cIA cIS) (o_enter M (nI j) ob) := by
  obtain ⟨⟨⟨s0, s1, s2, s3⟩, h0, h1, h2, h3, h4, h5, h6, h7, h8, h9, h10, h11, h12, h13⟩, hlf, hpl⟩ := id hM
  obtain ⟨i1, i2, i3, i4, i5, i6, i7, i8⟩ := id hI
  obtain ⟨p1, p2, p3, p4, p5, p6⟩ := id hpl
  have hw8 := i1.le
  have hw2 := i1.pos
  have hnb := nb_le M.w
  have hlft : M.left ≤ 40 := i5
  have hq : o_enter M (nI j) ob = (0, nI M.nt, M.enter j ob) := by unfold o_enter; rw [inR_nI hj (by omega)]; dsimp only; rw [if_neg (fun q => q.elim hf hg)]
  refine jMX_of (by decide) (Nat.le_of_ble_eq_true rfl) (List.forall_mem_cons.mpr ⟨rfl, List.forall_mem_cons.mpr ⟨rfl, List.forall_mem_cons.mpr ⟨rfl, fun _ h => absurd h List.not_mem_nil⟩⟩⟩) ?_
  intro X A hX ho hno
  have hX : jX X (yC D ad ac) A b_N_enter 3 RN (mt_N_enter.w :: TT) (rmx 12) (some .int) := hX
  show jW l X (yC D ad ac) A 3 0 0 (k0 X) (jQX X (endC false (yC D ad ac) A X.s (exN cIA cIS) (o_enter M (nI j) ob)) A) σ 0 [(0, .ref (ad 20)), (1, .int (nI j)), (2, .int (eB ob))] []
  refine jx_iload_n (pc := 0) hX d_N_enter_0 rfl rfl ?_
  refine jx_if_lt (pc := 1) hX 15 d_N_enter_1 rfl (fun hh => absurd hh (Int32.not_lt.mpr (nI_pos' (by omega)))) (fun _ => ?_)
  refine jx_iload_n (pc := 4) hX d_N_enter_4 rfl rfl ?_
  refine jx_aload_n (pc := 5) hX d_N_enter_5 rfl rfl ?_
  refine g_N_10 (pc := 6) hX d_N_enter_6 ?_
  refine g_N_78 (pc := 9) hX d_N_enter_9 ?_
  refine jx_top (y := nI M.w) (s0) ?_
  refine jx_icmp_lt (pc := 12) hX 25 d_N_enter_12 rfl (fun _ => ?_) (fun hh => absurd ((nI_ltI (by omega) (by omega)).mpr hj) hh)
  refine jx_aload_n (pc := 25) hX d_N_enter_25 rfl rfl ?_
  refine g_N_19 (pc := 26) hX d_N_enter_26 ?_
  refine g_N_90 (pc := 29) hX d_N_enter_29 ?_
  refine jx_top (y := nI M.nt) (s2) ?_
  refine jx_sipush (pc := 32) hX (v := 200) d_N_enter_32 rfl ?_
  refine jx_icmp_ge (pc := 35) hX 50 d_N_enter_35 rfl (fun hh => absurd hh (fun q => by have := (nI_leI (a := 200) (by omega) (by omega)).mp q; omega)) (fun _ => ?_)
  refine jx_aload_n (pc := 38) hX d_N_enter_38 rfl rfl ?_
  refine g_N_19 (pc := 39) hX d_N_enter_39 ?_
  refine g_N_93 (pc := 42) hX d_N_enter_42 ?_
  refine jx_top (y := nI M.left) (hlf) ?_
  refine jx_bipush (pc := 45) hX (v := 40) d_N_enter_45 rfl ?_
  refine jx_icmp_lt (pc := 47) hX 60 d_N_enter_47 rfl (fun _ => ?_) (fun hh => absurd ((nI_ltI (b := 40) (by omega) (by omega)).mpr (by omega)) hh)
  refine jx_kT ?_
  refine jx_aload_n (pc := 60) hX d_N_enter_60 rfl rfl ?_
  refine g_N_19 (pc := 61) hX d_N_enter_61 ?_
  refine jx_iload_n (pc := 64) hX d_N_enter_64 rfl rfl ?_
  refine jx_iload_n (pc := 65) hX d_N_enter_65 rfl rfl ?_
  refine k_N_101 (pc := 66) hX (t_T_add σ M.nt (by omega) s2 (nI j) (eB ob) (eB_nar ob)) ⟨rfl, rfl, (Nat.le_of_ble_eq_true rfl), (Nat.le_of_ble_eq_true rfl)⟩ rfl rfl (Nat.le_of_ble_eq_true rfl) ⟨Nat.zero_le _, Nat.zero_le _⟩ d_N_enter_66 (fun r u hru => ?_)
  obtain ⟨rfl, hu⟩ := hru
  have hR : repC u (M.enter j ob) := by
    subst hu
    exact ⟨by rw [← s2]; exact hM.1.enter rfl rfl, by show σ.1 5 + 1 = _; rw [hlf, nI_1, Ms.left_enter], hpl⟩
  exact jx_iretX (pc := 69) hX d_N_enter_69 (fun t _ hB hF => endC_r hq hR hB hF)
set_option maxRecDepth 100000 in
set_option maxHeartbeats 4000000 in
theorem t_N_move_a {l : Launch} (htr : l.stackTraces = false) {D : va_G} {ad : Nat → Nat} {ac : Nat → ClassId} (σ : St) (M : Ms) (hI : Inv M) (hM : repC σ M) (x : Int32) (hx : inR x M.nt = none) : jMX l false (yC D ad ac) mt_N_move (rmx 12) [.ref (ad 20), .int x] σ (exN cIA cIS) (o_move M x) := by
  obtain ⟨⟨⟨s0, s1, s2, s3⟩, h0, h1, h2, h3, h4, h5, h6, h7, h8, h9, h10, h11, h12, h13⟩, hlf, hpl⟩ := id hM
  obtain ⟨i1, i2, i3, i4, i5, i6, i7, i8⟩ := id hI
  obtain ⟨p1, p2, p3, p4, p5, p6⟩ := id hpl
  have hw8 := i1.le
  have hw2 := i1.pos
  have hnb := nb_le M.w
  have hlft : M.left ≤ 40 := i5
  have hq : o_move M x = (1, 0, M) := by unfold o_move; rw [hx]
  refine jMX_of (by decide) (Nat.le_of_ble_eq_true rfl) (List.forall_mem_cons.mpr ⟨rfl, List.forall_mem_cons.mpr ⟨rfl, fun _ h => absurd h List.not_mem_nil⟩⟩) ?_
  intro X A hX ho hno
  have hX : jX X (yC D ad ac) A b_N_move 2 RN (mt_N_move.w :: TT) (rmx 12) (some .int) := hX
  show jW l X (yC D ad ac) A 2 0 0 (k0 X) (jQX X (endC false (yC D ad ac) A X.s (exN cIA cIS) (o_move M x)) A) σ 0 [(0, .ref (ad 20)), (1, .int x)] []
  refine jx_aload_n (pc := 0) hX d_N_move_0 rfl rfl ?_
  refine g_N_19 (pc := 1) hX d_N_move_1 ?_
  refine jx_iload_n (pc := 4) hX d_N_move_4 rfl rfl ?_
  refine k_N_105 (pc := 5) hX (t_T_has σ x) ⟨rfl, rfl, (Nat.le_of_ble_eq_true rfl), (Nat.le_of_ble_eq_true rfl)⟩ rfl rfl (Nat.le_of_ble_eq_true rfl) ⟨Nat.zero_le _, Nat.zero_le _⟩ d_N_move_5 (fun r hr => ?_)
  rw [s2, if_neg (inR_none hx)] at hr
  subst hr
  refine jx_if_ne (pc := 8) hX 21 d_N_move_8 rfl (fun hh => absurd (rfl) hh) (fun _ => ?_)
  exact jx_throw (pc := 11) hX ho htr hno xE_49 sl_109 ⟨(Nat.le_of_ble_eq_true rfl), (Nat.le_of_ble_eq_true rfl), (Nat.le_of_ble_eq_true rfl), (Nat.le_of_ble_eq_true rfl)⟩ rfl d_N_move_11 d_N_move_14 d_N_move_15 d_N_move_17 d_N_move_20 (fun o t ht => endC_1 hq ht)
set_option maxRecDepth 100000 in
set_option maxHeartbeats 4000000 in
theorem t_N_move_b {l : Launch} (htr : l.stackTraces = false) {D : va_G} {ad : Nat → Nat} {ac : Nat → ClassId} (σ : St) (M : Ms) (hI : Inv M) (hM : repC σ M) (j : Nat) (hj : j < M.nt) (hc : M.can j = false) : jMX l false (yC D ad ac) mt_N_move (rmx 12) [.ref (ad 20), .int (nI j)] σ (exN cIA cIS) (o_move M (nI j)) := by
  obtain ⟨⟨⟨s0, s1, s2, s3⟩, h0, h1, h2, h3, h4, h5, h6, h7, h8, h9, h10, h11, h12, h13⟩, hlf, hpl⟩ := id hM
  obtain ⟨i1, i2, i3, i4, i5, i6, i7, i8⟩ := id hI
  obtain ⟨p1, p2, p3, p4, p5, p6⟩ := id hpl
  have hw8 := i1.le
  have hw2 := i1.pos
  have hnb := nb_le M.w
  have hlft : M.left ≤ 40 := i5
  have hq : o_move M (nI j) = (2, 0, M) := by unfold o_move; rw [inR_nI hj (by omega)]; dsimp only; rw [if_neg (by rw [hc]; decide)]
  refine jMX_of (by decide) (Nat.le_of_ble_eq_true rfl) (List.forall_mem_cons.mpr ⟨rfl, List.forall_mem_cons.mpr ⟨rfl, fun _ h => absurd h List.not_mem_nil⟩⟩) ?_
  intro X A hX ho hno
  have hX : jX X (yC D ad ac) A b_N_move 2 RN (mt_N_move.w :: TT) (rmx 12) (some .int) := hX
  show jW l X (yC D ad ac) A 2 0 0 (k0 X) (jQX X (endC false (yC D ad ac) A X.s (exN cIA cIS) (o_move M (nI j))) A) σ 0 [(0, .ref (ad 20)), (1, .int (nI j))] []
  refine jx_aload_n (pc := 0) hX d_N_move_0 rfl rfl ?_
  refine g_N_19 (pc := 1) hX d_N_move_1 ?_
  refine jx_iload_n (pc := 4) hX d_N_move_4 rfl rfl ?_
  refine k_N_105 (pc := 5) hX (t_T_has σ (nI j)) ⟨rfl, rfl, (Nat.le_of_ble_eq_true rfl), (Nat.le_of_ble_eq_true rfl)⟩ rfl rfl (Nat.le_of_ble_eq_true rfl) ⟨Nat.zero_le _, Nat.zero_le _⟩ d_N_move_5 (fun r hr => ?_)
  rw [s2, if_pos ⟨nI_pos' (by omega), (nI_ltI (by omega) (by omega)).mpr hj⟩] at hr
  subst hr
  refine jx_if_ne (pc := 8) hX 21 d_N_move_8 rfl (fun _ => ?_) (fun hh => absurd hh (by decide))
  refine jx_aload_n (pc := 21) hX d_N_move_21 rfl rfl ?_
  refine jx_iload_n (pc := 22) hX d_N_move_22 rfl rfl ?_
  refine k_N_111 (pc := 23) hX (t_N_canStep σ M hI hM j hj) ⟨rfl, rfl, (Nat.le_of_ble_eq_true rfl), (Nat.le_of_ble_eq_true rfl)⟩ rfl rfl (Nat.le_of_ble_eq_true rfl) ⟨Nat.zero_le _, Nat.zero_le _⟩ d_N_move_23 (fun r hr => ?_)
  rw [hc] at hr
  subst hr
  refine jx_if_ne (pc := 26) hX 39 d_N_move_26 rfl (fun hh => absurd (rfl) hh) (fun _ => ?_)
  exact jx_throw (pc := 29) hX ho htr hno xE_100 sl_114 ⟨(Nat.le_of_ble_eq_true rfl), (Nat.le_of_ble_eq_true rfl), (Nat.le_of_ble_eq_true rfl), (Nat.le_of_ble_eq_true rfl)⟩ rfl d_N_move_29 d_N_move_32 d_N_move_33 d_N_move_35 d_N_move_38 (fun o t ht => endC_2 hq ht)
set_option maxRecDepth 100000 in
set_option maxHeartbeats 4000000 in
theorem t_N_move_c {l : Launch} (htr : l.stackTraces = false) {D : va_G} {ad : Nat → Nat} {ac : Nat → ClassId} (σ : St) (M : Ms) (hI : Inv M) (hM : repC σ M) (j : Nat) (hj : j < M.nt) (hc : M.can j = true) : jMX l false (yC D ad ac) mt_N_move (rmx 12) [.ref (ad 20), .int (nI j)] σ (exN cIA cIS) (o_move M (nI j)) := by
  obtain ⟨⟨⟨s0, s1, s2, s3⟩, h0, h1, h2, h3, h4, h5, h6, h7, h8, h9, h10, h11, h12, h13⟩, hlf, hpl⟩ := id hM
  obtain ⟨i1, i2, i3, i4, i5, i6, i7, i8⟩ := id hI
  obtain ⟨p1, p2, p3, p4, p5, p6⟩ := id hpl
  have hw8 := i1.le
  have hw2 := i1.pos
  have hnb := nb_le M.w
  have hlft : M.left ≤ 40 := i5
  have hq : o_move M (nI j) = (0, nI (M.step j).1, (M.step j).2) := by unfold o_move; rw [inR_nI hj (by omega)]; dsimp only; rw [if_pos hc]
  refine jMX_of (by decide) (Nat.le_of_ble_eq_true rfl) (List.forall_mem_cons.mpr ⟨rfl, List.forall_mem_cons.mpr ⟨rfl, fun _ h => absurd h List.not_mem_nil⟩⟩) ?_
  intro X A hX ho hno
  have hX : jX X (yC D ad ac) A b_N_move 2 RN (mt_N_move.w :: TT) (rmx 12) (some .int) := hX
  show jW l X (yC D ad ac) A 2 0 0 (k0 X) (jQX X (endC false (yC D ad ac) A X.s (exN cIA cIS) (o_move M (nI j))) A) σ 0 [(0, .ref (ad 20)), (1, .int (nI j))] []
  refine jx_aload_n (pc := 0) hX d_N_move_0 rfl rfl ?_
  refine g_N_19 (pc := 1) hX d_N_move_1 ?_
  refine jx_iload_n (pc := 4) hX d_N_move_4 rfl rfl ?_
  refine k_N_105 (pc := 5) hX (t_T_has σ (nI j)) ⟨rfl, rfl, (Nat.le_of_ble_eq_true rfl), (Nat.le_of_ble_eq_true rfl)⟩ rfl rfl (Nat.le_of_ble_eq_true rfl) ⟨Nat.zero_le _, Nat.zero_le _⟩ d_N_move_5 (fun r hr => ?_)
  rw [s2, if_pos ⟨nI_pos' (by omega), (nI_ltI (by omega) (by omega)).mpr hj⟩] at hr
  subst hr
  refine jx_if_ne (pc := 8) hX 21 d_N_move_8 rfl (fun _ => ?_) (fun hh => absurd hh (by decide))
  refine jx_aload_n (pc := 21) hX d_N_move_21 rfl rfl ?_
  refine jx_iload_n (pc := 22) hX d_N_move_22 rfl rfl ?_
  refine k_N_111 (pc := 23) hX (t_N_canStep σ M hI hM j hj) ⟨rfl, rfl, (Nat.le_of_ble_eq_true rfl), (Nat.le_of_ble_eq_true rfl)⟩ rfl rfl (Nat.le_of_ble_eq_true rfl) ⟨Nat.zero_le _, Nat.zero_le _⟩ d_N_move_23 (fun r hr => ?_)
  rw [hc] at hr
  subst hr
  refine jx_if_ne (pc := 26) hX 39 d_N_move_26 rfl (fun _ => ?_) (fun hh => absurd hh (by decide))
  refine jx_kT ?_
  refine jx_aload_n (pc := 39) hX d_N_move_39 rfl rfl ?_
  refine jx_iload_n (pc := 40) hX d_N_move_40 rfl rfl ?_
  refine k_N_116 (pc := 41) hX (t_N_step σ M hI hM j hj hc) ⟨rfl, rfl, (Nat.le_of_ble_eq_true rfl), (Nat.le_of_ble_eq_true rfl)⟩ rfl rfl (Nat.le_of_ble_eq_true rfl) ⟨Nat.zero_le _, Nat.zero_le _⟩ d_N_move_41 (fun r u hru => ?_)
  obtain ⟨rfl, hR⟩ := hru
  exact jx_iretX (pc := 44) hX d_N_move_44 (fun t _ hB hF => endC_r hq hR hB hF)
set_option maxRecDepth 100000 in
set_option maxHeartbeats 4000000 in
theorem t_N_deliver_a {l : Launch} (htr : l.stackTraces = false) {D : va_G} {ad : Nat → Nat} {ac : Nat → ClassId} (σ : St) (M : Ms) (hI : Inv M) (hM : repC σ M) (x : Int32) (hx : inR x M.nl = none) : jMX l false (yC D ad ac) mt_N_deliver (rmx 12) [.ref (ad 20), .int x] σ (exN cIO cIO) (o_deliver M x) := by
  obtain ⟨⟨⟨s0, s1, s2, s3⟩, h0, h1, h2, h3, h4, h5, h6, h7, h8, h9, h10, h11, h12, h13⟩, hlf, hpl⟩ := id hM
  obtain ⟨i1, i2, i3, i4, i5, i6, i7, i8⟩ := id hI
  obtain ⟨p1, p2, p3, p4, p5, p6⟩ := id hpl
  have hw8 := i1.le
  have hw2 := i1.pos
  have hnb := nb_le M.w
  have hlft : M.left ≤ 40 := i5
  have hq : o_deliver M x = (1, 0, M) := by unfold o_deliver; rw [hx]
  refine jMX_of (by decide) (Nat.le_of_ble_eq_true rfl) (List.forall_mem_cons.mpr ⟨rfl, List.forall_mem_cons.mpr ⟨rfl, fun _ h => absurd h List.not_mem_nil⟩⟩) ?_
  intro X A hX ho hno
  have hX : jX X (yC D ad ac) A b_N_deliver 2 RN (mt_N_deliver.w :: TT) (rmx 12) (some .int) := hX
  show jW l X (yC D ad ac) A 2 0 0 (k0 X) (jQX X (endC false (yC D ad ac) A X.s (exN cIO cIO) (o_deliver M x)) A) σ 0 [(0, .ref (ad 20)), (1, .int x)] []
  refine jx_aload_n (pc := 0) hX d_N_deliver_0 rfl rfl ?_
  refine g_N_26 (pc := 1) hX d_N_deliver_1 ?_
  refine jx_iload_n (pc := 4) hX d_N_deliver_4 rfl rfl ?_
  refine k_N_119 (pc := 5) hX (t_B_has σ x) ⟨rfl, rfl, (Nat.le_of_ble_eq_true rfl), (Nat.le_of_ble_eq_true rfl)⟩ rfl rfl (Nat.le_of_ble_eq_true rfl) ⟨Nat.zero_le _, Nat.zero_le _⟩ d_N_deliver_5 (fun r hr => ?_)
  rw [s3, if_neg (inR_none hx)] at hr
  subst hr
  refine jx_if_ne (pc := 8) hX 21 d_N_deliver_8 rfl (fun hh => absurd (rfl) hh) (fun _ => ?_)
  exact jx_throw (pc := 11) hX ho htr hno xE_62 sl_120 ⟨(Nat.le_of_ble_eq_true rfl), (Nat.le_of_ble_eq_true rfl), (Nat.le_of_ble_eq_true rfl), (Nat.le_of_ble_eq_true rfl)⟩ rfl d_N_deliver_11 d_N_deliver_14 d_N_deliver_15 d_N_deliver_17 d_N_deliver_20 (fun o t ht => endC_1 hq ht)
set_option maxRecDepth 100000 in
set_option maxHeartbeats 4000000 in
theorem t_N_deliver_c {l : Launch} (htr : l.stackTraces = false) {D : va_G} {ad : Nat → Nat} {ac : Nat → ClassId} (σ : St) (M : Ms) (hI : Inv M) (hM : repC σ M) (j : Nat) (hj : j < M.nl) : jMX l false (yC D ad ac) mt_N_deliver (rmx 12) [.ref (ad 20), .int (nI j)] σ (exN cIO cIO) (o_deliver M (nI j)) := by
  obtain ⟨⟨⟨s0, s1, s2, s3⟩, h0, h1, h2, h3, h4, h5, h6, h7, h8, h9, h10, h11, h12, h13⟩, hlf, hpl⟩ := id hM
  obtain ⟨i1, i2, i3, i4, i5, i6, i7, i8⟩ := id hI
  obtain ⟨p1, p2, p3, p4, p5, p6⟩ := id hpl
  have hw8 := i1.le
  have hw2 := i1.pos
  have hnb := nb_le M.w
  have hlft : M.left ≤ 40 := i5
  have hq : o_deliver M (nI j) = (0, eB (M.comes j), M.deliver j) := by unfold o_deliver; rw [inR_nI hj (by omega)]
  refine jMX_of (by decide) (Nat.le_of_ble_eq_true rfl) (List.forall_mem_cons.mpr ⟨rfl, List.forall_mem_cons.mpr ⟨rfl, fun _ h => absurd h List.not_mem_nil⟩⟩) ?_
  intro X A hX ho hno
  have hX : jX X (yC D ad ac) A b_N_deliver 2 RN (mt_N_deliver.w :: TT) (rmx 12) (some .int) := hX
  show jW l X (yC D ad ac) A 2 0 0 (k0 X) (jQX X (endC false (yC D ad ac) A X.s (exN cIO cIO) (o_deliver M (nI j))) A) σ 0 [(0, .ref (ad 20)), (1, .int (nI j))] []
  refine jx_aload_n (pc := 0) hX d_N_deliver_0 rfl rfl ?_
  refine g_N_26 (pc := 1) hX d_N_deliver_1 ?_
  refine jx_iload_n (pc := 4) hX d_N_deliver_4 rfl rfl ?_
  refine k_N_119 (pc := 5) hX (t_B_has σ (nI j)) ⟨rfl, rfl, (Nat.le_of_ble_eq_true rfl), (Nat.le_of_ble_eq_true rfl)⟩ rfl rfl (Nat.le_of_ble_eq_true rfl) ⟨Nat.zero_le _, Nat.zero_le _⟩ d_N_deliver_5 (fun r hr => ?_)
  rw [s3, if_pos ⟨nI_pos' (by omega), (nI_ltI (by omega) (by omega)).mpr hj⟩] at hr
  subst hr
  refine jx_if_ne (pc := 8) hX 21 d_N_deliver_8 rfl (fun _ => ?_) (fun hh => absurd hh (by decide))
  refine jx_kT ?_
  refine jx_aload_n (pc := 21) hX d_N_deliver_21 rfl rfl ?_
  refine jx_iload_n (pc := 22) hX d_N_deliver_22 rfl rfl ?_
  refine k_N_122 (pc := 23) hX (t_N_handOver σ M hI hM j hj) ⟨rfl, rfl, (Nat.le_of_ble_eq_true rfl), (Nat.le_of_ble_eq_true rfl)⟩ rfl rfl (Nat.le_of_ble_eq_true rfl) ⟨Nat.zero_le _, Nat.zero_le _⟩ d_N_deliver_23 (fun r u hru => ?_)
  obtain ⟨rfl, hR⟩ := hru
  refine jx_if_eq (pc := 26) hX 33 d_N_deliver_26 rfl (fun q26 => ?_) (fun q26 => ?_)
  · have hc : M.comes j = false := eB_0.mp q26
    rw [hc] at hq
    refine jx_iconst (pc := 33) hX (v := 0) d_N_deliver_33 rfl ?_
    exact jx_iretX (pc := 34) hX d_N_deliver_34 (fun t _ hB hF => endC_r hq hR hB hF)
  · have hc : M.comes j = true := eB_n0.mp q26
    rw [hc] at hq
    refine jx_iconst (pc := 29) hX (v := 1) d_N_deliver_29 rfl ?_
    refine jx_goto (pc := 30) hX 34 d_N_deliver_30 rfl ?_
    exact jx_iretX (pc := 34) hX d_N_deliver_34 (fun t _ hB hF => endC_r hq hR hB hF)
set_option maxRecDepth 100000 in
set_option maxHeartbeats 4000000 in
theorem t_N_lose_a {l : Launch} (htr : l.stackTraces = false) {D : va_G} {ad : Nat → Nat} {ac : Nat → ClassId} (σ : St) (M : Ms) (hI : Inv M) (hM : repC σ M) (x : Int32) (hx : inR x M.nl = none) : jMX l true (yC D ad ac) mt_N_lose (rmx 12) [.ref (ad 20), .int x] σ (exN cIO cIO) (o_lose M x) := by
  obtain ⟨⟨⟨s0, s1, s2, s3⟩, h0, h1, h2, h3, h4, h5, h6, h7, h8, h9, h10, h11, h12, h13⟩, hlf, hpl⟩ := id hM
  obtain ⟨i1, i2, i3, i4, i5, i6, i7, i8⟩ := id hI
  obtain ⟨p1, p2, p3, p4, p5, p6⟩ := id hpl
  have hw8 := i1.le
  have hw2 := i1.pos
  have hnb := nb_le M.w
  have hlft : M.left ≤ 40 := i5
  have hq : o_lose M x = (1, 0, M) := by unfold o_lose; rw [hx]
  refine jMX_of (by decide) (Nat.le_of_ble_eq_true rfl) (List.forall_mem_cons.mpr ⟨rfl, List.forall_mem_cons.mpr ⟨rfl, fun _ h => absurd h List.not_mem_nil⟩⟩) ?_
  intro X A hX ho hno
  have hX : jX X (yC D ad ac) A b_N_lose 2 RN (mt_N_lose.w :: TT) (rmx 12) none := hX
  show jW l X (yC D ad ac) A 2 0 0 (k0 X) (jQX X (endC true (yC D ad ac) A X.s (exN cIO cIO) (o_lose M x)) A) σ 0 [(0, .ref (ad 20)), (1, .int x)] []
  refine jx_aload_n (pc := 0) hX d_N_lose_0 rfl rfl ?_
  refine g_N_26 (pc := 1) hX d_N_lose_1 ?_
  refine jx_iload_n (pc := 4) hX d_N_lose_4 rfl rfl ?_
  refine k_N_119 (pc := 5) hX (t_B_has σ x) ⟨rfl, rfl, (Nat.le_of_ble_eq_true rfl), (Nat.le_of_ble_eq_true rfl)⟩ rfl rfl (Nat.le_of_ble_eq_true rfl) ⟨Nat.zero_le _, Nat.zero_le _⟩ d_N_lose_5 (fun r hr => ?_)
  rw [s3, if_neg (inR_none hx)] at hr
  subst hr
  refine jx_if_ne (pc := 8) hX 21 d_N_lose_8 rfl (fun hh => absurd (rfl) hh) (fun _ => ?_)
  exact jx_throw (pc := 11) hX ho htr hno xE_62 sl_120 ⟨(Nat.le_of_ble_eq_true rfl), (Nat.le_of_ble_eq_true rfl), (Nat.le_of_ble_eq_true rfl), (Nat.le_of_ble_eq_true rfl)⟩ rfl d_N_lose_11 d_N_lose_14 d_N_lose_15 d_N_lose_17 d_N_lose_20 (fun o t ht => endC_1 hq ht)
set_option maxRecDepth 100000 in
set_option maxHeartbeats 4000000 in
theorem t_N_lose_c {l : Launch} (htr : l.stackTraces = false) {D : va_G} {ad : Nat → Nat} {ac : Nat → ClassId} (σ : St) (M : Ms) (hI : Inv M) (hM : repC σ M) (j : Nat) (hj : j < M.nl) : jMX l true (yC D ad ac) mt_N_lose (rmx 12) [.ref (ad 20), .int (nI j)] σ (exN cIO cIO) (o_lose M (nI j)) := by
  obtain ⟨⟨⟨s0, s1, s2, s3⟩, h0, h1, h2, h3, h4, h5, h6, h7, h8, h9, h10, h11, h12, h13⟩, hlf, hpl⟩ := id hM
  obtain ⟨i1, i2, i3, i4, i5, i6, i7, i8⟩ := id hI
  obtain ⟨p1, p2, p3, p4, p5, p6⟩ := id hpl
  have hw8 := i1.le
  have hw2 := i1.pos
  have hnb := nb_le M.w
  have hlft : M.left ≤ 40 := i5
  have hq : o_lose M (nI j) = (0, 0, M.take j) := by unfold o_lose; rw [inR_nI hj (by omega)]
  refine jMX_of (by decide) (Nat.le_of_ble_eq_true rfl) (List.forall_mem_cons.mpr ⟨rfl, List.forall_mem_cons.mpr ⟨rfl, fun _ h => absurd h List.not_mem_nil⟩⟩) ?_
  intro X A hX ho hno
  have hX : jX X (yC D ad ac) A b_N_lose 2 RN (mt_N_lose.w :: TT) (rmx 12) none := hX
  show jW l X (yC D ad ac) A 2 0 0 (k0 X) (jQX X (endC true (yC D ad ac) A X.s (exN cIO cIO) (o_lose M (nI j))) A) σ 0 [(0, .ref (ad 20)), (1, .int (nI j))] []
  refine jx_aload_n (pc := 0) hX d_N_lose_0 rfl rfl ?_
  refine g_N_26 (pc := 1) hX d_N_lose_1 ?_
  refine jx_iload_n (pc := 4) hX d_N_lose_4 rfl rfl ?_
  refine k_N_119 (pc := 5) hX (t_B_has σ (nI j)) ⟨rfl, rfl, (Nat.le_of_ble_eq_true rfl), (Nat.le_of_ble_eq_true rfl)⟩ rfl rfl (Nat.le_of_ble_eq_true rfl) ⟨Nat.zero_le _, Nat.zero_le _⟩ d_N_lose_5 (fun r hr => ?_)
  rw [s3, if_pos ⟨nI_pos' (by omega), (nI_ltI (by omega) (by omega)).mpr hj⟩] at hr
  subst hr
  refine jx_if_ne (pc := 8) hX 21 d_N_lose_8 rfl (fun _ => ?_) (fun hh => absurd hh (by decide))
  refine jx_kT ?_
  refine jx_aload_n (pc := 21) hX d_N_lose_21 rfl rfl ?_
  refine g_N_26 (pc := 22) hX d_N_lose_22 ?_
  refine jx_iload_n (pc := 25) hX d_N_lose_25 rfl rfl ?_
  refine k_N_125 (pc := 26) hX (t_B_takeOut σ M.nl j hj (by omega) s3) ⟨rfl, rfl, (Nat.le_of_ble_eq_true rfl), (Nat.le_of_ble_eq_true rfl)⟩ rfl rfl (Nat.le_of_ble_eq_true rfl) ⟨Nat.zero_le _, Nat.zero_le _⟩ d_N_lose_26 (fun u hu => ?_)
  have hR : repC u (M.take j) := by
    subst hu
    exact ⟨hM.1.take hj (h8.cut hj) (h9.cut hj) (h10.cut hj), hlf, hpl⟩
  exact jx_vretX (pc := 29) hX d_N_lose_29 (fun t hB hF => endC_v hq hR hB hF)
set_option maxRecDepth 100000 in
set_option maxHeartbeats 4000000 in
theorem t_N_twin_a {l : Launch} (htr : l.stackTraces = false) {D : va_G} {ad : Nat → Nat} {ac : Nat → ClassId} (σ : St) (M : Ms) (hI : Inv M) (hM : repC σ M) (x : Int32) (hx : inR x M.nl = none) : jMX l true (yC D ad ac) mt_N_twin (rmx 12) [.ref (ad 20), .int x] σ (exN cIO cIS) (o_twin M x) := by
  obtain ⟨⟨⟨s0, s1, s2, s3⟩, h0, h1, h2, h3, h4, h5, h6, h7, h8, h9, h10, h11, h12, h13⟩, hlf, hpl⟩ := id hM
  obtain ⟨i1, i2, i3, i4, i5, i6, i7, i8⟩ := id hI
  obtain ⟨p1, p2, p3, p4, p5, p6⟩ := id hpl
  have hw8 := i1.le
  have hw2 := i1.pos
  have hnb := nb_le M.w
  have hlft : M.left ≤ 40 := i5
  have hq : o_twin M x = (1, 0, M) := by unfold o_twin; rw [hx]
  refine jMX_of (by decide) (Nat.le_of_ble_eq_true rfl) (List.forall_mem_cons.mpr ⟨rfl, List.forall_mem_cons.mpr ⟨rfl, fun _ h => absurd h List.not_mem_nil⟩⟩) ?_
  intro X A hX ho hno
  have hX : jX X (yC D ad ac) A b_N_twin 2 RN (mt_N_twin.w :: TT) (rmx 12) none := hX
  show jW l X (yC D ad ac) A 2 0 0 (k0 X) (jQX X (endC true (yC D ad ac) A X.s (exN cIO cIS) (o_twin M x)) A) σ 0 [(0, .ref (ad 20)), (1, .int x)] []
  refine jx_aload_n (pc := 0) hX d_N_twin_0 rfl rfl ?_
  refine g_N_26 (pc := 1) hX d_N_twin_1 ?_
  refine jx_iload_n (pc := 4) hX d_N_twin_4 rfl rfl ?_
  refine k_N_119 (pc := 5) hX (t_B_has σ x) ⟨rfl, rfl, (Nat.le_of_ble_eq_true rfl), (Nat.le_of_ble_eq_true rfl)⟩ rfl rfl (Nat.le_of_ble_eq_true rfl) ⟨Nat.zero_le _, Nat.zero_le _⟩ d_N_twin_5 (fun r hr => ?_)
  rw [s3, if_neg (inR_none hx)] at hr
  subst hr
  refine jx_if_ne (pc := 8) hX 21 d_N_twin_8 rfl (fun hh => absurd (rfl) hh) (fun _ => ?_)
  exact jx_throw (pc := 11) hX ho htr hno xE_62 sl_120 ⟨(Nat.le_of_ble_eq_true rfl), (Nat.le_of_ble_eq_true rfl), (Nat.le_of_ble_eq_true rfl), (Nat.le_of_ble_eq_true rfl)⟩ rfl d_N_twin_11 d_N_twin_14 d_N_twin_15 d_N_twin_17 d_N_twin_20 (fun o t ht => endC_1 hq ht)
set_option maxRecDepth 100000 in
set_option maxHeartbeats 4000000 in
theorem t_N_twin_b {l : Launch} (htr : l.stackTraces = false) {D : va_G} {ad : Nat → Nat} {ac : Nat → ClassId} (σ : St) (M : Ms) (hI : Inv M) (hM : repC σ M) (j : Nat) (hj : j < M.nl) (hf : M.nl = 60) : jMX l true (yC D ad ac) mt_N_twin (rmx 12) [.ref (ad 20), .int (nI j)] σ (exN cIO cIS) (o_twin M (nI j)) := by
  obtain ⟨⟨⟨s0, s1, s2, s3⟩, h0, h1, h2, h3, h4, h5, h6, h7, h8, h9, h10, h11, h12, h13⟩, hlf, hpl⟩ := id hM
  obtain ⟨i1, i2, i3, i4, i5, i6, i7, i8⟩ := id hI
  obtain ⟨p1, p2, p3, p4, p5, p6⟩ := id hpl
  have hw8 := i1.le
  have hw2 := i1.pos
  have hnb := nb_le M.w
  have hlft : M.left ≤ 40 := i5
  have hq : o_twin M (nI j) = (2, 0, M) := by unfold o_twin; rw [inR_nI hj (by omega)]; dsimp only; rw [if_pos hf]
  refine jMX_of (by decide) (Nat.le_of_ble_eq_true rfl) (List.forall_mem_cons.mpr ⟨rfl, List.forall_mem_cons.mpr ⟨rfl, fun _ h => absurd h List.not_mem_nil⟩⟩) ?_
  intro X A hX ho hno
  have hX : jX X (yC D ad ac) A b_N_twin 2 RN (mt_N_twin.w :: TT) (rmx 12) none := hX
  show jW l X (yC D ad ac) A 2 0 0 (k0 X) (jQX X (endC true (yC D ad ac) A X.s (exN cIO cIS) (o_twin M (nI j))) A) σ 0 [(0, .ref (ad 20)), (1, .int (nI j))] []
  refine jx_aload_n (pc := 0) hX d_N_twin_0 rfl rfl ?_
  refine g_N_26 (pc := 1) hX d_N_twin_1 ?_
  refine jx_iload_n (pc := 4) hX d_N_twin_4 rfl rfl ?_
  refine k_N_119 (pc := 5) hX (t_B_has σ (nI j)) ⟨rfl, rfl, (Nat.le_of_ble_eq_true rfl), (Nat.le_of_ble_eq_true rfl)⟩ rfl rfl (Nat.le_of_ble_eq_true rfl) ⟨Nat.zero_le _, Nat.zero_le _⟩ d_N_twin_5 (fun r hr => ?_)
  rw [s3, if_pos ⟨nI_pos' (by omega), (nI_ltI (by omega) (by omega)).mpr hj⟩] at hr
  subst hr
  refine jx_if_ne (pc := 8) hX 21 d_N_twin_8 rfl (fun _ => ?_) (fun hh => absurd hh (by decide))
  refine jx_aload_n (pc := 21) hX d_N_twin_21 rfl rfl ?_
  refine g_N_26 (pc := 22) hX d_N_twin_22 ?_
  refine k_N_129 (pc := 25) hX (t_B_hasRoom σ M.nl (by omega) s3) ⟨rfl, rfl, (Nat.le_of_ble_eq_true rfl), (Nat.le_of_ble_eq_true rfl)⟩ rfl rfl (Nat.le_of_ble_eq_true rfl) ⟨Nat.zero_le _, Nat.zero_le _⟩ d_N_twin_25 (fun r hr => ?_)
  rw [decide_eq_false (by omega)] at hr
  subst hr
  refine jx_if_ne (pc := 28) hX 41 d_N_twin_28 rfl (fun hh => absurd (rfl) hh) (fun _ => ?_)
  exact jx_throw (pc := 31) hX ho htr hno xE_100 sl_133 ⟨(Nat.le_of_ble_eq_true rfl), (Nat.le_of_ble_eq_true rfl), (Nat.le_of_ble_eq_true rfl), (Nat.le_of_ble_eq_true rfl)⟩ rfl d_N_twin_31 d_N_twin_34 d_N_twin_35 d_N_twin_37 d_N_twin_40 (fun o t ht => endC_2 hq ht)
set_option maxRecDepth 100000 in
set_option maxHeartbeats 4000000 in
theorem t_N_twin_c {l : Launch} (htr : l.stackTraces = false) {D : va_G} {ad : Nat → Nat} {ac : Nat → ClassId} (σ : St) (M : Ms) (hI : Inv M) (hM : repC σ M) (j : Nat) (hj : j < M.nl) (hf : ¬ M.nl = 60) : jMX l true (yC D ad ac) mt_N_twin (rmx 12) [.ref (ad 20), .int (nI j)] σ (exN cIO cIS) (o_twin M (nI j)) := by
  obtain ⟨⟨⟨s0, s1, s2, s3⟩, h0, h1, h2, h3, h4, h5, h6, h7, h8, h9, h10, h11, h12, h13⟩, hlf, hpl⟩ := id hM
  obtain ⟨i1, i2, i3, i4, i5, i6, i7, i8⟩ := id hI
  obtain ⟨p1, p2, p3, p4, p5, p6⟩ := id hpl
  have hw8 := i1.le
  have hw2 := i1.pos
  have hnb := nb_le M.w
  have hlft : M.left ≤ 40 := i5
  have hq : o_twin M (nI j) = (0, 0, M.post (M.la j) (M.lw j) (M.lt j)) := by unfold o_twin; rw [inR_nI hj (by omega)]; dsimp only; rw [if_neg hf]
  refine jMX_of (by decide) (Nat.le_of_ble_eq_true rfl) (List.forall_mem_cons.mpr ⟨rfl, List.forall_mem_cons.mpr ⟨rfl, fun _ h => absurd h List.not_mem_nil⟩⟩) ?_
  intro X A hX ho hno
  have hX : jX X (yC D ad ac) A b_N_twin 2 RN (mt_N_twin.w :: TT) (rmx 12) none := hX
  show jW l X (yC D ad ac) A 2 0 0 (k0 X) (jQX X (endC true (yC D ad ac) A X.s (exN cIO cIS) (o_twin M (nI j))) A) σ 0 [(0, .ref (ad 20)), (1, .int (nI j))] []
  refine jx_aload_n (pc := 0) hX d_N_twin_0 rfl rfl ?_
  refine g_N_26 (pc := 1) hX d_N_twin_1 ?_
  refine jx_iload_n (pc := 4) hX d_N_twin_4 rfl rfl ?_
  refine k_N_119 (pc := 5) hX (t_B_has σ (nI j)) ⟨rfl, rfl, (Nat.le_of_ble_eq_true rfl), (Nat.le_of_ble_eq_true rfl)⟩ rfl rfl (Nat.le_of_ble_eq_true rfl) ⟨Nat.zero_le _, Nat.zero_le _⟩ d_N_twin_5 (fun r hr => ?_)
  rw [s3, if_pos ⟨nI_pos' (by omega), (nI_ltI (by omega) (by omega)).mpr hj⟩] at hr
  subst hr
  refine jx_if_ne (pc := 8) hX 21 d_N_twin_8 rfl (fun _ => ?_) (fun hh => absurd hh (by decide))
  refine jx_aload_n (pc := 21) hX d_N_twin_21 rfl rfl ?_
  refine g_N_26 (pc := 22) hX d_N_twin_22 ?_
  refine k_N_129 (pc := 25) hX (t_B_hasRoom σ M.nl (by omega) s3) ⟨rfl, rfl, (Nat.le_of_ble_eq_true rfl), (Nat.le_of_ble_eq_true rfl)⟩ rfl rfl (Nat.le_of_ble_eq_true rfl) ⟨Nat.zero_le _, Nat.zero_le _⟩ d_N_twin_25 (fun r hr => ?_)
  rw [decide_eq_true (by omega)] at hr
  subst hr
  refine jx_if_ne (pc := 28) hX 41 d_N_twin_28 rfl (fun _ => ?_) (fun hh => absurd hh (by decide))
  refine jx_kT ?_
  refine jx_aload_n (pc := 41) hX d_N_twin_41 rfl rfl ?_
  refine g_N_26 (pc := 42) hX d_N_twin_42 ?_
  refine jx_aload_n (pc := 45) hX d_N_twin_45 rfl rfl ?_
  refine g_N_26 (pc := 46) hX d_N_twin_46 ?_
  refine g_N_135 (pc := 49) hX d_N_twin_49 ?_
  refine jx_iload_n (pc := 52) hX d_N_twin_52 rfl rfl ?_
  refine jx_iald (pc := 53) hX oC_17 _ rfl (show j < 60 by omega) d_N_twin_53 ?_
  refine jx_top (y := nI (M.la j)) (h8 j hj) ?_
  refine jx_aload_n (pc := 54) hX d_N_twin_54 rfl rfl ?_
  refine g_N_26 (pc := 55) hX d_N_twin_55 ?_
  refine g_N_138 (pc := 58) hX d_N_twin_58 ?_
  refine jx_iload_n (pc := 61) hX d_N_twin_61 rfl rfl ?_
  refine jx_iald (pc := 62) hX oC_18 _ rfl (show j < 60 by omega) d_N_twin_62 ?_
  refine jx_top (y := M.lw j) (h9 j hj) ?_
  refine jx_aload_n (pc := 63) hX d_N_twin_63 rfl rfl ?_
  refine g_N_26 (pc := 64) hX d_N_twin_64 ?_
  refine g_N_141 (pc := 67) hX d_N_twin_67 ?_
  refine jx_iload_n (pc := 70) hX d_N_twin_70 rfl rfl ?_
  refine jx_iald (pc := 71) hX oC_19 _ rfl (show j < 60 by omega) d_N_twin_71 ?_
  refine jx_top (y := nI (M.lt j)) (h10 j hj) ?_
  refine k_N_144 (pc := 72) hX (t_B_post σ M.nl (by omega) s3 (nI (M.la j)) (M.lw j) (nI (M.lt j))) ⟨rfl, rfl, (Nat.le_of_ble_eq_true rfl), (Nat.le_of_ble_eq_true rfl)⟩ rfl rfl (Nat.le_of_ble_eq_true rfl) ⟨Nat.zero_le _, Nat.zero_le _⟩ d_N_twin_72 (fun u hu => ?_)
  have hR : repC u (M.post (M.la j) (M.lw j) (M.lt j)) := by
    subst hu
    exact ⟨hM.1.post rfl rfl, hlf, hpl⟩
  exact jx_vretX (pc := 75) hX d_N_twin_75 (fun t hB hF => endC_v hq hR hB hF)
set_option maxRecDepth 100000 in
set_option maxHeartbeats 4000000 in
theorem t_N_letter_m {l : Launch} (htr : l.stackTraces = false) {D : va_G} {ad : Nat → Nat} {ac : Nat → ClassId} (σ : St) (M : Ms) (hI : Inv M) (hM : repC σ M) (y : Int32) : jMX l false (yC D ad ac) mt_N_letter (rmx 12) [.ref (ad 20), .int (-1), .int y] σ (exN cIO cIA) (o_letter M (-1) y) := by
  obtain ⟨⟨⟨s0, s1, s2, s3⟩, h0, h1, h2, h3, h4, h5, h6, h7, h8, h9, h10, h11, h12, h13⟩, hlf, hpl⟩ := id hM
  obtain ⟨i1, i2, i3, i4, i5, i6, i7, i8⟩ := id hI
  obtain ⟨p1, p2, p3, p4, p5, p6⟩ := id hpl
  have hw8 := i1.le
  have hw2 := i1.pos
  have hnb := nb_le M.w
  have hlft : M.left ≤ 40 := i5
  have hq : o_letter M (-1) y = (0, nI M.nl, M) := by unfold o_letter; rw [if_pos rfl]
  refine jMX_of (by decide) (Nat.le_of_ble_eq_true rfl) (List.forall_mem_cons.mpr ⟨rfl, List.forall_mem_cons.mpr ⟨rfl, List.forall_mem_cons.mpr ⟨rfl, fun _ h => absurd h List.not_mem_nil⟩⟩⟩) ?_
  intro X A hX ho hno
  have hX : jX X (yC D ad ac) A b_N_letter 3 RN (mt_N_letter.w :: TT) (rmx 12) (some .int) := hX
  show jW l X (yC D ad ac) A 3 0 0 (k0 X) (jQX X (endC false (yC D ad ac) A X.s (exN cIO cIA) (o_letter M (-1) y)) A) σ 0 [(0, .ref (ad 20)), (1, .int (-1)), (2, .int y)] []
  refine jx_iload_n (pc := 0) hX d_N_letter_0 rfl rfl ?_
  refine jx_iconst (pc := 1) hX (v := -1) d_N_letter_1 rfl ?_
  refine jx_icmp_ne (pc := 2) hX 13 d_N_letter_2 rfl (fun hh => absurd (rfl) hh) (fun _ => ?_)
  refine jx_aload_n (pc := 5) hX d_N_letter_5 rfl rfl ?_
  refine g_N_26 (pc := 6) hX d_N_letter_6 ?_
  refine g_N_148 (pc := 9) hX d_N_letter_9 ?_
  refine jx_top (y := nI M.nl) (s3) ?_
  exact jx_iretX (pc := 12) hX d_N_letter_12 (fun t _ hB hF => endC_r hq hM hB hF)
set_option maxRecDepth 100000 in
set_option maxHeartbeats 4000000 in
theorem t_N_letter_a {l : Launch} (htr : l.stackTraces = false) {D : va_G} {ad : Nat → Nat} {ac : Nat → ClassId} (σ : St) (M : Ms) (hI : Inv M) (hM : repC σ M) (x y : Int32) (h1m : ¬ x = -1) (hx : inR x M.nl = none) : jMX l false (yC D ad ac) mt_N_letter (rmx 12) [.ref (ad 20), .int x, .int y] σ (exN cIO cIA) (o_letter M x y) := by
  obtain ⟨⟨⟨s0, s1, s2, s3⟩, h0, h1, h2, h3, h4, h5, h6, h7, h8, h9, h10, h11, h12, h13⟩, hlf, hpl⟩ := id hM
  obtain ⟨i1, i2, i3, i4, i5, i6, i7, i8⟩ := id hI
  obtain ⟨p1, p2, p3, p4, p5, p6⟩ := id hpl
  have hw8 := i1.le
  have hw2 := i1.pos
  have hnb := nb_le M.w
  have hlft : M.left ≤ 40 := i5
  have hq : o_letter M x y = (1, 0, M) := by unfold o_letter; rw [if_neg h1m, hx]
  refine jMX_of (by decide) (Nat.le_of_ble_eq_true rfl) (List.forall_mem_cons.mpr ⟨rfl, List.forall_mem_cons.mpr ⟨rfl, List.forall_mem_cons.mpr ⟨rfl, fun _ h => absurd h List.not_mem_nil⟩⟩⟩) ?_
  intro X A hX ho hno
  have hX : jX X (yC D ad ac) A b_N_letter 3 RN (mt_N_letter.w :: TT) (rmx 12) (some .int) := hX
  show jW l X (yC D ad ac) A 3 0 0 (k0 X) (jQX X (endC false (yC D ad ac) A X.s (exN cIO cIA) (o_letter M x y)) A) σ 0 [(0, .ref (ad 20)), (1, .int x), (2, .int y)] []
  refine jx_iload_n (pc := 0) hX d_N_letter_0 rfl rfl ?_
  refine jx_iconst (pc := 1) hX (v := -1) d_N_letter_1 rfl ?_
  refine jx_icmp_ne (pc := 2) hX 13 d_N_letter_2 rfl (fun _ => ?_) (fun hh => absurd hh (h1m))
  refine jx_aload_n (pc := 13) hX d_N_letter_13 rfl rfl ?_
  refine g_N_26 (pc := 14) hX d_N_letter_14 ?_
  refine jx_iload_n (pc := 17) hX d_N_letter_17 rfl rfl ?_
  refine k_N_119 (pc := 18) hX (t_B_has σ x) ⟨rfl, rfl, (Nat.le_of_ble_eq_true rfl), (Nat.le_of_ble_eq_true rfl)⟩ rfl rfl (Nat.le_of_ble_eq_true rfl) ⟨Nat.zero_le _, Nat.zero_le _⟩ d_N_letter_18 (fun r hr => ?_)
  rw [s3, if_neg (inR_none hx)] at hr
  subst hr
  refine jx_if_ne (pc := 21) hX 34 d_N_letter_21 rfl (fun hh => absurd (rfl) hh) (fun _ => ?_)
  exact jx_throw (pc := 24) hX ho htr hno xE_62 sl_120 ⟨(Nat.le_of_ble_eq_true rfl), (Nat.le_of_ble_eq_true rfl), (Nat.le_of_ble_eq_true rfl), (Nat.le_of_ble_eq_true rfl)⟩ rfl d_N_letter_24 d_N_letter_27 d_N_letter_28 d_N_letter_30 d_N_letter_33 (fun o t ht => endC_1 hq ht)
set_option maxRecDepth 100000 in
set_option maxHeartbeats 4000000 in
theorem t_N_letter_b {l : Launch} (htr : l.stackTraces = false) {D : va_G} {ad : Nat → Nat} {ac : Nat → ClassId} (σ : St) (M : Ms) (hI : Inv M) (hM : repC σ M) (j : Nat) (hj : j < M.nl) (y : Int32) (hy : inR y (1 + 1) = none) : jMX l false (yC D ad ac) mt_N_letter (rmx 12) [.ref (ad 20), .int (nI j), .int y] σ (exN cIO cIA) (o_letter M (nI j) y) := by
  obtain ⟨⟨⟨s0, s1, s2, s3⟩, h0, h1, h2, h3, h4, h5, h6, h7, h8, h9, h10, h11, h12, h13⟩, hlf, hpl⟩ := id hM
  obtain ⟨i1, i2, i3, i4, i5, i6, i7, i8⟩ := id hI
  obtain ⟨p1, p2, p3, p4, p5, p6⟩ := id hpl
  have hw8 := i1.le
  have hw2 := i1.pos
  have hnb := nb_le M.w
  have hlft : M.left ≤ 40 := i5
  have hq : o_letter M (nI j) y = (2, 0, M) := by unfold o_letter; rw [if_neg (nI_m1 (by omega)), inR_nI hj (by omega), show inR y 2 = none from hy]
  refine jMX_of (by decide) (Nat.le_of_ble_eq_true rfl) (List.forall_mem_cons.mpr ⟨rfl, List.forall_mem_cons.mpr ⟨rfl, List.forall_mem_cons.mpr ⟨rfl, fun _ h => absurd h List.not_mem_nil⟩⟩⟩) ?_
  intro X A hX ho hno
  have hX : jX X (yC D ad ac) A b_N_letter 3 RN (mt_N_letter.w :: TT) (rmx 12) (some .int) := hX
  show jW l X (yC D ad ac) A 3 0 0 (k0 X) (jQX X (endC false (yC D ad ac) A X.s (exN cIO cIA) (o_letter M (nI j) y)) A) σ 0 [(0, .ref (ad 20)), (1, .int (nI j)), (2, .int y)] []
  refine jx_iload_n (pc := 0) hX d_N_letter_0 rfl rfl ?_
  refine jx_iconst (pc := 1) hX (v := -1) d_N_letter_1 rfl ?_
  refine jx_icmp_ne (pc := 2) hX 13 d_N_letter_2 rfl (fun _ => ?_) (fun hh => absurd hh (nI_m1 (by omega)))
  refine jx_aload_n (pc := 13) hX d_N_letter_13 rfl rfl ?_
  refine g_N_26 (pc := 14) hX d_N_letter_14 ?_
  refine jx_iload_n (pc := 17) hX d_N_letter_17 rfl rfl ?_
  refine k_N_119 (pc := 18) hX (t_B_has σ (nI j)) ⟨rfl, rfl, (Nat.le_of_ble_eq_true rfl), (Nat.le_of_ble_eq_true rfl)⟩ rfl rfl (Nat.le_of_ble_eq_true rfl) ⟨Nat.zero_le _, Nat.zero_le _⟩ d_N_letter_18 (fun r hr => ?_)
  rw [s3, if_pos ⟨nI_pos' (by omega), (nI_ltI (by omega) (by omega)).mpr hj⟩] at hr
  subst hr
  refine jx_if_ne (pc := 21) hX 34 d_N_letter_21 rfl (fun _ => ?_) (fun hh => absurd hh (by decide))
  refine jx_iload_n (pc := 34) hX d_N_letter_34 rfl rfl ?_
  refine jx_look (pc := 35) hX (off := 45) 80 d_N_letter_35 (by decide) (look_d hy) rfl ?_
  exact jx_throw (pc := 80) hX ho htr hno xE_49 sl_76 ⟨(Nat.le_of_ble_eq_true rfl), (Nat.le_of_ble_eq_true rfl), (Nat.le_of_ble_eq_true rfl), (Nat.le_of_ble_eq_true rfl)⟩ rfl d_N_letter_80 d_N_letter_83 d_N_letter_84 d_N_letter_86 d_N_letter_89 (fun o t ht => endC_2 hq ht)
set_option maxRecDepth 100000 in
set_option maxHeartbeats 4000000 in
theorem t_N_letter_c0 {l : Launch} (htr : l.stackTraces = false) {D : va_G} {ad : Nat → Nat} {ac : Nat → ClassId} (σ : St) (M : Ms) (hI : Inv M) (hM : repC σ M) (j : Nat) (hj : j < M.nl) : jMX l false (yC D ad ac) mt_N_letter (rmx 12) [.ref (ad 20), .int (nI j), .int (nI 0)] σ (exN cIO cIA) (o_letter M (nI j) (nI 0)) := by
  obtain ⟨⟨⟨s0, s1, s2, s3⟩, h0, h1, h2, h3, h4, h5, h6, h7, h8, h9, h10, h11, h12, h13⟩, hlf, hpl⟩ := id hM
  obtain ⟨i1, i2, i3, i4, i5, i6, i7, i8⟩ := id hI
  obtain ⟨p1, p2, p3, p4, p5, p6⟩ := id hpl
  have hw8 := i1.le
  have hw2 := i1.pos
  have hnb := nb_le M.w
  have hlft : M.left ≤ 40 := i5
  have hq : o_letter M (nI j) (nI 0) = (0, nI (M.la j), M) := by unfold o_letter; rw [if_neg (nI_m1 (by omega)), inR_nI hj (by omega), inR_nI (show 0 < 2 by decide) (by decide)]; rfl
  refine jMX_of (by decide) (Nat.le_of_ble_eq_true rfl) (List.forall_mem_cons.mpr ⟨rfl, List.forall_mem_cons.mpr ⟨rfl, List.forall_mem_cons.mpr ⟨rfl, fun _ h => absurd h List.not_mem_nil⟩⟩⟩) ?_
  intro X A hX ho hno
  have hX : jX X (yC D ad ac) A b_N_letter 3 RN (mt_N_letter.w :: TT) (rmx 12) (some .int) := hX
  show jW l X (yC D ad ac) A 3 0 0 (k0 X) (jQX X (endC false (yC D ad ac) A X.s (exN cIO cIA) (o_letter M (nI j) (nI 0))) A) σ 0 [(0, .ref (ad 20)), (1, .int (nI j)), (2, .int (nI 0))] []
  refine jx_iload_n (pc := 0) hX d_N_letter_0 rfl rfl ?_
  refine jx_iconst (pc := 1) hX (v := -1) d_N_letter_1 rfl ?_
  refine jx_icmp_ne (pc := 2) hX 13 d_N_letter_2 rfl (fun _ => ?_) (fun hh => absurd hh (nI_m1 (by omega)))
  refine jx_aload_n (pc := 13) hX d_N_letter_13 rfl rfl ?_
  refine g_N_26 (pc := 14) hX d_N_letter_14 ?_
  refine jx_iload_n (pc := 17) hX d_N_letter_17 rfl rfl ?_
  refine k_N_119 (pc := 18) hX (t_B_has σ (nI j)) ⟨rfl, rfl, (Nat.le_of_ble_eq_true rfl), (Nat.le_of_ble_eq_true rfl)⟩ rfl rfl (Nat.le_of_ble_eq_true rfl) ⟨Nat.zero_le _, Nat.zero_le _⟩ d_N_letter_18 (fun r hr => ?_)
  rw [s3, if_pos ⟨nI_pos' (by omega), (nI_ltI (by omega) (by omega)).mpr hj⟩] at hr
  subst hr
  refine jx_if_ne (pc := 21) hX 34 d_N_letter_21 rfl (fun _ => ?_) (fun hh => absurd hh (by decide))
  refine jx_iload_n (pc := 34) hX d_N_letter_34 rfl rfl ?_
  refine jx_look (pc := 35) hX (off := 25) 60 d_N_letter_35 (by decide) (by decide) rfl ?_
  refine jx_aload_n (pc := 60) hX d_N_letter_60 rfl rfl ?_
  refine g_N_26 (pc := 61) hX d_N_letter_61 ?_
  refine g_N_135 (pc := 64) hX d_N_letter_64 ?_
  refine jx_iload_n (pc := 67) hX d_N_letter_67 rfl rfl ?_
  refine jx_iald (pc := 68) hX oC_17 _ rfl (show j < 60 by omega) d_N_letter_68 ?_
  refine jx_top (y := nI (M.la j)) (h8 j hj) ?_
  exact jx_iretX (pc := 69) hX d_N_letter_69 (fun t _ hB hF => endC_r hq hM hB hF)
set_option maxRecDepth 100000 in
set_option maxHeartbeats 4000000 in
theorem t_N_letter_c1 {l : Launch} (htr : l.stackTraces = false) {D : va_G} {ad : Nat → Nat} {ac : Nat → ClassId} (σ : St) (M : Ms) (hI : Inv M) (hM : repC σ M) (j : Nat) (hj : j < M.nl) : jMX l false (yC D ad ac) mt_N_letter (rmx 12) [.ref (ad 20), .int (nI j), .int (nI 1)] σ (exN cIO cIA) (o_letter M (nI j) (nI 1)) := by
  obtain ⟨⟨⟨s0, s1, s2, s3⟩, h0, h1, h2, h3, h4, h5, h6, h7, h8, h9, h10, h11, h12, h13⟩, hlf, hpl⟩ := id hM
  obtain ⟨i1, i2, i3, i4, i5, i6, i7, i8⟩ := id hI
  obtain ⟨p1, p2, p3, p4, p5, p6⟩ := id hpl
  have hw8 := i1.le
  have hw2 := i1.pos
  have hnb := nb_le M.w
  have hlft : M.left ≤ 40 := i5
  have hq : o_letter M (nI j) (nI 1) = (0, nI (M.lt j), M) := by unfold o_letter; rw [if_neg (nI_m1 (by omega)), inR_nI hj (by omega), inR_nI (show 1 < 2 by decide) (by decide)]; rfl
  refine jMX_of (by decide) (Nat.le_of_ble_eq_true rfl) (List.forall_mem_cons.mpr ⟨rfl, List.forall_mem_cons.mpr ⟨rfl, List.forall_mem_cons.mpr ⟨rfl, fun _ h => absurd h List.not_mem_nil⟩⟩⟩) ?_
  intro X A hX ho hno
  have hX : jX X (yC D ad ac) A b_N_letter 3 RN (mt_N_letter.w :: TT) (rmx 12) (some .int) := hX
  show jW l X (yC D ad ac) A 3 0 0 (k0 X) (jQX X (endC false (yC D ad ac) A X.s (exN cIO cIA) (o_letter M (nI j) (nI 1))) A) σ 0 [(0, .ref (ad 20)), (1, .int (nI j)), (2, .int (nI 1))] []
  refine jx_iload_n (pc := 0) hX d_N_letter_0 rfl rfl ?_
  refine jx_iconst (pc := 1) hX (v := -1) d_N_letter_1 rfl ?_
  refine jx_icmp_ne (pc := 2) hX 13 d_N_letter_2 rfl (fun _ => ?_) (fun hh => absurd hh (nI_m1 (by omega)))
  refine jx_aload_n (pc := 13) hX d_N_letter_13 rfl rfl ?_
  refine g_N_26 (pc := 14) hX d_N_letter_14 ?_
  refine jx_iload_n (pc := 17) hX d_N_letter_17 rfl rfl ?_
  refine k_N_119 (pc := 18) hX (t_B_has σ (nI j)) ⟨rfl, rfl, (Nat.le_of_ble_eq_true rfl), (Nat.le_of_ble_eq_true rfl)⟩ rfl rfl (Nat.le_of_ble_eq_true rfl) ⟨Nat.zero_le _, Nat.zero_le _⟩ d_N_letter_18 (fun r hr => ?_)
  rw [s3, if_pos ⟨nI_pos' (by omega), (nI_ltI (by omega) (by omega)).mpr hj⟩] at hr
  subst hr
  refine jx_if_ne (pc := 21) hX 34 d_N_letter_21 rfl (fun _ => ?_) (fun hh => absurd hh (by decide))
  refine jx_iload_n (pc := 34) hX d_N_letter_34 rfl rfl ?_
  refine jx_look (pc := 35) hX (off := 35) 70 d_N_letter_35 (by decide) (by decide) rfl ?_
  refine jx_aload_n (pc := 70) hX d_N_letter_70 rfl rfl ?_
  refine g_N_26 (pc := 71) hX d_N_letter_71 ?_
  refine g_N_141 (pc := 74) hX d_N_letter_74 ?_
  refine jx_iload_n (pc := 77) hX d_N_letter_77 rfl rfl ?_
  refine jx_iald (pc := 78) hX oC_19 _ rfl (show j < 60 by omega) d_N_letter_78 ?_
  refine jx_top (y := nI (M.lt j)) (h10 j hj) ?_
  exact jx_iretX (pc := 79) hX d_N_letter_79 (fun t _ hB hF => endC_r hq hM hB hF)
set_option maxRecDepth 100000 in
set_option maxHeartbeats 4000000 in
theorem t_N_station_a {l : Launch} (htr : l.stackTraces = false) {D : va_G} {ad : Nat → Nat} {ac : Nat → ClassId} (σ : St) (M : Ms) (hI : Inv M) (hM : repC σ M) (x : Int32) (ob : Bool) (hx : inR x M.ns = none) : jMX l true (yC D ad ac) mt_N_station (rmx 12) [.ref (ad 20), .int x, .int (eB ob)] σ (exN cIA cIA) (o_station M x ob) := by
  obtain ⟨⟨⟨s0, s1, s2, s3⟩, h0, h1, h2, h3, h4, h5, h6, h7, h8, h9, h10, h11, h12, h13⟩, hlf, hpl⟩ := id hM
  obtain ⟨i1, i2, i3, i4, i5, i6, i7, i8⟩ := id hI
  obtain ⟨p1, p2, p3, p4, p5, p6⟩ := id hpl
  have hw8 := i1.le
  have hw2 := i1.pos
  have hnb := nb_le M.w
  have hlft : M.left ≤ 40 := i5
  have hq : o_station M x ob = (1, 0, M) := by unfold o_station; rw [hx]
  refine jMX_of (by decide) (Nat.le_of_ble_eq_true rfl) (List.forall_mem_cons.mpr ⟨rfl, List.forall_mem_cons.mpr ⟨rfl, List.forall_mem_cons.mpr ⟨rfl, fun _ h => absurd h List.not_mem_nil⟩⟩⟩) ?_
  intro X A hX ho hno
  have hX : jX X (yC D ad ac) A b_N_station 3 RN (mt_N_station.w :: TT) (rmx 12) none := hX
  show jW l X (yC D ad ac) A 3 0 0 (k0 X) (jQX X (endC true (yC D ad ac) A X.s (exN cIA cIA) (o_station M x ob)) A) σ 0 [(0, .ref (ad 20)), (1, .int x), (2, .int (eB ob))] []
  refine jx_iload_n (pc := 0) hX d_N_station_0 rfl rfl ?_
  refine jx_if_lt (pc := 1) hX 12 d_N_station_1 rfl (fun q1 => ?_) (fun q1 => ?_)
  · exact jx_throw (pc := 12) hX ho htr hno xE_49 sl_164 ⟨(Nat.le_of_ble_eq_true rfl), (Nat.le_of_ble_eq_true rfl), (Nat.le_of_ble_eq_true rfl), (Nat.le_of_ble_eq_true rfl)⟩ rfl d_N_station_12 d_N_station_15 d_N_station_16 d_N_station_18 d_N_station_21 (fun o t ht => endC_1 hq ht)
  · refine jx_iload_n (pc := 4) hX d_N_station_4 rfl rfl ?_
    refine jx_aload_n (pc := 5) hX d_N_station_5 rfl rfl ?_
    refine g_N_162 (pc := 6) hX d_N_station_6 ?_
    refine jx_top (y := nI M.ns) (s1) ?_
    refine jx_icmp_lt (pc := 9) hX 22 d_N_station_9 rfl (fun hh => absurd hh (inR_nb hx q1)) (fun _ => ?_)
    exact jx_throw (pc := 12) hX ho htr hno xE_49 sl_164 ⟨(Nat.le_of_ble_eq_true rfl), (Nat.le_of_ble_eq_true rfl), (Nat.le_of_ble_eq_true rfl), (Nat.le_of_ble_eq_true rfl)⟩ rfl d_N_station_12 d_N_station_15 d_N_station_16 d_N_station_18 d_N_station_21 (fun o t ht => endC_1 hq ht)
set_option maxRecDepth 100000 in
set_option maxHeartbeats 4000000 in
theorem t_N_station_c {l : Launch} (htr : l.stackTraces = false) {D : va_G} {ad : Nat → Nat} {ac : Nat → ClassId} (σ : St) (M : Ms) (hI : Inv M) (hM : repC σ M) (j : Nat) (ob : Bool) (hj : j < M.ns) : jMX l true (yC D ad ac) mt_N_station (rmx 12) [.ref (ad 20), .int (nI j), .int (eB ob)] σ (exN cIA cIA) (o_station M (nI j) ob) := by
  obtain ⟨⟨⟨s0, s1, s2, s3⟩, h0, h1, h2, h3, h4, h5, h6, h7, h8, h9, h10, h11, h12, h13⟩, hlf, hpl⟩ := id hM
  obtain ⟨i1, i2, i3, i4, i5, i6, i7, i8⟩ := id hI
  obtain ⟨p1, p2, p3, p4, p5, p6⟩ := id hpl
  have hw8 := i1.le
  have hw2 := i1.pos
  have hnb := nb_le M.w
  have hlft : M.left ≤ 40 := i5
  have hq : o_station M (nI j) ob = (0, 0, M.s_down (va_up M.down j ob)) := by unfold o_station; rw [inR_nI hj (by omega)]
  refine jMX_of (by decide) (Nat.le_of_ble_eq_true rfl) (List.forall_mem_cons.mpr ⟨rfl, List.forall_mem_cons.mpr ⟨rfl, List.forall_mem_cons.mpr ⟨rfl, fun _ h => absurd h List.not_mem_nil⟩⟩⟩) ?_
  intro X A hX ho hno
  have hX : jX X (yC D ad ac) A b_N_station 3 RN (mt_N_station.w :: TT) (rmx 12) none := hX
  show jW l X (yC D ad ac) A 3 0 0 (k0 X) (jQX X (endC true (yC D ad ac) A X.s (exN cIA cIA) (o_station M (nI j) ob)) A) σ 0 [(0, .ref (ad 20)), (1, .int (nI j)), (2, .int (eB ob))] []
  refine jx_iload_n (pc := 0) hX d_N_station_0 rfl rfl ?_
  refine jx_if_lt (pc := 1) hX 12 d_N_station_1 rfl (fun hh => absurd hh (Int32.not_lt.mpr (nI_pos' (by omega)))) (fun _ => ?_)
  refine jx_iload_n (pc := 4) hX d_N_station_4 rfl rfl ?_
  refine jx_aload_n (pc := 5) hX d_N_station_5 rfl rfl ?_
  refine g_N_162 (pc := 6) hX d_N_station_6 ?_
  refine jx_top (y := nI M.ns) (s1) ?_
  refine jx_icmp_lt (pc := 9) hX 22 d_N_station_9 rfl (fun _ => ?_) (fun hh => absurd ((nI_ltI (by omega) (by omega)).mpr hj) hh)
  refine jx_kT ?_
  refine jx_aload_n (pc := 22) hX d_N_station_22 rfl rfl ?_
  refine g_N_37 (pc := 23) hX d_N_station_23 ?_
  refine jx_iload_n (pc := 26) hX d_N_station_26 rfl rfl ?_
  refine jx_iload_n (pc := 27) hX d_N_station_27 rfl rfl ?_
  refine jx_zast (pc := 28) hX oC_2 _ rfl (show j < 6 by omega) (eB_nar ob) d_N_station_28 ?_
  exact jx_vretX (pc := 29) hX d_N_station_29 (fun t hB hF => endC_v (u := sA σ 2 j (eB ob)) hq ⟨hM.1.station rfl, hlf, hpl⟩ hB hF)
set_option maxRecDepth 100000 in
set_option maxHeartbeats 4000000 in
theorem t_N_token_a {l : Launch} (htr : l.stackTraces = false) {D : va_G} {ad : Nat → Nat} {ac : Nat → ClassId} (σ : St) (M : Ms) (hI : Inv M) (hM : repC σ M) (x y : Int32) (hx : inR x M.nt = none) : jMX l false (yC D ad ac) mt_N_token (rmx 12) [.ref (ad 20), .int x, .int y] σ (exN cIA cIA) (o_token M x y) := by
  obtain ⟨⟨⟨s0, s1, s2, s3⟩, h0, h1, h2, h3, h4, h5, h6, h7, h8, h9, h10, h11, h12, h13⟩, hlf, hpl⟩ := id hM
  obtain ⟨i1, i2, i3, i4, i5, i6, i7, i8⟩ := id hI
  obtain ⟨p1, p2, p3, p4, p5, p6⟩ := id hpl
  have hw8 := i1.le
  have hw2 := i1.pos
  have hnb := nb_le M.w
  have hlft : M.left ≤ 40 := i5
  have hq : o_token M x y = (1, 0, M) := by unfold o_token; rw [hx]
  refine jMX_of (by decide) (Nat.le_of_ble_eq_true rfl) (List.forall_mem_cons.mpr ⟨rfl, List.forall_mem_cons.mpr ⟨rfl, List.forall_mem_cons.mpr ⟨rfl, fun _ h => absurd h List.not_mem_nil⟩⟩⟩) ?_
  intro X A hX ho hno
  have hX : jX X (yC D ad ac) A b_N_token 3 RN (mt_N_token.w :: TT) (rmx 12) (some .int) := hX
  show jW l X (yC D ad ac) A 3 0 0 (k0 X) (jQX X (endC false (yC D ad ac) A X.s (exN cIA cIA) (o_token M x y)) A) σ 0 [(0, .ref (ad 20)), (1, .int x), (2, .int y)] []
  refine jx_aload_n (pc := 0) hX d_N_token_0 rfl rfl ?_
  refine g_N_19 (pc := 1) hX d_N_token_1 ?_
  refine jx_iload_n (pc := 4) hX d_N_token_4 rfl rfl ?_
  refine k_N_105 (pc := 5) hX (t_T_has σ x) ⟨rfl, rfl, (Nat.le_of_ble_eq_true rfl), (Nat.le_of_ble_eq_true rfl)⟩ rfl rfl (Nat.le_of_ble_eq_true rfl) ⟨Nat.zero_le _, Nat.zero_le _⟩ d_N_token_5 (fun r hr => ?_)
  rw [s2, if_neg (inR_none hx)] at hr
  subst hr
  refine jx_if_ne (pc := 8) hX 21 d_N_token_8 rfl (fun hh => absurd (rfl) hh) (fun _ => ?_)
  exact jx_throw (pc := 11) hX ho htr hno xE_49 sl_109 ⟨(Nat.le_of_ble_eq_true rfl), (Nat.le_of_ble_eq_true rfl), (Nat.le_of_ble_eq_true rfl), (Nat.le_of_ble_eq_true rfl)⟩ rfl d_N_token_11 d_N_token_14 d_N_token_15 d_N_token_17 d_N_token_20 (fun o t ht => endC_1 hq ht)
set_option maxRecDepth 100000 in
set_option maxHeartbeats 4000000 in
theorem t_N_token_b {l : Launch} (htr : l.stackTraces = false) {D : va_G} {ad : Nat → Nat} {ac : Nat → ClassId} (σ : St) (M : Ms) (hI : Inv M) (hM : repC σ M) (j : Nat) (hj : j < M.nt) (y : Int32) (hy : inR y (4 + 1) = none) : jMX l false (yC D ad ac) mt_N_token (rmx 12) [.ref (ad 20), .int (nI j), .int y] σ (exN cIA cIA) (o_token M (nI j) y) := by
  obtain ⟨⟨⟨s0, s1, s2, s3⟩, h0, h1, h2, h3, h4, h5, h6, h7, h8, h9, h10, h11, h12, h13⟩, hlf, hpl⟩ := id hM
  obtain ⟨i1, i2, i3, i4, i5, i6, i7, i8⟩ := id hI
  obtain ⟨p1, p2, p3, p4, p5, p6⟩ := id hpl
  have hw8 := i1.le
  have hw2 := i1.pos
  have hnb := nb_le M.w
  have hlft : M.left ≤ 40 := i5
  have hq : o_token M (nI j) y = (1, 0, M) := by unfold o_token; rw [inR_nI hj (by omega), show inR y 5 = none from hy]
  refine jMX_of (by decide) (Nat.le_of_ble_eq_true rfl) (List.forall_mem_cons.mpr ⟨rfl, List.forall_mem_cons.mpr ⟨rfl, List.forall_mem_cons.mpr ⟨rfl, fun _ h => absurd h List.not_mem_nil⟩⟩⟩) ?_
  intro X A hX ho hno
  have hX : jX X (yC D ad ac) A b_N_token 3 RN (mt_N_token.w :: TT) (rmx 12) (some .int) := hX
  show jW l X (yC D ad ac) A 3 0 0 (k0 X) (jQX X (endC false (yC D ad ac) A X.s (exN cIA cIA) (o_token M (nI j) y)) A) σ 0 [(0, .ref (ad 20)), (1, .int (nI j)), (2, .int y)] []
  refine jx_aload_n (pc := 0) hX d_N_token_0 rfl rfl ?_
  refine g_N_19 (pc := 1) hX d_N_token_1 ?_
  refine jx_iload_n (pc := 4) hX d_N_token_4 rfl rfl ?_
  refine k_N_105 (pc := 5) hX (t_T_has σ (nI j)) ⟨rfl, rfl, (Nat.le_of_ble_eq_true rfl), (Nat.le_of_ble_eq_true rfl)⟩ rfl rfl (Nat.le_of_ble_eq_true rfl) ⟨Nat.zero_le _, Nat.zero_le _⟩ d_N_token_5 (fun r hr => ?_)
  rw [s2, if_pos ⟨nI_pos' (by omega), (nI_ltI (by omega) (by omega)).mpr hj⟩] at hr
  subst hr
  refine jx_if_ne (pc := 8) hX 21 d_N_token_8 rfl (fun _ => ?_) (fun hh => absurd hh (by decide))
  refine jx_iload_n (pc := 21) hX d_N_token_21 rfl rfl ?_
  refine jx_tsOut (pc := 22) hX 102 d_N_token_22 (inR_lo (by decide) hy) rfl ?_
  exact jx_throw (pc := 102) hX ho htr hno xE_49 sl_76 ⟨(Nat.le_of_ble_eq_true rfl), (Nat.le_of_ble_eq_true rfl), (Nat.le_of_ble_eq_true rfl), (Nat.le_of_ble_eq_true rfl)⟩ rfl d_N_token_102 d_N_token_105 d_N_token_106 d_N_token_108 d_N_token_111 (fun o t ht => endC_1 hq ht)
set_option maxRecDepth 100000 in
set_option maxHeartbeats 4000000 in
theorem t_N_token_c0 {l : Launch} (htr : l.stackTraces = false) {D : va_G} {ad : Nat → Nat} {ac : Nat → ClassId} (σ : St) (M : Ms) (hI : Inv M) (hM : repC σ M) (j : Nat) (hj : j < M.nt) : jMX l false (yC D ad ac) mt_N_token (rmx 12) [.ref (ad 20), .int (nI j), .int (nI 0)] σ (exN cIA cIA) (o_token M (nI j) (nI 0)) := by
  obtain ⟨⟨⟨s0, s1, s2, s3⟩, h0, h1, h2, h3, h4, h5, h6, h7, h8, h9, h10, h11, h12, h13⟩, hlf, hpl⟩ := id hM
  obtain ⟨i1, i2, i3, i4, i5, i6, i7, i8⟩ := id hI
  obtain ⟨p1, p2, p3, p4, p5, p6⟩ := id hpl
  have hw8 := i1.le
  have hw2 := i1.pos
  have hnb := nb_le M.w
  have hlft : M.left ≤ 40 := i5
  have hq : o_token M (nI j) (nI 0) = (0, nI (M.wire j), M) := by unfold o_token; rw [inR_nI hj (by omega), inR_nI (show 0 < 5 by decide) (by decide)]; rfl
  refine jMX_of (by decide) (Nat.le_of_ble_eq_true rfl) (List.forall_mem_cons.mpr ⟨rfl, List.forall_mem_cons.mpr ⟨rfl, List.forall_mem_cons.mpr ⟨rfl, fun _ h => absurd h List.not_mem_nil⟩⟩⟩) ?_
  intro X A hX ho hno
  have hX : jX X (yC D ad ac) A b_N_token 3 RN (mt_N_token.w :: TT) (rmx 12) (some .int) := hX
  show jW l X (yC D ad ac) A 3 0 0 (k0 X) (jQX X (endC false (yC D ad ac) A X.s (exN cIA cIA) (o_token M (nI j) (nI 0))) A) σ 0 [(0, .ref (ad 20)), (1, .int (nI j)), (2, .int (nI 0))] []
  refine jx_aload_n (pc := 0) hX d_N_token_0 rfl rfl ?_
  refine g_N_19 (pc := 1) hX d_N_token_1 ?_
  refine jx_iload_n (pc := 4) hX d_N_token_4 rfl rfl ?_
  refine k_N_105 (pc := 5) hX (t_T_has σ (nI j)) ⟨rfl, rfl, (Nat.le_of_ble_eq_true rfl), (Nat.le_of_ble_eq_true rfl)⟩ rfl rfl (Nat.le_of_ble_eq_true rfl) ⟨Nat.zero_le _, Nat.zero_le _⟩ d_N_token_5 (fun r hr => ?_)
  rw [s2, if_pos ⟨nI_pos' (by omega), (nI_ltI (by omega) (by omega)).mpr hj⟩] at hr
  subst hr
  refine jx_if_ne (pc := 8) hX 21 d_N_token_8 rfl (fun _ => ?_) (fun hh => absurd hh (by decide))
  refine jx_iload_n (pc := 21) hX d_N_token_21 rfl rfl ?_
  refine jx_tsIn (pc := 22) hX 56 d_N_token_22 (by decide) (by decide) rfl rfl ?_
  refine jx_aload_n (pc := 56) hX d_N_token_56 rfl rfl ?_
  refine g_N_19 (pc := 57) hX d_N_token_57 ?_
  refine g_N_166 (pc := 60) hX d_N_token_60 ?_
  refine jx_iload_n (pc := 63) hX d_N_token_63 rfl rfl ?_
  refine jx_iald (pc := 64) hX oC_9 _ rfl (show j < 200 by omega) d_N_token_64 ?_
  refine jx_top (y := nI (M.wire j)) (h0 j hj) ?_
  exact jx_iretX (pc := 65) hX d_N_token_65 (fun t _ hB hF => endC_r hq hM hB hF)
set_option maxRecDepth 100000 in
set_option maxHeartbeats 4000000 in
theorem t_N_token_c1 {l : Launch} (htr : l.stackTraces = false) {D : va_G} {ad : Nat → Nat} {ac : Nat → ClassId} (σ : St) (M : Ms) (hI : Inv M) (hM : repC σ M) (j : Nat) (hj : j < M.nt) : jMX l false (yC D ad ac) mt_N_token (rmx 12) [.ref (ad 20), .int (nI j), .int (nI 1)] σ (exN cIA cIA) (o_token M (nI j) (nI 1)) := by
  obtain ⟨⟨⟨s0, s1, s2, s3⟩, h0, h1, h2, h3, h4, h5, h6, h7, h8, h9, h10, h11, h12, h13⟩, hlf, hpl⟩ := id hM
  obtain ⟨i1, i2, i3, i4, i5, i6, i7, i8⟩ := id hI
  obtain ⟨p1, p2, p3, p4, p5, p6⟩ := id hpl
  have hw8 := i1.le
  have hw2 := i1.pos
  have hnb := nb_le M.w
  have hlft : M.left ≤ 40 := i5
  have hq : o_token M (nI j) (nI 1) = (0, eO (M.place j), M) := by unfold o_token; rw [inR_nI hj (by omega), inR_nI (show 1 < 5 by decide) (by decide)]; rfl
  refine jMX_of (by decide) (Nat.le_of_ble_eq_true rfl) (List.forall_mem_cons.mpr ⟨rfl, List.forall_mem_cons.mpr ⟨rfl, List.forall_mem_cons.mpr ⟨rfl, fun _ h => absurd h List.not_mem_nil⟩⟩⟩) ?_
  intro X A hX ho hno
  have hX : jX X (yC D ad ac) A b_N_token 3 RN (mt_N_token.w :: TT) (rmx 12) (some .int) := hX
  show jW l X (yC D ad ac) A 3 0 0 (k0 X) (jQX X (endC false (yC D ad ac) A X.s (exN cIA cIA) (o_token M (nI j) (nI 1))) A) σ 0 [(0, .ref (ad 20)), (1, .int (nI j)), (2, .int (nI 1))] []
  refine jx_aload_n (pc := 0) hX d_N_token_0 rfl rfl ?_
  refine g_N_19 (pc := 1) hX d_N_token_1 ?_
  refine jx_iload_n (pc := 4) hX d_N_token_4 rfl rfl ?_
  refine k_N_105 (pc := 5) hX (t_T_has σ (nI j)) ⟨rfl, rfl, (Nat.le_of_ble_eq_true rfl), (Nat.le_of_ble_eq_true rfl)⟩ rfl rfl (Nat.le_of_ble_eq_true rfl) ⟨Nat.zero_le _, Nat.zero_le _⟩ d_N_token_5 (fun r hr => ?_)
  rw [s2, if_pos ⟨nI_pos' (by omega), (nI_ltI (by omega) (by omega)).mpr hj⟩] at hr
  subst hr
  refine jx_if_ne (pc := 8) hX 21 d_N_token_8 rfl (fun _ => ?_) (fun hh => absurd hh (by decide))
  refine jx_iload_n (pc := 21) hX d_N_token_21 rfl rfl ?_
  refine jx_tsIn (pc := 22) hX 66 d_N_token_22 (by decide) (by decide) rfl rfl ?_
  refine jx_aload_n (pc := 66) hX d_N_token_66 rfl rfl ?_
  refine g_N_19 (pc := 67) hX d_N_token_67 ?_
  refine g_N_168 (pc := 70) hX d_N_token_70 ?_
  refine jx_iload_n (pc := 73) hX d_N_token_73 rfl rfl ?_
  refine jx_iald (pc := 74) hX oC_10 _ rfl (show j < 200 by omega) d_N_token_74 ?_
  refine jx_top (y := eO (M.place j)) (h1 j hj) ?_
  exact jx_iretX (pc := 75) hX d_N_token_75 (fun t _ hB hF => endC_r hq hM hB hF)
set_option maxRecDepth 100000 in
set_option maxHeartbeats 4000000 in
theorem t_N_token_c2 {l : Launch} (htr : l.stackTraces = false) {D : va_G} {ad : Nat → Nat} {ac : Nat → ClassId} (σ : St) (M : Ms) (hI : Inv M) (hM : repC σ M) (j : Nat) (hj : j < M.nt) : jMX l false (yC D ad ac) mt_N_token (rmx 12) [.ref (ad 20), .int (nI j), .int (nI 2)] σ (exN cIA cIA) (o_token M (nI j) (nI 2)) := by
  obtain ⟨⟨⟨s0, s1, s2, s3⟩, h0, h1, h2, h3, h4, h5, h6, h7, h8, h9, h10, h11, h12, h13⟩, hlf, hpl⟩ := id hM
  obtain ⟨i1, i2, i3, i4, i5, i6, i7, i8⟩ := id hI
  obtain ⟨p1, p2, p3, p4, p5, p6⟩ := id hpl
  have hw8 := i1.le
  have hw2 := i1.pos
  have hnb := nb_le M.w
  have hlft : M.left ≤ 40 := i5
  have hq : o_token M (nI j) (nI 2) = (0, nI (M.state j), M) := by unfold o_token; rw [inR_nI hj (by omega), inR_nI (show 2 < 5 by decide) (by decide)]; rfl
  refine jMX_of (by decide) (Nat.le_of_ble_eq_true rfl) (List.forall_mem_cons.mpr ⟨rfl, List.forall_mem_cons.mpr ⟨rfl, List.forall_mem_cons.mpr ⟨rfl, fun _ h => absurd h List.not_mem_nil⟩⟩⟩) ?_
  intro X A hX ho hno
  have hX : jX X (yC D ad ac) A b_N_token 3 RN (mt_N_token.w :: TT) (rmx 12) (some .int) := hX
  show jW l X (yC D ad ac) A 3 0 0 (k0 X) (jQX X (endC false (yC D ad ac) A X.s (exN cIA cIA) (o_token M (nI j) (nI 2))) A) σ 0 [(0, .ref (ad 20)), (1, .int (nI j)), (2, .int (nI 2))] []
  refine jx_aload_n (pc := 0) hX d_N_token_0 rfl rfl ?_
  refine g_N_19 (pc := 1) hX d_N_token_1 ?_
  refine jx_iload_n (pc := 4) hX d_N_token_4 rfl rfl ?_
  refine k_N_105 (pc := 5) hX (t_T_has σ (nI j)) ⟨rfl, rfl, (Nat.le_of_ble_eq_true rfl), (Nat.le_of_ble_eq_true rfl)⟩ rfl rfl (Nat.le_of_ble_eq_true rfl) ⟨Nat.zero_le _, Nat.zero_le _⟩ d_N_token_5 (fun r hr => ?_)
  rw [s2, if_pos ⟨nI_pos' (by omega), (nI_ltI (by omega) (by omega)).mpr hj⟩] at hr
  subst hr
  refine jx_if_ne (pc := 8) hX 21 d_N_token_8 rfl (fun _ => ?_) (fun hh => absurd hh (by decide))
  refine jx_iload_n (pc := 21) hX d_N_token_21 rfl rfl ?_
  refine jx_tsIn (pc := 22) hX 76 d_N_token_22 (by decide) (by decide) rfl rfl ?_
  refine jx_aload_n (pc := 76) hX d_N_token_76 rfl rfl ?_
  refine g_N_19 (pc := 77) hX d_N_token_77 ?_
  refine g_N_151 (pc := 80) hX d_N_token_80 ?_
  refine jx_iload_n (pc := 83) hX d_N_token_83 rfl rfl ?_
  refine jx_iald (pc := 84) hX oC_11 _ rfl (show j < 200 by omega) d_N_token_84 ?_
  refine jx_top (y := nI (M.state j)) (h2 j hj) ?_
  exact jx_iretX (pc := 85) hX d_N_token_85 (fun t _ hB hF => endC_r hq hM hB hF)
set_option maxRecDepth 100000 in
set_option maxHeartbeats 4000000 in
theorem t_N_token_c3 {l : Launch} (htr : l.stackTraces = false) {D : va_G} {ad : Nat → Nat} {ac : Nat → ClassId} (σ : St) (M : Ms) (hI : Inv M) (hM : repC σ M) (j : Nat) (hj : j < M.nt) : jMX l false (yC D ad ac) mt_N_token (rmx 12) [.ref (ad 20), .int (nI j), .int (nI 3)] σ (exN cIA cIA) (o_token M (nI j) (nI 3)) := by
  obtain ⟨⟨⟨s0, s1, s2, s3⟩, h0, h1, h2, h3, h4, h5, h6, h7, h8, h9, h10, h11, h12, h13⟩, hlf, hpl⟩ := id hM
  obtain ⟨i1, i2, i3, i4, i5, i6, i7, i8⟩ := id hI
  obtain ⟨p1, p2, p3, p4, p5, p6⟩ := id hpl
  have hw8 := i1.le
  have hw2 := i1.pos
  have hnb := nb_le M.w
  have hlft : M.left ≤ 40 := i5
  have hq : o_token M (nI j) (nI 3) = (0, M.passed j, M) := by unfold o_token; rw [inR_nI hj (by omega), inR_nI (show 3 < 5 by decide) (by decide)]; rfl
  refine jMX_of (by decide) (Nat.le_of_ble_eq_true rfl) (List.forall_mem_cons.mpr ⟨rfl, List.forall_mem_cons.mpr ⟨rfl, List.forall_mem_cons.mpr ⟨rfl, fun _ h => absurd h List.not_mem_nil⟩⟩⟩) ?_
  intro X A hX ho hno
  have hX : jX X (yC D ad ac) A b_N_token 3 RN (mt_N_token.w :: TT) (rmx 12) (some .int) := hX
  show jW l X (yC D ad ac) A 3 0 0 (k0 X) (jQX X (endC false (yC D ad ac) A X.s (exN cIA cIA) (o_token M (nI j) (nI 3))) A) σ 0 [(0, .ref (ad 20)), (1, .int (nI j)), (2, .int (nI 3))] []
  refine jx_aload_n (pc := 0) hX d_N_token_0 rfl rfl ?_
  refine g_N_19 (pc := 1) hX d_N_token_1 ?_
  refine jx_iload_n (pc := 4) hX d_N_token_4 rfl rfl ?_
  refine k_N_105 (pc := 5) hX (t_T_has σ (nI j)) ⟨rfl, rfl, (Nat.le_of_ble_eq_true rfl), (Nat.le_of_ble_eq_true rfl)⟩ rfl rfl (Nat.le_of_ble_eq_true rfl) ⟨Nat.zero_le _, Nat.zero_le _⟩ d_N_token_5 (fun r hr => ?_)
  rw [s2, if_pos ⟨nI_pos' (by omega), (nI_ltI (by omega) (by omega)).mpr hj⟩] at hr
  subst hr
  refine jx_if_ne (pc := 8) hX 21 d_N_token_8 rfl (fun _ => ?_) (fun hh => absurd hh (by decide))
  refine jx_iload_n (pc := 21) hX d_N_token_21 rfl rfl ?_
  refine jx_tsIn (pc := 22) hX 86 d_N_token_22 (by decide) (by decide) rfl rfl ?_
  refine jx_aload_n (pc := 86) hX d_N_token_86 rfl rfl ?_
  refine g_N_19 (pc := 87) hX d_N_token_87 ?_
  refine g_N_171 (pc := 90) hX d_N_token_90 ?_
  refine jx_iload_n (pc := 93) hX d_N_token_93 rfl rfl ?_
  refine jx_iald (pc := 94) hX oC_12 _ rfl (show j < 200 by omega) d_N_token_94 ?_
  refine jx_top (y := M.passed j) (h3 j hj) ?_
  exact jx_iretX (pc := 95) hX d_N_token_95 (fun t _ hB hF => endC_r hq hM hB hF)
set_option maxRecDepth 100000 in
set_option maxHeartbeats 4000000 in
theorem t_N_token_c4 {l : Launch} (htr : l.stackTraces = false) {D : va_G} {ad : Nat → Nat} {ac : Nat → ClassId} (σ : St) (M : Ms) (hI : Inv M) (hM : repC σ M) (j : Nat) (hj : j < M.nt) : jMX l false (yC D ad ac) mt_N_token (rmx 12) [.ref (ad 20), .int (nI j), .int (nI 4)] σ (exN cIA cIA) (o_token M (nI j) (nI 4)) := by
  obtain ⟨⟨⟨s0, s1, s2, s3⟩, h0, h1, h2, h3, h4, h5, h6, h7, h8, h9, h10, h11, h12, h13⟩, hlf, hpl⟩ := id hM
  obtain ⟨i1, i2, i3, i4, i5, i6, i7, i8⟩ := id hI
  obtain ⟨p1, p2, p3, p4, p5, p6⟩ := id hpl
  have hw8 := i1.le
  have hw2 := i1.pos
  have hnb := nb_le M.w
  have hlft : M.left ≤ 40 := i5
  have hq : o_token M (nI j) (nI 4) = (0, eO (M.shown j), M) := by unfold o_token; rw [inR_nI hj (by omega), inR_nI (show 4 < 5 by decide) (by decide)]; rfl
  refine jMX_of (by decide) (Nat.le_of_ble_eq_true rfl) (List.forall_mem_cons.mpr ⟨rfl, List.forall_mem_cons.mpr ⟨rfl, List.forall_mem_cons.mpr ⟨rfl, fun _ h => absurd h List.not_mem_nil⟩⟩⟩) ?_
  intro X A hX ho hno
  have hX : jX X (yC D ad ac) A b_N_token 3 RN (mt_N_token.w :: TT) (rmx 12) (some .int) := hX
  show jW l X (yC D ad ac) A 3 0 0 (k0 X) (jQX X (endC false (yC D ad ac) A X.s (exN cIA cIA) (o_token M (nI j) (nI 4))) A) σ 0 [(0, .ref (ad 20)), (1, .int (nI j)), (2, .int (nI 4))] []
  refine jx_aload_n (pc := 0) hX d_N_token_0 rfl rfl ?_
  refine g_N_19 (pc := 1) hX d_N_token_1 ?_
  refine jx_iload_n (pc := 4) hX d_N_token_4 rfl rfl ?_
  refine k_N_105 (pc := 5) hX (t_T_has σ (nI j)) ⟨rfl, rfl, (Nat.le_of_ble_eq_true rfl), (Nat.le_of_ble_eq_true rfl)⟩ rfl rfl (Nat.le_of_ble_eq_true rfl) ⟨Nat.zero_le _, Nat.zero_le _⟩ d_N_token_5 (fun r hr => ?_)
  rw [s2, if_pos ⟨nI_pos' (by omega), (nI_ltI (by omega) (by omega)).mpr hj⟩] at hr
  subst hr
  refine jx_if_ne (pc := 8) hX 21 d_N_token_8 rfl (fun _ => ?_) (fun hh => absurd hh (by decide))
  refine jx_iload_n (pc := 21) hX d_N_token_21 rfl rfl ?_
  refine jx_tsIn (pc := 22) hX 96 d_N_token_22 (by decide) (by decide) rfl rfl ?_
  refine jx_aload_n (pc := 96) hX d_N_token_96 rfl rfl ?_
  refine jx_iload_n (pc := 97) hX d_N_token_97 rfl rfl ?_
  refine k_N_174 (pc := 98) hX (t_N_shownNumber σ M hI hM j hj) ⟨rfl, rfl, (Nat.le_of_ble_eq_true rfl), (Nat.le_of_ble_eq_true rfl)⟩ rfl rfl (Nat.le_of_ble_eq_true rfl) ⟨Nat.zero_le _, Nat.zero_le _⟩ d_N_token_98 (fun r hr => ?_)
  subst hr
  exact jx_iretX (pc := 101) hX d_N_token_101 (fun t _ hB hF => endC_r hq hM hB hF)
set_option maxRecDepth 100000 in
set_option maxHeartbeats 4000000 in
theorem t_N_about_a {l : Launch} (htr : l.stackTraces = false) {D : va_G} {ad : Nat → Nat} {ac : Nat → ClassId} (σ : St) (M : Ms) (hI : Inv M) (hM : repC σ M) (y : Int32) (hy : inR y (5 + 1) = none) : jMX l false (yC D ad ac) mt_N_about (rmx 12) [.ref (ad 20), .int y] σ (exN cIA cIA) (o_about M y) := by
  obtain ⟨⟨⟨s0, s1, s2, s3⟩, h0, h1, h2, h3, h4, h5, h6, h7, h8, h9, h10, h11, h12, h13⟩, hlf, hpl⟩ := id hM
  obtain ⟨i1, i2, i3, i4, i5, i6, i7, i8⟩ := id hI
  obtain ⟨p1, p2, p3, p4, p5, p6⟩ := id hpl
  have hw8 := i1.le
  have hw2 := i1.pos
  have hnb := nb_le M.w
  have hlft : M.left ≤ 40 := i5
  have hq : o_about M y = (1, 0, M) := by unfold o_about; rw [show inR y 6 = none from hy]
  refine jMX_of (by decide) (Nat.le_of_ble_eq_true rfl) (List.forall_mem_cons.mpr ⟨rfl, List.forall_mem_cons.mpr ⟨rfl, fun _ h => absurd h List.not_mem_nil⟩⟩) ?_
  intro X A hX ho hno
  have hX : jX X (yC D ad ac) A b_N_about 2 RN (mt_N_about.w :: TT) (rmx 12) (some .int) := hX
  show jW l X (yC D ad ac) A 2 0 0 (k0 X) (jQX X (endC false (yC D ad ac) A X.s (exN cIA cIA) (o_about M y)) A) σ 0 [(0, .ref (ad 20)), (1, .int y)] []
  refine jx_iload_n (pc := 0) hX d_N_about_0 rfl rfl ?_
  refine jx_tsOut (pc := 1) hX 82 d_N_about_1 (inR_lo (by decide) hy) rfl ?_
  exact jx_throw (pc := 82) hX ho htr hno xE_49 sl_76 ⟨(Nat.le_of_ble_eq_true rfl), (Nat.le_of_ble_eq_true rfl), (Nat.le_of_ble_eq_true rfl), (Nat.le_of_ble_eq_true rfl)⟩ rfl d_N_about_82 d_N_about_85 d_N_about_86 d_N_about_88 d_N_about_91 (fun o t ht => endC_1 hq ht)
set_option maxRecDepth 100000 in
set_option maxHeartbeats 4000000 in
theorem t_N_about_c0 {l : Launch} (htr : l.stackTraces = false) {D : va_G} {ad : Nat → Nat} {ac : Nat → ClassId} (σ : St) (M : Ms) (hI : Inv M) (hM : repC σ M)  : jMX l false (yC D ad ac) mt_N_about (rmx 12) [.ref (ad 20), .int (nI 0)] σ (exN cIA cIA) (o_about M (nI 0)) := by
  obtain ⟨⟨⟨s0, s1, s2, s3⟩, h0, h1, h2, h3, h4, h5, h6, h7, h8, h9, h10, h11, h12, h13⟩, hlf, hpl⟩ := id hM
  obtain ⟨i1, i2, i3, i4, i5, i6, i7, i8⟩ := id hI
  obtain ⟨p1, p2, p3, p4, p5, p6⟩ := id hpl
  have hw8 := i1.le
  have hw2 := i1.pos
  have hnb := nb_le M.w
  have hlft : M.left ≤ 40 := i5
  have hq : o_about M (nI 0) = (0, nI M.w, M) := by unfold o_about; rw [inR_nI (show 0 < 6 by decide) (by decide)]; rfl
  refine jMX_of (by decide) (Nat.le_of_ble_eq_true rfl) (List.forall_mem_cons.mpr ⟨rfl, List.forall_mem_cons.mpr ⟨rfl, fun _ h => absurd h List.not_mem_nil⟩⟩) ?_
  intro X A hX ho hno
  have hX : jX X (yC D ad ac) A b_N_about 2 RN (mt_N_about.w :: TT) (rmx 12) (some .int) := hX
  show jW l X (yC D ad ac) A 2 0 0 (k0 X) (jQX X (endC false (yC D ad ac) A X.s (exN cIA cIA) (o_about M (nI 0))) A) σ 0 [(0, .ref (ad 20)), (1, .int (nI 0))] []
  refine jx_iload_n (pc := 0) hX d_N_about_0 rfl rfl ?_
  refine jx_tsIn (pc := 1) hX 40 d_N_about_1 (by decide) (by decide) rfl rfl ?_
  refine jx_aload_n (pc := 40) hX d_N_about_40 rfl rfl ?_
  refine g_N_10 (pc := 41) hX d_N_about_41 ?_
  refine g_N_78 (pc := 44) hX d_N_about_44 ?_
  refine jx_top (y := nI M.w) (s0) ?_
  exact jx_iretX (pc := 47) hX d_N_about_47 (fun t _ hB hF => endC_r hq hM hB hF)
set_option maxRecDepth 100000 in
set_option maxHeartbeats 4000000 in
theorem t_N_about_c1 {l : Launch} (htr : l.stackTraces = false) {D : va_G} {ad : Nat → Nat} {ac : Nat → ClassId} (σ : St) (M : Ms) (hI : Inv M) (hM : repC σ M)  : jMX l false (yC D ad ac) mt_N_about (rmx 12) [.ref (ad 20), .int (nI 1)] σ (exN cIA cIA) (o_about M (nI 1)) := by
  obtain ⟨⟨⟨s0, s1, s2, s3⟩, h0, h1, h2, h3, h4, h5, h6, h7, h8, h9, h10, h11, h12, h13⟩, hlf, hpl⟩ := id hM
  obtain ⟨i1, i2, i3, i4, i5, i6, i7, i8⟩ := id hI
  obtain ⟨p1, p2, p3, p4, p5, p6⟩ := id hpl
  have hw8 := i1.le
  have hw2 := i1.pos
  have hnb := nb_le M.w
  have hlft : M.left ≤ 40 := i5
  have hq : o_about M (nI 1) = (0, nI M.nt, M) := by unfold o_about; rw [inR_nI (show 1 < 6 by decide) (by decide)]; rfl
  refine jMX_of (by decide) (Nat.le_of_ble_eq_true rfl) (List.forall_mem_cons.mpr ⟨rfl, List.forall_mem_cons.mpr ⟨rfl, fun _ h => absurd h List.not_mem_nil⟩⟩) ?_
  intro X A hX ho hno
  have hX : jX X (yC D ad ac) A b_N_about 2 RN (mt_N_about.w :: TT) (rmx 12) (some .int) := hX
  show jW l X (yC D ad ac) A 2 0 0 (k0 X) (jQX X (endC false (yC D ad ac) A X.s (exN cIA cIA) (o_about M (nI 1))) A) σ 0 [(0, .ref (ad 20)), (1, .int (nI 1))] []
  refine jx_iload_n (pc := 0) hX d_N_about_0 rfl rfl ?_
  refine jx_tsIn (pc := 1) hX 48 d_N_about_1 (by decide) (by decide) rfl rfl ?_
  refine jx_aload_n (pc := 48) hX d_N_about_48 rfl rfl ?_
  refine g_N_19 (pc := 49) hX d_N_about_49 ?_
  refine g_N_90 (pc := 52) hX d_N_about_52 ?_
  refine jx_top (y := nI M.nt) (s2) ?_
  exact jx_iretX (pc := 55) hX d_N_about_55 (fun t _ hB hF => endC_r hq hM hB hF)
set_option maxRecDepth 100000 in
set_option maxHeartbeats 4000000 in
theorem t_N_about_c2 {l : Launch} (htr : l.stackTraces = false) {D : va_G} {ad : Nat → Nat} {ac : Nat → ClassId} (σ : St) (M : Ms) (hI : Inv M) (hM : repC σ M)  : jMX l false (yC D ad ac) mt_N_about (rmx 12) [.ref (ad 20), .int (nI 2)] σ (exN cIA cIA) (o_about M (nI 2)) := by
  obtain ⟨⟨⟨s0, s1, s2, s3⟩, h0, h1, h2, h3, h4, h5, h6, h7, h8, h9, h10, h11, h12, h13⟩, hlf, hpl⟩ := id hM
  obtain ⟨i1, i2, i3, i4, i5, i6, i7, i8⟩ := id hI
  obtain ⟨p1, p2, p3, p4, p5, p6⟩ := id hpl
  have hw8 := i1.le
  have hw2 := i1.pos
  have hnb := nb_le M.w
  have hlft : M.left ≤ 40 := i5
  have hq : o_about M (nI 2) = (0, nI M.left, M) := by unfold o_about; rw [inR_nI (show 2 < 6 by decide) (by decide)]; rfl
  refine jMX_of (by decide) (Nat.le_of_ble_eq_true rfl) (List.forall_mem_cons.mpr ⟨rfl, List.forall_mem_cons.mpr ⟨rfl, fun _ h => absurd h List.not_mem_nil⟩⟩) ?_
  intro X A hX ho hno
  have hX : jX X (yC D ad ac) A b_N_about 2 RN (mt_N_about.w :: TT) (rmx 12) (some .int) := hX
  show jW l X (yC D ad ac) A 2 0 0 (k0 X) (jQX X (endC false (yC D ad ac) A X.s (exN cIA cIA) (o_about M (nI 2))) A) σ 0 [(0, .ref (ad 20)), (1, .int (nI 2))] []
  refine jx_iload_n (pc := 0) hX d_N_about_0 rfl rfl ?_
  refine jx_tsIn (pc := 1) hX 56 d_N_about_1 (by decide) (by decide) rfl rfl ?_
  refine jx_aload_n (pc := 56) hX d_N_about_56 rfl rfl ?_
  refine g_N_19 (pc := 57) hX d_N_about_57 ?_
  refine g_N_93 (pc := 60) hX d_N_about_60 ?_
  refine jx_top (y := nI M.left) (hlf) ?_
  exact jx_iretX (pc := 63) hX d_N_about_63 (fun t _ hB hF => endC_r hq hM hB hF)
set_option maxRecDepth 100000 in
set_option maxHeartbeats 4000000 in
theorem t_N_about_c3 {l : Launch} (htr : l.stackTraces = false) {D : va_G} {ad : Nat → Nat} {ac : Nat → ClassId} (σ : St) (M : Ms) (hI : Inv M) (hM : repC σ M)  : jMX l false (yC D ad ac) mt_N_about (rmx 12) [.ref (ad 20), .int (nI 3)] σ (exN cIA cIA) (o_about M (nI 3)) := by
  obtain ⟨⟨⟨s0, s1, s2, s3⟩, h0, h1, h2, h3, h4, h5, h6, h7, h8, h9, h10, h11, h12, h13⟩, hlf, hpl⟩ := id hM
  obtain ⟨i1, i2, i3, i4, i5, i6, i7, i8⟩ := id hI
  obtain ⟨p1, p2, p3, p4, p5, p6⟩ := id hpl
  have hw8 := i1.le
  have hw2 := i1.pos
  have hnb := nb_le M.w
  have hlft : M.left ≤ 40 := i5
  have hq : o_about M (nI 3) = (0, eP (hi1 M.handed M.w M.w), M) := by unfold o_about; rw [inR_nI (show 3 < 6 by decide) (by decide)]; rfl
  refine jMX_of (by decide) (Nat.le_of_ble_eq_true rfl) (List.forall_mem_cons.mpr ⟨rfl, List.forall_mem_cons.mpr ⟨rfl, fun _ h => absurd h List.not_mem_nil⟩⟩) ?_
  intro X A hX ho hno
  have hX : jX X (yC D ad ac) A b_N_about 2 RN (mt_N_about.w :: TT) (rmx 12) (some .int) := hX
  show jW l X (yC D ad ac) A 2 0 0 (k0 X) (jQX X (endC false (yC D ad ac) A X.s (exN cIA cIA) (o_about M (nI 3))) A) σ 0 [(0, .ref (ad 20)), (1, .int (nI 3))] []
  refine jx_iload_n (pc := 0) hX d_N_about_0 rfl rfl ?_
  refine jx_tsIn (pc := 1) hX 64 d_N_about_1 (by decide) (by decide) rfl rfl ?_
  refine jx_aload_n (pc := 64) hX d_N_about_64 rfl rfl ?_
  refine k_N_177 (pc := 65) hX (t_N_highestNumber σ M hI hM) ⟨rfl, rfl, (Nat.le_of_ble_eq_true rfl), (Nat.le_of_ble_eq_true rfl)⟩ rfl rfl (Nat.le_of_ble_eq_true rfl) ⟨Nat.zero_le _, Nat.zero_le _⟩ d_N_about_65 (fun r hr => ?_)
  subst hr
  exact jx_iretX (pc := 68) hX d_N_about_68 (fun t _ hB hF => endC_r hq hM hB hF)
set_option maxRecDepth 100000 in
set_option maxHeartbeats 4000000 in
theorem t_N_about_c4 {l : Launch} (htr : l.stackTraces = false) {D : va_G} {ad : Nat → Nat} {ac : Nat → ClassId} (σ : St) (M : Ms) (hI : Inv M) (hM : repC σ M)  : jMX l false (yC D ad ac) mt_N_about (rmx 12) [.ref (ad 20), .int (nI 4)] σ (exN cIA cIA) (o_about M (nI 4)) := by
  obtain ⟨⟨⟨s0, s1, s2, s3⟩, h0, h1, h2, h3, h4, h5, h6, h7, h8, h9, h10, h11, h12, h13⟩, hlf, hpl⟩ := id hM
  obtain ⟨i1, i2, i3, i4, i5, i6, i7, i8⟩ := id hI
  obtain ⟨p1, p2, p3, p4, p5, p6⟩ := id hpl
  have hw8 := i1.le
  have hw2 := i1.pos
  have hnb := nb_le M.w
  have hlft : M.left ≤ 40 := i5
  have hq : o_about M (nI 4) = (0, nI (gaF M.handed M.w (hi1 M.handed M.w M.w - 1)), M) := by unfold o_about; rw [inR_nI (show 4 < 6 by decide) (by decide)]; rfl
  refine jMX_of (by decide) (Nat.le_of_ble_eq_true rfl) (List.forall_mem_cons.mpr ⟨rfl, List.forall_mem_cons.mpr ⟨rfl, fun _ h => absurd h List.not_mem_nil⟩⟩) ?_
  intro X A hX ho hno
  have hX : jX X (yC D ad ac) A b_N_about 2 RN (mt_N_about.w :: TT) (rmx 12) (some .int) := hX
  show jW l X (yC D ad ac) A 2 0 0 (k0 X) (jQX X (endC false (yC D ad ac) A X.s (exN cIA cIA) (o_about M (nI 4))) A) σ 0 [(0, .ref (ad 20)), (1, .int (nI 4))] []
  refine jx_iload_n (pc := 0) hX d_N_about_0 rfl rfl ?_
  refine jx_tsIn (pc := 1) hX 69 d_N_about_1 (by decide) (by decide) rfl rfl ?_
  refine jx_aload_n (pc := 69) hX d_N_about_69 rfl rfl ?_
  refine k_N_181 (pc := 70) hX (t_N_missingBelowHighest σ M hI hM) ⟨rfl, rfl, (Nat.le_of_ble_eq_true rfl), (Nat.le_of_ble_eq_true rfl)⟩ rfl rfl (Nat.le_of_ble_eq_true rfl) ⟨Nat.zero_le _, Nat.zero_le _⟩ d_N_about_70 (fun r hr => ?_)
  subst hr
  exact jx_iretX (pc := 73) hX d_N_about_73 (fun t _ hB hF => endC_r hq hM hB hF)
set_option maxRecDepth 100000 in
set_option maxHeartbeats 4000000 in
theorem t_N_about_c5 {l : Launch} (htr : l.stackTraces = false) {D : va_G} {ad : Nat → Nat} {ac : Nat → ClassId} (σ : St) (M : Ms) (hI : Inv M) (hM : repC σ M)  : jMX l false (yC D ad ac) mt_N_about (rmx 12) [.ref (ad 20), .int (nI 5)] σ (exN cIA cIA) (o_about M (nI 5)) := by
  obtain ⟨⟨⟨s0, s1, s2, s3⟩, h0, h1, h2, h3, h4, h5, h6, h7, h8, h9, h10, h11, h12, h13⟩, hlf, hpl⟩ := id hM
  obtain ⟨i1, i2, i3, i4, i5, i6, i7, i8⟩ := id hI
  obtain ⟨p1, p2, p3, p4, p5, p6⟩ := id hpl
  have hw8 := i1.le
  have hw2 := i1.pos
  have hnb := nb_le M.w
  have hlft : M.left ≤ 40 := i5
  have hq : o_about M (nI 5) = (0, nI (nc M.w), M) := by unfold o_about; rw [inR_nI (show 5 < 6 by decide) (by decide)]; rfl
  refine jMX_of (by decide) (Nat.le_of_ble_eq_true rfl) (List.forall_mem_cons.mpr ⟨rfl, List.forall_mem_cons.mpr ⟨rfl, fun _ h => absurd h List.not_mem_nil⟩⟩) ?_
  intro X A hX ho hno
  have hX : jX X (yC D ad ac) A b_N_about 2 RN (mt_N_about.w :: TT) (rmx 12) (some .int) := hX
  show jW l X (yC D ad ac) A 2 0 0 (k0 X) (jQX X (endC false (yC D ad ac) A X.s (exN cIA cIA) (o_about M (nI 5))) A) σ 0 [(0, .ref (ad 20)), (1, .int (nI 5))] []
  refine jx_iload_n (pc := 0) hX d_N_about_0 rfl rfl ?_
  refine jx_tsIn (pc := 1) hX 74 d_N_about_1 (by decide) (by decide) rfl rfl ?_
  refine jx_aload_n (pc := 74) hX d_N_about_74 rfl rfl ?_
  refine g_N_10 (pc := 75) hX d_N_about_75 ?_
  refine g_N_184 (pc := 78) hX d_N_about_78 ?_
  refine jx_top (y := nI (nc M.w)) (p2) ?_
  exact jx_iretX (pc := 81) hX d_N_about_81 (fun t _ hB hF => endC_r hq hM hB hF)
set_option maxRecDepth 100000 in
set_option maxHeartbeats 4000000 in
theorem t_N_settle_a {l : Launch} (htr : l.stackTraces = false) {D : va_G} {ad : Nat → Nat} {ac : Nat → ClassId} (σ : St) (M : Ms) (hI : Inv M) (hM : repC σ M) (y : Int32) (hy : inR y (100 + 1) = none) : jMX l false (yC D ad ac) mt_N_settle (rmx 12) [.ref (ad 20), .int y] σ (exN cIA cIA) (o_settle M y) := by
  obtain ⟨⟨⟨s0, s1, s2, s3⟩, h0, h1, h2, h3, h4, h5, h6, h7, h8, h9, h10, h11, h12, h13⟩, hlf, hpl⟩ := id hM
  obtain ⟨i1, i2, i3, i4, i5, i6, i7, i8⟩ := id hI
  obtain ⟨p1, p2, p3, p4, p5, p6⟩ := id hpl
  have hw8 := i1.le
  have hw2 := i1.pos
  have hnb := nb_le M.w
  have hlft : M.left ≤ 40 := i5
  have hq : o_settle M y = (1, 0, M) := by unfold o_settle; rw [show inR y 101 = none from hy]
  have hf := of_decide_eq_false (in_fc (by decide) hy)
  refine jMX_of (by decide) (Nat.le_of_ble_eq_true rfl) (List.forall_mem_cons.mpr ⟨rfl, List.forall_mem_cons.mpr ⟨rfl, fun _ h => absurd h List.not_mem_nil⟩⟩) ?_
  intro X A hX ho hno
  have hX : jX X (yC D ad ac) A b_N_settle 3 RN (mt_N_settle.w :: TT) (rmx 12) (some .int) := hX
  show jW l X (yC D ad ac) A 3 0 0 (k0 X) (jQX X (endC false (yC D ad ac) A X.s (exN cIA cIA) (o_settle M y)) A) σ 0 [(0, .ref (ad 20)), (1, .int y)] []
  refine jx_iload_n (pc := 0) hX d_N_settle_0 rfl rfl ?_
  refine jx_if_lt (pc := 1) hX 10 d_N_settle_1 rfl (fun q1 => ?_) (fun q1 => ?_)
  · exact jx_throw (pc := 10) hX ho htr hno xE_49 sl_187 ⟨(Nat.le_of_ble_eq_true rfl), (Nat.le_of_ble_eq_true rfl), (Nat.le_of_ble_eq_true rfl), (Nat.le_of_ble_eq_true rfl)⟩ rfl d_N_settle_10 d_N_settle_13 d_N_settle_14 d_N_settle_16 d_N_settle_19 (fun o t ht => endC_1 hq ht)
  · refine jx_iload_n (pc := 4) hX d_N_settle_4 rfl rfl ?_
    refine jx_bipush (pc := 5) hX (v := 100) d_N_settle_5 rfl ?_
    refine jx_icmp_le (pc := 7) hX 20 d_N_settle_7 rfl (fun hh => absurd hh (fun q => hf ⟨Int32.not_lt.mp q1, q⟩)) (fun _ => ?_)
    exact jx_throw (pc := 10) hX ho htr hno xE_49 sl_187 ⟨(Nat.le_of_ble_eq_true rfl), (Nat.le_of_ble_eq_true rfl), (Nat.le_of_ble_eq_true rfl), (Nat.le_of_ble_eq_true rfl)⟩ rfl d_N_settle_10 d_N_settle_13 d_N_settle_14 d_N_settle_16 d_N_settle_19 (fun o t ht => endC_1 hq ht)
set_option maxRecDepth 100000 in
set_option maxHeartbeats 4000000 in
theorem t_N_settle_c {l : Launch} (htr : l.stackTraces = false) {D : va_G} {ad : Nat → Nat} {ac : Nat → ClassId} (σ : St) (M : Ms) (hI : Inv M) (hM : repC σ M) (n : Nat) (hn : n < 101) : jMX l false (yC D ad ac) mt_N_settle (rmx 12) [.ref (ad 20), .int (nI n)] σ (exN cIA cIA) (o_settle M (nI n)) := by
  obtain ⟨⟨⟨s0, s1, s2, s3⟩, h0, h1, h2, h3, h4, h5, h6, h7, h8, h9, h10, h11, h12, h13⟩, hlf, hpl⟩ := id hM
  obtain ⟨i1, i2, i3, i4, i5, i6, i7, i8⟩ := id hI
  obtain ⟨p1, p2, p3, p4, p5, p6⟩ := id hpl
  have hw8 := i1.le
  have hw2 := i1.pos
  have hnb := nb_le M.w
  have hlft : M.left ≤ 40 := i5
  have hq : o_settle M (nI n) = (0, nI (Ms.settle n M).1, (Ms.settle n M).2) := by unfold o_settle; rw [inR_nI hn (by decide)]
  refine jMX_of (by decide) (Nat.le_of_ble_eq_true rfl) (List.forall_mem_cons.mpr ⟨rfl, List.forall_mem_cons.mpr ⟨rfl, fun _ h => absurd h List.not_mem_nil⟩⟩) ?_
  intro X A hX ho hno
  have hX : jX X (yC D ad ac) A b_N_settle 3 RN (mt_N_settle.w :: TT) (rmx 12) (some .int) := hX
  show jW l X (yC D ad ac) A 3 0 0 (k0 X) (jQX X (endC false (yC D ad ac) A X.s (exN cIA cIA) (o_settle M (nI n))) A) σ 0 [(0, .ref (ad 20)), (1, .int (nI n))] []
  have outer : ∀ (fu : Nat) (rd : Nat) (σ1 : St) (M1 : Ms), n - rd = fu → rd ≤ n → Inv M1 → repC σ1 M1 → rd + (Ms.settle (n - rd) M1).1 = (Ms.settle n M).1 → (Ms.settle (n - rd) M1).2 = (Ms.settle n M).2 → jW l X (yC D ad ac) A 3 0 0 kT (jQX X (endC false (yC D ad ac) A X.s (exN cIA cIA) (o_settle M (nI n))) A) σ1 22 [(0, .ref (ad 20)), (1, .int (nI n)), (2, .int (nI rd))] [] := by
    intro fu
    induction fu using Nat.strongRecOn with
    | ind fu ih =>
      intro rd σ1 M1 hfu hrd hI1 hM1 e1 e2
      refine jx_iload_n (pc := 22) hX d_N_settle_22 rfl rfl ?_
      refine jx_iload_n (pc := 23) hX d_N_settle_23 rfl rfl ?_
      refine jx_icmp_ge (pc := 24) hX 51 d_N_settle_24 rfl (fun q24 => ?_) (fun q24 => ?_)
      · have hge : rd = n := by have : n ≤ rd := (nI_leI (by omega) (by omega)).mp q24; omega
        have hend : Ms.settle (n - rd) M1 = (0, M1) := by rw [hge, Nat.sub_self]; rfl
        refine jx_iload_n (pc := 51) hX d_N_settle_51 rfl rfl ?_
        exact jx_iretX (pc := 52) hX d_N_settle_52 (fun t _ hB hF => endC_r (by rw [hq, ← e1, ← e2, hend]; rfl) hM1 hB hF)
      · have hlt : rd < n := Nat.lt_of_not_le (fun q => q24 (nI_le q (by omega)))
        refine jx_aload_n (pc := 27) hX d_N_settle_27 rfl rfl ?_
        refine g_N_19 (pc := 28) hX d_N_settle_28 ?_
        refine g_N_93 (pc := 31) hX d_N_settle_31 ?_
        refine jx_top (y := nI M1.left) (hM1.2.1) ?_
        refine jx_if_le (pc := 34) hX 51 d_N_settle_34 rfl (fun q34 => ?_) (fun q34 => ?_)
        · have hz : M1.left = 0 := by have : M1.left ≤ 0 := (nI_leI (b := 0) (by have := hI1.2.2.2.2.1; omega) (by decide)).mp q34; omega
          have hend : Ms.settle (n - rd) M1 = (0, M1) := Ms.settle_0 hz
          refine jx_iload_n (pc := 51) hX d_N_settle_51 rfl rfl ?_
          exact jx_iretX (pc := 52) hX d_N_settle_52 (fun t _ hB hF => endC_r (by rw [hq, ← e1, ← e2, hend]; rfl) hM1 hB hF)
        · have hne : ¬ M1.left = 0 := fun q => q34 (by rw [q]; decide)
          refine jx_aload_n (pc := 37) hX d_N_settle_37 rfl rfl ?_
          refine k_N_189 (pc := 38) hX (t_N_stepAll σ1 M1 hI1 hM1) ⟨rfl, rfl, (Nat.le_of_ble_eq_true rfl), (Nat.le_of_ble_eq_true rfl)⟩ rfl rfl (Nat.le_of_ble_eq_true rfl) ⟨Nat.zero_le _, Nat.zero_le _⟩ d_N_settle_38 (fun u hu => ?_)
          have hI2 := (Inv.stepAll M1.nt 0 M1 hI1 (by omega)).1
          refine jx_aload_n (pc := 41) hX d_N_settle_41 rfl rfl ?_
          refine k_N_192 (pc := 42) hX (t_N_handOverAll u _ hI2 hu) ⟨rfl, rfl, (Nat.le_of_ble_eq_true rfl), (Nat.le_of_ble_eq_true rfl)⟩ rfl rfl (Nat.le_of_ble_eq_true rfl) ⟨Nat.zero_le _, Nat.zero_le _⟩ d_N_settle_42 (fun u2 hu2 => ?_)
          refine jx_iinc (pc := 45) hX (v := nI (rd + 1)) d_N_settle_45 rfl (nI_1 rd) (by decide) (L' := [(0, _), (1, _), (2, _)]) rfl ?_
          refine jx_goto (pc := 48) hX 22 d_N_settle_48 rfl ?_
          exact ih _ (by omega) (rd + 1) u2 M1.round rfl (by omega) hI1.round hu2 (by rw [← e1, Ms.settle_s hne hlt]; dsimp only; omega) (by rw [← e2, Ms.settle_s hne hlt])
  refine jx_iload_n (pc := 0) hX d_N_settle_0 rfl rfl ?_
  refine jx_if_lt (pc := 1) hX 10 d_N_settle_1 rfl (fun hh => absurd hh (Int32.not_lt.mpr (nI_pos' (by omega)))) (fun _ => ?_)
  refine jx_iload_n (pc := 4) hX d_N_settle_4 rfl rfl ?_
  refine jx_bipush (pc := 5) hX (v := 100) d_N_settle_5 rfl ?_
  refine jx_icmp_le (pc := 7) hX 20 d_N_settle_7 rfl (fun _ => ?_) (fun hh => absurd (nI_le (b := 100) (by omega) (by decide)) hh)
  refine jx_iconst (pc := 20) hX (v := 0) d_N_settle_20 rfl ?_
  refine jx_istore_n (pc := 21) hX d_N_settle_21 rfl (by decide) (L' := [(0, _), (1, _), (2, _)]) rfl ?_
  refine jx_kT ?_
  exact outer _ 0 σ M rfl (Nat.zero_le _) hI hM (Nat.zero_add _) rfl
theorem t_N_balancer {l : Launch} (htr : l.stackTraces = false) {D : va_G} {ad : Nat → Nat} {ac : Nat → ClassId} (σ : St) (M : Ms) (hI : Inv M) (hM : repC σ M) (x y : Int32) : jMX l false (yC D ad ac) mt_N_balancer (rmx 12) [.ref (ad 20), .int x, .int y] σ (exN cIO cIA) (o_balancer M x y) := by
  have i1 := hI.1
  have i2 := hI.2.1
  have i3 := hI.2.2.1
  have i4 := hI.2.2.2.1
  have hnb := nb_le M.w
  have hw8 := i1.le
  cases hx : inR x (nb M.w) with
  | none => exact t_N_balancer_a htr σ M hI hM x y hx
  | some j =>
    obtain ⟨hj, rfl⟩ := inR_some (by omega) hx
    cases hy : inR y 5 with
    | none => exact t_N_balancer_b htr σ M hI hM j hj y hy
    | some k =>
      obtain ⟨hk, rfl⟩ := inR_some (by decide) hy
      rcases (show k = 0 ∨ k = 1 ∨ k = 2 ∨ k = 3 ∨ k = 4 by omega) with rfl | rfl | rfl | rfl | rfl
      · exact t_N_balancer_c0 htr σ M hI hM j hj
      · exact t_N_balancer_c1 htr σ M hI hM j hj
      · exact t_N_balancer_c2 htr σ M hI hM j hj
      · exact t_N_balancer_c3 htr σ M hI hM j hj
      · exact t_N_balancer_c4 htr σ M hI hM j hj
theorem t_N_exit {l : Launch} (htr : l.stackTraces = false) {D : va_G} {ad : Nat → Nat} {ac : Nat → ClassId} (σ : St) (M : Ms) (hI : Inv M) (hM : repC σ M) (x y : Int32) : jMX l false (yC D ad ac) mt_N_exit (rmx 12) [.ref (ad 20), .int x, .int y] σ (exN cIO cIA) (o_exit M x y) := by
  have i1 := hI.1
  have i2 := hI.2.1
  have i3 := hI.2.2.1
  have i4 := hI.2.2.2.1
  have hnb := nb_le M.w
  have hw8 := i1.le
  cases hx : inR x (M.w) with
  | none => exact t_N_exit_a htr σ M hI hM x y hx
  | some j =>
    obtain ⟨hj, rfl⟩ := inR_some (by omega) hx
    cases hy : inR y 3 with
    | none => exact t_N_exit_b htr σ M hI hM j hj y hy
    | some k =>
      obtain ⟨hk, rfl⟩ := inR_some (by decide) hy
      rcases (show k = 0 ∨ k = 1 ∨ k = 2 by omega) with rfl | rfl | rfl
      · exact t_N_exit_c0 htr σ M hI hM j hj
      · exact t_N_exit_c1 htr σ M hI hM j hj
      · exact t_N_exit_c2 htr σ M hI hM j hj
theorem t_N_token {l : Launch} (htr : l.stackTraces = false) {D : va_G} {ad : Nat → Nat} {ac : Nat → ClassId} (σ : St) (M : Ms) (hI : Inv M) (hM : repC σ M) (x y : Int32) : jMX l false (yC D ad ac) mt_N_token (rmx 12) [.ref (ad 20), .int x, .int y] σ (exN cIA cIA) (o_token M x y) := by
  have i1 := hI.1
  have i2 := hI.2.1
  have i3 := hI.2.2.1
  have i4 := hI.2.2.2.1
  have hnb := nb_le M.w
  have hw8 := i1.le
  cases hx : inR x (M.nt) with
  | none => exact t_N_token_a htr σ M hI hM x y hx
  | some j =>
    obtain ⟨hj, rfl⟩ := inR_some (by omega) hx
    cases hy : inR y 5 with
    | none => exact t_N_token_b htr σ M hI hM j hj y hy
    | some k =>
      obtain ⟨hk, rfl⟩ := inR_some (by decide) hy
      rcases (show k = 0 ∨ k = 1 ∨ k = 2 ∨ k = 3 ∨ k = 4 by omega) with rfl | rfl | rfl | rfl | rfl
      · exact t_N_token_c0 htr σ M hI hM j hj
      · exact t_N_token_c1 htr σ M hI hM j hj
      · exact t_N_token_c2 htr σ M hI hM j hj
      · exact t_N_token_c3 htr σ M hI hM j hj
      · exact t_N_token_c4 htr σ M hI hM j hj
theorem t_N_enter {l : Launch} (htr : l.stackTraces = false) {D : va_G} {ad : Nat → Nat} {ac : Nat → ClassId} (σ : St) (M : Ms) (hI : Inv M) (hM : repC σ M) (x : Int32) (ob : Bool) : jMX l false (yC D ad ac) mt_N_enter (rmx 12) [.ref (ad 20), .int x, .int (eB ob)] σ (exN cIA cIS) (o_enter M x ob) := by
  have i1 := hI.1
  have i2 := hI.2.1
  have i3 := hI.2.2.1
  have i4 := hI.2.2.2.1
  have hnb := nb_le M.w
  have hw8 := i1.le
  cases hx : inR x M.w with
  | none => exact t_N_enter_a htr σ M hI hM x ob hx
  | some j =>
    obtain ⟨hj, rfl⟩ := inR_some (by omega) hx
    by_cases hf : M.nt = 200
    · exact t_N_enter_b htr σ M hI hM j ob hj hf
    · by_cases hg : M.left = 40
      · exact t_N_enter_d htr σ M hI hM j ob hj hf hg
      · exact t_N_enter_c htr σ M hI hM j ob hj hf hg
theorem t_N_move {l : Launch} (htr : l.stackTraces = false) {D : va_G} {ad : Nat → Nat} {ac : Nat → ClassId} (σ : St) (M : Ms) (hI : Inv M) (hM : repC σ M) (x : Int32) : jMX l false (yC D ad ac) mt_N_move (rmx 12) [.ref (ad 20), .int x] σ (exN cIA cIS) (o_move M x) := by
  have i1 := hI.1
  have i2 := hI.2.1
  have i3 := hI.2.2.1
  have i4 := hI.2.2.2.1
  have hnb := nb_le M.w
  have hw8 := i1.le
  cases hx : inR x M.nt with
  | none => exact t_N_move_a htr σ M hI hM x hx
  | some j =>
    obtain ⟨hj, rfl⟩ := inR_some (by omega) hx
    cases hc : M.can j with
    | false => exact t_N_move_b htr σ M hI hM j hj hc
    | true => exact t_N_move_c htr σ M hI hM j hj hc
theorem t_N_deliver {l : Launch} (htr : l.stackTraces = false) {D : va_G} {ad : Nat → Nat} {ac : Nat → ClassId} (σ : St) (M : Ms) (hI : Inv M) (hM : repC σ M) (x : Int32) : jMX l false (yC D ad ac) mt_N_deliver (rmx 12) [.ref (ad 20), .int x] σ (exN cIO cIO) (o_deliver M x) := by
  have i1 := hI.1
  have i2 := hI.2.1
  have i3 := hI.2.2.1
  have i4 := hI.2.2.2.1
  have hnb := nb_le M.w
  have hw8 := i1.le
  cases hx : inR x M.nl with
  | none => exact t_N_deliver_a htr σ M hI hM x hx
  | some j =>
    obtain ⟨hj, rfl⟩ := inR_some (by omega) hx
    exact t_N_deliver_c htr σ M hI hM j hj
theorem t_N_lose {l : Launch} (htr : l.stackTraces = false) {D : va_G} {ad : Nat → Nat} {ac : Nat → ClassId} (σ : St) (M : Ms) (hI : Inv M) (hM : repC σ M) (x : Int32) : jMX l true (yC D ad ac) mt_N_lose (rmx 12) [.ref (ad 20), .int x] σ (exN cIO cIO) (o_lose M x) := by
  have i1 := hI.1
  have i2 := hI.2.1
  have i3 := hI.2.2.1
  have i4 := hI.2.2.2.1
  have hnb := nb_le M.w
  have hw8 := i1.le
  cases hx : inR x M.nl with
  | none => exact t_N_lose_a htr σ M hI hM x hx
  | some j =>
    obtain ⟨hj, rfl⟩ := inR_some (by omega) hx
    exact t_N_lose_c htr σ M hI hM j hj
theorem t_N_twin {l : Launch} (htr : l.stackTraces = false) {D : va_G} {ad : Nat → Nat} {ac : Nat → ClassId} (σ : St) (M : Ms) (hI : Inv M) (hM : repC σ M) (x : Int32) : jMX l true (yC D ad ac) mt_N_twin (rmx 12) [.ref (ad 20), .int x] σ (exN cIO cIS) (o_twin M x) := by
  have i1 := hI.1
  have i2 := hI.2.1
  have i3 := hI.2.2.1
  have i4 := hI.2.2.2.1
  have hnb := nb_le M.w
  have hw8 := i1.le
  cases hx : inR x M.nl with
  | none => exact t_N_twin_a htr σ M hI hM x hx
  | some j =>
    obtain ⟨hj, rfl⟩ := inR_some (by omega) hx
    by_cases hf : M.nl = 60
    · exact t_N_twin_b htr σ M hI hM j hj hf
    · exact t_N_twin_c htr σ M hI hM j hj hf
theorem t_N_letter {l : Launch} (htr : l.stackTraces = false) {D : va_G} {ad : Nat → Nat} {ac : Nat → ClassId} (σ : St) (M : Ms) (hI : Inv M) (hM : repC σ M) (x y : Int32) : jMX l false (yC D ad ac) mt_N_letter (rmx 12) [.ref (ad 20), .int x, .int y] σ (exN cIO cIA) (o_letter M x y) := by
  have i1 := hI.1
  have i2 := hI.2.1
  have i3 := hI.2.2.1
  have i4 := hI.2.2.2.1
  have hnb := nb_le M.w
  have hw8 := i1.le
  by_cases h1 : x = -1
  · subst h1; exact t_N_letter_m htr σ M hI hM y
  · cases hx : inR x M.nl with
    | none => exact t_N_letter_a htr σ M hI hM x y h1 hx
    | some j =>
      obtain ⟨hj, rfl⟩ := inR_some (by omega) hx
      cases hy : inR y 2 with
      | none => exact t_N_letter_b htr σ M hI hM j hj y hy
      | some k =>
        obtain ⟨hk, rfl⟩ := inR_some (by decide) hy
        rcases (show k = 0 ∨ k = 1 by omega) with rfl | rfl
        · exact t_N_letter_c0 htr σ M hI hM j hj
        · exact t_N_letter_c1 htr σ M hI hM j hj
theorem t_N_station {l : Launch} (htr : l.stackTraces = false) {D : va_G} {ad : Nat → Nat} {ac : Nat → ClassId} (σ : St) (M : Ms) (hI : Inv M) (hM : repC σ M) (x : Int32) (ob : Bool) : jMX l true (yC D ad ac) mt_N_station (rmx 12) [.ref (ad 20), .int x, .int (eB ob)] σ (exN cIA cIA) (o_station M x ob) := by
  have i1 := hI.1
  have i2 := hI.2.1
  have i3 := hI.2.2.1
  have i4 := hI.2.2.2.1
  have hnb := nb_le M.w
  have hw8 := i1.le
  cases hx : inR x M.ns with
  | none => exact t_N_station_a htr σ M hI hM x ob hx
  | some j =>
    obtain ⟨hj, rfl⟩ := inR_some (by omega) hx
    exact t_N_station_c htr σ M hI hM j ob hj
theorem t_N_about {l : Launch} (htr : l.stackTraces = false) {D : va_G} {ad : Nat → Nat} {ac : Nat → ClassId} (σ : St) (M : Ms) (hI : Inv M) (hM : repC σ M) (y : Int32) : jMX l false (yC D ad ac) mt_N_about (rmx 12) [.ref (ad 20), .int y] σ (exN cIA cIA) (o_about M y) := by
  have i1 := hI.1
  have i2 := hI.2.1
  have i3 := hI.2.2.1
  have i4 := hI.2.2.2.1
  have hnb := nb_le M.w
  have hw8 := i1.le
  cases hy : inR y 6 with
  | none => exact t_N_about_a htr σ M hI hM y hy
  | some k =>
    obtain ⟨hk, rfl⟩ := inR_some (by decide) hy
    rcases (show k = 0 ∨ k = 1 ∨ k = 2 ∨ k = 3 ∨ k = 4 ∨ k = 5 by omega) with rfl | rfl | rfl | rfl | rfl | rfl
    · exact t_N_about_c0 htr σ M hI hM
    · exact t_N_about_c1 htr σ M hI hM
    · exact t_N_about_c2 htr σ M hI hM
    · exact t_N_about_c3 htr σ M hI hM
    · exact t_N_about_c4 htr σ M hI hM
    · exact t_N_about_c5 htr σ M hI hM
theorem t_N_settle {l : Launch} (htr : l.stackTraces = false) {D : va_G} {ad : Nat → Nat} {ac : Nat → ClassId} (σ : St) (M : Ms) (hI : Inv M) (hM : repC σ M) (y : Int32) : jMX l false (yC D ad ac) mt_N_settle (rmx 12) [.ref (ad 20), .int y] σ (exN cIA cIA) (o_settle M y) := by
  have i1 := hI.1
  have i2 := hI.2.1
  have i3 := hI.2.2.1
  have i4 := hI.2.2.2.1
  have hnb := nb_le M.w
  have hw8 := i1.le
  cases hy : inR y 101 with
  | none => exact t_N_settle_a htr σ M hI hM y hy
  | some k =>
    obtain ⟨hk, rfl⟩ := inR_some (by decide) hy
    exact t_N_settle_c htr σ M hI hM k hk
theorem t_N_build {l : Launch} (htr : l.stackTraces = false) {D : va_G} {ad : Nat → Nat} {ac : Nat → ClassId} (σ : St) (M : Ms) (hI : Inv M) (hM : repC σ M) (x y : Int32) : jMX l false (yC D ad ac) mt_N_build (rmx 12) [.ref (ad 20), .int x, .int y] σ (exN cIA cIA) (o_build M x y) := by
  have i1 := hI.1
  have i2 := hI.2.1
  have i3 := hI.2.2.1
  have i4 := hI.2.2.2.1
  have hnb := nb_le M.w
  have hw8 := i1.le
  cases hx : widthOf x with
  | none => exact t_N_build_a htr σ M hI hM x y hx
  | some w =>
    obtain ⟨hw, rfl⟩ := widthOf_some hx
    by_cases hy : ∃ s, inR y 7 = some (s + 1)
    · obtain ⟨s, hs⟩ := hy
      obtain ⟨h1, rfl⟩ := inR_some (by decide) hs
      exact t_N_build_c htr σ M hI hM w s hw h1
    · exact t_N_build_b htr σ M hI hM w hw y (fun s hs => hy ⟨s, hs⟩)
