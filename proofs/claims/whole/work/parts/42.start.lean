/-! the start of the law -/
theorem q_14 : Cond.classLink "CountingNetworkLaw" (8 : Nat) "CountingNetwork" ∈ TT := TT_mem (List.mem_of_getElem? (i := 59) (by decide +kernel)) rfl
theorem q_15 : Cond.instantiable "CountingNetwork" (7 : Nat) ∈ TT := TT_mem (List.mem_of_getElem? (i := 60) (by decide +kernel)) rfl
theorem q_16 : Cond.methodLink "CountingNetworkLaw" (59 : Nat) ({ cls := "CountingNetwork", name := "<init>", desc := "()V" } : MethodName) ∈ TT := TT_mem (List.mem_of_getElem? (i := 61) (by decide +kernel)) rfl
theorem q_17 : Cond.instanceMethod ({ cls := "CountingNetwork", name := "<init>", desc := "()V" } : MethodName) ∈ TT := TT_mem (List.mem_of_getElem? (i := 62) (by decide +kernel)) rfl
theorem q_18 : Cond.code ({ cls := "CountingNetwork", name := "<init>", desc := "()V" } : MethodName) prog_1_method_1_code (1 : Nat) (Option.none : Option Jvm.ClassFile.FieldType) ∈ TT := TT_mem (List.mem_of_getElem? (i := 63) (by decide +kernel)) rfl
theorem q_532 : Cond.classLink "CountingNetworkLaw" (60 : Nat) "CountingNetworkModel" ∈ TT := TT_mem (List.mem_of_getElem? (i := 577) (by decide +kernel)) rfl
theorem q_533 : Cond.instantiable "CountingNetworkModel" (25 : Nat) ∈ TT := TT_mem (List.mem_of_getElem? (i := 578) (by decide +kernel)) rfl
theorem q_534 : Cond.methodLink "CountingNetworkLaw" (62 : Nat) ({ cls := "CountingNetworkModel", name := "<init>", desc := "()V" } : MethodName) ∈ TT := TT_mem (List.mem_of_getElem? (i := 579) (by decide +kernel)) rfl
theorem q_535 : Cond.instanceMethod ({ cls := "CountingNetworkModel", name := "<init>", desc := "()V" } : MethodName) ∈ TT := TT_mem (List.mem_of_getElem? (i := 580) (by decide +kernel)) rfl
theorem q_536 : Cond.code ({ cls := "CountingNetworkModel", name := "<init>", desc := "()V" } : MethodName) prog_6_method_1_code (1 : Nat) (Option.none : Option Jvm.ClassFile.FieldType) ∈ TT := TT_mem (List.mem_of_getElem? (i := 581) (by decide +kernel)) rfl
theorem q_762 : Cond.arrayClass FieldType.long ∈ TT := TT_mem (List.mem_of_getElem? (i := 807) (by decide +kernel)) rfl
theorem jx_ctorI {l : Launch} {X : Cx} {D : va_G} {tys : List (ClassId × FieldType)} {ws : va_W} {A : Nat → Prop} {cc : ByteArray} {nL : Nat} {own : String} {w0 : Cond} {R : Room} {ret : Option FieldType} {cells slots : Nat} {K : Heap → List Loc → Prop} {Q : State → Prop} {σ : St} {pc : Nat} {L : Lv} {rest : List Value} (h : jX X (yG D tys ws) A cc nL own (w0 :: TT) R ret) {t : Mt} (ht : t.r = none) {index : Nat} (g : jcN own index t) (hlk9 : Cond.methodLink own index t.y ∈ TT) {rm : Room} {q mc ms : Nat} {e0 : va_E} {Pex : State → Prop} {post : Ux → Prop} {wB : Ux → va_W} {tB : Ux → List (ClassId × FieldType)}
    (hM : jMn l t rm D q e0 mc ms Pex post wB tB) (hx1 : ∀ (U V : State), U.vm = V.vm → Pex U → Pex V) (hx2 : ∀ U : State, X.s.WarmedH U.vm → Pex U) (isC isR : List Nat) {wr : va_W} (hC : isC.map (fun i => ws[i]?) = [(q, e0)].map some) (hR' : isR.map (fun i => ws[i]?) = wr.map some) (hn : va_nd isR = true) (hdis : ∀ i ∈ isR, i ∉ isC)
    (hrm : rm.cells = mc ∧ rm.slots = ms ∧ rm.frames + 1 ≤ R.frames ∧ 8 + (t.n + 11) + rm.locals ≤ R.locals) (hcat : (rest.map fun v => v.category).sum ≤ 8) (hcs : cells + mc ≤ R.cells ∧ slots + ms ≤ R.slots) (hd : decode cc pc = .ok (.invokespecial index, 3))
    (kk : ∀ (u : Ux), post u → jX X (yG D (tys ++ tB u) (wr ++ wB u)) A cc nL own (w0 :: TT) R ret → jW l X (yG D (tys ++ tB u) (wr ++ wB u)) A nL (cells + mc) (slots + ms) kT Q σ (pc + 3) L rest) : jW l X (yG D tys ws) A nL cells slots K Q σ pc L (.ref q :: rest) := by
  intro H locs ls hk9 hP hD hS hl
  obtain ⟨hx, hb, hml, hown, hts, hK, hA, hRR, hret, hlk⟩ := h
  subst hRR
  obtain ⟨y, b, n, r⟩ := t
  have ht : r = none := ht
  subst ht
  have hPc : va_P D cls [(q, e0)] H := hP.sub (ws' := [(q, e0)]) isC (by
    have e : isC.filterMap (fun i => ws[i]?) = ((isC.map (fun i => ws[i]?)).filterMap id) := by rw [List.filterMap_map]; rfl
    rw [e, hC]; rfl)
  have hFc := va_free (wc := [(q, e0)]) hD hS hA isC hC
  have hDc : va_D (fun _ => True) [(q, e0)] := ⟨fun i j a b ha hb _ => by
    have h1 : i < 1 := (List.getElem?_eq_some_iff.mp ha).1
    have h2 : j < 1 := (List.getElem?_eq_some_iff.mp hb).1
    omega, fun _ _ _ => trivial⟩
  have hKc : va_K D cls [] X.s := hK.sub (tys' := []) [] rfl
  refine va_callv (va_runI (As := []) (rest := rest) ⟨hx, hb, hml, hown, hts⟩ (hM H.size) (cwI 0 hts (TT_goodIn g.1) rfl hrm.1 hrm.2.1 (hts _ (List.mem_cons_of_mem _ g.2.1)) (hts _ (List.mem_cons_of_mem _ hlk9)) (hts _ (List.mem_cons_of_mem _ g.2.2.1)) g.2.2.2.1 ⟨g.2.2.2.2.1, g.2.2.2.2.2.1, g.2.2.2.2.2.2⟩ ⟨hrm.2.2.1, hrm.2.2.2⟩)
    ⟨jPn_blind D q e0 hx1 _, fun U hU hW => ⟨rfl, ⟨by rw [hU], by rw [hU]; exact hPc, va_K.moved hW.alike hKc, hDc⟩, hx2 U hW⟩⟩ rfl rfl hl.1.1 rfl (lv_room hcat) hd hcs) hS (fun q _ h => hFc q h) hFc (fun u t H1 locs1 ht hvm hp hB hz1 hk1 hS1 => ?_)
  obtain ⟨hP1, hK1, hD1⟩ := hB
  rw [ht] at hP1
  have hK1 := va_K.moved hvm.symm hK1
  obtain ⟨hP2, hD2⟩ := va_join hP hD isC isR hC hR' hn hdis hk1 hFc hP1 hD1
  exact kk u hp ⟨hx, hb, hml, hown, hts, hK.app hK1, hA, rfl, hret, hlk⟩ H1 locs1 ls trivial hP2 hD2 hS1 hl
theorem jx_newl {l : Launch} {X : Cx} {D : va_G} {tys : List (ClassId × FieldType)} {ws : va_W} {A : Nat → Prop} {cc : ByteArray} {nL : Nat} {own : String} {Ts : List Cond} {R : Room} {ret : Option FieldType} {cells slots : Nat} {K : Heap → List Loc → Prop} {Q : State → Prop} {σ : St} {pc : Nat} {L : Lv} {rest : List Value} (h : jX X (yG D tys ws) A cc nL own Ts R ret) (harr : Cond.arrayClass (.long) ∈ Ts) (hcells : cells + 1 ≤ R.cells) (hslots : slots + 1 ≤ R.slots) (hd : decode cc pc = .ok (.newarray .long, 2))
    (kk : ∀ (q : Nat) (cA : ClassId), jX X (yG D (tys ++ [(cA, .long)]) (ws ++ [(q, .inl (cA, (1, .inr (.inl (fun _ => 0)))))])) A cc nL own Ts R ret → jW l X (yG D (tys ++ [(cA, .long)]) (ws ++ [(q, .inl (cA, (1, .inr (.inl (fun _ => 0)))))])) A nL (cells + 1) (slots + 1) kT Q σ (pc + 2) L (.ref q :: rest)) : jW l X (yG D tys ws) A nL cells slots K Q σ pc L (.int 1 :: rest) := by
  intro H locs ls hk hP hD hS hl
  obtain ⟨hx, hb, hml, hown, hts, hK, hA, hRR, hret, hlk⟩ := h
  subst hRR
  refine va_newa (atype := .long) (a0 := (1, .inr (.inl (fun _ => 0)))) (ty := .long) hx hb (hts _ harr) rfl hK hP hD hS hA (fun cA => rfl) (by decide) (by decide) (by decide) hcells hslots hd (fun q cA H1 hK1 hP1 hD1 hS1 => ?_)
  exact kk q cA ⟨hx, hb, hml, hown, hts, hK1, hA, rfl, hret, hlk⟩ H1 locs ls trivial hP1 hD1 hS1 hl
theorem nG_all : nG.all (fun w => decide (w ∈ lw_tbl) && w.onTables) = true := by decide +kernel
theorem str_all : strL.all (fun q => decide (Cond.stringRef RN q.1 q.2 ∈ lw_tbl)) = true := by decide +kernel
theorem str_ex : strL.all (fun q => decide (Cond.exactly (.string RN q.1) "java/lang/String" ∈ flatC (.and given_1 narrow_1))) = true := by decide +kernel
theorem nN_all : nN.all (fun w => decide (w ∈ flatC (.and given_1 narrow_1))) = true := by decide +kernel
theorem st_1 : Cond.laysStatic Bundle.tN "UNASSIGNED_STACK" Bundle.steD ∈ lw_tbl := by decide +kernel
theorem st_2 : Cond.laysStatic Bundle.tN "SUPPRESSED_SENTINEL" Bundle.listD ∈ lw_tbl := by decide +kernel
theorem st_3 : Cond.isRef (.static Bundle.tN "UNASSIGNED_STACK" Bundle.steD) ∈ flatC (.and given_1 narrow_1) := by decide +kernel
theorem st_4 : Cond.isRef (.static Bundle.tN "SUPPRESSED_SENTINEL" Bundle.listD) ∈ flatC (.and given_1 narrow_1) := by decide +kernel
theorem ms_1 : Cond.methodLinkNest RN 9 y_P_init RN ∈ lw_tbl := by decide +kernel
theorem ms_2 : Cond.methodLinkNest RN 18 y_T_init RN ∈ lw_tbl := by decide +kernel
theorem ms_3 : Cond.methodLinkNest RN 25 y_B_init RN ∈ lw_tbl := by decide +kernel
theorem in_ox {s : State} {a : Array Value} (hts : ∀ w ∈ lw_tbl, w.before a s = true) (hg : (Jvm.Cond.and given_1 narrow_1).before a s = true) : oxW s s.heap (fun _ => False) := by
  have hf := flat_of_before _ hg
  refine ⟨fun w hw => ?_, fun q hq => ?_, zS.of (hts _ st_1) (hf _ st_3) (fun _ _ h => h), zS.of (hts _ st_2) (hf _ st_4) (fun _ _ h => h)⟩
  · have h1 := List.all_eq_true.mp nG_all w hw
    simp only [Bool.and_eq_true, decide_eq_true_eq] at h1
    exact va_tabs h1.2 rfl (hts w h1.1)
  · have h1 := of_decide_eq_true (List.all_eq_true.mp str_all q hq)
    have h2 := of_decide_eq_true (List.all_eq_true.mp str_ex q hq)
    obtain ⟨ad, c, cell, k, he, -⟩ := Cond.exactly_spec (hf _ h2)
    exact ⟨ad, vk_R.of (A := a) (hts _ h1) he⟩
theorem in_nc {s : State} {a : Array Value} (hg : (Jvm.Cond.and given_1 narrow_1).before a s = true) : nCast s := by
  intro w hw
  have h1 := flat_of_before _ hg w (of_decide_eq_true (List.all_eq_true.mp nN_all w hw))
  simp only [nN, List.mem_cons, List.not_mem_nil, or_false] at hw
  rcases hw with rfl | rfl | rfl
  · exact ncast_move (State.WarmedH.refl s) h1
  · exact ncast_move (State.WarmedH.refl s) h1
  · exact ncast_move (State.WarmedH.refl s) h1
theorem nstN_of {s : State} {a : Array Value} (hts : ∀ w ∈ lw_tbl, w.before a s = true) : nstN s := ⟨va_Nw.of rfl (hts _ ms_1), va_Nw.of rfl (hts _ ms_2), va_Nw.of rfl (hts _ ms_3)⟩
theorem nstN_same (U V : State) (h : U.vm = V.vm) (hU : nstN U) : nstN V := ⟨va_Nw.same rfl h hU.1, va_Nw.same rfl h hU.2.1, va_Nw.same rfl h hU.2.2⟩
theorem nstN_warm {s U : State} (hs : nstN s) (hW : s.WarmedH U.vm) : nstN U := ⟨va_Nw.warmM hW hs.1, va_Nw.warmM hW hs.2.1, va_Nw.warmM hW hs.2.2⟩
theorem ins_N : Cond.instantiable RN 7 ∈ TT := q_15
theorem ins_P : Cond.instantiable RP 9 ∈ TT := q_23
theorem ins_T : Cond.instantiable RT 10 ∈ TT := q_65
theorem ins_B : Cond.instantiable RB 4 ∈ TT := q_113
theorem ins_M : Cond.instantiable RM 25 ∈ TT := q_533
theorem in_K {s : State} {a : Array Value} (hts : ∀ w ∈ TT, w.before a s = true) : ∃ D : va_G, va_K D cls [] s := by
  obtain ⟨cN, iN, kN⟩ := u_known hts uN_in (hts _ ins_N)
  obtain ⟨cP, iP, kP⟩ := u_known hts uP_in (hts _ ins_P)
  obtain ⟨cT, iT, kT⟩ := u_known hts uT_in (hts _ ins_T)
  obtain ⟨cB, iB, kB⟩ := u_known hts uB_in (hts _ ins_B)
  obtain ⟨cM, iM, kM⟩ := u_known hts uM_in (hts _ ins_M)
  refine ⟨(fun c => match c with | 0 => cN | 1 => cP | 2 => cT | 3 => cB | _ => cM, fun c => match c with | 0 => iN | 1 => iP | 2 => iT | 3 => iB | _ => iM), fun c q hq => ?_, fun k q h => absurd h (by simp)⟩
  match c, hq with
  | 0, hq => cases hq; exact kN
  | 1, hq => cases hq; exact kP
  | 2, hq => cases hq; exact kT
  | 3, hq => cases hq; exact kB
  | 4, hq => cases hq; exact kM
  | n + 5, hq => exact absurd hq (by simp [cls])
theorem ci_N : jcN RL 59 mt_N_init := ⟨q_18, q_1, q_17, rfl, by decide, by decide, by decide +kernel⟩
theorem cj_N : Cond.methodLink RL 59 y_N_init ∈ TT := q_16
theorem ci_M : jcN RL 62 mt_M_init := ⟨q_536, q_7, q_535, rfl, by decide, by decide, by decide +kernel⟩
theorem cj_M : Cond.methodLink RL 62 y_M_init ∈ TT := q_534
set_option maxRecDepth 100000 in
set_option maxHeartbeats 4000000 in
theorem law_start {l : Launch} (htr : l.stackTraces = false) {X : Cx} {D : va_G} {A : Nat → Prop} {w0 : Cond} {b LL : Nat} {xs : Nat → Int32} {Q : State → Prop} (hX : jX X (yG D [] []) A code 7 RL (w0 :: TT) room_1 (some .boolean)) (C : lawC X A b LL xs) (hns : nstN X.s) (M : Ms)
    (hend : ∀ (ad bd : Nat → Nat) (ac bc : Nat → ClassId) (o : Nat) (cO : ClassId) (c s k : Nat) (σ τ : St) (gg : Nat → Int64), c ≤ 601024 → s ≤ 7293034 → jW l X (yL D ad ac bd bc o cO τ gg) A 7 c s kT Q σ 911 [(0, .ref b), (1, .ref (ad 20)), (2, .ref (bd 19)), (3, .ref o), (4, .int (nI k))] []) : jW l X (yG D [] []) A 7 0 0 kT Q ((fun _ => 0, fun _ _ => 0) : St) 0 [(0, .ref b)] [] := by
  refine jx_newo (pc := 0) hX (ci := 0) (fs := [.null, .null, .null, .null, .null, .null, .int 0]) fN rfl ⟨List.mem_cons_of_mem _ q_14, List.mem_cons_of_mem _ ins_N, List.mem_cons_of_mem _ q_1⟩ (by intro j hj; rcases (show j = 0 ∨ j = 1 ∨ j = 2 ∨ j = 3 ∨ j = 4 ∨ j = 5 ∨ j = 6 by omega) with rfl | rfl | rfl | rfl | rfl | rfl | rfl <;> rfl) (Nat.le_of_ble_eq_true rfl) (Nat.le_of_ble_eq_true rfl) d_L_law_0 (fun qN hX => ?_)
  have hX : jX X (yG D [] [(qN, .inr (0, [.null, .null, .null, .null, .null, .null, .int 0]))]) A code 7 RL (w0 :: TT) room_1 (some .boolean) := hX
  show jW l X (yG D [] [(qN, .inr (0, [.null, .null, .null, .null, .null, .null, .int 0]))]) A 7 1 7 kT Q ((fun _ => 0, fun _ _ => 0) : St) 3 [(0, .ref b)] [.ref qN]
  refine jx_dup (pc := 3) hX d_L_law_3 rfl ?_
  refine jx_ctorI (pc := 4) hX rfl ci_N cj_N (t_N_init qN M) nstN_same (fun U hW => nstN_warm hns hW) [0] [] (wr := []) rfl rfl (by decide) (by decide) ⟨rfl, rfl, (Nat.le_of_ble_eq_true rfl), (Nat.le_of_ble_eq_true rfl)⟩ (Nat.le_of_ble_eq_true rfl) ⟨(Nat.le_of_ble_eq_true rfl), (Nat.le_of_ble_eq_true rfl)⟩ d_L_law_4 (fun u hu hX => ?_)
  have hX : jX X (yG D (yC D u.1 u.2.1).tys ((yC D u.1 u.2.1).sh u.2.2)) A code 7 RL (w0 :: TT) room_1 (some .boolean) := hX
  show jW l X (yG D (yC D u.1 u.2.1).tys ((yC D u.1 u.2.1).sh u.2.2)) A 7 24 1944 kT Q ((fun _ => 0, fun _ _ => 0) : St) 7 [(0, .ref b)] [.ref qN]
  refine jx_astore_n (pc := 7) hX d_L_law_7 rfl (by decide) (L' := [(0, _), (1, _)]) rfl ?_
  refine jx_newo (pc := 8) hX (ci := 4) (fs := [.int 0, .int 0, .int 0, .int 0, .null, .null, .null, .null, .null, .null, .null, .null, .int 0, .null, .null, .null, .null, .null, .null, .null, .null, .int 0, .null, .null, .null]) fM rfl ⟨List.mem_cons_of_mem _ q_532, List.mem_cons_of_mem _ ins_M, List.mem_cons_of_mem _ q_7⟩ (by intro j hj; rcases (show j = 0 ∨ j = 1 ∨ j = 2 ∨ j = 3 ∨ j = 4 ∨ j = 5 ∨ j = 6 ∨ j = 7 ∨ j = 8 ∨ j = 9 ∨ j = 10 ∨ j = 11 ∨ j = 12 ∨ j = 13 ∨ j = 14 ∨ j = 15 ∨ j = 16 ∨ j = 17 ∨ j = 18 ∨ j = 19 ∨ j = 20 ∨ j = 21 ∨ j = 22 ∨ j = 23 ∨ j = 24 by omega) with rfl | rfl | rfl | rfl | rfl | rfl | rfl | rfl | rfl | rfl | rfl | rfl | rfl | rfl | rfl | rfl | rfl | rfl | rfl | rfl | rfl | rfl | rfl | rfl | rfl <;> rfl) (Nat.le_of_ble_eq_true rfl) (Nat.le_of_ble_eq_true rfl) d_L_law_8 (fun qM hX => ?_)
  have hX : jX X (yG D (yC D u.1 u.2.1).tys ((yC D u.1 u.2.1).sh u.2.2 ++ [(qM, .inr (4, [.int 0, .int 0, .int 0, .int 0, .null, .null, .null, .null, .null, .null, .null, .null, .int 0, .null, .null, .null, .null, .null, .null, .null, .null, .int 0, .null, .null, .null]))])) A code 7 RL (w0 :: TT) room_1 (some .boolean) := hX
  show jW l X (yG D (yC D u.1 u.2.1).tys ((yC D u.1 u.2.1).sh u.2.2 ++ [(qM, .inr (4, [.int 0, .int 0, .int 0, .int 0, .null, .null, .null, .null, .null, .null, .null, .null, .int 0, .null, .null, .null, .null, .null, .null, .null, .null, .int 0, .null, .null, .null]))])) A 7 25 1969 kT Q ((fun _ => 0, fun _ _ => 0) : St) 11 [(0, .ref b), (1, .ref qN)] [.ref qM]
  refine jx_dup (pc := 11) hX d_L_law_11 rfl ?_
  refine jx_ctorI (pc := 12) hX rfl ci_M cj_M (t_M_init qM M) (fun _ _ _ _ => trivial) (fun _ _ => trivial) [24] (List.range 24) (wr := (yC D u.1 u.2.1).sh u.2.2) rfl rfl (by decide) (by decide) ⟨rfl, rfl, (Nat.le_of_ble_eq_true rfl), (Nat.le_of_ble_eq_true rfl)⟩ (Nat.le_of_ble_eq_true rfl) ⟨(Nat.le_of_ble_eq_true rfl), (Nat.le_of_ble_eq_true rfl)⟩ d_L_law_12 (fun v hv hX => ?_)
  have hX : jX X (yG D ((yC D u.1 u.2.1).tys ++ (yM D v.1 v.2.1).tys) ((yC D u.1 u.2.1).sh u.2.2 ++ (yM D v.1 v.2.1).sh v.2.2)) A code 7 RL (w0 :: TT) room_1 (some .boolean) := hX
  show jW l X (yG D ((yC D u.1 u.2.1).tys ++ (yM D v.1 v.2.1).tys) ((yC D u.1 u.2.1).sh u.2.2 ++ (yM D v.1 v.2.1).sh v.2.2)) A 7 44 3947 kT Q ((fun _ => 0, fun _ _ => 0) : St) 15 [(0, .ref b), (1, .ref qN)] [.ref qM]
  refine jx_astore_n (pc := 15) hX d_L_law_15 rfl (by decide) (L' := [(0, _), (1, _), (2, _)]) rfl ?_
  refine jx_iconst (pc := 16) hX (v := 1) d_L_law_16 rfl ?_
  refine jx_newl (pc := 17) hX (List.mem_cons_of_mem _ q_762) (Nat.le_of_ble_eq_true rfl) (Nat.le_of_ble_eq_true rfl) d_L_law_17 (fun qO cO hZ => ?_)
  refine jx_astore_n (pc := 19) hZ d_L_law_19 rfl (by decide) (L' := [(0, _), (1, _), (2, _), (3, _)]) rfl ?_
  refine jx_iconst (pc := 20) hZ (v := 0) d_L_law_20 rfl ?_
  refine jx_istore (pc := 21) hZ d_L_law_21 (by decide) (L' := [(0, _), (1, _), (2, _), (3, _), (4, _)]) rfl ?_
  obtain ⟨e1, hu⟩ := hu
  obtain ⟨e2, hv⟩ := hv
  subst e1
  subst e2
  have hX : jX X (yL D u.1 u.2.1 v.1 v.2.1 qO cO (fun _ => 0, fun _ _ => 0) (fun _ => 0)) A code 7 RL (w0 :: TT) room_1 (some .boolean) := hZ
  refine jW_conv (Y' := yL D u.1 u.2.1 v.1 v.2.1 qO cO v.2.2 (fun _ => 0)) (σ' := u.2.2) rfl rfl rfl ?_
  exact law_loop htr hX C (hend u.1 v.1 u.2.1 v.2.1 qO cO) LL 0 45 3948 u.2.2 v.2.2 (fun _ => 0) (M.build 2 1) rfl (by omega) (by decide) (by decide) (Inv.build (Or.inl rfl) ⟨by decide, by decide⟩) hu hv
theorem law_end {p : Program} {l : Launch} {e : Env} {s : State} {m : MethodId} {below : List Frame} {meth : Method} {c : Code} {b : Nat} {Y : Wx} (hx : p.tables.exec = Jvm.exec) (hb : c.code = code) (hr : meth.sig.returnType = ret) (hlocks : meth.locks = false) {cells slots : Nat} (h1 : cells ≤ 601024) (h2 : slots ≤ 7293034) {σ : St} {L : Lv} :
    jW l (p, e, room_1, s, m, #[Value.ref b], below, meth, c) Y (fun q => s.heap.size ≤ q) 7 cells slots kT (lw_Z below #[Value.ref b] s) σ 911 L [] := by
  intro H locs ls _ hP hD hS hl
  refine W.widen h1 h2 ?_
  refine (W.forget (L := locs) (locs := []) (fun q hq => hS.2.2 q hq) ?_ : W p l e room_1 s m #[Value.ref b] below meth c H ([] ++ locs) 601024 7293034 (lw_Z below #[Value.ref b] s) (F0 m 911 ls []))
  refine lv_iconst (v := 1) hx hb d_L_law_911 (by decide) ?_
  exact lw_ret hx hb hr hlocks d_L_law_912
theorem whole_start {p : Program} {e : Env} {s : State} {m : MethodId} {below : List Frame} {meth : Method} {c : Code} (l : Launch) (htr : l.stackTraces = false) {b L : Nat} {xs : Nat → Int32} (hL : L ≤ 1536) (C0 : lw_At p s m meth c b L xs) : W p l e room_1 s m #[Value.ref b] below meth c s.heap [] 0 0 (lw_Z below #[Value.ref b] s) (entryFrame m ([Value.ref b] : List Value).toArray 7) := by
  obtain ⟨hx, hb, hr, hml, hown, hts, hXs, hbl, hlk, hgv⟩ := C0
  have htT : ∀ w ∈ TT, w.before #[Value.ref b] s = true := fun w hw => hts w (List.mem_filter.mp hw).1
  obtain ⟨D, hK⟩ := in_K htT
  have hav : ∀ v ∈ [Value.ref b], v.category = 1 := fun v hv => by rw [List.mem_singleton.mp hv]; rfl
  have hl := lv_entry [Value.ref b] (n := 7) (by rw [lg_len _ hav]; exact Nat.le_of_ble_eq_true rfl)
  rw [lg_entry_eq]
  have hX : jX (p, e, room_1, s, m, #[Value.ref b], below, meth, c) (yG D [] []) (fun q => s.heap.size ≤ q) code 7 RL (Cond.initialized RL :: TT) room_1 (some .boolean) :=
    ⟨hx, hb, hml, hown, fun w hw => by
      rcases List.mem_cons.mp hw with rfl | hw
      · exact htT _ q_0
      · exact htT w hw, hK, fun q h => h, rfl, hr, hlk⟩
  have hC : lawC (p, e, room_1, s, m, #[Value.ref b], below, meth, c) (fun q => s.heap.size ≤ q) b L xs := ⟨in_ox hts hgv, in_nc hgv, fun q h1 h2 => absurd h1 (Nat.not_lt.mpr h2), hXs, hbl, hL⟩
  exact law_start htr (X := (p, e, room_1, s, m, #[Value.ref b], below, meth, c)) hX hC (nstN_of hts) default (fun ad bd ac bc o cO c2 s2 k σ τ gg h1 h2 => law_end hx hb hr hlk h1 h2) s.heap [] _ trivial (fun k q h => absurd (show ([] : va_W)[k]? = some q from h) (by simp)) ⟨fun i j a b ha _ _ => absurd (show ([] : va_W)[i]? = some a from ha) (by simp), fun k q h => absurd (show ([] : va_W)[k]? = some q from h) (by simp)⟩ va_S.rf ⟨hl, lv_args_cat [Value.ref b] 0 hav⟩
