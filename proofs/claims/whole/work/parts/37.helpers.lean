/-! the helpers -/
theorem q_242 : Cond.classLink "CountingNetworkLaw" (13 : Nat) "java/lang/IllegalArgumentException" ∈ TT := TT_mem (List.mem_of_getElem? (i := 287) (by decide +kernel)) rfl
theorem q_243 : Cond.methodLink "CountingNetworkLaw" (7 : Nat) ({ cls := "CountingNetwork", name := "build", desc := "(II)I" } : MethodName) ∈ TT := TT_mem (List.mem_of_getElem? (i := 288) (by decide +kernel)) rfl
theorem q_244 : Cond.instanceMethod ({ cls := "CountingNetwork", name := "build", desc := "(II)I" } : MethodName) ∈ TT := TT_mem (List.mem_of_getElem? (i := 289) (by decide +kernel)) rfl
theorem q_245 : Cond.selects "CountingNetwork" ({ cls := "CountingNetwork", name := "build", desc := "(II)I" } : MethodName) ({ cls := "CountingNetwork", name := "build", desc := "(II)I" } : MethodName) ∈ TT := TT_mem (List.mem_of_getElem? (i := 290) (by decide +kernel)) rfl
theorem q_246 : Cond.code ({ cls := "CountingNetwork", name := "build", desc := "(II)I" } : MethodName) prog_1_method_2_code (3 : Nat) (Option.some FieldType.int) ∈ TT := TT_mem (List.mem_of_getElem? (i := 291) (by decide +kernel)) rfl
theorem q_248 : Cond.instantiable "java/lang/IllegalArgumentException" (6 : Nat) ∈ TT := TT_mem (List.mem_of_getElem? (i := 293) (by decide +kernel)) rfl
theorem q_319 : Cond.classLink "CountingNetworkLaw" (18 : Nat) "java/lang/IndexOutOfBoundsException" ∈ TT := TT_mem (List.mem_of_getElem? (i := 364) (by decide +kernel)) rfl
theorem q_320 : Cond.methodLink "CountingNetworkLaw" (15 : Nat) ({ cls := "CountingNetwork", name := "balancer", desc := "(II)I" } : MethodName) ∈ TT := TT_mem (List.mem_of_getElem? (i := 365) (by decide +kernel)) rfl
theorem q_321 : Cond.instanceMethod ({ cls := "CountingNetwork", name := "balancer", desc := "(II)I" } : MethodName) ∈ TT := TT_mem (List.mem_of_getElem? (i := 366) (by decide +kernel)) rfl
theorem q_322 : Cond.selects "CountingNetwork" ({ cls := "CountingNetwork", name := "balancer", desc := "(II)I" } : MethodName) ({ cls := "CountingNetwork", name := "balancer", desc := "(II)I" } : MethodName) ∈ TT := TT_mem (List.mem_of_getElem? (i := 367) (by decide +kernel)) rfl
theorem q_323 : Cond.code ({ cls := "CountingNetwork", name := "balancer", desc := "(II)I" } : MethodName) prog_1_method_3_code (3 : Nat) (Option.some FieldType.int) ∈ TT := TT_mem (List.mem_of_getElem? (i := 368) (by decide +kernel)) rfl
theorem q_325 : Cond.instantiable "java/lang/IndexOutOfBoundsException" (6 : Nat) ∈ TT := TT_mem (List.mem_of_getElem? (i := 370) (by decide +kernel)) rfl
theorem q_344 : Cond.methodLink "CountingNetworkLaw" (20 : Nat) ({ cls := "CountingNetwork", name := "exit", desc := "(II)I" } : MethodName) ∈ TT := TT_mem (List.mem_of_getElem? (i := 389) (by decide +kernel)) rfl
theorem q_345 : Cond.instanceMethod ({ cls := "CountingNetwork", name := "exit", desc := "(II)I" } : MethodName) ∈ TT := TT_mem (List.mem_of_getElem? (i := 390) (by decide +kernel)) rfl
theorem q_346 : Cond.selects "CountingNetwork" ({ cls := "CountingNetwork", name := "exit", desc := "(II)I" } : MethodName) ({ cls := "CountingNetwork", name := "exit", desc := "(II)I" } : MethodName) ∈ TT := TT_mem (List.mem_of_getElem? (i := 391) (by decide +kernel)) rfl
theorem q_347 : Cond.code ({ cls := "CountingNetwork", name := "exit", desc := "(II)I" } : MethodName) prog_1_method_4_code (3 : Nat) (Option.some FieldType.int) ∈ TT := TT_mem (List.mem_of_getElem? (i := 392) (by decide +kernel)) rfl
theorem q_352 : Cond.classLink "CountingNetworkLaw" (27 : Nat) "java/lang/IllegalStateException" ∈ TT := TT_mem (List.mem_of_getElem? (i := 397) (by decide +kernel)) rfl
theorem q_353 : Cond.methodLink "CountingNetworkLaw" (23 : Nat) ({ cls := "CountingNetwork", name := "enter", desc := "(IZ)I" } : MethodName) ∈ TT := TT_mem (List.mem_of_getElem? (i := 398) (by decide +kernel)) rfl
theorem q_354 : Cond.instanceMethod ({ cls := "CountingNetwork", name := "enter", desc := "(IZ)I" } : MethodName) ∈ TT := TT_mem (List.mem_of_getElem? (i := 399) (by decide +kernel)) rfl
theorem q_355 : Cond.selects "CountingNetwork" ({ cls := "CountingNetwork", name := "enter", desc := "(IZ)I" } : MethodName) ({ cls := "CountingNetwork", name := "enter", desc := "(IZ)I" } : MethodName) ∈ TT := TT_mem (List.mem_of_getElem? (i := 400) (by decide +kernel)) rfl
theorem q_356 : Cond.code ({ cls := "CountingNetwork", name := "enter", desc := "(IZ)I" } : MethodName) prog_1_method_5_code (3 : Nat) (Option.some FieldType.int) ∈ TT := TT_mem (List.mem_of_getElem? (i := 401) (by decide +kernel)) rfl
theorem q_359 : Cond.instantiable "java/lang/IllegalStateException" (6 : Nat) ∈ TT := TT_mem (List.mem_of_getElem? (i := 404) (by decide +kernel)) rfl
theorem q_381 : Cond.methodLink "CountingNetworkLaw" (29 : Nat) ({ cls := "CountingNetwork", name := "move", desc := "(I)I" } : MethodName) ∈ TT := TT_mem (List.mem_of_getElem? (i := 426) (by decide +kernel)) rfl
theorem q_382 : Cond.instanceMethod ({ cls := "CountingNetwork", name := "move", desc := "(I)I" } : MethodName) ∈ TT := TT_mem (List.mem_of_getElem? (i := 427) (by decide +kernel)) rfl
theorem q_383 : Cond.selects "CountingNetwork" ({ cls := "CountingNetwork", name := "move", desc := "(I)I" } : MethodName) ({ cls := "CountingNetwork", name := "move", desc := "(I)I" } : MethodName) ∈ TT := TT_mem (List.mem_of_getElem? (i := 428) (by decide +kernel)) rfl
theorem q_384 : Cond.code ({ cls := "CountingNetwork", name := "move", desc := "(I)I" } : MethodName) prog_1_method_6_code (2 : Nat) (Option.some FieldType.int) ∈ TT := TT_mem (List.mem_of_getElem? (i := 429) (by decide +kernel)) rfl
theorem q_430 : Cond.methodLink "CountingNetworkLaw" (33 : Nat) ({ cls := "CountingNetwork", name := "deliver", desc := "(I)I" } : MethodName) ∈ TT := TT_mem (List.mem_of_getElem? (i := 475) (by decide +kernel)) rfl
theorem q_431 : Cond.instanceMethod ({ cls := "CountingNetwork", name := "deliver", desc := "(I)I" } : MethodName) ∈ TT := TT_mem (List.mem_of_getElem? (i := 476) (by decide +kernel)) rfl
theorem q_432 : Cond.selects "CountingNetwork" ({ cls := "CountingNetwork", name := "deliver", desc := "(I)I" } : MethodName) ({ cls := "CountingNetwork", name := "deliver", desc := "(I)I" } : MethodName) ∈ TT := TT_mem (List.mem_of_getElem? (i := 477) (by decide +kernel)) rfl
theorem q_433 : Cond.code ({ cls := "CountingNetwork", name := "deliver", desc := "(I)I" } : MethodName) prog_1_method_7_code (2 : Nat) (Option.some FieldType.int) ∈ TT := TT_mem (List.mem_of_getElem? (i := 478) (by decide +kernel)) rfl
theorem q_455 : Cond.methodLink "CountingNetworkLaw" (36 : Nat) ({ cls := "CountingNetwork", name := "lose", desc := "(I)V" } : MethodName) ∈ TT := TT_mem (List.mem_of_getElem? (i := 500) (by decide +kernel)) rfl
theorem q_456 : Cond.instanceMethod ({ cls := "CountingNetwork", name := "lose", desc := "(I)V" } : MethodName) ∈ TT := TT_mem (List.mem_of_getElem? (i := 501) (by decide +kernel)) rfl
theorem q_457 : Cond.selects "CountingNetwork" ({ cls := "CountingNetwork", name := "lose", desc := "(I)V" } : MethodName) ({ cls := "CountingNetwork", name := "lose", desc := "(I)V" } : MethodName) ∈ TT := TT_mem (List.mem_of_getElem? (i := 502) (by decide +kernel)) rfl
theorem q_458 : Cond.code ({ cls := "CountingNetwork", name := "lose", desc := "(I)V" } : MethodName) prog_1_method_8_code (2 : Nat) (Option.none : Option Jvm.ClassFile.FieldType) ∈ TT := TT_mem (List.mem_of_getElem? (i := 503) (by decide +kernel)) rfl
theorem q_462 : Cond.methodLink "CountingNetworkLaw" (40 : Nat) ({ cls := "CountingNetwork", name := "twin", desc := "(I)V" } : MethodName) ∈ TT := TT_mem (List.mem_of_getElem? (i := 507) (by decide +kernel)) rfl
theorem q_463 : Cond.instanceMethod ({ cls := "CountingNetwork", name := "twin", desc := "(I)V" } : MethodName) ∈ TT := TT_mem (List.mem_of_getElem? (i := 508) (by decide +kernel)) rfl
theorem q_464 : Cond.selects "CountingNetwork" ({ cls := "CountingNetwork", name := "twin", desc := "(I)V" } : MethodName) ({ cls := "CountingNetwork", name := "twin", desc := "(I)V" } : MethodName) ∈ TT := TT_mem (List.mem_of_getElem? (i := 509) (by decide +kernel)) rfl
theorem q_465 : Cond.code ({ cls := "CountingNetwork", name := "twin", desc := "(I)V" } : MethodName) prog_1_method_9_code (2 : Nat) (Option.none : Option Jvm.ClassFile.FieldType) ∈ TT := TT_mem (List.mem_of_getElem? (i := 510) (by decide +kernel)) rfl
theorem q_470 : Cond.methodLink "CountingNetworkLaw" (43 : Nat) ({ cls := "CountingNetwork", name := "letter", desc := "(II)I" } : MethodName) ∈ TT := TT_mem (List.mem_of_getElem? (i := 515) (by decide +kernel)) rfl
theorem q_471 : Cond.instanceMethod ({ cls := "CountingNetwork", name := "letter", desc := "(II)I" } : MethodName) ∈ TT := TT_mem (List.mem_of_getElem? (i := 516) (by decide +kernel)) rfl
theorem q_472 : Cond.selects "CountingNetwork" ({ cls := "CountingNetwork", name := "letter", desc := "(II)I" } : MethodName) ({ cls := "CountingNetwork", name := "letter", desc := "(II)I" } : MethodName) ∈ TT := TT_mem (List.mem_of_getElem? (i := 517) (by decide +kernel)) rfl
theorem q_473 : Cond.code ({ cls := "CountingNetwork", name := "letter", desc := "(II)I" } : MethodName) prog_1_method_10_code (3 : Nat) (Option.some FieldType.int) ∈ TT := TT_mem (List.mem_of_getElem? (i := 518) (by decide +kernel)) rfl
theorem q_477 : Cond.methodLink "CountingNetworkLaw" (46 : Nat) ({ cls := "CountingNetwork", name := "station", desc := "(IZ)V" } : MethodName) ∈ TT := TT_mem (List.mem_of_getElem? (i := 522) (by decide +kernel)) rfl
theorem q_478 : Cond.instanceMethod ({ cls := "CountingNetwork", name := "station", desc := "(IZ)V" } : MethodName) ∈ TT := TT_mem (List.mem_of_getElem? (i := 523) (by decide +kernel)) rfl
theorem q_479 : Cond.selects "CountingNetwork" ({ cls := "CountingNetwork", name := "station", desc := "(IZ)V" } : MethodName) ({ cls := "CountingNetwork", name := "station", desc := "(IZ)V" } : MethodName) ∈ TT := TT_mem (List.mem_of_getElem? (i := 524) (by decide +kernel)) rfl
theorem q_480 : Cond.code ({ cls := "CountingNetwork", name := "station", desc := "(IZ)V" } : MethodName) prog_1_method_12_code (3 : Nat) (Option.none : Option Jvm.ClassFile.FieldType) ∈ TT := TT_mem (List.mem_of_getElem? (i := 525) (by decide +kernel)) rfl
theorem q_485 : Cond.methodLink "CountingNetworkLaw" (50 : Nat) ({ cls := "CountingNetwork", name := "token", desc := "(II)I" } : MethodName) ∈ TT := TT_mem (List.mem_of_getElem? (i := 530) (by decide +kernel)) rfl
theorem q_486 : Cond.instanceMethod ({ cls := "CountingNetwork", name := "token", desc := "(II)I" } : MethodName) ∈ TT := TT_mem (List.mem_of_getElem? (i := 531) (by decide +kernel)) rfl
theorem q_487 : Cond.selects "CountingNetwork" ({ cls := "CountingNetwork", name := "token", desc := "(II)I" } : MethodName) ({ cls := "CountingNetwork", name := "token", desc := "(II)I" } : MethodName) ∈ TT := TT_mem (List.mem_of_getElem? (i := 532) (by decide +kernel)) rfl
theorem q_488 : Cond.code ({ cls := "CountingNetwork", name := "token", desc := "(II)I" } : MethodName) prog_1_method_13_code (3 : Nat) (Option.some FieldType.int) ∈ TT := TT_mem (List.mem_of_getElem? (i := 533) (by decide +kernel)) rfl
theorem q_503 : Cond.methodLink "CountingNetworkLaw" (53 : Nat) ({ cls := "CountingNetwork", name := "about", desc := "(I)I" } : MethodName) ∈ TT := TT_mem (List.mem_of_getElem? (i := 548) (by decide +kernel)) rfl
theorem q_504 : Cond.instanceMethod ({ cls := "CountingNetwork", name := "about", desc := "(I)I" } : MethodName) ∈ TT := TT_mem (List.mem_of_getElem? (i := 549) (by decide +kernel)) rfl
theorem q_505 : Cond.selects "CountingNetwork" ({ cls := "CountingNetwork", name := "about", desc := "(I)I" } : MethodName) ({ cls := "CountingNetwork", name := "about", desc := "(I)I" } : MethodName) ∈ TT := TT_mem (List.mem_of_getElem? (i := 550) (by decide +kernel)) rfl
theorem q_506 : Cond.code ({ cls := "CountingNetwork", name := "about", desc := "(I)I" } : MethodName) prog_1_method_14_code (2 : Nat) (Option.some FieldType.int) ∈ TT := TT_mem (List.mem_of_getElem? (i := 551) (by decide +kernel)) rfl
theorem q_519 : Cond.methodLink "CountingNetworkLaw" (56 : Nat) ({ cls := "CountingNetwork", name := "settle", desc := "(I)I" } : MethodName) ∈ TT := TT_mem (List.mem_of_getElem? (i := 564) (by decide +kernel)) rfl
theorem q_520 : Cond.instanceMethod ({ cls := "CountingNetwork", name := "settle", desc := "(I)I" } : MethodName) ∈ TT := TT_mem (List.mem_of_getElem? (i := 565) (by decide +kernel)) rfl
theorem q_521 : Cond.selects "CountingNetwork" ({ cls := "CountingNetwork", name := "settle", desc := "(I)I" } : MethodName) ({ cls := "CountingNetwork", name := "settle", desc := "(I)I" } : MethodName) ∈ TT := TT_mem (List.mem_of_getElem? (i := 566) (by decide +kernel)) rfl
theorem q_522 : Cond.code ({ cls := "CountingNetwork", name := "settle", desc := "(I)I" } : MethodName) prog_1_method_15_code (3 : Nat) (Option.some FieldType.int) ∈ TT := TT_mem (List.mem_of_getElem? (i := 567) (by decide +kernel)) rfl
theorem lk_cIA : Cond.classLink RL 13 cIA ∈ TT ∧ Cond.instantiable cIA 6 ∈ TT := ⟨q_242, q_248⟩
theorem ng_cIA : Cond.castable cIA cIA ∈ nG := by simp [nG, cIA]
theorem lk_cIO : Cond.classLink RL 18 cIO ∈ TT ∧ Cond.instantiable cIO 6 ∈ TT := ⟨q_319, q_325⟩
theorem ng_cIO : Cond.castable cIO cIO ∈ nG := by simp [nG, cIO]
theorem lk_cIS : Cond.classLink RL 27 cIS ∈ TT ∧ Cond.instantiable cIS 6 ∈ TT := ⟨q_352, q_359⟩
theorem ng_cIS : Cond.castable cIS cIS ∈ nG := by simp [nG, cIS]
theorem nn_cIA_cIO : Cond.not (.castable cIA cIO) ∈ nN := by simp [nN]
theorem nn_cIS_cIA : Cond.not (.castable cIS cIA) ∈ nN := by simp [nN]
theorem nn_cIS_cIO : Cond.not (.castable cIS cIO) ∈ nN := by simp [nN]
def rmh : Room := { frames := 14, cells := 1, slots := 6, locals := 1000 }
theorem ch_build : jcV TT RL 7 mt_N_build 2 := ⟨TT_good, q_246, q_243, q_244, q_245, q_1, by decide, by decide, by decide +kernel⟩
abbrev mt_L_build : Mt := (y_L_build, b_L_build, 5, (some .int))
abbrev hh_build : List (Nat × Nat × Nat × Nat) := [(0, 10, 13, 13)]
set_option maxRecDepth 100000 in
set_option maxHeartbeats 4000000 in
theorem t_L_build {l : Launch} (htr : l.stackTraces = false) {D : va_G} {ad : Nat → Nat} {ac : Nat → ClassId} {o : Nat} {cO : ClassId} {gg : Nat → Int64} (σ : St) (M : Ms) (hI : Inv M) (hM : repC σ M) (x : Int32) (y : Int32) : jMh l mt_L_build hh_build D ad ac o cO gg rmh [.ref (ad 20), .int x, .int y, .ref o] σ false (o_build M x y) := by
  refine jMh_of (by decide) (Nat.le_of_ble_eq_true rfl) (List.forall_mem_cons.mpr ⟨rfl, List.forall_mem_cons.mpr ⟨rfl, List.forall_mem_cons.mpr ⟨rfl, List.forall_mem_cons.mpr ⟨rfl, fun _ h => absurd h List.not_mem_nil⟩⟩⟩⟩) ?_
  intro X A hX ho hnc htab
  have hX : jX X (yH D ad ac o cO gg) A b_L_build 5 RL (wH mt_L_build hh_build :: TT) rmh (some .int) := hX
  show jW l X (yH D ad ac o cO gg) A 5 0 0 (k0 X) (jQh X D ad ac o cO A false (o_build M x y)) σ 0 [(0, .ref (ad 20)), (1, .int x), (2, .int y), (3, .ref o)] []
  have hc := t_N_build htr (D := D) (ad := ad) (ac := ac) σ M hI hM x y
  have hk := cd_build M x y
  generalize o_build M x y = q at hc hk ⊢
  refine jx_aload_n (pc := 0) hX d_L_build_0 rfl rfl ?_
  refine jx_iconst (pc := 1) hX (v := 0) d_L_build_1 rfl ?_
  refine jx_aload_n (pc := 2) hX d_L_build_2 rfl rfl ?_
  refine jx_iload_n (pc := 3) hX d_L_build_3 rfl rfl ?_
  refine jx_iload_n (pc := 4) hX d_L_build_4 rfl rfl ?_
  by_cases h0 : q.1 = 0
  · refine jx_callR (pc := 5) hX ho ch_build rfl hc h0 ⟨rfl, rfl, (Nat.le_of_ble_eq_true rfl), (Nat.le_of_ble_eq_true rfl)⟩ ⟨(Nat.le_of_ble_eq_true rfl), (Nat.le_of_ble_eq_true rfl)⟩ rfl rfl (Nat.le_of_ble_eq_true rfl) d_L_build_5 (fun u hu => ?_)
    refine jx_i2l (pc := 8) hX d_L_build_8 ?_
    refine jx_last (pc := 9) hX d_L_build_9 (fun hX => ?_)
    refine jx_goto (pc := 10) hX 17 d_L_build_10 rfl ?_
    refine jx_iconst (pc := 17) hX (v := 0) d_L_build_17 rfl ?_
    exact jx_iretH (pc := 18) hX d_L_build_18 (⟨h0.symm, fun _ _ => rfl, hu⟩)
  · have hk := hk.resolve_left h0
    refine jx_callT (pc := 5) hX ho ch_build rfl hc h0 ⟨rfl, rfl, (Nat.le_of_ble_eq_true rfl), (Nat.le_of_ble_eq_true rfl)⟩ ⟨(Nat.le_of_ble_eq_true rfl), (Nat.le_of_ble_eq_true rfl)⟩ rfl rfl (Nat.le_of_ble_eq_true rfl) d_L_build_5 (by rw [hk.1, exN_1]; exact jFind_1 hX ho htab (by decide) (by decide) lk_cIA ng_cIA) (fun x9 => ?_)
    refine jx_astore (pc := 13) hX d_L_build_13 (by decide) (L' := [(0, _), (1, _), (2, _), (3, _), (4, _)]) rfl ?_
    refine jx_iconst (pc := 15) hX (v := 1) d_L_build_15 rfl ?_
    exact jx_iretH (pc := 16) hX d_L_build_16 (psH_1 hk (by decide) hM)
theorem ch_balancer : jcV TT RL 15 mt_N_balancer 2 := ⟨TT_good, q_323, q_320, q_321, q_322, q_1, by decide, by decide, by decide +kernel⟩
abbrev mt_L_balancer : Mt := (y_L_balancer, b_L_balancer, 5, (some .int))
abbrev hh_balancer : List (Nat × Nat × Nat × Nat) := [(0, 10, 13, 18), (0, 10, 17, 13)]
set_option maxRecDepth 100000 in
set_option maxHeartbeats 4000000 in
theorem t_L_balancer {l : Launch} (htr : l.stackTraces = false) {D : va_G} {ad : Nat → Nat} {ac : Nat → ClassId} {o : Nat} {cO : ClassId} {gg : Nat → Int64} (σ : St) (M : Ms) (hI : Inv M) (hM : repC σ M) (x : Int32) (y : Int32) : jMh l mt_L_balancer hh_balancer D ad ac o cO gg rmh [.ref (ad 20), .int x, .int y, .ref o] σ false (o_balancer M x y) := by
  refine jMh_of (by decide) (Nat.le_of_ble_eq_true rfl) (List.forall_mem_cons.mpr ⟨rfl, List.forall_mem_cons.mpr ⟨rfl, List.forall_mem_cons.mpr ⟨rfl, List.forall_mem_cons.mpr ⟨rfl, fun _ h => absurd h List.not_mem_nil⟩⟩⟩⟩) ?_
  intro X A hX ho hnc htab
  have hX : jX X (yH D ad ac o cO gg) A b_L_balancer 5 RL (wH mt_L_balancer hh_balancer :: TT) rmh (some .int) := hX
  show jW l X (yH D ad ac o cO gg) A 5 0 0 (k0 X) (jQh X D ad ac o cO A false (o_balancer M x y)) σ 0 [(0, .ref (ad 20)), (1, .int x), (2, .int y), (3, .ref o)] []
  have hc := t_N_balancer htr (D := D) (ad := ad) (ac := ac) σ M hI hM x y
  have hk := cd_balancer M x y
  generalize o_balancer M x y = q at hc hk ⊢
  refine jx_aload_n (pc := 0) hX d_L_balancer_0 rfl rfl ?_
  refine jx_iconst (pc := 1) hX (v := 0) d_L_balancer_1 rfl ?_
  refine jx_aload_n (pc := 2) hX d_L_balancer_2 rfl rfl ?_
  refine jx_iload_n (pc := 3) hX d_L_balancer_3 rfl rfl ?_
  refine jx_iload_n (pc := 4) hX d_L_balancer_4 rfl rfl ?_
  by_cases h0 : q.1 = 0
  · refine jx_callR (pc := 5) hX ho ch_balancer rfl hc h0 ⟨rfl, rfl, (Nat.le_of_ble_eq_true rfl), (Nat.le_of_ble_eq_true rfl)⟩ ⟨(Nat.le_of_ble_eq_true rfl), (Nat.le_of_ble_eq_true rfl)⟩ rfl rfl (Nat.le_of_ble_eq_true rfl) d_L_balancer_5 (fun u hu => ?_)
    refine jx_i2l (pc := 8) hX d_L_balancer_8 ?_
    refine jx_last (pc := 9) hX d_L_balancer_9 (fun hX => ?_)
    refine jx_goto (pc := 10) hX 21 d_L_balancer_10 rfl ?_
    refine jx_iconst (pc := 21) hX (v := 0) d_L_balancer_21 rfl ?_
    exact jx_iretH (pc := 22) hX d_L_balancer_22 (⟨h0.symm, fun _ _ => rfl, hu⟩)
  · rcases hk.resolve_left h0 with hk | hk
    · refine jx_callT (pc := 5) hX ho ch_balancer rfl hc h0 ⟨rfl, rfl, (Nat.le_of_ble_eq_true rfl), (Nat.le_of_ble_eq_true rfl)⟩ ⟨(Nat.le_of_ble_eq_true rfl), (Nat.le_of_ble_eq_true rfl)⟩ rfl rfl (Nat.le_of_ble_eq_true rfl) d_L_balancer_5 (by rw [hk.1, exN_1]; exact jFind_1 hX ho htab (by decide) (by decide) lk_cIO ng_cIO) (fun x9 => ?_)
      refine jx_astore (pc := 13) hX d_L_balancer_13 (by decide) (L' := [(0, _), (1, _), (2, _), (3, _), (4, _)]) rfl ?_
      refine jx_iconst (pc := 15) hX (v := 1) d_L_balancer_15 rfl ?_
      exact jx_iretH (pc := 16) hX d_L_balancer_16 (psH_1 hk (by decide) hM)
    · refine jx_callT (pc := 5) hX ho ch_balancer rfl hc h0 ⟨rfl, rfl, (Nat.le_of_ble_eq_true rfl), (Nat.le_of_ble_eq_true rfl)⟩ ⟨(Nat.le_of_ble_eq_true rfl), (Nat.le_of_ble_eq_true rfl)⟩ rfl rfl (Nat.le_of_ble_eq_true rfl) d_L_balancer_5 (by rw [hk.1, exN_2]; exact jFind_2 hX ho hnc htab (by decide) (by decide) (by decide) (by decide) lk_cIO lk_cIA ng_cIA nn_cIA_cIO) (fun x9 => ?_)
      refine jx_astore (pc := 17) hX d_L_balancer_17 (by decide) (L' := [(0, _), (1, _), (2, _), (3, _), (4, _)]) rfl ?_
      refine jx_iconst (pc := 19) hX (v := 2) d_L_balancer_19 rfl ?_
      exact jx_iretH (pc := 20) hX d_L_balancer_20 (psH_1 hk (by decide) hM)
theorem ch_exit : jcV TT RL 20 mt_N_exit 2 := ⟨TT_good, q_347, q_344, q_345, q_346, q_1, by decide, by decide, by decide +kernel⟩
abbrev mt_L_exit : Mt := (y_L_exit, b_L_exit, 5, (some .int))
abbrev hh_exit : List (Nat × Nat × Nat × Nat) := [(0, 10, 13, 18), (0, 10, 17, 13)]
set_option maxRecDepth 100000 in
set_option maxHeartbeats 4000000 in
theorem t_L_exit {l : Launch} (htr : l.stackTraces = false) {D : va_G} {ad : Nat → Nat} {ac : Nat → ClassId} {o : Nat} {cO : ClassId} {gg : Nat → Int64} (σ : St) (M : Ms) (hI : Inv M) (hM : repC σ M) (x : Int32) (y : Int32) : jMh l mt_L_exit hh_exit D ad ac o cO gg rmh [.ref (ad 20), .int x, .int y, .ref o] σ false (o_exit M x y) := by
  refine jMh_of (by decide) (Nat.le_of_ble_eq_true rfl) (List.forall_mem_cons.mpr ⟨rfl, List.forall_mem_cons.mpr ⟨rfl, List.forall_mem_cons.mpr ⟨rfl, List.forall_mem_cons.mpr ⟨rfl, fun _ h => absurd h List.not_mem_nil⟩⟩⟩⟩) ?_
  intro X A hX ho hnc htab
  have hX : jX X (yH D ad ac o cO gg) A b_L_exit 5 RL (wH mt_L_exit hh_exit :: TT) rmh (some .int) := hX
  show jW l X (yH D ad ac o cO gg) A 5 0 0 (k0 X) (jQh X D ad ac o cO A false (o_exit M x y)) σ 0 [(0, .ref (ad 20)), (1, .int x), (2, .int y), (3, .ref o)] []
  have hc := t_N_exit htr (D := D) (ad := ad) (ac := ac) σ M hI hM x y
  have hk := cd_exit M x y
  generalize o_exit M x y = q at hc hk ⊢
  refine jx_aload_n (pc := 0) hX d_L_exit_0 rfl rfl ?_
  refine jx_iconst (pc := 1) hX (v := 0) d_L_exit_1 rfl ?_
  refine jx_aload_n (pc := 2) hX d_L_exit_2 rfl rfl ?_
  refine jx_iload_n (pc := 3) hX d_L_exit_3 rfl rfl ?_
  refine jx_iload_n (pc := 4) hX d_L_exit_4 rfl rfl ?_
  by_cases h0 : q.1 = 0
  · refine jx_callR (pc := 5) hX ho ch_exit rfl hc h0 ⟨rfl, rfl, (Nat.le_of_ble_eq_true rfl), (Nat.le_of_ble_eq_true rfl)⟩ ⟨(Nat.le_of_ble_eq_true rfl), (Nat.le_of_ble_eq_true rfl)⟩ rfl rfl (Nat.le_of_ble_eq_true rfl) d_L_exit_5 (fun u hu => ?_)
    refine jx_i2l (pc := 8) hX d_L_exit_8 ?_
    refine jx_last (pc := 9) hX d_L_exit_9 (fun hX => ?_)
    refine jx_goto (pc := 10) hX 21 d_L_exit_10 rfl ?_
    refine jx_iconst (pc := 21) hX (v := 0) d_L_exit_21 rfl ?_
    exact jx_iretH (pc := 22) hX d_L_exit_22 (⟨h0.symm, fun _ _ => rfl, hu⟩)
  · rcases hk.resolve_left h0 with hk | hk
    · refine jx_callT (pc := 5) hX ho ch_exit rfl hc h0 ⟨rfl, rfl, (Nat.le_of_ble_eq_true rfl), (Nat.le_of_ble_eq_true rfl)⟩ ⟨(Nat.le_of_ble_eq_true rfl), (Nat.le_of_ble_eq_true rfl)⟩ rfl rfl (Nat.le_of_ble_eq_true rfl) d_L_exit_5 (by rw [hk.1, exN_1]; exact jFind_1 hX ho htab (by decide) (by decide) lk_cIO ng_cIO) (fun x9 => ?_)
      refine jx_astore (pc := 13) hX d_L_exit_13 (by decide) (L' := [(0, _), (1, _), (2, _), (3, _), (4, _)]) rfl ?_
      refine jx_iconst (pc := 15) hX (v := 1) d_L_exit_15 rfl ?_
      exact jx_iretH (pc := 16) hX d_L_exit_16 (psH_1 hk (by decide) hM)
    · refine jx_callT (pc := 5) hX ho ch_exit rfl hc h0 ⟨rfl, rfl, (Nat.le_of_ble_eq_true rfl), (Nat.le_of_ble_eq_true rfl)⟩ ⟨(Nat.le_of_ble_eq_true rfl), (Nat.le_of_ble_eq_true rfl)⟩ rfl rfl (Nat.le_of_ble_eq_true rfl) d_L_exit_5 (by rw [hk.1, exN_2]; exact jFind_2 hX ho hnc htab (by decide) (by decide) (by decide) (by decide) lk_cIO lk_cIA ng_cIA nn_cIA_cIO) (fun x9 => ?_)
      refine jx_astore (pc := 17) hX d_L_exit_17 (by decide) (L' := [(0, _), (1, _), (2, _), (3, _), (4, _)]) rfl ?_
      refine jx_iconst (pc := 19) hX (v := 2) d_L_exit_19 rfl ?_
      exact jx_iretH (pc := 20) hX d_L_exit_20 (psH_1 hk (by decide) hM)
theorem ch_enter : jcV TT RL 23 mt_N_enter 2 := ⟨TT_good, q_356, q_353, q_354, q_355, q_1, by decide, by decide, by decide +kernel⟩
abbrev mt_L_enter : Mt := (y_L_enter, b_L_enter, 5, (some .int))
abbrev hh_enter : List (Nat × Nat × Nat × Nat) := [(0, 10, 13, 13), (0, 10, 17, 27)]
set_option maxRecDepth 100000 in
set_option maxHeartbeats 4000000 in
theorem t_L_enter {l : Launch} (htr : l.stackTraces = false) {D : va_G} {ad : Nat → Nat} {ac : Nat → ClassId} {o : Nat} {cO : ClassId} {gg : Nat → Int64} (σ : St) (M : Ms) (hI : Inv M) (hM : repC σ M) (x : Int32) (ob : Bool) : jMh l mt_L_enter hh_enter D ad ac o cO gg rmh [.ref (ad 20), .int x, .int (eB ob), .ref o] σ false (o_enter M x ob) := by
  refine jMh_of (by decide) (Nat.le_of_ble_eq_true rfl) (List.forall_mem_cons.mpr ⟨rfl, List.forall_mem_cons.mpr ⟨rfl, List.forall_mem_cons.mpr ⟨rfl, List.forall_mem_cons.mpr ⟨rfl, fun _ h => absurd h List.not_mem_nil⟩⟩⟩⟩) ?_
  intro X A hX ho hnc htab
  have hX : jX X (yH D ad ac o cO gg) A b_L_enter 5 RL (wH mt_L_enter hh_enter :: TT) rmh (some .int) := hX
  show jW l X (yH D ad ac o cO gg) A 5 0 0 (k0 X) (jQh X D ad ac o cO A false (o_enter M x ob)) σ 0 [(0, .ref (ad 20)), (1, .int x), (2, .int (eB ob)), (3, .ref o)] []
  have hc := t_N_enter htr (D := D) (ad := ad) (ac := ac) σ M hI hM x ob
  have hk := cd_enter M x ob
  generalize o_enter M x ob = q at hc hk ⊢
  refine jx_aload_n (pc := 0) hX d_L_enter_0 rfl rfl ?_
  refine jx_iconst (pc := 1) hX (v := 0) d_L_enter_1 rfl ?_
  refine jx_aload_n (pc := 2) hX d_L_enter_2 rfl rfl ?_
  refine jx_iload_n (pc := 3) hX d_L_enter_3 rfl rfl ?_
  refine jx_iload_n (pc := 4) hX d_L_enter_4 rfl rfl ?_
  by_cases h0 : q.1 = 0
  · refine jx_callR (pc := 5) hX ho ch_enter rfl hc h0 ⟨rfl, rfl, (Nat.le_of_ble_eq_true rfl), (Nat.le_of_ble_eq_true rfl)⟩ ⟨(Nat.le_of_ble_eq_true rfl), (Nat.le_of_ble_eq_true rfl)⟩ rfl rfl (Nat.le_of_ble_eq_true rfl) d_L_enter_5 (fun u hu => ?_)
    refine jx_i2l (pc := 8) hX d_L_enter_8 ?_
    refine jx_last (pc := 9) hX d_L_enter_9 (fun hX => ?_)
    refine jx_goto (pc := 10) hX 21 d_L_enter_10 rfl ?_
    refine jx_iconst (pc := 21) hX (v := 0) d_L_enter_21 rfl ?_
    exact jx_iretH (pc := 22) hX d_L_enter_22 (⟨h0.symm, fun _ _ => rfl, hu⟩)
  · rcases hk.resolve_left h0 with hk | hk
    · refine jx_callT (pc := 5) hX ho ch_enter rfl hc h0 ⟨rfl, rfl, (Nat.le_of_ble_eq_true rfl), (Nat.le_of_ble_eq_true rfl)⟩ ⟨(Nat.le_of_ble_eq_true rfl), (Nat.le_of_ble_eq_true rfl)⟩ rfl rfl (Nat.le_of_ble_eq_true rfl) d_L_enter_5 (by rw [hk.1, exN_1]; exact jFind_1 hX ho htab (by decide) (by decide) lk_cIA ng_cIA) (fun x9 => ?_)
      refine jx_astore (pc := 13) hX d_L_enter_13 (by decide) (L' := [(0, _), (1, _), (2, _), (3, _), (4, _)]) rfl ?_
      refine jx_iconst (pc := 15) hX (v := 1) d_L_enter_15 rfl ?_
      exact jx_iretH (pc := 16) hX d_L_enter_16 (psH_1 hk (by decide) hM)
    · refine jx_callT (pc := 5) hX ho ch_enter rfl hc h0 ⟨rfl, rfl, (Nat.le_of_ble_eq_true rfl), (Nat.le_of_ble_eq_true rfl)⟩ ⟨(Nat.le_of_ble_eq_true rfl), (Nat.le_of_ble_eq_true rfl)⟩ rfl rfl (Nat.le_of_ble_eq_true rfl) d_L_enter_5 (by rw [hk.1, exN_2]; exact jFind_2 hX ho hnc htab (by decide) (by decide) (by decide) (by decide) lk_cIA lk_cIS ng_cIS nn_cIS_cIA) (fun x9 => ?_)
      refine jx_astore (pc := 17) hX d_L_enter_17 (by decide) (L' := [(0, _), (1, _), (2, _), (3, _), (4, _)]) rfl ?_
      refine jx_iconst (pc := 19) hX (v := 2) d_L_enter_19 rfl ?_
      exact jx_iretH (pc := 20) hX d_L_enter_20 (psH_1 hk (by decide) hM)
theorem ch_move : jcV TT RL 29 mt_N_move 1 := ⟨TT_good, q_384, q_381, q_382, q_383, q_1, by decide, by decide, by decide +kernel⟩
abbrev mt_L_move : Mt := (y_L_move, b_L_move, 4, (some .int))
abbrev hh_move : List (Nat × Nat × Nat × Nat) := [(0, 9, 12, 13), (0, 9, 15, 27)]
set_option maxRecDepth 100000 in
set_option maxHeartbeats 4000000 in
theorem t_L_move {l : Launch} (htr : l.stackTraces = false) {D : va_G} {ad : Nat → Nat} {ac : Nat → ClassId} {o : Nat} {cO : ClassId} {gg : Nat → Int64} (σ : St) (M : Ms) (hI : Inv M) (hM : repC σ M) (x : Int32) : jMh l mt_L_move hh_move D ad ac o cO gg rmh [.ref (ad 20), .int x, .ref o] σ false (o_move M x) := by
  refine jMh_of (by decide) (Nat.le_of_ble_eq_true rfl) (List.forall_mem_cons.mpr ⟨rfl, List.forall_mem_cons.mpr ⟨rfl, List.forall_mem_cons.mpr ⟨rfl, fun _ h => absurd h List.not_mem_nil⟩⟩⟩) ?_
  intro X A hX ho hnc htab
  have hX : jX X (yH D ad ac o cO gg) A b_L_move 4 RL (wH mt_L_move hh_move :: TT) rmh (some .int) := hX
  show jW l X (yH D ad ac o cO gg) A 4 0 0 (k0 X) (jQh X D ad ac o cO A false (o_move M x)) σ 0 [(0, .ref (ad 20)), (1, .int x), (2, .ref o)] []
  have hc := t_N_move htr (D := D) (ad := ad) (ac := ac) σ M hI hM x
  have hk := cd_move M x
  generalize o_move M x = q at hc hk ⊢
  refine jx_aload_n (pc := 0) hX d_L_move_0 rfl rfl ?_
  refine jx_iconst (pc := 1) hX (v := 0) d_L_move_1 rfl ?_
  refine jx_aload_n (pc := 2) hX d_L_move_2 rfl rfl ?_
  refine jx_iload_n (pc := 3) hX d_L_move_3 rfl rfl ?_
  by_cases h0 : q.1 = 0
  · refine jx_callR (pc := 4) hX ho ch_move rfl hc h0 ⟨rfl, rfl, (Nat.le_of_ble_eq_true rfl), (Nat.le_of_ble_eq_true rfl)⟩ ⟨(Nat.le_of_ble_eq_true rfl), (Nat.le_of_ble_eq_true rfl)⟩ rfl rfl (Nat.le_of_ble_eq_true rfl) d_L_move_4 (fun u hu => ?_)
    refine jx_i2l (pc := 7) hX d_L_move_7 ?_
    refine jx_last (pc := 8) hX d_L_move_8 (fun hX => ?_)
    refine jx_goto (pc := 9) hX 18 d_L_move_9 rfl ?_
    refine jx_iconst (pc := 18) hX (v := 0) d_L_move_18 rfl ?_
    exact jx_iretH (pc := 19) hX d_L_move_19 (⟨h0.symm, fun _ _ => rfl, hu⟩)
  · rcases hk.resolve_left h0 with hk | hk
    · refine jx_callT (pc := 4) hX ho ch_move rfl hc h0 ⟨rfl, rfl, (Nat.le_of_ble_eq_true rfl), (Nat.le_of_ble_eq_true rfl)⟩ ⟨(Nat.le_of_ble_eq_true rfl), (Nat.le_of_ble_eq_true rfl)⟩ rfl rfl (Nat.le_of_ble_eq_true rfl) d_L_move_4 (by rw [hk.1, exN_1]; exact jFind_1 hX ho htab (by decide) (by decide) lk_cIA ng_cIA) (fun x9 => ?_)
      refine jx_astore_n (pc := 12) hX d_L_move_12 rfl (by decide) (L' := [(0, _), (1, _), (2, _), (3, _)]) rfl ?_
      refine jx_iconst (pc := 13) hX (v := 1) d_L_move_13 rfl ?_
      exact jx_iretH (pc := 14) hX d_L_move_14 (psH_1 hk (by decide) hM)
    · refine jx_callT (pc := 4) hX ho ch_move rfl hc h0 ⟨rfl, rfl, (Nat.le_of_ble_eq_true rfl), (Nat.le_of_ble_eq_true rfl)⟩ ⟨(Nat.le_of_ble_eq_true rfl), (Nat.le_of_ble_eq_true rfl)⟩ rfl rfl (Nat.le_of_ble_eq_true rfl) d_L_move_4 (by rw [hk.1, exN_2]; exact jFind_2 hX ho hnc htab (by decide) (by decide) (by decide) (by decide) lk_cIA lk_cIS ng_cIS nn_cIS_cIA) (fun x9 => ?_)
      refine jx_astore_n (pc := 15) hX d_L_move_15 rfl (by decide) (L' := [(0, _), (1, _), (2, _), (3, _)]) rfl ?_
      refine jx_iconst (pc := 16) hX (v := 2) d_L_move_16 rfl ?_
      exact jx_iretH (pc := 17) hX d_L_move_17 (psH_1 hk (by decide) hM)
theorem ch_deliver : jcV TT RL 33 mt_N_deliver 1 := ⟨TT_good, q_433, q_430, q_431, q_432, q_1, by decide, by decide, by decide +kernel⟩
abbrev mt_L_deliver : Mt := (y_L_deliver, b_L_deliver, 4, (some .int))
abbrev hh_deliver : List (Nat × Nat × Nat × Nat) := [(0, 9, 12, 18)]
set_option maxRecDepth 100000 in
set_option maxHeartbeats 4000000 in
theorem t_L_deliver {l : Launch} (htr : l.stackTraces = false) {D : va_G} {ad : Nat → Nat} {ac : Nat → ClassId} {o : Nat} {cO : ClassId} {gg : Nat → Int64} (σ : St) (M : Ms) (hI : Inv M) (hM : repC σ M) (x : Int32) : jMh l mt_L_deliver hh_deliver D ad ac o cO gg rmh [.ref (ad 20), .int x, .ref o] σ false (o_deliver M x) := by
  refine jMh_of (by decide) (Nat.le_of_ble_eq_true rfl) (List.forall_mem_cons.mpr ⟨rfl, List.forall_mem_cons.mpr ⟨rfl, List.forall_mem_cons.mpr ⟨rfl, fun _ h => absurd h List.not_mem_nil⟩⟩⟩) ?_
  intro X A hX ho hnc htab
  have hX : jX X (yH D ad ac o cO gg) A b_L_deliver 4 RL (wH mt_L_deliver hh_deliver :: TT) rmh (some .int) := hX
  show jW l X (yH D ad ac o cO gg) A 4 0 0 (k0 X) (jQh X D ad ac o cO A false (o_deliver M x)) σ 0 [(0, .ref (ad 20)), (1, .int x), (2, .ref o)] []
  have hc := t_N_deliver htr (D := D) (ad := ad) (ac := ac) σ M hI hM x
  have hk := cd_deliver M x
  generalize o_deliver M x = q at hc hk ⊢
  refine jx_aload_n (pc := 0) hX d_L_deliver_0 rfl rfl ?_
  refine jx_iconst (pc := 1) hX (v := 0) d_L_deliver_1 rfl ?_
  refine jx_aload_n (pc := 2) hX d_L_deliver_2 rfl rfl ?_
  refine jx_iload_n (pc := 3) hX d_L_deliver_3 rfl rfl ?_
  by_cases h0 : q.1 = 0
  · refine jx_callR (pc := 4) hX ho ch_deliver rfl hc h0 ⟨rfl, rfl, (Nat.le_of_ble_eq_true rfl), (Nat.le_of_ble_eq_true rfl)⟩ ⟨(Nat.le_of_ble_eq_true rfl), (Nat.le_of_ble_eq_true rfl)⟩ rfl rfl (Nat.le_of_ble_eq_true rfl) d_L_deliver_4 (fun u hu => ?_)
    refine jx_i2l (pc := 7) hX d_L_deliver_7 ?_
    refine jx_last (pc := 8) hX d_L_deliver_8 (fun hX => ?_)
    refine jx_goto (pc := 9) hX 15 d_L_deliver_9 rfl ?_
    refine jx_iconst (pc := 15) hX (v := 0) d_L_deliver_15 rfl ?_
    exact jx_iretH (pc := 16) hX d_L_deliver_16 (⟨h0.symm, fun _ _ => rfl, hu⟩)
  · have hk := hk.resolve_left h0
    refine jx_callT (pc := 4) hX ho ch_deliver rfl hc h0 ⟨rfl, rfl, (Nat.le_of_ble_eq_true rfl), (Nat.le_of_ble_eq_true rfl)⟩ ⟨(Nat.le_of_ble_eq_true rfl), (Nat.le_of_ble_eq_true rfl)⟩ rfl rfl (Nat.le_of_ble_eq_true rfl) d_L_deliver_4 (by rw [hk.1, exN_1]; exact jFind_1 hX ho htab (by decide) (by decide) lk_cIO ng_cIO) (fun x9 => ?_)
    refine jx_astore_n (pc := 12) hX d_L_deliver_12 rfl (by decide) (L' := [(0, _), (1, _), (2, _), (3, _)]) rfl ?_
    refine jx_iconst (pc := 13) hX (v := 1) d_L_deliver_13 rfl ?_
    exact jx_iretH (pc := 14) hX d_L_deliver_14 (psH_1 hk (by decide) hM)
theorem ch_lose : jcV TT RL 36 mt_N_lose 1 := ⟨TT_good, q_458, q_455, q_456, q_457, q_1, by decide, by decide, by decide +kernel⟩
abbrev mt_L_lose : Mt := (y_L_lose, b_L_lose, 3, (some .int))
abbrev hh_lose : List (Nat × Nat × Nat × Nat) := [(0, 5, 8, 18)]
set_option maxRecDepth 100000 in
set_option maxHeartbeats 4000000 in
theorem t_L_lose {l : Launch} (htr : l.stackTraces = false) {D : va_G} {ad : Nat → Nat} {ac : Nat → ClassId} {o : Nat} {cO : ClassId} {gg : Nat → Int64} (σ : St) (M : Ms) (hI : Inv M) (hM : repC σ M) (x : Int32) : jMh l mt_L_lose hh_lose D ad ac o cO gg rmh [.ref (ad 20), .int x] σ true (o_lose M x) := by
  refine jMh_of (by decide) (Nat.le_of_ble_eq_true rfl) (List.forall_mem_cons.mpr ⟨rfl, List.forall_mem_cons.mpr ⟨rfl, fun _ h => absurd h List.not_mem_nil⟩⟩) ?_
  intro X A hX ho hnc htab
  have hX : jX X (yH D ad ac o cO gg) A b_L_lose 3 RL (wH mt_L_lose hh_lose :: TT) rmh (some .int) := hX
  show jW l X (yH D ad ac o cO gg) A 3 0 0 (k0 X) (jQh X D ad ac o cO A true (o_lose M x)) σ 0 [(0, .ref (ad 20)), (1, .int x)] []
  have hc := t_N_lose htr (D := D) (ad := ad) (ac := ac) σ M hI hM x
  have hk := cd_lose M x
  generalize o_lose M x = q at hc hk ⊢
  refine jx_aload_n (pc := 0) hX d_L_lose_0 rfl rfl ?_
  refine jx_iload_n (pc := 1) hX d_L_lose_1 rfl rfl ?_
  by_cases h0 : q.1 = 0
  · refine jx_callRv (pc := 2) hX ho ch_lose rfl hc h0 ⟨rfl, rfl, (Nat.le_of_ble_eq_true rfl), (Nat.le_of_ble_eq_true rfl)⟩ ⟨(Nat.le_of_ble_eq_true rfl), (Nat.le_of_ble_eq_true rfl)⟩ rfl rfl (Nat.le_of_ble_eq_true rfl) d_L_lose_2 (fun u hu => ?_)
    refine jx_goto (pc := 5) hX 11 d_L_lose_5 rfl ?_
    refine jx_iconst (pc := 11) hX (v := 0) d_L_lose_11 rfl ?_
    exact jx_iretH (pc := 12) hX d_L_lose_12 (⟨h0.symm, fun _ h => absurd h (by decide), hu⟩)
  · have hk := hk.resolve_left h0
    refine jx_callT (pc := 2) hX ho ch_lose rfl hc h0 ⟨rfl, rfl, (Nat.le_of_ble_eq_true rfl), (Nat.le_of_ble_eq_true rfl)⟩ ⟨(Nat.le_of_ble_eq_true rfl), (Nat.le_of_ble_eq_true rfl)⟩ rfl rfl (Nat.le_of_ble_eq_true rfl) d_L_lose_2 (by rw [hk.1, exN_1]; exact jFind_1 hX ho htab (by decide) (by decide) lk_cIO ng_cIO) (fun x9 => ?_)
    refine jx_astore_n (pc := 8) hX d_L_lose_8 rfl (by decide) (L' := [(0, _), (1, _), (2, _)]) rfl ?_
    refine jx_iconst (pc := 9) hX (v := 1) d_L_lose_9 rfl ?_
    exact jx_iretH (pc := 10) hX d_L_lose_10 (psH_1 hk (by decide) hM)
theorem ch_twin : jcV TT RL 40 mt_N_twin 1 := ⟨TT_good, q_465, q_462, q_463, q_464, q_1, by decide, by decide, by decide +kernel⟩
abbrev mt_L_twin : Mt := (y_L_twin, b_L_twin, 3, (some .int))
abbrev hh_twin : List (Nat × Nat × Nat × Nat) := [(0, 5, 8, 18), (0, 5, 11, 27)]
set_option maxRecDepth 100000 in
set_option maxHeartbeats 4000000 in
theorem t_L_twin {l : Launch} (htr : l.stackTraces = false) {D : va_G} {ad : Nat → Nat} {ac : Nat → ClassId} {o : Nat} {cO : ClassId} {gg : Nat → Int64} (σ : St) (M : Ms) (hI : Inv M) (hM : repC σ M) (x : Int32) : jMh l mt_L_twin hh_twin D ad ac o cO gg rmh [.ref (ad 20), .int x] σ true (o_twin M x) := by
  refine jMh_of (by decide) (Nat.le_of_ble_eq_true rfl) (List.forall_mem_cons.mpr ⟨rfl, List.forall_mem_cons.mpr ⟨rfl, fun _ h => absurd h List.not_mem_nil⟩⟩) ?_
  intro X A hX ho hnc htab
  have hX : jX X (yH D ad ac o cO gg) A b_L_twin 3 RL (wH mt_L_twin hh_twin :: TT) rmh (some .int) := hX
  show jW l X (yH D ad ac o cO gg) A 3 0 0 (k0 X) (jQh X D ad ac o cO A true (o_twin M x)) σ 0 [(0, .ref (ad 20)), (1, .int x)] []
  have hc := t_N_twin htr (D := D) (ad := ad) (ac := ac) σ M hI hM x
  have hk := cd_twin M x
  generalize o_twin M x = q at hc hk ⊢
  refine jx_aload_n (pc := 0) hX d_L_twin_0 rfl rfl ?_
  refine jx_iload_n (pc := 1) hX d_L_twin_1 rfl rfl ?_
  by_cases h0 : q.1 = 0
  · refine jx_callRv (pc := 2) hX ho ch_twin rfl hc h0 ⟨rfl, rfl, (Nat.le_of_ble_eq_true rfl), (Nat.le_of_ble_eq_true rfl)⟩ ⟨(Nat.le_of_ble_eq_true rfl), (Nat.le_of_ble_eq_true rfl)⟩ rfl rfl (Nat.le_of_ble_eq_true rfl) d_L_twin_2 (fun u hu => ?_)
    refine jx_goto (pc := 5) hX 14 d_L_twin_5 rfl ?_
    refine jx_iconst (pc := 14) hX (v := 0) d_L_twin_14 rfl ?_
    exact jx_iretH (pc := 15) hX d_L_twin_15 (⟨h0.symm, fun _ h => absurd h (by decide), hu⟩)
  · rcases hk.resolve_left h0 with hk | hk
    · refine jx_callT (pc := 2) hX ho ch_twin rfl hc h0 ⟨rfl, rfl, (Nat.le_of_ble_eq_true rfl), (Nat.le_of_ble_eq_true rfl)⟩ ⟨(Nat.le_of_ble_eq_true rfl), (Nat.le_of_ble_eq_true rfl)⟩ rfl rfl (Nat.le_of_ble_eq_true rfl) d_L_twin_2 (by rw [hk.1, exN_1]; exact jFind_1 hX ho htab (by decide) (by decide) lk_cIO ng_cIO) (fun x9 => ?_)
      refine jx_astore_n (pc := 8) hX d_L_twin_8 rfl (by decide) (L' := [(0, _), (1, _), (2, _)]) rfl ?_
      refine jx_iconst (pc := 9) hX (v := 1) d_L_twin_9 rfl ?_
      exact jx_iretH (pc := 10) hX d_L_twin_10 (psH_1 hk (by decide) hM)
    · refine jx_callT (pc := 2) hX ho ch_twin rfl hc h0 ⟨rfl, rfl, (Nat.le_of_ble_eq_true rfl), (Nat.le_of_ble_eq_true rfl)⟩ ⟨(Nat.le_of_ble_eq_true rfl), (Nat.le_of_ble_eq_true rfl)⟩ rfl rfl (Nat.le_of_ble_eq_true rfl) d_L_twin_2 (by rw [hk.1, exN_2]; exact jFind_2 hX ho hnc htab (by decide) (by decide) (by decide) (by decide) lk_cIO lk_cIS ng_cIS nn_cIS_cIO) (fun x9 => ?_)
      refine jx_astore_n (pc := 11) hX d_L_twin_11 rfl (by decide) (L' := [(0, _), (1, _), (2, _)]) rfl ?_
      refine jx_iconst (pc := 12) hX (v := 2) d_L_twin_12 rfl ?_
      exact jx_iretH (pc := 13) hX d_L_twin_13 (psH_1 hk (by decide) hM)
theorem ch_letter : jcV TT RL 43 mt_N_letter 2 := ⟨TT_good, q_473, q_470, q_471, q_472, q_1, by decide, by decide, by decide +kernel⟩
abbrev mt_L_letter : Mt := (y_L_letter, b_L_letter, 5, (some .int))
abbrev hh_letter : List (Nat × Nat × Nat × Nat) := [(0, 10, 13, 18), (0, 10, 17, 13)]
set_option maxRecDepth 100000 in
set_option maxHeartbeats 4000000 in
theorem t_L_letter {l : Launch} (htr : l.stackTraces = false) {D : va_G} {ad : Nat → Nat} {ac : Nat → ClassId} {o : Nat} {cO : ClassId} {gg : Nat → Int64} (σ : St) (M : Ms) (hI : Inv M) (hM : repC σ M) (x : Int32) (y : Int32) : jMh l mt_L_letter hh_letter D ad ac o cO gg rmh [.ref (ad 20), .int x, .int y, .ref o] σ false (o_letter M x y) := by
  refine jMh_of (by decide) (Nat.le_of_ble_eq_true rfl) (List.forall_mem_cons.mpr ⟨rfl, List.forall_mem_cons.mpr ⟨rfl, List.forall_mem_cons.mpr ⟨rfl, List.forall_mem_cons.mpr ⟨rfl, fun _ h => absurd h List.not_mem_nil⟩⟩⟩⟩) ?_
  intro X A hX ho hnc htab
  have hX : jX X (yH D ad ac o cO gg) A b_L_letter 5 RL (wH mt_L_letter hh_letter :: TT) rmh (some .int) := hX
  show jW l X (yH D ad ac o cO gg) A 5 0 0 (k0 X) (jQh X D ad ac o cO A false (o_letter M x y)) σ 0 [(0, .ref (ad 20)), (1, .int x), (2, .int y), (3, .ref o)] []
  have hc := t_N_letter htr (D := D) (ad := ad) (ac := ac) σ M hI hM x y
  have hk := cd_letter M x y
  generalize o_letter M x y = q at hc hk ⊢
  refine jx_aload_n (pc := 0) hX d_L_letter_0 rfl rfl ?_
  refine jx_iconst (pc := 1) hX (v := 0) d_L_letter_1 rfl ?_
  refine jx_aload_n (pc := 2) hX d_L_letter_2 rfl rfl ?_
  refine jx_iload_n (pc := 3) hX d_L_letter_3 rfl rfl ?_
  refine jx_iload_n (pc := 4) hX d_L_letter_4 rfl rfl ?_
  by_cases h0 : q.1 = 0
  · refine jx_callR (pc := 5) hX ho ch_letter rfl hc h0 ⟨rfl, rfl, (Nat.le_of_ble_eq_true rfl), (Nat.le_of_ble_eq_true rfl)⟩ ⟨(Nat.le_of_ble_eq_true rfl), (Nat.le_of_ble_eq_true rfl)⟩ rfl rfl (Nat.le_of_ble_eq_true rfl) d_L_letter_5 (fun u hu => ?_)
    refine jx_i2l (pc := 8) hX d_L_letter_8 ?_
    refine jx_last (pc := 9) hX d_L_letter_9 (fun hX => ?_)
    refine jx_goto (pc := 10) hX 21 d_L_letter_10 rfl ?_
    refine jx_iconst (pc := 21) hX (v := 0) d_L_letter_21 rfl ?_
    exact jx_iretH (pc := 22) hX d_L_letter_22 (⟨h0.symm, fun _ _ => rfl, hu⟩)
  · rcases hk.resolve_left h0 with hk | hk
    · refine jx_callT (pc := 5) hX ho ch_letter rfl hc h0 ⟨rfl, rfl, (Nat.le_of_ble_eq_true rfl), (Nat.le_of_ble_eq_true rfl)⟩ ⟨(Nat.le_of_ble_eq_true rfl), (Nat.le_of_ble_eq_true rfl)⟩ rfl rfl (Nat.le_of_ble_eq_true rfl) d_L_letter_5 (by rw [hk.1, exN_1]; exact jFind_1 hX ho htab (by decide) (by decide) lk_cIO ng_cIO) (fun x9 => ?_)
      refine jx_astore (pc := 13) hX d_L_letter_13 (by decide) (L' := [(0, _), (1, _), (2, _), (3, _), (4, _)]) rfl ?_
      refine jx_iconst (pc := 15) hX (v := 1) d_L_letter_15 rfl ?_
      exact jx_iretH (pc := 16) hX d_L_letter_16 (psH_1 hk (by decide) hM)
    · refine jx_callT (pc := 5) hX ho ch_letter rfl hc h0 ⟨rfl, rfl, (Nat.le_of_ble_eq_true rfl), (Nat.le_of_ble_eq_true rfl)⟩ ⟨(Nat.le_of_ble_eq_true rfl), (Nat.le_of_ble_eq_true rfl)⟩ rfl rfl (Nat.le_of_ble_eq_true rfl) d_L_letter_5 (by rw [hk.1, exN_2]; exact jFind_2 hX ho hnc htab (by decide) (by decide) (by decide) (by decide) lk_cIO lk_cIA ng_cIA nn_cIA_cIO) (fun x9 => ?_)
      refine jx_astore (pc := 17) hX d_L_letter_17 (by decide) (L' := [(0, _), (1, _), (2, _), (3, _), (4, _)]) rfl ?_
      refine jx_iconst (pc := 19) hX (v := 2) d_L_letter_19 rfl ?_
      exact jx_iretH (pc := 20) hX d_L_letter_20 (psH_1 hk (by decide) hM)
theorem ch_station : jcV TT RL 46 mt_N_station 2 := ⟨TT_good, q_480, q_477, q_478, q_479, q_1, by decide, by decide, by decide +kernel⟩
abbrev mt_L_station : Mt := (y_L_station, b_L_station, 4, (some .int))
abbrev hh_station : List (Nat × Nat × Nat × Nat) := [(0, 6, 9, 13)]
set_option maxRecDepth 100000 in
set_option maxHeartbeats 4000000 in
theorem t_L_station {l : Launch} (htr : l.stackTraces = false) {D : va_G} {ad : Nat → Nat} {ac : Nat → ClassId} {o : Nat} {cO : ClassId} {gg : Nat → Int64} (σ : St) (M : Ms) (hI : Inv M) (hM : repC σ M) (x : Int32) (ob : Bool) : jMh l mt_L_station hh_station D ad ac o cO gg rmh [.ref (ad 20), .int x, .int (eB ob)] σ true (o_station M x ob) := by
  refine jMh_of (by decide) (Nat.le_of_ble_eq_true rfl) (List.forall_mem_cons.mpr ⟨rfl, List.forall_mem_cons.mpr ⟨rfl, List.forall_mem_cons.mpr ⟨rfl, fun _ h => absurd h List.not_mem_nil⟩⟩⟩) ?_
  intro X A hX ho hnc htab
  have hX : jX X (yH D ad ac o cO gg) A b_L_station 4 RL (wH mt_L_station hh_station :: TT) rmh (some .int) := hX
  show jW l X (yH D ad ac o cO gg) A 4 0 0 (k0 X) (jQh X D ad ac o cO A true (o_station M x ob)) σ 0 [(0, .ref (ad 20)), (1, .int x), (2, .int (eB ob))] []
  have hc := t_N_station htr (D := D) (ad := ad) (ac := ac) σ M hI hM x ob
  have hk := cd_station M x ob
  generalize o_station M x ob = q at hc hk ⊢
  refine jx_aload_n (pc := 0) hX d_L_station_0 rfl rfl ?_
  refine jx_iload_n (pc := 1) hX d_L_station_1 rfl rfl ?_
  refine jx_iload_n (pc := 2) hX d_L_station_2 rfl rfl ?_
  by_cases h0 : q.1 = 0
  · refine jx_callRv (pc := 3) hX ho ch_station rfl hc h0 ⟨rfl, rfl, (Nat.le_of_ble_eq_true rfl), (Nat.le_of_ble_eq_true rfl)⟩ ⟨(Nat.le_of_ble_eq_true rfl), (Nat.le_of_ble_eq_true rfl)⟩ rfl rfl (Nat.le_of_ble_eq_true rfl) d_L_station_3 (fun u hu => ?_)
    refine jx_goto (pc := 6) hX 12 d_L_station_6 rfl ?_
    refine jx_iconst (pc := 12) hX (v := 0) d_L_station_12 rfl ?_
    exact jx_iretH (pc := 13) hX d_L_station_13 (⟨h0.symm, fun _ h => absurd h (by decide), hu⟩)
  · have hk := hk.resolve_left h0
    refine jx_callT (pc := 3) hX ho ch_station rfl hc h0 ⟨rfl, rfl, (Nat.le_of_ble_eq_true rfl), (Nat.le_of_ble_eq_true rfl)⟩ ⟨(Nat.le_of_ble_eq_true rfl), (Nat.le_of_ble_eq_true rfl)⟩ rfl rfl (Nat.le_of_ble_eq_true rfl) d_L_station_3 (by rw [hk.1, exN_1]; exact jFind_1 hX ho htab (by decide) (by decide) lk_cIA ng_cIA) (fun x9 => ?_)
    refine jx_astore_n (pc := 9) hX d_L_station_9 rfl (by decide) (L' := [(0, _), (1, _), (2, _), (3, _)]) rfl ?_
    refine jx_iconst (pc := 10) hX (v := 1) d_L_station_10 rfl ?_
    exact jx_iretH (pc := 11) hX d_L_station_11 (psH_1 hk (by decide) hM)
theorem ch_token : jcV TT RL 50 mt_N_token 2 := ⟨TT_good, q_488, q_485, q_486, q_487, q_1, by decide, by decide, by decide +kernel⟩
abbrev mt_L_token : Mt := (y_L_token, b_L_token, 5, (some .int))
abbrev hh_token : List (Nat × Nat × Nat × Nat) := [(0, 10, 13, 13)]
set_option maxRecDepth 100000 in
set_option maxHeartbeats 4000000 in
theorem t_L_token {l : Launch} (htr : l.stackTraces = false) {D : va_G} {ad : Nat → Nat} {ac : Nat → ClassId} {o : Nat} {cO : ClassId} {gg : Nat → Int64} (σ : St) (M : Ms) (hI : Inv M) (hM : repC σ M) (x : Int32) (y : Int32) : jMh l mt_L_token hh_token D ad ac o cO gg rmh [.ref (ad 20), .int x, .int y, .ref o] σ false (o_token M x y) := by
  refine jMh_of (by decide) (Nat.le_of_ble_eq_true rfl) (List.forall_mem_cons.mpr ⟨rfl, List.forall_mem_cons.mpr ⟨rfl, List.forall_mem_cons.mpr ⟨rfl, List.forall_mem_cons.mpr ⟨rfl, fun _ h => absurd h List.not_mem_nil⟩⟩⟩⟩) ?_
  intro X A hX ho hnc htab
  have hX : jX X (yH D ad ac o cO gg) A b_L_token 5 RL (wH mt_L_token hh_token :: TT) rmh (some .int) := hX
  show jW l X (yH D ad ac o cO gg) A 5 0 0 (k0 X) (jQh X D ad ac o cO A false (o_token M x y)) σ 0 [(0, .ref (ad 20)), (1, .int x), (2, .int y), (3, .ref o)] []
  have hc := t_N_token htr (D := D) (ad := ad) (ac := ac) σ M hI hM x y
  have hk := cd_token M x y
  generalize o_token M x y = q at hc hk ⊢
  refine jx_aload_n (pc := 0) hX d_L_token_0 rfl rfl ?_
  refine jx_iconst (pc := 1) hX (v := 0) d_L_token_1 rfl ?_
  refine jx_aload_n (pc := 2) hX d_L_token_2 rfl rfl ?_
  refine jx_iload_n (pc := 3) hX d_L_token_3 rfl rfl ?_
  refine jx_iload_n (pc := 4) hX d_L_token_4 rfl rfl ?_
  by_cases h0 : q.1 = 0
  · refine jx_callR (pc := 5) hX ho ch_token rfl hc h0 ⟨rfl, rfl, (Nat.le_of_ble_eq_true rfl), (Nat.le_of_ble_eq_true rfl)⟩ ⟨(Nat.le_of_ble_eq_true rfl), (Nat.le_of_ble_eq_true rfl)⟩ rfl rfl (Nat.le_of_ble_eq_true rfl) d_L_token_5 (fun u hu => ?_)
    refine jx_i2l (pc := 8) hX d_L_token_8 ?_
    refine jx_last (pc := 9) hX d_L_token_9 (fun hX => ?_)
    refine jx_goto (pc := 10) hX 17 d_L_token_10 rfl ?_
    refine jx_iconst (pc := 17) hX (v := 0) d_L_token_17 rfl ?_
    exact jx_iretH (pc := 18) hX d_L_token_18 (⟨h0.symm, fun _ _ => rfl, hu⟩)
  · have hk := hk.resolve_left h0
    refine jx_callT (pc := 5) hX ho ch_token rfl hc h0 ⟨rfl, rfl, (Nat.le_of_ble_eq_true rfl), (Nat.le_of_ble_eq_true rfl)⟩ ⟨(Nat.le_of_ble_eq_true rfl), (Nat.le_of_ble_eq_true rfl)⟩ rfl rfl (Nat.le_of_ble_eq_true rfl) d_L_token_5 (by rw [hk.1, exN_1]; exact jFind_1 hX ho htab (by decide) (by decide) lk_cIA ng_cIA) (fun x9 => ?_)
    refine jx_astore (pc := 13) hX d_L_token_13 (by decide) (L' := [(0, _), (1, _), (2, _), (3, _), (4, _)]) rfl ?_
    refine jx_iconst (pc := 15) hX (v := 1) d_L_token_15 rfl ?_
    exact jx_iretH (pc := 16) hX d_L_token_16 (psH_1 hk (by decide) hM)
theorem ch_about : jcV TT RL 53 mt_N_about 1 := ⟨TT_good, q_506, q_503, q_504, q_505, q_1, by decide, by decide, by decide +kernel⟩
abbrev mt_L_about : Mt := (y_L_about, b_L_about, 4, (some .int))
abbrev hh_about : List (Nat × Nat × Nat × Nat) := [(0, 9, 12, 13)]
set_option maxRecDepth 100000 in
set_option maxHeartbeats 4000000 in
theorem t_L_about {l : Launch} (htr : l.stackTraces = false) {D : va_G} {ad : Nat → Nat} {ac : Nat → ClassId} {o : Nat} {cO : ClassId} {gg : Nat → Int64} (σ : St) (M : Ms) (hI : Inv M) (hM : repC σ M) (x : Int32) : jMh l mt_L_about hh_about D ad ac o cO gg rmh [.ref (ad 20), .int x, .ref o] σ false (o_about M x) := by
  refine jMh_of (by decide) (Nat.le_of_ble_eq_true rfl) (List.forall_mem_cons.mpr ⟨rfl, List.forall_mem_cons.mpr ⟨rfl, List.forall_mem_cons.mpr ⟨rfl, fun _ h => absurd h List.not_mem_nil⟩⟩⟩) ?_
  intro X A hX ho hnc htab
  have hX : jX X (yH D ad ac o cO gg) A b_L_about 4 RL (wH mt_L_about hh_about :: TT) rmh (some .int) := hX
  show jW l X (yH D ad ac o cO gg) A 4 0 0 (k0 X) (jQh X D ad ac o cO A false (o_about M x)) σ 0 [(0, .ref (ad 20)), (1, .int x), (2, .ref o)] []
  have hc := t_N_about htr (D := D) (ad := ad) (ac := ac) σ M hI hM x
  have hk := cd_about M x
  generalize o_about M x = q at hc hk ⊢
  refine jx_aload_n (pc := 0) hX d_L_about_0 rfl rfl ?_
  refine jx_iconst (pc := 1) hX (v := 0) d_L_about_1 rfl ?_
  refine jx_aload_n (pc := 2) hX d_L_about_2 rfl rfl ?_
  refine jx_iload_n (pc := 3) hX d_L_about_3 rfl rfl ?_
  by_cases h0 : q.1 = 0
  · refine jx_callR (pc := 4) hX ho ch_about rfl hc h0 ⟨rfl, rfl, (Nat.le_of_ble_eq_true rfl), (Nat.le_of_ble_eq_true rfl)⟩ ⟨(Nat.le_of_ble_eq_true rfl), (Nat.le_of_ble_eq_true rfl)⟩ rfl rfl (Nat.le_of_ble_eq_true rfl) d_L_about_4 (fun u hu => ?_)
    refine jx_i2l (pc := 7) hX d_L_about_7 ?_
    refine jx_last (pc := 8) hX d_L_about_8 (fun hX => ?_)
    refine jx_goto (pc := 9) hX 15 d_L_about_9 rfl ?_
    refine jx_iconst (pc := 15) hX (v := 0) d_L_about_15 rfl ?_
    exact jx_iretH (pc := 16) hX d_L_about_16 (⟨h0.symm, fun _ _ => rfl, hu⟩)
  · have hk := hk.resolve_left h0
    refine jx_callT (pc := 4) hX ho ch_about rfl hc h0 ⟨rfl, rfl, (Nat.le_of_ble_eq_true rfl), (Nat.le_of_ble_eq_true rfl)⟩ ⟨(Nat.le_of_ble_eq_true rfl), (Nat.le_of_ble_eq_true rfl)⟩ rfl rfl (Nat.le_of_ble_eq_true rfl) d_L_about_4 (by rw [hk.1, exN_1]; exact jFind_1 hX ho htab (by decide) (by decide) lk_cIA ng_cIA) (fun x9 => ?_)
    refine jx_astore_n (pc := 12) hX d_L_about_12 rfl (by decide) (L' := [(0, _), (1, _), (2, _), (3, _)]) rfl ?_
    refine jx_iconst (pc := 13) hX (v := 1) d_L_about_13 rfl ?_
    exact jx_iretH (pc := 14) hX d_L_about_14 (psH_1 hk (by decide) hM)
theorem ch_settle : jcV TT RL 56 mt_N_settle 1 := ⟨TT_good, q_522, q_519, q_520, q_521, q_1, by decide, by decide, by decide +kernel⟩
abbrev mt_L_settle : Mt := (y_L_settle, b_L_settle, 4, (some .int))
abbrev hh_settle : List (Nat × Nat × Nat × Nat) := [(0, 9, 12, 13)]
set_option maxRecDepth 100000 in
set_option maxHeartbeats 4000000 in
theorem t_L_settle {l : Launch} (htr : l.stackTraces = false) {D : va_G} {ad : Nat → Nat} {ac : Nat → ClassId} {o : Nat} {cO : ClassId} {gg : Nat → Int64} (σ : St) (M : Ms) (hI : Inv M) (hM : repC σ M) (x : Int32) : jMh l mt_L_settle hh_settle D ad ac o cO gg rmh [.ref (ad 20), .int x, .ref o] σ false (o_settle M x) := by
  refine jMh_of (by decide) (Nat.le_of_ble_eq_true rfl) (List.forall_mem_cons.mpr ⟨rfl, List.forall_mem_cons.mpr ⟨rfl, List.forall_mem_cons.mpr ⟨rfl, fun _ h => absurd h List.not_mem_nil⟩⟩⟩) ?_
  intro X A hX ho hnc htab
  have hX : jX X (yH D ad ac o cO gg) A b_L_settle 4 RL (wH mt_L_settle hh_settle :: TT) rmh (some .int) := hX
  show jW l X (yH D ad ac o cO gg) A 4 0 0 (k0 X) (jQh X D ad ac o cO A false (o_settle M x)) σ 0 [(0, .ref (ad 20)), (1, .int x), (2, .ref o)] []
  have hc := t_N_settle htr (D := D) (ad := ad) (ac := ac) σ M hI hM x
  have hk := cd_settle M x
  generalize o_settle M x = q at hc hk ⊢
  refine jx_aload_n (pc := 0) hX d_L_settle_0 rfl rfl ?_
  refine jx_iconst (pc := 1) hX (v := 0) d_L_settle_1 rfl ?_
  refine jx_aload_n (pc := 2) hX d_L_settle_2 rfl rfl ?_
  refine jx_iload_n (pc := 3) hX d_L_settle_3 rfl rfl ?_
  by_cases h0 : q.1 = 0
  · refine jx_callR (pc := 4) hX ho ch_settle rfl hc h0 ⟨rfl, rfl, (Nat.le_of_ble_eq_true rfl), (Nat.le_of_ble_eq_true rfl)⟩ ⟨(Nat.le_of_ble_eq_true rfl), (Nat.le_of_ble_eq_true rfl)⟩ rfl rfl (Nat.le_of_ble_eq_true rfl) d_L_settle_4 (fun u hu => ?_)
    refine jx_i2l (pc := 7) hX d_L_settle_7 ?_
    refine jx_last (pc := 8) hX d_L_settle_8 (fun hX => ?_)
    refine jx_goto (pc := 9) hX 15 d_L_settle_9 rfl ?_
    refine jx_iconst (pc := 15) hX (v := 0) d_L_settle_15 rfl ?_
    exact jx_iretH (pc := 16) hX d_L_settle_16 (⟨h0.symm, fun _ _ => rfl, hu⟩)
  · have hk := hk.resolve_left h0
    refine jx_callT (pc := 4) hX ho ch_settle rfl hc h0 ⟨rfl, rfl, (Nat.le_of_ble_eq_true rfl), (Nat.le_of_ble_eq_true rfl)⟩ ⟨(Nat.le_of_ble_eq_true rfl), (Nat.le_of_ble_eq_true rfl)⟩ rfl rfl (Nat.le_of_ble_eq_true rfl) d_L_settle_4 (by rw [hk.1, exN_1]; exact jFind_1 hX ho htab (by decide) (by decide) lk_cIA ng_cIA) (fun x9 => ?_)
    refine jx_astore_n (pc := 12) hX d_L_settle_12 rfl (by decide) (L' := [(0, _), (1, _), (2, _), (3, _)]) rfl ?_
    refine jx_iconst (pc := 13) hX (v := 1) d_L_settle_13 rfl ?_
    exact jx_iretH (pc := 14) hX d_L_settle_14 (psH_1 hk (by decide) hM)
