set_option maxRecDepth 100000 in
set_option maxHeartbeats 4000000 in
theorem t_M_balancer_a {l : Launch} {D : va_G} {ad : Nat → Nat} {ac : Nat → ClassId} (σ : St) (M : Ms) (hI : Inv M) (hM : repM σ M) (x y : Int32) (hx : inR x (nb M.w) = none) : jMi l (yM D ad ac) mt_M_balancer TT (rmk 6) [.ref (ad 19), .int x, .int y] σ (endM (o_balancer M x y)) := by
  obtain ⟨⟨⟨s0, s1, s2, s3⟩, h0, h1, h2, h3, h4, h5, h6, h7, h8, h9, h10, h11, h12, h13⟩, hpl⟩ := id hM
  obtain ⟨i1, i2, i3, i4, i5, i6, i7, i8⟩ := id hI
  obtain ⟨p1, p3, p4, p5, p6⟩ := id hpl
  have hw8 := i1.le
  have hw2 := i1.pos
  have hnb := nb_le M.w
  have hlft : M.left ≤ 40 := i5
  refine jMi_of (by decide) (Nat.le_of_ble_eq_true rfl) (List.forall_mem_cons.mpr ⟨rfl, List.forall_mem_cons.mpr ⟨rfl, List.forall_mem_cons.mpr ⟨rfl, fun _ h => absurd h List.not_mem_nil⟩⟩⟩) ?_
  intro X A hX
  have hX : jX X (yM D ad ac) A b_M_balancer 4 RM (mt_M_balancer.w :: TT) (rmk 6) (some .int) := hX
  show jW l X (yM D ad ac) A 4 0 0 kT (jQi X (yM D ad ac) A (endM (o_balancer M x y))) σ 0 [(0, .ref (ad 19)), (1, .int x), (2, .int y)] []
  refine jx_iload_n (pc := 0) hX d_M_balancer_0 rfl rfl ?_
  refine jx_iconst (pc := 1) hX (v := 0) d_M_balancer_1 rfl ?_
  refine jx_aload_n (pc := 2) hX d_M_balancer_2 rfl rfl ?_
  refine g_M_76 (pc := 3) hX d_M_balancer_3 ?_
  refine jx_top (y := nI (nb M.w)) (p1) ?_
  refine jx_iconst (pc := 6) hX (v := 1) d_M_balancer_6 rfl ?_
  refine jx_isub (pc := 7) hX d_M_balancer_7 ?_
  refine k_M_111 (pc := 8) hX (t_M_in σ x 0 (nI (nb M.w) - 1)) ⟨rfl, rfl, (Nat.le_of_ble_eq_true rfl), (Nat.le_of_ble_eq_true rfl)⟩ rfl rfl (Nat.le_of_ble_eq_true rfl) ⟨Nat.zero_le _, Nat.zero_le _⟩ d_M_balancer_8 (fun r hr => ?_)
  rw [in_f (by omega) hx] at hr
  subst hr
  refine jx_istore_n (pc := 11) hX d_M_balancer_11 rfl (by decide) (L' := [(0, _), (1, _), (2, _), (3, _)]) rfl ?_
  refine jx_aload_n (pc := 12) hX d_M_balancer_12 rfl rfl ?_
  refine jx_iload_n (pc := 13) hX d_M_balancer_13 rfl rfl ?_
  refine jx_if_ne (pc := 14) hX 21 d_M_balancer_14 rfl (fun hh => absurd (by decide) hh) (fun _ => ?_)
  refine jx_iconst (pc := 17) hX (v := 1) d_M_balancer_17 rfl ?_
  refine jx_goto (pc := 18) hX 22 d_M_balancer_18 rfl ?_
  refine jx_iload_n (pc := 22) hX d_M_balancer_22 rfl rfl ?_
  refine jx_if_eq (pc := 23) hX 39 d_M_balancer_23 rfl (fun _ => ?_) (fun hh => absurd (by decide) hh)
  refine jx_iconst (pc := 39) hX (v := 0) d_M_balancer_39 rfl ?_
  refine k_M_115 (pc := 40) hX (t_M_refuse σ true false) ⟨rfl, rfl, (Nat.le_of_ble_eq_true rfl), (Nat.le_of_ble_eq_true rfl)⟩ rfl rfl (Nat.le_of_ble_eq_true rfl) ⟨Nat.zero_le _, Nat.zero_le _⟩ d_M_balancer_40 (fun r u hru => ?_)
  obtain ⟨rfl, rfl⟩ := hru
  refine jx_if_eq (pc := 43) hX 48 d_M_balancer_43 rfl (fun hh => absurd hh (by decide)) (fun _ => ?_)
  refine jx_iconst (pc := 46) hX (v := 0) d_M_balancer_46 rfl ?_
  exact jx_iret (pc := 47) hX d_M_balancer_47 (by unfold o_balancer; rw [hx]; exact ⟨rfl, fun h => absurd h (show ¬ (1 : Int32) = 0 by decide), hM⟩)
set_option maxRecDepth 100000 in
set_option maxHeartbeats 4000000 in
theorem t_M_balancer_b {l : Launch} {D : va_G} {ad : Nat → Nat} {ac : Nat → ClassId} (σ : St) (M : Ms) (hI : Inv M) (hM : repM σ M) (x y : Int32) (j : Nat) (hx : inR x (nb M.w) = some j) (hy : inR y (4 + 1) = none) : jMi l (yM D ad ac) mt_M_balancer TT (rmk 6) [.ref (ad 19), .int x, .int y] σ (endM (o_balancer M x y)) := by
  obtain ⟨⟨⟨s0, s1, s2, s3⟩, h0, h1, h2, h3, h4, h5, h6, h7, h8, h9, h10, h11, h12, h13⟩, hpl⟩ := id hM
  obtain ⟨i1, i2, i3, i4, i5, i6, i7, i8⟩ := id hI
  obtain ⟨p1, p3, p4, p5, p6⟩ := id hpl
  have hw8 := i1.le
  have hw2 := i1.pos
  have hnb := nb_le M.w
  have hlft : M.left ≤ 40 := i5
  refine jMi_of (by decide) (Nat.le_of_ble_eq_true rfl) (List.forall_mem_cons.mpr ⟨rfl, List.forall_mem_cons.mpr ⟨rfl, List.forall_mem_cons.mpr ⟨rfl, fun _ h => absurd h List.not_mem_nil⟩⟩⟩) ?_
  intro X A hX
  have hX : jX X (yM D ad ac) A b_M_balancer 4 RM (mt_M_balancer.w :: TT) (rmk 6) (some .int) := hX
  show jW l X (yM D ad ac) A 4 0 0 kT (jQi X (yM D ad ac) A (endM (o_balancer M x y))) σ 0 [(0, .ref (ad 19)), (1, .int x), (2, .int y)] []
  refine jx_iload_n (pc := 0) hX d_M_balancer_0 rfl rfl ?_
  refine jx_iconst (pc := 1) hX (v := 0) d_M_balancer_1 rfl ?_
  refine jx_aload_n (pc := 2) hX d_M_balancer_2 rfl rfl ?_
  refine g_M_76 (pc := 3) hX d_M_balancer_3 ?_
  refine jx_top (y := nI (nb M.w)) (p1) ?_
  refine jx_iconst (pc := 6) hX (v := 1) d_M_balancer_6 rfl ?_
  refine jx_isub (pc := 7) hX d_M_balancer_7 ?_
  refine k_M_111 (pc := 8) hX (t_M_in σ x 0 (nI (nb M.w) - 1)) ⟨rfl, rfl, (Nat.le_of_ble_eq_true rfl), (Nat.le_of_ble_eq_true rfl)⟩ rfl rfl (Nat.le_of_ble_eq_true rfl) ⟨Nat.zero_le _, Nat.zero_le _⟩ d_M_balancer_8 (fun r hr => ?_)
  rw [in_t (by omega) hx] at hr
  subst hr
  refine jx_istore_n (pc := 11) hX d_M_balancer_11 rfl (by decide) (L' := [(0, _), (1, _), (2, _), (3, _)]) rfl ?_
  refine jx_aload_n (pc := 12) hX d_M_balancer_12 rfl rfl ?_
  refine jx_iload_n (pc := 13) hX d_M_balancer_13 rfl rfl ?_
  refine jx_if_ne (pc := 14) hX 21 d_M_balancer_14 rfl (fun _ => ?_) (fun hh => absurd hh (by decide))
  refine jx_iconst (pc := 21) hX (v := 0) d_M_balancer_21 rfl ?_
  refine jx_iload_n (pc := 22) hX d_M_balancer_22 rfl rfl ?_
  refine jx_if_eq (pc := 23) hX 39 d_M_balancer_23 rfl (fun hh => absurd hh (by decide)) (fun _ => ?_)
  refine jx_iload_n (pc := 26) hX d_M_balancer_26 rfl rfl ?_
  refine jx_iconst (pc := 27) hX (v := 0) d_M_balancer_27 rfl ?_
  refine jx_iconst (pc := 28) hX (v := 4) d_M_balancer_28 rfl ?_
  refine k_M_111 (pc := 29) hX (t_M_in σ y 0 (nI 4)) ⟨rfl, rfl, (Nat.le_of_ble_eq_true rfl), (Nat.le_of_ble_eq_true rfl)⟩ rfl rfl (Nat.le_of_ble_eq_true rfl) ⟨Nat.zero_le _, Nat.zero_le _⟩ d_M_balancer_29 (fun r hr => ?_)
  rw [in_fc (by decide) hy] at hr
  subst hr
  refine jx_if_ne (pc := 32) hX 39 d_M_balancer_32 rfl (fun hh => absurd (by decide) hh) (fun _ => ?_)
  refine jx_iconst (pc := 35) hX (v := 1) d_M_balancer_35 rfl ?_
  refine jx_goto (pc := 36) hX 40 d_M_balancer_36 rfl ?_
  refine k_M_115 (pc := 40) hX (t_M_refuse σ false true) ⟨rfl, rfl, (Nat.le_of_ble_eq_true rfl), (Nat.le_of_ble_eq_true rfl)⟩ rfl rfl (Nat.le_of_ble_eq_true rfl) ⟨Nat.zero_le _, Nat.zero_le _⟩ d_M_balancer_40 (fun r u hru => ?_)
  obtain ⟨rfl, rfl⟩ := hru
  refine jx_if_eq (pc := 43) hX 48 d_M_balancer_43 rfl (fun hh => absurd hh (by decide)) (fun _ => ?_)
  refine jx_iconst (pc := 46) hX (v := 0) d_M_balancer_46 rfl ?_
  exact jx_iret (pc := 47) hX d_M_balancer_47 (by unfold o_balancer; rw [hx, show inR y 5 = none from hy]; exact ⟨rfl, fun h => absurd h (show ¬ (2 : Int32) = 0 by decide), hM⟩)
set_option maxRecDepth 100000 in
set_option maxHeartbeats 4000000 in
theorem t_M_balancer_c0 {l : Launch} {D : va_G} {ad : Nat → Nat} {ac : Nat → ClassId} (σ : St) (M : Ms) (hI : Inv M) (hM : repM σ M) (j : Nat) (hj : j < nb M.w) : jMi l (yM D ad ac) mt_M_balancer TT (rmk 6) [.ref (ad 19), .int (nI j), .int (nI 0)] σ (endM (o_balancer M (nI j) (nI 0))) := by
  obtain ⟨⟨⟨s0, s1, s2, s3⟩, h0, h1, h2, h3, h4, h5, h6, h7, h8, h9, h10, h11, h12, h13⟩, hpl⟩ := id hM
  obtain ⟨i1, i2, i3, i4, i5, i6, i7, i8⟩ := id hI
  obtain ⟨p1, p3, p4, p5, p6⟩ := id hpl
  have hw8 := i1.le
  have hw2 := i1.pos
  have hnb := nb_le M.w
  have hlft : M.left ≤ 40 := i5
  refine jMi_of (by decide) (Nat.le_of_ble_eq_true rfl) (List.forall_mem_cons.mpr ⟨rfl, List.forall_mem_cons.mpr ⟨rfl, List.forall_mem_cons.mpr ⟨rfl, fun _ h => absurd h List.not_mem_nil⟩⟩⟩) ?_
  intro X A hX
  have hX : jX X (yM D ad ac) A b_M_balancer 4 RM (mt_M_balancer.w :: TT) (rmk 6) (some .int) := hX
  show jW l X (yM D ad ac) A 4 0 0 kT (jQi X (yM D ad ac) A (endM (o_balancer M (nI j) (nI 0)))) σ 0 [(0, .ref (ad 19)), (1, .int (nI j)), (2, .int (nI 0))] []
  refine jx_iload_n (pc := 0) hX d_M_balancer_0 rfl rfl ?_
  refine jx_iconst (pc := 1) hX (v := 0) d_M_balancer_1 rfl ?_
  refine jx_aload_n (pc := 2) hX d_M_balancer_2 rfl rfl ?_
  refine g_M_76 (pc := 3) hX d_M_balancer_3 ?_
  refine jx_top (y := nI (nb M.w)) (p1) ?_
  refine jx_iconst (pc := 6) hX (v := 1) d_M_balancer_6 rfl ?_
  refine jx_isub (pc := 7) hX d_M_balancer_7 ?_
  refine k_M_111 (pc := 8) hX (t_M_in σ (nI j) 0 (nI (nb M.w) - 1)) ⟨rfl, rfl, (Nat.le_of_ble_eq_true rfl), (Nat.le_of_ble_eq_true rfl)⟩ rfl rfl (Nat.le_of_ble_eq_true rfl) ⟨Nat.zero_le _, Nat.zero_le _⟩ d_M_balancer_8 (fun r hr => ?_)
  rw [in_t (by omega) (inR_nI hj (by omega))] at hr
  subst hr
  refine jx_istore_n (pc := 11) hX d_M_balancer_11 rfl (by decide) (L' := [(0, _), (1, _), (2, _), (3, _)]) rfl ?_
  refine jx_aload_n (pc := 12) hX d_M_balancer_12 rfl rfl ?_
  refine jx_iload_n (pc := 13) hX d_M_balancer_13 rfl rfl ?_
  refine jx_if_ne (pc := 14) hX 21 d_M_balancer_14 rfl (fun _ => ?_) (fun hh => absurd hh (by decide))
  refine jx_iconst (pc := 21) hX (v := 0) d_M_balancer_21 rfl ?_
  refine jx_iload_n (pc := 22) hX d_M_balancer_22 rfl rfl ?_
  refine jx_if_eq (pc := 23) hX 39 d_M_balancer_23 rfl (fun hh => absurd hh (by decide)) (fun _ => ?_)
  refine jx_iload_n (pc := 26) hX d_M_balancer_26 rfl rfl ?_
  refine jx_iconst (pc := 27) hX (v := 0) d_M_balancer_27 rfl ?_
  refine jx_iconst (pc := 28) hX (v := 4) d_M_balancer_28 rfl ?_
  refine k_M_111 (pc := 29) hX (t_M_in σ (nI 0) 0 (nI 4)) ⟨rfl, rfl, (Nat.le_of_ble_eq_true rfl), (Nat.le_of_ble_eq_true rfl)⟩ rfl rfl (Nat.le_of_ble_eq_true rfl) ⟨Nat.zero_le _, Nat.zero_le _⟩ d_M_balancer_29 (fun r hr => ?_)
  rw [in_tc (by decide) (inR_nI (show 0 < 4 + 1 by decide) (by decide))] at hr
  subst hr
  refine jx_if_ne (pc := 32) hX 39 d_M_balancer_32 rfl (fun _ => ?_) (fun hh => absurd hh (by decide))
  refine jx_iconst (pc := 39) hX (v := 0) d_M_balancer_39 rfl ?_
  refine k_M_115 (pc := 40) hX (t_M_refuse σ false false) ⟨rfl, rfl, (Nat.le_of_ble_eq_true rfl), (Nat.le_of_ble_eq_true rfl)⟩ rfl rfl (Nat.le_of_ble_eq_true rfl) ⟨Nat.zero_le _, Nat.zero_le _⟩ d_M_balancer_40 (fun r u hru => ?_)
  obtain ⟨rfl, rfl⟩ := hru
  refine jx_if_eq (pc := 43) hX 48 d_M_balancer_43 rfl (fun _ => ?_) (fun hh => absurd (by decide) hh)
  refine jx_iload_n (pc := 48) hX d_M_balancer_48 rfl rfl ?_
  refine jx_tsIn (pc := 49) hX 80 d_M_balancer_49 (by decide) (by decide) rfl rfl ?_
  refine jx_aload_n (pc := 80) hX d_M_balancer_80 rfl rfl ?_
  refine g_M_7 (pc := 81) hX d_M_balancer_81 ?_
  refine jx_iload_n (pc := 84) hX d_M_balancer_84 rfl rfl ?_
  refine jx_iald (pc := 85) hX oM_0 _ rfl (show j < 24 by omega) d_M_balancer_85 ?_
  refine jx_top (y := nI (uU M.w j)) (p3 j hj) ?_
  exact jx_iret (pc := 86) hX d_M_balancer_86 (by unfold o_balancer; rw [inR_nI hj (by omega), inR_nI (show 0 < 5 by decide) (by decide)]; exact ⟨rfl, fun _ => rfl, hM⟩)
set_option maxRecDepth 100000 in
set_option maxHeartbeats 4000000 in
theorem t_M_balancer_c1 {l : Launch} {D : va_G} {ad : Nat → Nat} {ac : Nat → ClassId} (σ : St) (M : Ms) (hI : Inv M) (hM : repM σ M) (j : Nat) (hj : j < nb M.w) : jMi l (yM D ad ac) mt_M_balancer TT (rmk 6) [.ref (ad 19), .int (nI j), .int (nI 1)] σ (endM (o_balancer M (nI j) (nI 1))) := by
  obtain ⟨⟨⟨s0, s1, s2, s3⟩, h0, h1, h2, h3, h4, h5, h6, h7, h8, h9, h10, h11, h12, h13⟩, hpl⟩ := id hM
  obtain ⟨i1, i2, i3, i4, i5, i6, i7, i8⟩ := id hI
  obtain ⟨p1, p3, p4, p5, p6⟩ := id hpl
  have hw8 := i1.le
  have hw2 := i1.pos
  have hnb := nb_le M.w
  have hlft : M.left ≤ 40 := i5
  refine jMi_of (by decide) (Nat.le_of_ble_eq_true rfl) (List.forall_mem_cons.mpr ⟨rfl, List.forall_mem_cons.mpr ⟨rfl, List.forall_mem_cons.mpr ⟨rfl, fun _ h => absurd h List.not_mem_nil⟩⟩⟩) ?_
  intro X A hX
  have hX : jX X (yM D ad ac) A b_M_balancer 4 RM (mt_M_balancer.w :: TT) (rmk 6) (some .int) := hX
  show jW l X (yM D ad ac) A 4 0 0 kT (jQi X (yM D ad ac) A (endM (o_balancer M (nI j) (nI 1)))) σ 0 [(0, .ref (ad 19)), (1, .int (nI j)), (2, .int (nI 1))] []
  refine jx_iload_n (pc := 0) hX d_M_balancer_0 rfl rfl ?_
  refine jx_iconst (pc := 1) hX (v := 0) d_M_balancer_1 rfl ?_
  refine jx_aload_n (pc := 2) hX d_M_balancer_2 rfl rfl ?_
  refine g_M_76 (pc := 3) hX d_M_balancer_3 ?_
  refine jx_top (y := nI (nb M.w)) (p1) ?_
  refine jx_iconst (pc := 6) hX (v := 1) d_M_balancer_6 rfl ?_
  refine jx_isub (pc := 7) hX d_M_balancer_7 ?_
  refine k_M_111 (pc := 8) hX (t_M_in σ (nI j) 0 (nI (nb M.w) - 1)) ⟨rfl, rfl, (Nat.le_of_ble_eq_true rfl), (Nat.le_of_ble_eq_true rfl)⟩ rfl rfl (Nat.le_of_ble_eq_true rfl) ⟨Nat.zero_le _, Nat.zero_le _⟩ d_M_balancer_8 (fun r hr => ?_)
  rw [in_t (by omega) (inR_nI hj (by omega))] at hr
  subst hr
  refine jx_istore_n (pc := 11) hX d_M_balancer_11 rfl (by decide) (L' := [(0, _), (1, _), (2, _), (3, _)]) rfl ?_
  refine jx_aload_n (pc := 12) hX d_M_balancer_12 rfl rfl ?_
  refine jx_iload_n (pc := 13) hX d_M_balancer_13 rfl rfl ?_
  refine jx_if_ne (pc := 14) hX 21 d_M_balancer_14 rfl (fun _ => ?_) (fun hh => absurd hh (by decide))
  refine jx_iconst (pc := 21) hX (v := 0) d_M_balancer_21 rfl ?_
  refine jx_iload_n (pc := 22) hX d_M_balancer_22 rfl rfl ?_
  refine jx_if_eq (pc := 23) hX 39 d_M_balancer_23 rfl (fun hh => absurd hh (by decide)) (fun _ => ?_)
  refine jx_iload_n (pc := 26) hX d_M_balancer_26 rfl rfl ?_
  refine jx_iconst (pc := 27) hX (v := 0) d_M_balancer_27 rfl ?_
  refine jx_iconst (pc := 28) hX (v := 4) d_M_balancer_28 rfl ?_
  refine k_M_111 (pc := 29) hX (t_M_in σ (nI 1) 0 (nI 4)) ⟨rfl, rfl, (Nat.le_of_ble_eq_true rfl), (Nat.le_of_ble_eq_true rfl)⟩ rfl rfl (Nat.le_of_ble_eq_true rfl) ⟨Nat.zero_le _, Nat.zero_le _⟩ d_M_balancer_29 (fun r hr => ?_)
  rw [in_tc (by decide) (inR_nI (show 1 < 4 + 1 by decide) (by decide))] at hr
  subst hr
  refine jx_if_ne (pc := 32) hX 39 d_M_balancer_32 rfl (fun _ => ?_) (fun hh => absurd hh (by decide))
  refine jx_iconst (pc := 39) hX (v := 0) d_M_balancer_39 rfl ?_
  refine k_M_115 (pc := 40) hX (t_M_refuse σ false false) ⟨rfl, rfl, (Nat.le_of_ble_eq_true rfl), (Nat.le_of_ble_eq_true rfl)⟩ rfl rfl (Nat.le_of_ble_eq_true rfl) ⟨Nat.zero_le _, Nat.zero_le _⟩ d_M_balancer_40 (fun r u hru => ?_)
  obtain ⟨rfl, rfl⟩ := hru
  refine jx_if_eq (pc := 43) hX 48 d_M_balancer_43 rfl (fun _ => ?_) (fun hh => absurd (by decide) hh)
  refine jx_iload_n (pc := 48) hX d_M_balancer_48 rfl rfl ?_
  refine jx_tsIn (pc := 49) hX 87 d_M_balancer_49 (by decide) (by decide) rfl rfl ?_
  refine jx_aload_n (pc := 87) hX d_M_balancer_87 rfl rfl ?_
  refine g_M_13 (pc := 88) hX d_M_balancer_88 ?_
  refine jx_iload_n (pc := 91) hX d_M_balancer_91 rfl rfl ?_
  refine jx_iald (pc := 92) hX oM_1 _ rfl (show j < 24 by omega) d_M_balancer_92 ?_
  refine jx_top (y := nI (uL M.w j)) (p4 j hj) ?_
  exact jx_iret (pc := 93) hX d_M_balancer_93 (by unfold o_balancer; rw [inR_nI hj (by omega), inR_nI (show 1 < 5 by decide) (by decide)]; exact ⟨rfl, fun _ => rfl, hM⟩)
set_option maxRecDepth 100000 in
set_option maxHeartbeats 4000000 in
theorem t_M_balancer_c2 {l : Launch} {D : va_G} {ad : Nat → Nat} {ac : Nat → ClassId} (σ : St) (M : Ms) (hI : Inv M) (hM : repM σ M) (j : Nat) (hj : j < nb M.w) : jMi l (yM D ad ac) mt_M_balancer TT (rmk 6) [.ref (ad 19), .int (nI j), .int (nI 2)] σ (endM (o_balancer M (nI j) (nI 2))) := by
  obtain ⟨⟨⟨s0, s1, s2, s3⟩, h0, h1, h2, h3, h4, h5, h6, h7, h8, h9, h10, h11, h12, h13⟩, hpl⟩ := id hM
  obtain ⟨i1, i2, i3, i4, i5, i6, i7, i8⟩ := id hI
  obtain ⟨p1, p3, p4, p5, p6⟩ := id hpl
  have hw8 := i1.le
  have hw2 := i1.pos
  have hnb := nb_le M.w
  have hlft : M.left ≤ 40 := i5
  refine jMi_of (by decide) (Nat.le_of_ble_eq_true rfl) (List.forall_mem_cons.mpr ⟨rfl, List.forall_mem_cons.mpr ⟨rfl, List.forall_mem_cons.mpr ⟨rfl, fun _ h => absurd h List.not_mem_nil⟩⟩⟩) ?_
  intro X A hX
  have hX : jX X (yM D ad ac) A b_M_balancer 4 RM (mt_M_balancer.w :: TT) (rmk 6) (some .int) := hX
  show jW l X (yM D ad ac) A 4 0 0 kT (jQi X (yM D ad ac) A (endM (o_balancer M (nI j) (nI 2)))) σ 0 [(0, .ref (ad 19)), (1, .int (nI j)), (2, .int (nI 2))] []
  refine jx_iload_n (pc := 0) hX d_M_balancer_0 rfl rfl ?_
  refine jx_iconst (pc := 1) hX (v := 0) d_M_balancer_1 rfl ?_
  refine jx_aload_n (pc := 2) hX d_M_balancer_2 rfl rfl ?_
  refine g_M_76 (pc := 3) hX d_M_balancer_3 ?_
  refine jx_top (y := nI (nb M.w)) (p1) ?_
  refine jx_iconst (pc := 6) hX (v := 1) d_M_balancer_6 rfl ?_
  refine jx_isub (pc := 7) hX d_M_balancer_7 ?_
  refine k_M_111 (pc := 8) hX (t_M_in σ (nI j) 0 (nI (nb M.w) - 1)) ⟨rfl, rfl, (Nat.le_of_ble_eq_true rfl), (Nat.le_of_ble_eq_true rfl)⟩ rfl rfl (Nat.le_of_ble_eq_true rfl) ⟨Nat.zero_le _, Nat.zero_le _⟩ d_M_balancer_8 (fun r hr => ?_)
  rw [in_t (by omega) (inR_nI hj (by omega))] at hr
  subst hr
  refine jx_istore_n (pc := 11) hX d_M_balancer_11 rfl (by decide) (L' := [(0, _), (1, _), (2, _), (3, _)]) rfl ?_
  refine jx_aload_n (pc := 12) hX d_M_balancer_12 rfl rfl ?_
  refine jx_iload_n (pc := 13) hX d_M_balancer_13 rfl rfl ?_
  refine jx_if_ne (pc := 14) hX 21 d_M_balancer_14 rfl (fun _ => ?_) (fun hh => absurd hh (by decide))
  refine jx_iconst (pc := 21) hX (v := 0) d_M_balancer_21 rfl ?_
  refine jx_iload_n (pc := 22) hX d_M_balancer_22 rfl rfl ?_
  refine jx_if_eq (pc := 23) hX 39 d_M_balancer_23 rfl (fun hh => absurd hh (by decide)) (fun _ => ?_)
  refine jx_iload_n (pc := 26) hX d_M_balancer_26 rfl rfl ?_
  refine jx_iconst (pc := 27) hX (v := 0) d_M_balancer_27 rfl ?_
  refine jx_iconst (pc := 28) hX (v := 4) d_M_balancer_28 rfl ?_
  refine k_M_111 (pc := 29) hX (t_M_in σ (nI 2) 0 (nI 4)) ⟨rfl, rfl, (Nat.le_of_ble_eq_true rfl), (Nat.le_of_ble_eq_true rfl)⟩ rfl rfl (Nat.le_of_ble_eq_true rfl) ⟨Nat.zero_le _, Nat.zero_le _⟩ d_M_balancer_29 (fun r hr => ?_)
  rw [in_tc (by decide) (inR_nI (show 2 < 4 + 1 by decide) (by decide))] at hr
  subst hr
  refine jx_if_ne (pc := 32) hX 39 d_M_balancer_32 rfl (fun _ => ?_) (fun hh => absurd hh (by decide))
  refine jx_iconst (pc := 39) hX (v := 0) d_M_balancer_39 rfl ?_
  refine k_M_115 (pc := 40) hX (t_M_refuse σ false false) ⟨rfl, rfl, (Nat.le_of_ble_eq_true rfl), (Nat.le_of_ble_eq_true rfl)⟩ rfl rfl (Nat.le_of_ble_eq_true rfl) ⟨Nat.zero_le _, Nat.zero_le _⟩ d_M_balancer_40 (fun r u hru => ?_)
  obtain ⟨rfl, rfl⟩ := hru
  refine jx_if_eq (pc := 43) hX 48 d_M_balancer_43 rfl (fun _ => ?_) (fun hh => absurd (by decide) hh)
  refine jx_iload_n (pc := 48) hX d_M_balancer_48 rfl rfl ?_
  refine jx_tsIn (pc := 49) hX 94 d_M_balancer_49 (by decide) (by decide) rfl rfl ?_
  refine jx_aload_n (pc := 94) hX d_M_balancer_94 rfl rfl ?_
  refine g_M_16 (pc := 95) hX d_M_balancer_95 ?_
  refine jx_iload_n (pc := 98) hX d_M_balancer_98 rfl rfl ?_
  refine jx_iald (pc := 99) hX oM_2 _ rfl (show j < 24 by omega) d_M_balancer_99 ?_
  refine jx_top (y := nI (uC M.w j)) (p5 j hj) ?_
  exact jx_iret (pc := 100) hX d_M_balancer_100 (by unfold o_balancer; rw [inR_nI hj (by omega), inR_nI (show 2 < 5 by decide) (by decide)]; exact ⟨rfl, fun _ => rfl, hM⟩)
set_option maxRecDepth 100000 in
set_option maxHeartbeats 4000000 in
theorem t_M_balancer_c3 {l : Launch} {D : va_G} {ad : Nat → Nat} {ac : Nat → ClassId} (σ : St) (M : Ms) (hI : Inv M) (hM : repM σ M) (j : Nat) (hj : j < nb M.w) : jMi l (yM D ad ac) mt_M_balancer TT (rmk 6) [.ref (ad 19), .int (nI j), .int (nI 3)] σ (endM (o_balancer M (nI j) (nI 3))) := by
  obtain ⟨⟨⟨s0, s1, s2, s3⟩, h0, h1, h2, h3, h4, h5, h6, h7, h8, h9, h10, h11, h12, h13⟩, hpl⟩ := id hM
  obtain ⟨i1, i2, i3, i4, i5, i6, i7, i8⟩ := id hI
  obtain ⟨p1, p3, p4, p5, p6⟩ := id hpl
  have hw8 := i1.le
  have hw2 := i1.pos
  have hnb := nb_le M.w
  have hlft : M.left ≤ 40 := i5
  refine jMi_of (by decide) (Nat.le_of_ble_eq_true rfl) (List.forall_mem_cons.mpr ⟨rfl, List.forall_mem_cons.mpr ⟨rfl, List.forall_mem_cons.mpr ⟨rfl, fun _ h => absurd h List.not_mem_nil⟩⟩⟩) ?_
  intro X A hX
  have hX : jX X (yM D ad ac) A b_M_balancer 4 RM (mt_M_balancer.w :: TT) (rmk 6) (some .int) := hX
  show jW l X (yM D ad ac) A 4 0 0 kT (jQi X (yM D ad ac) A (endM (o_balancer M (nI j) (nI 3)))) σ 0 [(0, .ref (ad 19)), (1, .int (nI j)), (2, .int (nI 3))] []
  refine jx_iload_n (pc := 0) hX d_M_balancer_0 rfl rfl ?_
  refine jx_iconst (pc := 1) hX (v := 0) d_M_balancer_1 rfl ?_
  refine jx_aload_n (pc := 2) hX d_M_balancer_2 rfl rfl ?_
  refine g_M_76 (pc := 3) hX d_M_balancer_3 ?_
  refine jx_top (y := nI (nb M.w)) (p1) ?_
  refine jx_iconst (pc := 6) hX (v := 1) d_M_balancer_6 rfl ?_
  refine jx_isub (pc := 7) hX d_M_balancer_7 ?_
  refine k_M_111 (pc := 8) hX (t_M_in σ (nI j) 0 (nI (nb M.w) - 1)) ⟨rfl, rfl, (Nat.le_of_ble_eq_true rfl), (Nat.le_of_ble_eq_true rfl)⟩ rfl rfl (Nat.le_of_ble_eq_true rfl) ⟨Nat.zero_le _, Nat.zero_le _⟩ d_M_balancer_8 (fun r hr => ?_)
  rw [in_t (by omega) (inR_nI hj (by omega))] at hr
  subst hr
  refine jx_istore_n (pc := 11) hX d_M_balancer_11 rfl (by decide) (L' := [(0, _), (1, _), (2, _), (3, _)]) rfl ?_
  refine jx_aload_n (pc := 12) hX d_M_balancer_12 rfl rfl ?_
  refine jx_iload_n (pc := 13) hX d_M_balancer_13 rfl rfl ?_
  refine jx_if_ne (pc := 14) hX 21 d_M_balancer_14 rfl (fun _ => ?_) (fun hh => absurd hh (by decide))
  refine jx_iconst (pc := 21) hX (v := 0) d_M_balancer_21 rfl ?_
  refine jx_iload_n (pc := 22) hX d_M_balancer_22 rfl rfl ?_
  refine jx_if_eq (pc := 23) hX 39 d_M_balancer_23 rfl (fun hh => absurd hh (by decide)) (fun _ => ?_)
  refine jx_iload_n (pc := 26) hX d_M_balancer_26 rfl rfl ?_
  refine jx_iconst (pc := 27) hX (v := 0) d_M_balancer_27 rfl ?_
  refine jx_iconst (pc := 28) hX (v := 4) d_M_balancer_28 rfl ?_
  refine k_M_111 (pc := 29) hX (t_M_in σ (nI 3) 0 (nI 4)) ⟨rfl, rfl, (Nat.le_of_ble_eq_true rfl), (Nat.le_of_ble_eq_true rfl)⟩ rfl rfl (Nat.le_of_ble_eq_true rfl) ⟨Nat.zero_le _, Nat.zero_le _⟩ d_M_balancer_29 (fun r hr => ?_)
  rw [in_tc (by decide) (inR_nI (show 3 < 4 + 1 by decide) (by decide))] at hr
  subst hr
  refine jx_if_ne (pc := 32) hX 39 d_M_balancer_32 rfl (fun _ => ?_) (fun hh => absurd hh (by decide))
  refine jx_iconst (pc := 39) hX (v := 0) d_M_balancer_39 rfl ?_
  refine k_M_115 (pc := 40) hX (t_M_refuse σ false false) ⟨rfl, rfl, (Nat.le_of_ble_eq_true rfl), (Nat.le_of_ble_eq_true rfl)⟩ rfl rfl (Nat.le_of_ble_eq_true rfl) ⟨Nat.zero_le _, Nat.zero_le _⟩ d_M_balancer_40 (fun r u hru => ?_)
  obtain ⟨rfl, rfl⟩ := hru
  refine jx_if_eq (pc := 43) hX 48 d_M_balancer_43 rfl (fun _ => ?_) (fun hh => absurd (by decide) hh)
  refine jx_iload_n (pc := 48) hX d_M_balancer_48 rfl rfl ?_
  refine jx_tsIn (pc := 49) hX 101 d_M_balancer_49 (by decide) (by decide) rfl rfl ?_
  refine jx_aload_n (pc := 101) hX d_M_balancer_101 rfl rfl ?_
  refine g_M_16 (pc := 102) hX d_M_balancer_102 ?_
  refine jx_iload_n (pc := 105) hX d_M_balancer_105 rfl rfl ?_
  refine jx_iald (pc := 106) hX oM_2 _ rfl (show j < 24 by omega) d_M_balancer_106 ?_
  refine jx_top (y := nI (uC M.w j)) (p5 j hj) ?_
  refine jx_aload_n (pc := 107) hX d_M_balancer_107 rfl rfl ?_
  refine g_M_96 (pc := 108) hX d_M_balancer_108 ?_
  refine jx_top (y := nI M.ns) (s1) ?_
  refine jx_irem (pc := 111) hX d_M_balancer_111 (nI_ne0 (by omega) (by omega)) ?_
  refine jx_top (y := nI (uC M.w j % M.ns)) (pk_rem (by have := uC_lt i1 hj; omega) (by omega) (by omega)) ?_
  exact jx_iret (pc := 112) hX d_M_balancer_112 (by unfold o_balancer; rw [inR_nI hj (by omega), inR_nI (show 3 < 5 by decide) (by decide)]; exact ⟨rfl, fun _ => rfl, hM⟩)
set_option maxRecDepth 100000 in
set_option maxHeartbeats 4000000 in
theorem t_M_balancer_c4 {l : Launch} {D : va_G} {ad : Nat → Nat} {ac : Nat → ClassId} (σ : St) (M : Ms) (hI : Inv M) (hM : repM σ M) (j : Nat) (hj : j < nb M.w) : jMi l (yM D ad ac) mt_M_balancer TT (rmk 6) [.ref (ad 19), .int (nI j), .int (nI 4)] σ (endM (o_balancer M (nI j) (nI 4))) := by
  obtain ⟨⟨⟨s0, s1, s2, s3⟩, h0, h1, h2, h3, h4, h5, h6, h7, h8, h9, h10, h11, h12, h13⟩, hpl⟩ := id hM
  obtain ⟨i1, i2, i3, i4, i5, i6, i7, i8⟩ := id hI
  obtain ⟨p1, p3, p4, p5, p6⟩ := id hpl
  have hw8 := i1.le
  have hw2 := i1.pos
  have hnb := nb_le M.w
  have hlft : M.left ≤ 40 := i5
  refine jMi_of (by decide) (Nat.le_of_ble_eq_true rfl) (List.forall_mem_cons.mpr ⟨rfl, List.forall_mem_cons.mpr ⟨rfl, List.forall_mem_cons.mpr ⟨rfl, fun _ h => absurd h List.not_mem_nil⟩⟩⟩) ?_
  intro X A hX
  have hX : jX X (yM D ad ac) A b_M_balancer 4 RM (mt_M_balancer.w :: TT) (rmk 6) (some .int) := hX
  show jW l X (yM D ad ac) A 4 0 0 kT (jQi X (yM D ad ac) A (endM (o_balancer M (nI j) (nI 4)))) σ 0 [(0, .ref (ad 19)), (1, .int (nI j)), (2, .int (nI 4))] []
  refine jx_iload_n (pc := 0) hX d_M_balancer_0 rfl rfl ?_
  refine jx_iconst (pc := 1) hX (v := 0) d_M_balancer_1 rfl ?_
  refine jx_aload_n (pc := 2) hX d_M_balancer_2 rfl rfl ?_
  refine g_M_76 (pc := 3) hX d_M_balancer_3 ?_
  refine jx_top (y := nI (nb M.w)) (p1) ?_
  refine jx_iconst (pc := 6) hX (v := 1) d_M_balancer_6 rfl ?_
  refine jx_isub (pc := 7) hX d_M_balancer_7 ?_
  refine k_M_111 (pc := 8) hX (t_M_in σ (nI j) 0 (nI (nb M.w) - 1)) ⟨rfl, rfl, (Nat.le_of_ble_eq_true rfl), (Nat.le_of_ble_eq_true rfl)⟩ rfl rfl (Nat.le_of_ble_eq_true rfl) ⟨Nat.zero_le _, Nat.zero_le _⟩ d_M_balancer_8 (fun r hr => ?_)
  rw [in_t (by omega) (inR_nI hj (by omega))] at hr
  subst hr
  refine jx_istore_n (pc := 11) hX d_M_balancer_11 rfl (by decide) (L' := [(0, _), (1, _), (2, _), (3, _)]) rfl ?_
  refine jx_aload_n (pc := 12) hX d_M_balancer_12 rfl rfl ?_
  refine jx_iload_n (pc := 13) hX d_M_balancer_13 rfl rfl ?_
  refine jx_if_ne (pc := 14) hX 21 d_M_balancer_14 rfl (fun _ => ?_) (fun hh => absurd hh (by decide))
  refine jx_iconst (pc := 21) hX (v := 0) d_M_balancer_21 rfl ?_
  refine jx_iload_n (pc := 22) hX d_M_balancer_22 rfl rfl ?_
  refine jx_if_eq (pc := 23) hX 39 d_M_balancer_23 rfl (fun hh => absurd hh (by decide)) (fun _ => ?_)
  refine jx_iload_n (pc := 26) hX d_M_balancer_26 rfl rfl ?_
  refine jx_iconst (pc := 27) hX (v := 0) d_M_balancer_27 rfl ?_
  refine jx_iconst (pc := 28) hX (v := 4) d_M_balancer_28 rfl ?_
  refine k_M_111 (pc := 29) hX (t_M_in σ (nI 4) 0 (nI 4)) ⟨rfl, rfl, (Nat.le_of_ble_eq_true rfl), (Nat.le_of_ble_eq_true rfl)⟩ rfl rfl (Nat.le_of_ble_eq_true rfl) ⟨Nat.zero_le _, Nat.zero_le _⟩ d_M_balancer_29 (fun r hr => ?_)
  rw [in_tc (by decide) (inR_nI (show 4 < 4 + 1 by decide) (by decide))] at hr
  subst hr
  refine jx_if_ne (pc := 32) hX 39 d_M_balancer_32 rfl (fun _ => ?_) (fun hh => absurd hh (by decide))
  refine jx_iconst (pc := 39) hX (v := 0) d_M_balancer_39 rfl ?_
  refine k_M_115 (pc := 40) hX (t_M_refuse σ false false) ⟨rfl, rfl, (Nat.le_of_ble_eq_true rfl), (Nat.le_of_ble_eq_true rfl)⟩ rfl rfl (Nat.le_of_ble_eq_true rfl) ⟨Nat.zero_le _, Nat.zero_le _⟩ d_M_balancer_40 (fun r u hru => ?_)
  obtain ⟨rfl, rfl⟩ := hru
  refine jx_if_eq (pc := 43) hX 48 d_M_balancer_43 rfl (fun _ => ?_) (fun hh => absurd (by decide) hh)
  refine jx_iload_n (pc := 48) hX d_M_balancer_48 rfl rfl ?_
  refine jx_tsOut (pc := 49) hX 113 d_M_balancer_49 (by decide) rfl ?_
  refine jx_aload_n (pc := 113) hX d_M_balancer_113 rfl rfl ?_
  refine g_M_19 (pc := 114) hX d_M_balancer_114 ?_
  refine jx_iload_n (pc := 117) hX d_M_balancer_117 rfl rfl ?_
  refine jx_iald (pc := 118) hX oM_3 _ rfl (show j < 24 by omega) d_M_balancer_118 ?_
  refine jx_top (y := M.had j) (h12 j hj) ?_
  exact jx_iret (pc := 119) hX d_M_balancer_119 (by unfold o_balancer; rw [inR_nI hj (by omega), inR_nI (show 4 < 5 by decide) (by decide)]; exact ⟨rfl, fun _ => rfl, hM⟩)
set_option maxRecDepth 100000 in
set_option maxHeartbeats 4000000 in
theorem t_M_exit_a {l : Launch} {D : va_G} {ad : Nat → Nat} {ac : Nat → ClassId} (σ : St) (M : Ms) (hI : Inv M) (hM : repM σ M) (x y : Int32) (hx : inR x (M.w) = none) : jMi l (yM D ad ac) mt_M_exit TT (rmk 6) [.ref (ad 19), .int x, .int y] σ (endM (o_exit M x y)) := by
  obtain ⟨⟨⟨s0, s1, s2, s3⟩, h0, h1, h2, h3, h4, h5, h6, h7, h8, h9, h10, h11, h12, h13⟩, hpl⟩ := id hM
  obtain ⟨i1, i2, i3, i4, i5, i6, i7, i8⟩ := id hI
  obtain ⟨p1, p3, p4, p5, p6⟩ := id hpl
  have hw8 := i1.le
  have hw2 := i1.pos
  have hnb := nb_le M.w
  have hlft : M.left ≤ 40 := i5
  refine jMi_of (by decide) (Nat.le_of_ble_eq_true rfl) (List.forall_mem_cons.mpr ⟨rfl, List.forall_mem_cons.mpr ⟨rfl, List.forall_mem_cons.mpr ⟨rfl, fun _ h => absurd h List.not_mem_nil⟩⟩⟩) ?_
  intro X A hX
  have hX : jX X (yM D ad ac) A b_M_exit 4 RM (mt_M_exit.w :: TT) (rmk 6) (some .int) := hX
  show jW l X (yM D ad ac) A 4 0 0 kT (jQi X (yM D ad ac) A (endM (o_exit M x y))) σ 0 [(0, .ref (ad 19)), (1, .int x), (2, .int y)] []
  refine jx_iload_n (pc := 0) hX d_M_exit_0 rfl rfl ?_
  refine jx_iconst (pc := 1) hX (v := 0) d_M_exit_1 rfl ?_
  refine jx_aload_n (pc := 2) hX d_M_exit_2 rfl rfl ?_
  refine g_M_93 (pc := 3) hX d_M_exit_3 ?_
  refine jx_top (y := nI (M.w)) (s0) ?_
  refine jx_iconst (pc := 6) hX (v := 1) d_M_exit_6 rfl ?_
  refine jx_isub (pc := 7) hX d_M_exit_7 ?_
  refine k_M_111 (pc := 8) hX (t_M_in σ x 0 (nI (M.w) - 1)) ⟨rfl, rfl, (Nat.le_of_ble_eq_true rfl), (Nat.le_of_ble_eq_true rfl)⟩ rfl rfl (Nat.le_of_ble_eq_true rfl) ⟨Nat.zero_le _, Nat.zero_le _⟩ d_M_exit_8 (fun r hr => ?_)
  rw [in_f (by omega) hx] at hr
  subst hr
  refine jx_istore_n (pc := 11) hX d_M_exit_11 rfl (by decide) (L' := [(0, _), (1, _), (2, _), (3, _)]) rfl ?_
  refine jx_aload_n (pc := 12) hX d_M_exit_12 rfl rfl ?_
  refine jx_iload_n (pc := 13) hX d_M_exit_13 rfl rfl ?_
  refine jx_if_ne (pc := 14) hX 21 d_M_exit_14 rfl (fun hh => absurd (by decide) hh) (fun _ => ?_)
  refine jx_iconst (pc := 17) hX (v := 1) d_M_exit_17 rfl ?_
  refine jx_goto (pc := 18) hX 22 d_M_exit_18 rfl ?_
  refine jx_iload_n (pc := 22) hX d_M_exit_22 rfl rfl ?_
  refine jx_if_eq (pc := 23) hX 39 d_M_exit_23 rfl (fun _ => ?_) (fun hh => absurd (by decide) hh)
  refine jx_iconst (pc := 39) hX (v := 0) d_M_exit_39 rfl ?_
  refine k_M_115 (pc := 40) hX (t_M_refuse σ true false) ⟨rfl, rfl, (Nat.le_of_ble_eq_true rfl), (Nat.le_of_ble_eq_true rfl)⟩ rfl rfl (Nat.le_of_ble_eq_true rfl) ⟨Nat.zero_le _, Nat.zero_le _⟩ d_M_exit_40 (fun r u hru => ?_)
  obtain ⟨rfl, rfl⟩ := hru
  refine jx_if_eq (pc := 43) hX 48 d_M_exit_43 rfl (fun hh => absurd hh (by decide)) (fun _ => ?_)
  refine jx_iconst (pc := 46) hX (v := 0) d_M_exit_46 rfl ?_
  exact jx_iret (pc := 47) hX d_M_exit_47 (by unfold o_exit; rw [hx]; exact ⟨rfl, fun h => absurd h (show ¬ (1 : Int32) = 0 by decide), hM⟩)
set_option maxRecDepth 100000 in
set_option maxHeartbeats 4000000 in
theorem t_M_exit_b {l : Launch} {D : va_G} {ad : Nat → Nat} {ac : Nat → ClassId} (σ : St) (M : Ms) (hI : Inv M) (hM : repM σ M) (x y : Int32) (j : Nat) (hx : inR x (M.w) = some j) (hy : inR y (2 + 1) = none) : jMi l (yM D ad ac) mt_M_exit TT (rmk 6) [.ref (ad 19), .int x, .int y] σ (endM (o_exit M x y)) := by
  obtain ⟨⟨⟨s0, s1, s2, s3⟩, h0, h1, h2, h3, h4, h5, h6, h7, h8, h9, h10, h11, h12, h13⟩, hpl⟩ := id hM
  obtain ⟨i1, i2, i3, i4, i5, i6, i7, i8⟩ := id hI
  obtain ⟨p1, p3, p4, p5, p6⟩ := id hpl
  have hw8 := i1.le
  have hw2 := i1.pos
  have hnb := nb_le M.w
  have hlft : M.left ≤ 40 := i5
  refine jMi_of (by decide) (Nat.le_of_ble_eq_true rfl) (List.forall_mem_cons.mpr ⟨rfl, List.forall_mem_cons.mpr ⟨rfl, List.forall_mem_cons.mpr ⟨rfl, fun _ h => absurd h List.not_mem_nil⟩⟩⟩) ?_
  intro X A hX
  have hX : jX X (yM D ad ac) A b_M_exit 4 RM (mt_M_exit.w :: TT) (rmk 6) (some .int) := hX
  show jW l X (yM D ad ac) A 4 0 0 kT (jQi X (yM D ad ac) A (endM (o_exit M x y))) σ 0 [(0, .ref (ad 19)), (1, .int x), (2, .int y)] []
  refine jx_iload_n (pc := 0) hX d_M_exit_0 rfl rfl ?_
  refine jx_iconst (pc := 1) hX (v := 0) d_M_exit_1 rfl ?_
  refine jx_aload_n (pc := 2) hX d_M_exit_2 rfl rfl ?_
  refine g_M_93 (pc := 3) hX d_M_exit_3 ?_
  refine jx_top (y := nI (M.w)) (s0) ?_
  refine jx_iconst (pc := 6) hX (v := 1) d_M_exit_6 rfl ?_
  refine jx_isub (pc := 7) hX d_M_exit_7 ?_
  refine k_M_111 (pc := 8) hX (t_M_in σ x 0 (nI (M.w) - 1)) ⟨rfl, rfl, (Nat.le_of_ble_eq_true rfl), (Nat.le_of_ble_eq_true rfl)⟩ rfl rfl (Nat.le_of_ble_eq_true rfl) ⟨Nat.zero_le _, Nat.zero_le _⟩ d_M_exit_8 (fun r hr => ?_)
  rw [in_t (by omega) hx] at hr
  subst hr
  refine jx_istore_n (pc := 11) hX d_M_exit_11 rfl (by decide) (L' := [(0, _), (1, _), (2, _), (3, _)]) rfl ?_
  refine jx_aload_n (pc := 12) hX d_M_exit_12 rfl rfl ?_
  refine jx_iload_n (pc := 13) hX d_M_exit_13 rfl rfl ?_
  refine jx_if_ne (pc := 14) hX 21 d_M_exit_14 rfl (fun _ => ?_) (fun hh => absurd hh (by decide))
  refine jx_iconst (pc := 21) hX (v := 0) d_M_exit_21 rfl ?_
  refine jx_iload_n (pc := 22) hX d_M_exit_22 rfl rfl ?_
  refine jx_if_eq (pc := 23) hX 39 d_M_exit_23 rfl (fun hh => absurd hh (by decide)) (fun _ => ?_)
  refine jx_iload_n (pc := 26) hX d_M_exit_26 rfl rfl ?_
  refine jx_iconst (pc := 27) hX (v := 0) d_M_exit_27 rfl ?_
  refine jx_iconst (pc := 28) hX (v := 2) d_M_exit_28 rfl ?_
  refine k_M_111 (pc := 29) hX (t_M_in σ y 0 (nI 2)) ⟨rfl, rfl, (Nat.le_of_ble_eq_true rfl), (Nat.le_of_ble_eq_true rfl)⟩ rfl rfl (Nat.le_of_ble_eq_true rfl) ⟨Nat.zero_le _, Nat.zero_le _⟩ d_M_exit_29 (fun r hr => ?_)
  rw [in_fc (by decide) hy] at hr
  subst hr
  refine jx_if_ne (pc := 32) hX 39 d_M_exit_32 rfl (fun hh => absurd (by decide) hh) (fun _ => ?_)
  refine jx_iconst (pc := 35) hX (v := 1) d_M_exit_35 rfl ?_
  refine jx_goto (pc := 36) hX 40 d_M_exit_36 rfl ?_
  refine k_M_115 (pc := 40) hX (t_M_refuse σ false true) ⟨rfl, rfl, (Nat.le_of_ble_eq_true rfl), (Nat.le_of_ble_eq_true rfl)⟩ rfl rfl (Nat.le_of_ble_eq_true rfl) ⟨Nat.zero_le _, Nat.zero_le _⟩ d_M_exit_40 (fun r u hru => ?_)
  obtain ⟨rfl, rfl⟩ := hru
  refine jx_if_eq (pc := 43) hX 48 d_M_exit_43 rfl (fun hh => absurd hh (by decide)) (fun _ => ?_)
  refine jx_iconst (pc := 46) hX (v := 0) d_M_exit_46 rfl ?_
  exact jx_iret (pc := 47) hX d_M_exit_47 (by unfold o_exit; rw [hx, show inR y 3 = none from hy]; exact ⟨rfl, fun h => absurd h (show ¬ (2 : Int32) = 0 by decide), hM⟩)
set_option maxRecDepth 100000 in
set_option maxHeartbeats 4000000 in
theorem t_M_exit_c0 {l : Launch} {D : va_G} {ad : Nat → Nat} {ac : Nat → ClassId} (σ : St) (M : Ms) (hI : Inv M) (hM : repM σ M) (j : Nat) (hj : j < M.w) : jMi l (yM D ad ac) mt_M_exit TT (rmk 6) [.ref (ad 19), .int (nI j), .int (nI 0)] σ (endM (o_exit M (nI j) (nI 0))) := by
  obtain ⟨⟨⟨s0, s1, s2, s3⟩, h0, h1, h2, h3, h4, h5, h6, h7, h8, h9, h10, h11, h12, h13⟩, hpl⟩ := id hM
  obtain ⟨i1, i2, i3, i4, i5, i6, i7, i8⟩ := id hI
  obtain ⟨p1, p3, p4, p5, p6⟩ := id hpl
  have hw8 := i1.le
  have hw2 := i1.pos
  have hnb := nb_le M.w
  have hlft : M.left ≤ 40 := i5
  refine jMi_of (by decide) (Nat.le_of_ble_eq_true rfl) (List.forall_mem_cons.mpr ⟨rfl, List.forall_mem_cons.mpr ⟨rfl, List.forall_mem_cons.mpr ⟨rfl, fun _ h => absurd h List.not_mem_nil⟩⟩⟩) ?_
  intro X A hX
  have hX : jX X (yM D ad ac) A b_M_exit 4 RM (mt_M_exit.w :: TT) (rmk 6) (some .int) := hX
  show jW l X (yM D ad ac) A 4 0 0 kT (jQi X (yM D ad ac) A (endM (o_exit M (nI j) (nI 0)))) σ 0 [(0, .ref (ad 19)), (1, .int (nI j)), (2, .int (nI 0))] []
  refine jx_iload_n (pc := 0) hX d_M_exit_0 rfl rfl ?_
  refine jx_iconst (pc := 1) hX (v := 0) d_M_exit_1 rfl ?_
  refine jx_aload_n (pc := 2) hX d_M_exit_2 rfl rfl ?_
  refine g_M_93 (pc := 3) hX d_M_exit_3 ?_
  refine jx_top (y := nI (M.w)) (s0) ?_
  refine jx_iconst (pc := 6) hX (v := 1) d_M_exit_6 rfl ?_
  refine jx_isub (pc := 7) hX d_M_exit_7 ?_
  refine k_M_111 (pc := 8) hX (t_M_in σ (nI j) 0 (nI (M.w) - 1)) ⟨rfl, rfl, (Nat.le_of_ble_eq_true rfl), (Nat.le_of_ble_eq_true rfl)⟩ rfl rfl (Nat.le_of_ble_eq_true rfl) ⟨Nat.zero_le _, Nat.zero_le _⟩ d_M_exit_8 (fun r hr => ?_)
  rw [in_t (by omega) (inR_nI hj (by omega))] at hr
  subst hr
  refine jx_istore_n (pc := 11) hX d_M_exit_11 rfl (by decide) (L' := [(0, _), (1, _), (2, _), (3, _)]) rfl ?_
  refine jx_aload_n (pc := 12) hX d_M_exit_12 rfl rfl ?_
  refine jx_iload_n (pc := 13) hX d_M_exit_13 rfl rfl ?_
  refine jx_if_ne (pc := 14) hX 21 d_M_exit_14 rfl (fun _ => ?_) (fun hh => absurd hh (by decide))
  refine jx_iconst (pc := 21) hX (v := 0) d_M_exit_21 rfl ?_
  refine jx_iload_n (pc := 22) hX d_M_exit_22 rfl rfl ?_
  refine jx_if_eq (pc := 23) hX 39 d_M_exit_23 rfl (fun hh => absurd hh (by decide)) (fun _ => ?_)
  refine jx_iload_n (pc := 26) hX d_M_exit_26 rfl rfl ?_
  refine jx_iconst (pc := 27) hX (v := 0) d_M_exit_27 rfl ?_
  refine jx_iconst (pc := 28) hX (v := 2) d_M_exit_28 rfl ?_
  refine k_M_111 (pc := 29) hX (t_M_in σ (nI 0) 0 (nI 2)) ⟨rfl, rfl, (Nat.le_of_ble_eq_true rfl), (Nat.le_of_ble_eq_true rfl)⟩ rfl rfl (Nat.le_of_ble_eq_true rfl) ⟨Nat.zero_le _, Nat.zero_le _⟩ d_M_exit_29 (fun r hr => ?_)
  rw [in_tc (by decide) (inR_nI (show 0 < 2 + 1 by decide) (by decide))] at hr
  subst hr
  refine jx_if_ne (pc := 32) hX 39 d_M_exit_32 rfl (fun _ => ?_) (fun hh => absurd hh (by decide))
  refine jx_iconst (pc := 39) hX (v := 0) d_M_exit_39 rfl ?_
  refine k_M_115 (pc := 40) hX (t_M_refuse σ false false) ⟨rfl, rfl, (Nat.le_of_ble_eq_true rfl), (Nat.le_of_ble_eq_true rfl)⟩ rfl rfl (Nat.le_of_ble_eq_true rfl) ⟨Nat.zero_le _, Nat.zero_le _⟩ d_M_exit_40 (fun r u hru => ?_)
  obtain ⟨rfl, rfl⟩ := hru
  refine jx_if_eq (pc := 43) hX 48 d_M_exit_43 rfl (fun _ => ?_) (fun hh => absurd (by decide) hh)
  refine jx_iload_n (pc := 48) hX d_M_exit_48 rfl rfl ?_
  refine jx_if_ne (pc := 49) hX 61 d_M_exit_49 rfl (fun hh => absurd (by decide) hh) (fun _ => ?_)
  refine jx_aload_n (pc := 52) hX d_M_exit_52 rfl rfl ?_
  refine g_M_22 (pc := 53) hX d_M_exit_53 ?_
  refine jx_iload_n (pc := 56) hX d_M_exit_56 rfl rfl ?_
  refine jx_iald (pc := 57) hX oM_4 _ rfl (show j < 8 by omega) d_M_exit_57 ?_
  refine jx_top (y := nI (uE M.w j)) (p6 j hj) ?_
  refine jx_goto (pc := 58) hX 81 d_M_exit_58 rfl ?_
  exact jx_iret (pc := 81) hX d_M_exit_81 (by unfold o_exit; rw [inR_nI hj (by omega), inR_nI (show 0 < 3 by decide) (by decide)]; exact ⟨rfl, fun _ => rfl, hM⟩)
set_option maxRecDepth 100000 in
set_option maxHeartbeats 4000000 in
theorem t_M_exit_c1 {l : Launch} {D : va_G} {ad : Nat → Nat} {ac : Nat → ClassId} (σ : St) (M : Ms) (hI : Inv M) (hM : repM σ M) (j : Nat) (hj : j < M.w) : jMi l (yM D ad ac) mt_M_exit TT (rmk 6) [.ref (ad 19), .int (nI j), .int (nI 1)] σ (endM (o_exit M (nI j) (nI 1))) := by
  obtain ⟨⟨⟨s0, s1, s2, s3⟩, h0, h1, h2, h3, h4, h5, h6, h7, h8, h9, h10, h11, h12, h13⟩, hpl⟩ := id hM
  obtain ⟨i1, i2, i3, i4, i5, i6, i7, i8⟩ := id hI
  obtain ⟨p1, p3, p4, p5, p6⟩ := id hpl
  have hw8 := i1.le
  have hw2 := i1.pos
  have hnb := nb_le M.w
  have hlft : M.left ≤ 40 := i5
  refine jMi_of (by decide) (Nat.le_of_ble_eq_true rfl) (List.forall_mem_cons.mpr ⟨rfl, List.forall_mem_cons.mpr ⟨rfl, List.forall_mem_cons.mpr ⟨rfl, fun _ h => absurd h List.not_mem_nil⟩⟩⟩) ?_
  intro X A hX
  have hX : jX X (yM D ad ac) A b_M_exit 4 RM (mt_M_exit.w :: TT) (rmk 6) (some .int) := hX
  show jW l X (yM D ad ac) A 4 0 0 kT (jQi X (yM D ad ac) A (endM (o_exit M (nI j) (nI 1)))) σ 0 [(0, .ref (ad 19)), (1, .int (nI j)), (2, .int (nI 1))] []
  refine jx_iload_n (pc := 0) hX d_M_exit_0 rfl rfl ?_
  refine jx_iconst (pc := 1) hX (v := 0) d_M_exit_1 rfl ?_
  refine jx_aload_n (pc := 2) hX d_M_exit_2 rfl rfl ?_
  refine g_M_93 (pc := 3) hX d_M_exit_3 ?_
  refine jx_top (y := nI (M.w)) (s0) ?_
  refine jx_iconst (pc := 6) hX (v := 1) d_M_exit_6 rfl ?_
  refine jx_isub (pc := 7) hX d_M_exit_7 ?_
  refine k_M_111 (pc := 8) hX (t_M_in σ (nI j) 0 (nI (M.w) - 1)) ⟨rfl, rfl, (Nat.le_of_ble_eq_true rfl), (Nat.le_of_ble_eq_true rfl)⟩ rfl rfl (Nat.le_of_ble_eq_true rfl) ⟨Nat.zero_le _, Nat.zero_le _⟩ d_M_exit_8 (fun r hr => ?_)
  rw [in_t (by omega) (inR_nI hj (by omega))] at hr
  subst hr
  refine jx_istore_n (pc := 11) hX d_M_exit_11 rfl (by decide) (L' := [(0, _), (1, _), (2, _), (3, _)]) rfl ?_
  refine jx_aload_n (pc := 12) hX d_M_exit_12 rfl rfl ?_
  refine jx_iload_n (pc := 13) hX d_M_exit_13 rfl rfl ?_
  refine jx_if_ne (pc := 14) hX 21 d_M_exit_14 rfl (fun _ => ?_) (fun hh => absurd hh (by decide))
  refine jx_iconst (pc := 21) hX (v := 0) d_M_exit_21 rfl ?_
  refine jx_iload_n (pc := 22) hX d_M_exit_22 rfl rfl ?_
  refine jx_if_eq (pc := 23) hX 39 d_M_exit_23 rfl (fun hh => absurd hh (by decide)) (fun _ => ?_)
  refine jx_iload_n (pc := 26) hX d_M_exit_26 rfl rfl ?_
  refine jx_iconst (pc := 27) hX (v := 0) d_M_exit_27 rfl ?_
  refine jx_iconst (pc := 28) hX (v := 2) d_M_exit_28 rfl ?_
  refine k_M_111 (pc := 29) hX (t_M_in σ (nI 1) 0 (nI 2)) ⟨rfl, rfl, (Nat.le_of_ble_eq_true rfl), (Nat.le_of_ble_eq_true rfl)⟩ rfl rfl (Nat.le_of_ble_eq_true rfl) ⟨Nat.zero_le _, Nat.zero_le _⟩ d_M_exit_29 (fun r hr => ?_)
  rw [in_tc (by decide) (inR_nI (show 1 < 2 + 1 by decide) (by decide))] at hr
  subst hr
  refine jx_if_ne (pc := 32) hX 39 d_M_exit_32 rfl (fun _ => ?_) (fun hh => absurd hh (by decide))
  refine jx_iconst (pc := 39) hX (v := 0) d_M_exit_39 rfl ?_
  refine k_M_115 (pc := 40) hX (t_M_refuse σ false false) ⟨rfl, rfl, (Nat.le_of_ble_eq_true rfl), (Nat.le_of_ble_eq_true rfl)⟩ rfl rfl (Nat.le_of_ble_eq_true rfl) ⟨Nat.zero_le _, Nat.zero_le _⟩ d_M_exit_40 (fun r u hru => ?_)
  obtain ⟨rfl, rfl⟩ := hru
  refine jx_if_eq (pc := 43) hX 48 d_M_exit_43 rfl (fun _ => ?_) (fun hh => absurd (by decide) hh)
  refine jx_iload_n (pc := 48) hX d_M_exit_48 rfl rfl ?_
  refine jx_if_ne (pc := 49) hX 61 d_M_exit_49 rfl (fun _ => ?_) (fun hh => absurd hh (by decide))
  refine jx_iload_n (pc := 61) hX d_M_exit_61 rfl rfl ?_
  refine jx_iconst (pc := 62) hX (v := 1) d_M_exit_62 rfl ?_
  refine jx_icmp_ne (pc := 63) hX 75 d_M_exit_63 rfl (fun hh => absurd (by decide) hh) (fun _ => ?_)
  refine jx_iload_n (pc := 66) hX d_M_exit_66 rfl rfl ?_
  refine jx_aload_n (pc := 67) hX d_M_exit_67 rfl rfl ?_
  refine g_M_96 (pc := 68) hX d_M_exit_68 ?_
  refine jx_top (y := nI M.ns) (s1) ?_
  refine jx_irem (pc := 71) hX d_M_exit_71 (nI_ne0 (by omega) (by omega)) ?_
  refine jx_top (y := nI (j % M.ns)) (pk_rem (by omega) (by omega) (by omega)) ?_
  refine jx_goto (pc := 72) hX 81 d_M_exit_72 rfl ?_
  exact jx_iret (pc := 81) hX d_M_exit_81 (by unfold o_exit; rw [inR_nI hj (by omega), inR_nI (show 1 < 3 by decide) (by decide)]; exact ⟨rfl, fun _ => rfl, hM⟩)
set_option maxRecDepth 100000 in
set_option maxHeartbeats 4000000 in
theorem t_M_exit_c2 {l : Launch} {D : va_G} {ad : Nat → Nat} {ac : Nat → ClassId} (σ : St) (M : Ms) (hI : Inv M) (hM : repM σ M) (j : Nat) (hj : j < M.w) : jMi l (yM D ad ac) mt_M_exit TT (rmk 6) [.ref (ad 19), .int (nI j), .int (nI 2)] σ (endM (o_exit M (nI j) (nI 2))) := by
  obtain ⟨⟨⟨s0, s1, s2, s3⟩, h0, h1, h2, h3, h4, h5, h6, h7, h8, h9, h10, h11, h12, h13⟩, hpl⟩ := id hM
  obtain ⟨i1, i2, i3, i4, i5, i6, i7, i8⟩ := id hI
  obtain ⟨p1, p3, p4, p5, p6⟩ := id hpl
  have hw8 := i1.le
  have hw2 := i1.pos
  have hnb := nb_le M.w
  have hlft : M.left ≤ 40 := i5
  refine jMi_of (by decide) (Nat.le_of_ble_eq_true rfl) (List.forall_mem_cons.mpr ⟨rfl, List.forall_mem_cons.mpr ⟨rfl, List.forall_mem_cons.mpr ⟨rfl, fun _ h => absurd h List.not_mem_nil⟩⟩⟩) ?_
  intro X A hX
  have hX : jX X (yM D ad ac) A b_M_exit 4 RM (mt_M_exit.w :: TT) (rmk 6) (some .int) := hX
  show jW l X (yM D ad ac) A 4 0 0 kT (jQi X (yM D ad ac) A (endM (o_exit M (nI j) (nI 2)))) σ 0 [(0, .ref (ad 19)), (1, .int (nI j)), (2, .int (nI 2))] []
  refine jx_iload_n (pc := 0) hX d_M_exit_0 rfl rfl ?_
  refine jx_iconst (pc := 1) hX (v := 0) d_M_exit_1 rfl ?_
  refine jx_aload_n (pc := 2) hX d_M_exit_2 rfl rfl ?_
  refine g_M_93 (pc := 3) hX d_M_exit_3 ?_
  refine jx_top (y := nI (M.w)) (s0) ?_
  refine jx_iconst (pc := 6) hX (v := 1) d_M_exit_6 rfl ?_
  refine jx_isub (pc := 7) hX d_M_exit_7 ?_
  refine k_M_111 (pc := 8) hX (t_M_in σ (nI j) 0 (nI (M.w) - 1)) ⟨rfl, rfl, (Nat.le_of_ble_eq_true rfl), (Nat.le_of_ble_eq_true rfl)⟩ rfl rfl (Nat.le_of_ble_eq_true rfl) ⟨Nat.zero_le _, Nat.zero_le _⟩ d_M_exit_8 (fun r hr => ?_)
  rw [in_t (by omega) (inR_nI hj (by omega))] at hr
  subst hr
  refine jx_istore_n (pc := 11) hX d_M_exit_11 rfl (by decide) (L' := [(0, _), (1, _), (2, _), (3, _)]) rfl ?_
  refine jx_aload_n (pc := 12) hX d_M_exit_12 rfl rfl ?_
  refine jx_iload_n (pc := 13) hX d_M_exit_13 rfl rfl ?_
  refine jx_if_ne (pc := 14) hX 21 d_M_exit_14 rfl (fun _ => ?_) (fun hh => absurd hh (by decide))
  refine jx_iconst (pc := 21) hX (v := 0) d_M_exit_21 rfl ?_
  refine jx_iload_n (pc := 22) hX d_M_exit_22 rfl rfl ?_
  refine jx_if_eq (pc := 23) hX 39 d_M_exit_23 rfl (fun hh => absurd hh (by decide)) (fun _ => ?_)
  refine jx_iload_n (pc := 26) hX d_M_exit_26 rfl rfl ?_
  refine jx_iconst (pc := 27) hX (v := 0) d_M_exit_27 rfl ?_
  refine jx_iconst (pc := 28) hX (v := 2) d_M_exit_28 rfl ?_
  refine k_M_111 (pc := 29) hX (t_M_in σ (nI 2) 0 (nI 2)) ⟨rfl, rfl, (Nat.le_of_ble_eq_true rfl), (Nat.le_of_ble_eq_true rfl)⟩ rfl rfl (Nat.le_of_ble_eq_true rfl) ⟨Nat.zero_le _, Nat.zero_le _⟩ d_M_exit_29 (fun r hr => ?_)
  rw [in_tc (by decide) (inR_nI (show 2 < 2 + 1 by decide) (by decide))] at hr
  subst hr
  refine jx_if_ne (pc := 32) hX 39 d_M_exit_32 rfl (fun _ => ?_) (fun hh => absurd hh (by decide))
  refine jx_iconst (pc := 39) hX (v := 0) d_M_exit_39 rfl ?_
  refine k_M_115 (pc := 40) hX (t_M_refuse σ false false) ⟨rfl, rfl, (Nat.le_of_ble_eq_true rfl), (Nat.le_of_ble_eq_true rfl)⟩ rfl rfl (Nat.le_of_ble_eq_true rfl) ⟨Nat.zero_le _, Nat.zero_le _⟩ d_M_exit_40 (fun r u hru => ?_)
  obtain ⟨rfl, rfl⟩ := hru
  refine jx_if_eq (pc := 43) hX 48 d_M_exit_43 rfl (fun _ => ?_) (fun hh => absurd (by decide) hh)
  refine jx_iload_n (pc := 48) hX d_M_exit_48 rfl rfl ?_
  refine jx_if_ne (pc := 49) hX 61 d_M_exit_49 rfl (fun _ => ?_) (fun hh => absurd hh (by decide))
  refine jx_iload_n (pc := 61) hX d_M_exit_61 rfl rfl ?_
  refine jx_iconst (pc := 62) hX (v := 1) d_M_exit_62 rfl ?_
  refine jx_icmp_ne (pc := 63) hX 75 d_M_exit_63 rfl (fun _ => ?_) (fun hh => absurd hh (by decide))
  refine jx_aload_n (pc := 75) hX d_M_exit_75 rfl rfl ?_
  refine g_M_25 (pc := 76) hX d_M_exit_76 ?_
  refine jx_iload_n (pc := 79) hX d_M_exit_79 rfl rfl ?_
  refine jx_iald (pc := 80) hX oM_5 _ rfl (show j < 8 by omega) d_M_exit_80 ?_
  refine jx_top (y := nI (M.handed j)) (h13 j hj) ?_
  exact jx_iret (pc := 81) hX d_M_exit_81 (by unfold o_exit; rw [inR_nI hj (by omega), inR_nI (show 2 < 3 by decide) (by decide)]; exact ⟨rfl, fun _ => rfl, hM⟩)
