set_option maxRecDepth 100000 in
set_option maxHeartbeats 4000000 in
theorem t_M_enter_a {l : Launch} {D : va_G} {ad : Nat → Nat} {ac : Nat → ClassId} (σ : St) (M : Ms) (hI : Inv M) (hM : repM σ M) (x : Int32) (ob : Bool) (hx : inR x M.w = none) : jMi l (yM D ad ac) mt_M_enter TT (rmk 6) [.ref (ad 19), .int x, .int (eB ob)] σ (endM (o_enter M x ob)) := by
  obtain ⟨⟨⟨s0, s1, s2, s3⟩, h0, h1, h2, h3, h4, h5, h6, h7, h8, h9, h10, h11, h12, h13⟩, hpl⟩ := id hM
  obtain ⟨i1, i2, i3, i4, i5, i6, i7, i8⟩ := id hI
  obtain ⟨p1, p3, p4, p5, p6⟩ := id hpl
  have hw8 := i1.le
  have hw2 := i1.pos
  have hnb := nb_le M.w
  have hlft : M.left ≤ 40 := i5
  refine jMi_of (by decide) (Nat.le_of_ble_eq_true rfl) (List.forall_mem_cons.mpr ⟨rfl, List.forall_mem_cons.mpr ⟨rfl, List.forall_mem_cons.mpr ⟨rfl, fun _ h => absurd h List.not_mem_nil⟩⟩⟩) ?_
  intro X A hX
  have hX : jX X (yM D ad ac) A b_M_enter 4 RM (mt_M_enter.w :: TT) (rmk 6) (some .int) := hX
  show jW l X (yM D ad ac) A 4 0 0 kT (jQi X (yM D ad ac) A (endM (o_enter M x ob))) σ 0 [(0, .ref (ad 19)), (1, .int x), (2, .int (eB ob))] []
  refine jx_iload_n (pc := 0) hX d_M_enter_0 rfl rfl ?_
  refine jx_iconst (pc := 1) hX (v := 0) d_M_enter_1 rfl ?_
  refine jx_aload_n (pc := 2) hX d_M_enter_2 rfl rfl ?_
  refine g_M_93 (pc := 3) hX d_M_enter_3 ?_
  refine jx_top (y := nI M.w) (s0) ?_
  refine jx_iconst (pc := 6) hX (v := 1) d_M_enter_6 rfl ?_
  refine jx_isub (pc := 7) hX d_M_enter_7 ?_
  refine k_M_111 (pc := 8) hX (t_M_in σ x 0 (nI M.w - 1)) ⟨rfl, rfl, (Nat.le_of_ble_eq_true rfl), (Nat.le_of_ble_eq_true rfl)⟩ rfl rfl (Nat.le_of_ble_eq_true rfl) ⟨Nat.zero_le _, Nat.zero_le _⟩ d_M_enter_8 (fun r hr => ?_)
  rw [in_f (by omega) hx] at hr
  subst hr
  refine jx_istore_n (pc := 11) hX d_M_enter_11 rfl (by decide) (L' := [(0, _), (1, _), (2, _), (3, _)]) rfl ?_
  refine jx_aload_n (pc := 12) hX d_M_enter_12 rfl rfl ?_
  refine jx_iload_n (pc := 13) hX d_M_enter_13 rfl rfl ?_
  refine jx_if_ne (pc := 14) hX 21 d_M_enter_14 rfl (fun hh => absurd (rfl) hh) (fun _ => ?_)
  refine jx_iconst (pc := 17) hX (v := 1) d_M_enter_17 rfl ?_
  refine jx_goto (pc := 18) hX 22 d_M_enter_18 rfl ?_
  refine jx_iload_n (pc := 22) hX d_M_enter_22 rfl rfl ?_
  refine jx_if_eq (pc := 23) hX 49 d_M_enter_23 rfl (fun _ => ?_) (fun hh => absurd (rfl) hh)
  refine jx_iconst (pc := 49) hX (v := 0) d_M_enter_49 rfl ?_
  refine k_M_115 (pc := 50) hX (t_M_refuse σ true false) ⟨rfl, rfl, (Nat.le_of_ble_eq_true rfl), (Nat.le_of_ble_eq_true rfl)⟩ rfl rfl (Nat.le_of_ble_eq_true rfl) ⟨Nat.zero_le _, Nat.zero_le _⟩ d_M_enter_50 (fun r u hru => ?_)
  obtain ⟨rfl, rfl⟩ := hru
  refine jx_if_eq (pc := 53) hX 58 d_M_enter_53 rfl (fun hh => absurd hh (by decide)) (fun _ => ?_)
  refine jx_iconst (pc := 56) hX (v := 0) d_M_enter_56 rfl ?_
  exact jx_iret (pc := 57) hX d_M_enter_57 (by unfold o_enter; rw [hx]; exact ⟨rfl, fun h => absurd h (show ¬ (1 : Int32) = 0 by decide), hM⟩)
set_option maxRecDepth 100000 in
set_option maxHeartbeats 4000000 in
theorem t_M_enter_b {l : Launch} {D : va_G} {ad : Nat → Nat} {ac : Nat → ClassId} (σ : St) (M : Ms) (hI : Inv M) (hM : repM σ M) (x : Int32) (ob : Bool) (j : Nat) (hx : inR x M.w = some j) (hf : M.nt = 200) : jMi l (yM D ad ac) mt_M_enter TT (rmk 6) [.ref (ad 19), .int x, .int (eB ob)] σ (endM (o_enter M x ob)) := by
  obtain ⟨⟨⟨s0, s1, s2, s3⟩, h0, h1, h2, h3, h4, h5, h6, h7, h8, h9, h10, h11, h12, h13⟩, hpl⟩ := id hM
  obtain ⟨i1, i2, i3, i4, i5, i6, i7, i8⟩ := id hI
  obtain ⟨p1, p3, p4, p5, p6⟩ := id hpl
  have hw8 := i1.le
  have hw2 := i1.pos
  have hnb := nb_le M.w
  have hlft : M.left ≤ 40 := i5
  refine jMi_of (by decide) (Nat.le_of_ble_eq_true rfl) (List.forall_mem_cons.mpr ⟨rfl, List.forall_mem_cons.mpr ⟨rfl, List.forall_mem_cons.mpr ⟨rfl, fun _ h => absurd h List.not_mem_nil⟩⟩⟩) ?_
  intro X A hX
  have hX : jX X (yM D ad ac) A b_M_enter 4 RM (mt_M_enter.w :: TT) (rmk 6) (some .int) := hX
  show jW l X (yM D ad ac) A 4 0 0 kT (jQi X (yM D ad ac) A (endM (o_enter M x ob))) σ 0 [(0, .ref (ad 19)), (1, .int x), (2, .int (eB ob))] []
  refine jx_iload_n (pc := 0) hX d_M_enter_0 rfl rfl ?_
  refine jx_iconst (pc := 1) hX (v := 0) d_M_enter_1 rfl ?_
  refine jx_aload_n (pc := 2) hX d_M_enter_2 rfl rfl ?_
  refine g_M_93 (pc := 3) hX d_M_enter_3 ?_
  refine jx_top (y := nI M.w) (s0) ?_
  refine jx_iconst (pc := 6) hX (v := 1) d_M_enter_6 rfl ?_
  refine jx_isub (pc := 7) hX d_M_enter_7 ?_
  refine k_M_111 (pc := 8) hX (t_M_in σ x 0 (nI M.w - 1)) ⟨rfl, rfl, (Nat.le_of_ble_eq_true rfl), (Nat.le_of_ble_eq_true rfl)⟩ rfl rfl (Nat.le_of_ble_eq_true rfl) ⟨Nat.zero_le _, Nat.zero_le _⟩ d_M_enter_8 (fun r hr => ?_)
  rw [in_t (by omega) hx] at hr
  subst hr
  refine jx_istore_n (pc := 11) hX d_M_enter_11 rfl (by decide) (L' := [(0, _), (1, _), (2, _), (3, _)]) rfl ?_
  refine jx_aload_n (pc := 12) hX d_M_enter_12 rfl rfl ?_
  refine jx_iload_n (pc := 13) hX d_M_enter_13 rfl rfl ?_
  refine jx_if_ne (pc := 14) hX 21 d_M_enter_14 rfl (fun _ => ?_) (fun hh => absurd hh (by decide))
  refine jx_iconst (pc := 21) hX (v := 0) d_M_enter_21 rfl ?_
  refine jx_iload_n (pc := 22) hX d_M_enter_22 rfl rfl ?_
  refine jx_if_eq (pc := 23) hX 49 d_M_enter_23 rfl (fun hh => absurd hh (by decide)) (fun _ => ?_)
  refine jx_aload_n (pc := 26) hX d_M_enter_26 rfl rfl ?_
  refine g_M_99 (pc := 27) hX d_M_enter_27 ?_
  refine jx_top (y := nI M.nt) (s2) ?_
  refine jx_sipush (pc := 30) hX (v := 200) d_M_enter_30 rfl ?_
  refine jx_icmp_eq (pc := 33) hX 45 d_M_enter_33 rfl (fun _ => ?_) (fun hh => absurd (by rw [hf]; rfl) hh)
  refine jx_iconst (pc := 45) hX (v := 1) d_M_enter_45 rfl ?_
  refine jx_goto (pc := 46) hX 50 d_M_enter_46 rfl ?_
  refine k_M_115 (pc := 50) hX (t_M_refuse σ false true) ⟨rfl, rfl, (Nat.le_of_ble_eq_true rfl), (Nat.le_of_ble_eq_true rfl)⟩ rfl rfl (Nat.le_of_ble_eq_true rfl) ⟨Nat.zero_le _, Nat.zero_le _⟩ d_M_enter_50 (fun r u hru => ?_)
  obtain ⟨rfl, rfl⟩ := hru
  refine jx_if_eq (pc := 53) hX 58 d_M_enter_53 rfl (fun hh => absurd hh (by decide)) (fun _ => ?_)
  refine jx_iconst (pc := 56) hX (v := 0) d_M_enter_56 rfl ?_
  exact jx_iret (pc := 57) hX d_M_enter_57 (by unfold o_enter; rw [hx]; dsimp only; rw [if_pos (Or.inl hf)]; exact ⟨rfl, fun h => absurd h (show ¬ (2 : Int32) = 0 by decide), hM⟩)
set_option maxRecDepth 100000 in
set_option maxHeartbeats 4000000 in
theorem t_M_enter_d {l : Launch} {D : va_G} {ad : Nat → Nat} {ac : Nat → ClassId} (σ : St) (M : Ms) (hI : Inv M) (hM : repM σ M) (x : Int32) (ob : Bool) (j : Nat) (hx : inR x M.w = some j) (hf : ¬ M.nt = 200) (hg : M.left = 40) : jMi l (yM D ad ac) mt_M_enter TT (rmk 6) [.ref (ad 19), .int x, .int (eB ob)] σ (endM (o_enter M x ob)) := by
  obtain ⟨⟨⟨s0, s1, s2, s3⟩, h0, h1, h2, h3, h4, h5, h6, h7, h8, h9, h10, h11, h12, h13⟩, hpl⟩ := id hM
  obtain ⟨i1, i2, i3, i4, i5, i6, i7, i8⟩ := id hI
  obtain ⟨p1, p3, p4, p5, p6⟩ := id hpl
  have hw8 := i1.le
  have hw2 := i1.pos
  have hnb := nb_le M.w
  have hlft : M.left ≤ 40 := i5
  refine jMi_of (by decide) (Nat.le_of_ble_eq_true rfl) (List.forall_mem_cons.mpr ⟨rfl, List.forall_mem_cons.mpr ⟨rfl, List.forall_mem_cons.mpr ⟨rfl, fun _ h => absurd h List.not_mem_nil⟩⟩⟩) ?_
  intro X A hX
  have hX : jX X (yM D ad ac) A b_M_enter 4 RM (mt_M_enter.w :: TT) (rmk 6) (some .int) := hX
  show jW l X (yM D ad ac) A 4 0 0 kT (jQi X (yM D ad ac) A (endM (o_enter M x ob))) σ 0 [(0, .ref (ad 19)), (1, .int x), (2, .int (eB ob))] []
  refine jx_iload_n (pc := 0) hX d_M_enter_0 rfl rfl ?_
  refine jx_iconst (pc := 1) hX (v := 0) d_M_enter_1 rfl ?_
  refine jx_aload_n (pc := 2) hX d_M_enter_2 rfl rfl ?_
  refine g_M_93 (pc := 3) hX d_M_enter_3 ?_
  refine jx_top (y := nI M.w) (s0) ?_
  refine jx_iconst (pc := 6) hX (v := 1) d_M_enter_6 rfl ?_
  refine jx_isub (pc := 7) hX d_M_enter_7 ?_
  refine k_M_111 (pc := 8) hX (t_M_in σ x 0 (nI M.w - 1)) ⟨rfl, rfl, (Nat.le_of_ble_eq_true rfl), (Nat.le_of_ble_eq_true rfl)⟩ rfl rfl (Nat.le_of_ble_eq_true rfl) ⟨Nat.zero_le _, Nat.zero_le _⟩ d_M_enter_8 (fun r hr => ?_)
  rw [in_t (by omega) hx] at hr
  subst hr
  refine jx_istore_n (pc := 11) hX d_M_enter_11 rfl (by decide) (L' := [(0, _), (1, _), (2, _), (3, _)]) rfl ?_
  refine jx_aload_n (pc := 12) hX d_M_enter_12 rfl rfl ?_
  refine jx_iload_n (pc := 13) hX d_M_enter_13 rfl rfl ?_
  refine jx_if_ne (pc := 14) hX 21 d_M_enter_14 rfl (fun _ => ?_) (fun hh => absurd hh (by decide))
  refine jx_iconst (pc := 21) hX (v := 0) d_M_enter_21 rfl ?_
  refine jx_iload_n (pc := 22) hX d_M_enter_22 rfl rfl ?_
  refine jx_if_eq (pc := 23) hX 49 d_M_enter_23 rfl (fun hh => absurd hh (by decide)) (fun _ => ?_)
  refine jx_aload_n (pc := 26) hX d_M_enter_26 rfl rfl ?_
  refine g_M_99 (pc := 27) hX d_M_enter_27 ?_
  refine jx_top (y := nI M.nt) (s2) ?_
  refine jx_sipush (pc := 30) hX (v := 200) d_M_enter_30 rfl ?_
  refine jx_icmp_eq (pc := 33) hX 45 d_M_enter_33 rfl (fun hh => absurd hh (fun q => hf ((nI_eq (by omega) (by decide)).mp q))) (fun _ => ?_)
  refine jx_aload_n (pc := 36) hX d_M_enter_36 rfl rfl ?_
  refine k_M_119 (pc := 37) hX (t_M_left σ M hI hM) ⟨rfl, rfl, (Nat.le_of_ble_eq_true rfl), (Nat.le_of_ble_eq_true rfl)⟩ rfl rfl (Nat.le_of_ble_eq_true rfl) ⟨Nat.zero_le _, Nat.zero_le _⟩ d_M_enter_37 (fun r hr => ?_)
  subst hr
  refine jx_bipush (pc := 40) hX (v := 40) d_M_enter_40 rfl ?_
  refine jx_icmp_ne (pc := 42) hX 49 d_M_enter_42 rfl (fun hh => absurd (by rw [hg]; rfl) hh) (fun _ => ?_)
  refine jx_iconst (pc := 45) hX (v := 1) d_M_enter_45 rfl ?_
  refine jx_goto (pc := 46) hX 50 d_M_enter_46 rfl ?_
  refine k_M_115 (pc := 50) hX (t_M_refuse σ false true) ⟨rfl, rfl, (Nat.le_of_ble_eq_true rfl), (Nat.le_of_ble_eq_true rfl)⟩ rfl rfl (Nat.le_of_ble_eq_true rfl) ⟨Nat.zero_le _, Nat.zero_le _⟩ d_M_enter_50 (fun r u hru => ?_)
  obtain ⟨rfl, rfl⟩ := hru
  refine jx_if_eq (pc := 53) hX 58 d_M_enter_53 rfl (fun hh => absurd hh (by decide)) (fun _ => ?_)
  refine jx_iconst (pc := 56) hX (v := 0) d_M_enter_56 rfl ?_
  exact jx_iret (pc := 57) hX d_M_enter_57 (by unfold o_enter; rw [hx]; dsimp only; rw [if_pos (Or.inr hg)]; exact ⟨rfl, fun h => absurd h (show ¬ (2 : Int32) = 0 by decide), hM⟩)
set_option maxRecDepth 100000 in
set_option maxHeartbeats 4000000 in
theorem t_M_enter_c {l : Launch} {D : va_G} {ad : Nat → Nat} {ac : Nat → ClassId} (σ : St) (M : Ms) (hI : Inv M) (hM : repM σ M) (ob : Bool) (j : Nat) (hj : j < M.w) (hf : ¬ M.nt = 200) (hg : ¬ M.left = 40) : jMi l (yM D ad ac) mt_M_enter TT (rmk 6) [.ref (ad 19), .int (nI j), .int (eB ob)] σ (endM (o_enter M (nI j) ob)) := by
  obtain ⟨⟨⟨s0, s1, s2, s3⟩, h0, h1, h2, h3, h4, h5, h6, h7, h8, h9, h10, h11, h12, h13⟩, hpl⟩ := id hM
  obtain ⟨i1, i2, i3, i4, i5, i6, i7, i8⟩ := id hI
  obtain ⟨p1, p3, p4, p5, p6⟩ := id hpl
  have hw8 := i1.le
  have hw2 := i1.pos
  have hnb := nb_le M.w
  have hlft : M.left ≤ 40 := i5
  refine jMi_of (by decide) (Nat.le_of_ble_eq_true rfl) (List.forall_mem_cons.mpr ⟨rfl, List.forall_mem_cons.mpr ⟨rfl, List.forall_mem_cons.mpr ⟨rfl, fun _ h => absurd h List.not_mem_nil⟩⟩⟩) ?_
  intro X A hX
  have hX : jX X (yM D ad ac) A b_M_enter 4 RM (mt_M_enter.w :: TT) (rmk 6) (some .int) := hX
  show jW l X (yM D ad ac) A 4 0 0 kT (jQi X (yM D ad ac) A (endM (o_enter M (nI j) ob))) σ 0 [(0, .ref (ad 19)), (1, .int (nI j)), (2, .int (eB ob))] []
  refine jx_iload_n (pc := 0) hX d_M_enter_0 rfl rfl ?_
  refine jx_iconst (pc := 1) hX (v := 0) d_M_enter_1 rfl ?_
  refine jx_aload_n (pc := 2) hX d_M_enter_2 rfl rfl ?_
  refine g_M_93 (pc := 3) hX d_M_enter_3 ?_
  refine jx_top (y := nI M.w) (s0) ?_
  refine jx_iconst (pc := 6) hX (v := 1) d_M_enter_6 rfl ?_
  refine jx_isub (pc := 7) hX d_M_enter_7 ?_
  refine k_M_111 (pc := 8) hX (t_M_in σ (nI j) 0 (nI M.w - 1)) ⟨rfl, rfl, (Nat.le_of_ble_eq_true rfl), (Nat.le_of_ble_eq_true rfl)⟩ rfl rfl (Nat.le_of_ble_eq_true rfl) ⟨Nat.zero_le _, Nat.zero_le _⟩ d_M_enter_8 (fun r hr => ?_)
  rw [in_t (by omega) (inR_nI hj (by omega))] at hr
  subst hr
  refine jx_istore_n (pc := 11) hX d_M_enter_11 rfl (by decide) (L' := [(0, _), (1, _), (2, _), (3, _)]) rfl ?_
  refine jx_aload_n (pc := 12) hX d_M_enter_12 rfl rfl ?_
  refine jx_iload_n (pc := 13) hX d_M_enter_13 rfl rfl ?_
  refine jx_if_ne (pc := 14) hX 21 d_M_enter_14 rfl (fun _ => ?_) (fun hh => absurd hh (by decide))
  refine jx_iconst (pc := 21) hX (v := 0) d_M_enter_21 rfl ?_
  refine jx_iload_n (pc := 22) hX d_M_enter_22 rfl rfl ?_
  refine jx_if_eq (pc := 23) hX 49 d_M_enter_23 rfl (fun hh => absurd hh (by decide)) (fun _ => ?_)
  refine jx_aload_n (pc := 26) hX d_M_enter_26 rfl rfl ?_
  refine g_M_99 (pc := 27) hX d_M_enter_27 ?_
  refine jx_top (y := nI M.nt) (s2) ?_
  refine jx_sipush (pc := 30) hX (v := 200) d_M_enter_30 rfl ?_
  refine jx_icmp_eq (pc := 33) hX 45 d_M_enter_33 rfl (fun hh => absurd hh (fun q => hf ((nI_eq (by omega) (by decide)).mp q))) (fun _ => ?_)
  refine jx_aload_n (pc := 36) hX d_M_enter_36 rfl rfl ?_
  refine k_M_119 (pc := 37) hX (t_M_left σ M hI hM) ⟨rfl, rfl, (Nat.le_of_ble_eq_true rfl), (Nat.le_of_ble_eq_true rfl)⟩ rfl rfl (Nat.le_of_ble_eq_true rfl) ⟨Nat.zero_le _, Nat.zero_le _⟩ d_M_enter_37 (fun r hr => ?_)
  subst hr
  refine jx_bipush (pc := 40) hX (v := 40) d_M_enter_40 rfl ?_
  refine jx_icmp_ne (pc := 42) hX 49 d_M_enter_42 rfl (fun _ => ?_) (fun hh => absurd hh (fun q => hg ((nI_eq (by omega) (by decide)).mp q)))
  refine jx_iconst (pc := 49) hX (v := 0) d_M_enter_49 rfl ?_
  refine k_M_115 (pc := 50) hX (t_M_refuse σ false false) ⟨rfl, rfl, (Nat.le_of_ble_eq_true rfl), (Nat.le_of_ble_eq_true rfl)⟩ rfl rfl (Nat.le_of_ble_eq_true rfl) ⟨Nat.zero_le _, Nat.zero_le _⟩ d_M_enter_50 (fun r u hru => ?_)
  obtain ⟨rfl, rfl⟩ := hru
  refine jx_if_eq (pc := 53) hX 58 d_M_enter_53 rfl (fun _ => ?_) (fun hh => absurd (rfl) hh)
  refine jx_aload_n (pc := 58) hX d_M_enter_58 rfl rfl ?_
  refine g_M_35 (pc := 59) hX d_M_enter_59 ?_
  refine jx_aload_n (pc := 62) hX d_M_enter_62 rfl rfl ?_
  refine g_M_99 (pc := 63) hX d_M_enter_63 ?_
  refine jx_iload_n (pc := 66) hX d_M_enter_66 rfl rfl ?_
  refine jx_iast (pc := 67) hX oM_8 _ s2 (show M.nt < 200 by omega) d_M_enter_67 ?_
  refine jx_aload_n (pc := 68) hX d_M_enter_68 rfl rfl ?_
  refine g_M_38 (pc := 69) hX d_M_enter_69 ?_
  refine jx_aload_n (pc := 72) hX d_M_enter_72 rfl rfl ?_
  refine g_M_99 (pc := 73) hX d_M_enter_73 ?_
  refine jx_iconst (pc := 76) hX (v := -1) d_M_enter_76 rfl ?_
  refine jx_iast (pc := 77) hX oM_9 _ s2 (show M.nt < 200 by omega) d_M_enter_77 ?_
  refine jx_aload_n (pc := 78) hX d_M_enter_78 rfl rfl ?_
  refine g_M_41 (pc := 79) hX d_M_enter_79 ?_
  refine jx_aload_n (pc := 82) hX d_M_enter_82 rfl rfl ?_
  refine g_M_99 (pc := 83) hX d_M_enter_83 ?_
  refine jx_iconst (pc := 86) hX (v := 0) d_M_enter_86 rfl ?_
  refine jx_iast (pc := 87) hX oM_10 _ s2 (show M.nt < 200 by omega) d_M_enter_87 ?_
  refine jx_aload_n (pc := 88) hX d_M_enter_88 rfl rfl ?_
  refine g_M_44 (pc := 89) hX d_M_enter_89 ?_
  refine jx_aload_n (pc := 92) hX d_M_enter_92 rfl rfl ?_
  refine g_M_99 (pc := 93) hX d_M_enter_93 ?_
  refine jx_iconst (pc := 96) hX (v := -1) d_M_enter_96 rfl ?_
  refine jx_iast (pc := 97) hX oM_11 _ s2 (show M.nt < 200 by omega) d_M_enter_97 ?_
  refine jx_aload_n (pc := 98) hX d_M_enter_98 rfl rfl ?_
  refine g_M_47 (pc := 99) hX d_M_enter_99 ?_
  refine jx_aload_n (pc := 102) hX d_M_enter_102 rfl rfl ?_
  refine g_M_99 (pc := 103) hX d_M_enter_103 ?_
  refine jx_iconst (pc := 106) hX (v := 0) d_M_enter_106 rfl ?_
  refine jx_iast (pc := 107) hX oM_12 _ s2 (show M.nt < 200 by omega) d_M_enter_107 ?_
  refine jx_aload_n (pc := 108) hX d_M_enter_108 rfl rfl ?_
  refine g_M_50 (pc := 109) hX d_M_enter_109 ?_
  refine jx_aload_n (pc := 112) hX d_M_enter_112 rfl rfl ?_
  refine g_M_99 (pc := 113) hX d_M_enter_113 ?_
  refine jx_iconst (pc := 116) hX (v := -1) d_M_enter_116 rfl ?_
  refine jx_iast (pc := 117) hX oM_13 _ s2 (show M.nt < 200 by omega) d_M_enter_117 ?_
  refine jx_aload_n (pc := 118) hX d_M_enter_118 rfl rfl ?_
  refine g_M_53 (pc := 119) hX d_M_enter_119 ?_
  refine jx_aload_n (pc := 122) hX d_M_enter_122 rfl rfl ?_
  refine g_M_99 (pc := 123) hX d_M_enter_123 ?_
  refine jx_iconst (pc := 126) hX (v := 0) d_M_enter_126 rfl ?_
  refine jx_iast (pc := 127) hX oM_14 _ s2 (show M.nt < 200 by omega) d_M_enter_127 ?_
  refine jx_aload_n (pc := 128) hX d_M_enter_128 rfl rfl ?_
  refine g_M_56 (pc := 129) hX d_M_enter_129 ?_
  refine jx_aload_n (pc := 132) hX d_M_enter_132 rfl rfl ?_
  refine g_M_99 (pc := 133) hX d_M_enter_133 ?_
  refine jx_iload_n (pc := 136) hX d_M_enter_136 rfl rfl ?_
  refine jx_zast (pc := 137) hX oM_15 _ s2 (show M.nt < 200 by omega) (eB_nar ob) d_M_enter_137 ?_
  refine jx_aload_n (pc := 138) hX d_M_enter_138 rfl rfl ?_
  refine jx_dup (pc := 139) hX d_M_enter_139 rfl ?_
  refine g_M_99 (pc := 140) hX d_M_enter_140 ?_
  refine jx_iconst (pc := 143) hX (v := 1) d_M_enter_143 rfl ?_
  refine jx_iadd (pc := 144) hX d_M_enter_144 ?_
  refine p_M_99 (pc := 145) hX d_M_enter_145 ?_
  refine jx_aload_n (pc := 148) hX d_M_enter_148 rfl rfl ?_
  refine g_M_99 (pc := 149) hX d_M_enter_149 ?_
  refine jx_top (y := nI M.nt + 1) (by show σ.1 4 + 1 = _; rw [s2]) ?_
  refine jx_iconst (pc := 152) hX (v := 1) d_M_enter_152 rfl ?_
  refine jx_isub (pc := 153) hX d_M_enter_153 ?_
  refine jx_top (y := nI M.nt) (by rw [nI_1, nI_pred]) ?_
  exact jx_iret (pc := 154) hX d_M_enter_154 (by unfold o_enter; rw [inR_nI hj (by omega)]; dsimp only; rw [if_neg (fun q => q.elim hf hg)]; exact ⟨rfl, fun _ => rfl, hM.1.enter rfl rfl, hpl⟩)
set_option maxRecDepth 100000 in
set_option maxHeartbeats 4000000 in
theorem t_M_move_a {l : Launch} {D : va_G} {ad : Nat → Nat} {ac : Nat → ClassId} (σ : St) (M : Ms) (hI : Inv M) (hM : repM σ M) (x : Int32) (hx : inR x M.nt = none) : jMi l (yM D ad ac) mt_M_move TT (rmk 6) [.ref (ad 19), .int x] σ (endM (o_move M x)) := by
  obtain ⟨⟨⟨s0, s1, s2, s3⟩, h0, h1, h2, h3, h4, h5, h6, h7, h8, h9, h10, h11, h12, h13⟩, hpl⟩ := id hM
  obtain ⟨i1, i2, i3, i4, i5, i6, i7, i8⟩ := id hI
  obtain ⟨p1, p3, p4, p5, p6⟩ := id hpl
  have hw8 := i1.le
  have hw2 := i1.pos
  have hnb := nb_le M.w
  have hlft : M.left ≤ 40 := i5
  refine jMi_of (by decide) (Nat.le_of_ble_eq_true rfl) (List.forall_mem_cons.mpr ⟨rfl, List.forall_mem_cons.mpr ⟨rfl, fun _ h => absurd h List.not_mem_nil⟩⟩) ?_
  intro X A hX
  have hX : jX X (yM D ad ac) A b_M_move 3 RM (mt_M_move.w :: TT) (rmk 6) (some .int) := hX
  show jW l X (yM D ad ac) A 3 0 0 kT (jQi X (yM D ad ac) A (endM (o_move M x))) σ 0 [(0, .ref (ad 19)), (1, .int x)] []
  refine jx_iload_n (pc := 0) hX d_M_move_0 rfl rfl ?_
  refine jx_iconst (pc := 1) hX (v := 0) d_M_move_1 rfl ?_
  refine jx_aload_n (pc := 2) hX d_M_move_2 rfl rfl ?_
  refine g_M_99 (pc := 3) hX d_M_move_3 ?_
  refine jx_top (y := nI M.nt) (s2) ?_
  refine jx_iconst (pc := 6) hX (v := 1) d_M_move_6 rfl ?_
  refine jx_isub (pc := 7) hX d_M_move_7 ?_
  refine k_M_111 (pc := 8) hX (t_M_in σ x 0 (nI M.nt - 1)) ⟨rfl, rfl, (Nat.le_of_ble_eq_true rfl), (Nat.le_of_ble_eq_true rfl)⟩ rfl rfl (Nat.le_of_ble_eq_true rfl) ⟨Nat.zero_le _, Nat.zero_le _⟩ d_M_move_8 (fun r hr => ?_)
  rw [in_f (by omega) hx] at hr
  subst hr
  refine jx_istore_n (pc := 11) hX d_M_move_11 rfl (by decide) (L' := [(0, _), (1, _), (2, _)]) rfl ?_
  refine jx_aload_n (pc := 12) hX d_M_move_12 rfl rfl ?_
  refine jx_iload_n (pc := 13) hX d_M_move_13 rfl rfl ?_
  refine jx_if_ne (pc := 14) hX 21 d_M_move_14 rfl (fun hh => absurd (rfl) hh) (fun _ => ?_)
  refine jx_iconst (pc := 17) hX (v := 1) d_M_move_17 rfl ?_
  refine jx_goto (pc := 18) hX 22 d_M_move_18 rfl ?_
  refine jx_iload_n (pc := 22) hX d_M_move_22 rfl rfl ?_
  refine jx_if_eq (pc := 23) hX 38 d_M_move_23 rfl (fun _ => ?_) (fun hh => absurd (rfl) hh)
  refine jx_iconst (pc := 38) hX (v := 0) d_M_move_38 rfl ?_
  refine k_M_115 (pc := 39) hX (t_M_refuse σ true false) ⟨rfl, rfl, (Nat.le_of_ble_eq_true rfl), (Nat.le_of_ble_eq_true rfl)⟩ rfl rfl (Nat.le_of_ble_eq_true rfl) ⟨Nat.zero_le _, Nat.zero_le _⟩ d_M_move_39 (fun r u hru => ?_)
  obtain ⟨rfl, rfl⟩ := hru
  refine jx_if_eq (pc := 42) hX 47 d_M_move_42 rfl (fun hh => absurd hh (by decide)) (fun _ => ?_)
  refine jx_iconst (pc := 45) hX (v := 0) d_M_move_45 rfl ?_
  exact jx_iret (pc := 46) hX d_M_move_46 (by unfold o_move; rw [hx]; exact ⟨rfl, fun h => absurd h (show ¬ (1 : Int32) = 0 by decide), hM⟩)
set_option maxRecDepth 100000 in
set_option maxHeartbeats 4000000 in
theorem t_M_move_b {l : Launch} {D : va_G} {ad : Nat → Nat} {ac : Nat → ClassId} (σ : St) (M : Ms) (hI : Inv M) (hM : repM σ M) (t : Nat) (ht : t < M.nt) (hc : M.can t = false) : jMi l (yM D ad ac) mt_M_move TT (rmk 6) [.ref (ad 19), .int (nI t)] σ (endM (o_move M (nI t))) := by
  obtain ⟨⟨⟨s0, s1, s2, s3⟩, h0, h1, h2, h3, h4, h5, h6, h7, h8, h9, h10, h11, h12, h13⟩, hpl⟩ := id hM
  obtain ⟨i1, i2, i3, i4, i5, i6, i7, i8⟩ := id hI
  obtain ⟨p1, p3, p4, p5, p6⟩ := id hpl
  have hw8 := i1.le
  have hw2 := i1.pos
  have hnb := nb_le M.w
  have hlft : M.left ≤ 40 := i5
  refine jMi_of (by decide) (Nat.le_of_ble_eq_true rfl) (List.forall_mem_cons.mpr ⟨rfl, List.forall_mem_cons.mpr ⟨rfl, fun _ h => absurd h List.not_mem_nil⟩⟩) ?_
  intro X A hX
  have hX : jX X (yM D ad ac) A b_M_move 3 RM (mt_M_move.w :: TT) (rmk 6) (some .int) := hX
  show jW l X (yM D ad ac) A 3 0 0 kT (jQi X (yM D ad ac) A (endM (o_move M (nI t)))) σ 0 [(0, .ref (ad 19)), (1, .int (nI t))] []
  refine jx_iload_n (pc := 0) hX d_M_move_0 rfl rfl ?_
  refine jx_iconst (pc := 1) hX (v := 0) d_M_move_1 rfl ?_
  refine jx_aload_n (pc := 2) hX d_M_move_2 rfl rfl ?_
  refine g_M_99 (pc := 3) hX d_M_move_3 ?_
  refine jx_top (y := nI M.nt) (s2) ?_
  refine jx_iconst (pc := 6) hX (v := 1) d_M_move_6 rfl ?_
  refine jx_isub (pc := 7) hX d_M_move_7 ?_
  refine k_M_111 (pc := 8) hX (t_M_in σ (nI t) 0 (nI M.nt - 1)) ⟨rfl, rfl, (Nat.le_of_ble_eq_true rfl), (Nat.le_of_ble_eq_true rfl)⟩ rfl rfl (Nat.le_of_ble_eq_true rfl) ⟨Nat.zero_le _, Nat.zero_le _⟩ d_M_move_8 (fun r hr => ?_)
  rw [in_t (by omega) (inR_nI ht (by omega))] at hr
  subst hr
  refine jx_istore_n (pc := 11) hX d_M_move_11 rfl (by decide) (L' := [(0, _), (1, _), (2, _)]) rfl ?_
  refine jx_aload_n (pc := 12) hX d_M_move_12 rfl rfl ?_
  refine jx_iload_n (pc := 13) hX d_M_move_13 rfl rfl ?_
  refine jx_if_ne (pc := 14) hX 21 d_M_move_14 rfl (fun _ => ?_) (fun hh => absurd hh (by decide))
  refine jx_iconst (pc := 21) hX (v := 0) d_M_move_21 rfl ?_
  refine jx_iload_n (pc := 22) hX d_M_move_22 rfl rfl ?_
  refine jx_if_eq (pc := 23) hX 38 d_M_move_23 rfl (fun hh => absurd hh (by decide)) (fun _ => ?_)
  refine jx_aload_n (pc := 26) hX d_M_move_26 rfl rfl ?_
  refine jx_iload_n (pc := 27) hX d_M_move_27 rfl rfl ?_
  refine k_M_137 (pc := 28) hX (t_M_isStuck σ M hI hM t ht) ⟨rfl, rfl, (Nat.le_of_ble_eq_true rfl), (Nat.le_of_ble_eq_true rfl)⟩ rfl rfl (Nat.le_of_ble_eq_true rfl) ⟨Nat.zero_le _, Nat.zero_le _⟩ d_M_move_28 (fun r hr => ?_)
  rw [hc] at hr
  subst hr
  refine jx_if_eq (pc := 31) hX 38 d_M_move_31 rfl (fun hh => absurd hh (by decide)) (fun _ => ?_)
  refine jx_iconst (pc := 34) hX (v := 1) d_M_move_34 rfl ?_
  refine jx_goto (pc := 35) hX 39 d_M_move_35 rfl ?_
  refine k_M_115 (pc := 39) hX (t_M_refuse σ false true) ⟨rfl, rfl, (Nat.le_of_ble_eq_true rfl), (Nat.le_of_ble_eq_true rfl)⟩ rfl rfl (Nat.le_of_ble_eq_true rfl) ⟨Nat.zero_le _, Nat.zero_le _⟩ d_M_move_39 (fun r u hru => ?_)
  obtain ⟨rfl, rfl⟩ := hru
  refine jx_if_eq (pc := 42) hX 47 d_M_move_42 rfl (fun hh => absurd hh (by decide)) (fun _ => ?_)
  refine jx_iconst (pc := 45) hX (v := 0) d_M_move_45 rfl ?_
  exact jx_iret (pc := 46) hX d_M_move_46 (by unfold o_move; rw [inR_nI ht (by omega)]; dsimp only; rw [if_neg (by rw [hc]; decide)]; exact ⟨rfl, fun h => absurd h (show ¬ (2 : Int32) = 0 by decide), hM⟩)
set_option maxRecDepth 100000 in
set_option maxHeartbeats 4000000 in
theorem t_M_move_c {l : Launch} {D : va_G} {ad : Nat → Nat} {ac : Nat → ClassId} (σ : St) (M : Ms) (hI : Inv M) (hM : repM σ M) (t : Nat) (ht : t < M.nt) (hc : M.can t = true) : jMi l (yM D ad ac) mt_M_move TT (rmk 6) [.ref (ad 19), .int (nI t)] σ (endM (o_move M (nI t))) := by
  obtain ⟨⟨⟨s0, s1, s2, s3⟩, h0, h1, h2, h3, h4, h5, h6, h7, h8, h9, h10, h11, h12, h13⟩, hpl⟩ := id hM
  obtain ⟨i1, i2, i3, i4, i5, i6, i7, i8⟩ := id hI
  obtain ⟨p1, p3, p4, p5, p6⟩ := id hpl
  have hw8 := i1.le
  have hw2 := i1.pos
  have hnb := nb_le M.w
  have hlft : M.left ≤ 40 := i5
  refine jMi_of (by decide) (Nat.le_of_ble_eq_true rfl) (List.forall_mem_cons.mpr ⟨rfl, List.forall_mem_cons.mpr ⟨rfl, fun _ h => absurd h List.not_mem_nil⟩⟩) ?_
  intro X A hX
  have hX : jX X (yM D ad ac) A b_M_move 3 RM (mt_M_move.w :: TT) (rmk 6) (some .int) := hX
  show jW l X (yM D ad ac) A 3 0 0 kT (jQi X (yM D ad ac) A (endM (o_move M (nI t)))) σ 0 [(0, .ref (ad 19)), (1, .int (nI t))] []
  refine jx_iload_n (pc := 0) hX d_M_move_0 rfl rfl ?_
  refine jx_iconst (pc := 1) hX (v := 0) d_M_move_1 rfl ?_
  refine jx_aload_n (pc := 2) hX d_M_move_2 rfl rfl ?_
  refine g_M_99 (pc := 3) hX d_M_move_3 ?_
  refine jx_top (y := nI M.nt) (s2) ?_
  refine jx_iconst (pc := 6) hX (v := 1) d_M_move_6 rfl ?_
  refine jx_isub (pc := 7) hX d_M_move_7 ?_
  refine k_M_111 (pc := 8) hX (t_M_in σ (nI t) 0 (nI M.nt - 1)) ⟨rfl, rfl, (Nat.le_of_ble_eq_true rfl), (Nat.le_of_ble_eq_true rfl)⟩ rfl rfl (Nat.le_of_ble_eq_true rfl) ⟨Nat.zero_le _, Nat.zero_le _⟩ d_M_move_8 (fun r hr => ?_)
  rw [in_t (by omega) (inR_nI ht (by omega))] at hr
  subst hr
  refine jx_istore_n (pc := 11) hX d_M_move_11 rfl (by decide) (L' := [(0, _), (1, _), (2, _)]) rfl ?_
  refine jx_aload_n (pc := 12) hX d_M_move_12 rfl rfl ?_
  refine jx_iload_n (pc := 13) hX d_M_move_13 rfl rfl ?_
  refine jx_if_ne (pc := 14) hX 21 d_M_move_14 rfl (fun _ => ?_) (fun hh => absurd hh (by decide))
  refine jx_iconst (pc := 21) hX (v := 0) d_M_move_21 rfl ?_
  refine jx_iload_n (pc := 22) hX d_M_move_22 rfl rfl ?_
  refine jx_if_eq (pc := 23) hX 38 d_M_move_23 rfl (fun hh => absurd hh (by decide)) (fun _ => ?_)
  refine jx_aload_n (pc := 26) hX d_M_move_26 rfl rfl ?_
  refine jx_iload_n (pc := 27) hX d_M_move_27 rfl rfl ?_
  refine k_M_137 (pc := 28) hX (t_M_isStuck σ M hI hM t ht) ⟨rfl, rfl, (Nat.le_of_ble_eq_true rfl), (Nat.le_of_ble_eq_true rfl)⟩ rfl rfl (Nat.le_of_ble_eq_true rfl) ⟨Nat.zero_le _, Nat.zero_le _⟩ d_M_move_28 (fun r hr => ?_)
  rw [hc] at hr
  subst hr
  refine jx_if_eq (pc := 31) hX 38 d_M_move_31 rfl (fun _ => ?_) (fun hh => absurd (rfl) hh)
  refine jx_iconst (pc := 38) hX (v := 0) d_M_move_38 rfl ?_
  refine k_M_115 (pc := 39) hX (t_M_refuse σ false false) ⟨rfl, rfl, (Nat.le_of_ble_eq_true rfl), (Nat.le_of_ble_eq_true rfl)⟩ rfl rfl (Nat.le_of_ble_eq_true rfl) ⟨Nat.zero_le _, Nat.zero_le _⟩ d_M_move_39 (fun r u hru => ?_)
  obtain ⟨rfl, rfl⟩ := hru
  refine jx_if_eq (pc := 42) hX 47 d_M_move_42 rfl (fun _ => ?_) (fun hh => absurd (rfl) hh)
  refine jx_aload_n (pc := 47) hX d_M_move_47 rfl rfl ?_
  refine jx_iload_n (pc := 48) hX d_M_move_48 rfl rfl ?_
  refine k_M_141 (pc := 49) hX (t_M_step (sF σ 0 0) M hI hM t ht hc) ⟨rfl, rfl, (Nat.le_of_ble_eq_true rfl), (Nat.le_of_ble_eq_true rfl)⟩ rfl rfl (Nat.le_of_ble_eq_true rfl) ⟨Nat.zero_le _, Nat.zero_le _⟩ d_M_move_49 (fun r u hru => ?_)
  exact jx_iret (pc := 52) hX d_M_move_52 (by unfold o_move; rw [inR_nI ht (by omega)]; dsimp only; rw [if_pos hc]; exact ⟨hru.2.2, fun _ => hru.1, hru.2.1⟩)
set_option maxRecDepth 100000 in
set_option maxHeartbeats 4000000 in
theorem t_M_deliver_a {l : Launch} {D : va_G} {ad : Nat → Nat} {ac : Nat → ClassId} (σ : St) (M : Ms) (hI : Inv M) (hM : repM σ M) (x : Int32) (hx : inR x M.nl = none) : jMi l (yM D ad ac) mt_M_deliver TT (rmk 6) [.ref (ad 19), .int x] σ (endM (o_deliver M x)) := by
  obtain ⟨⟨⟨s0, s1, s2, s3⟩, h0, h1, h2, h3, h4, h5, h6, h7, h8, h9, h10, h11, h12, h13⟩, hpl⟩ := id hM
  obtain ⟨i1, i2, i3, i4, i5, i6, i7, i8⟩ := id hI
  obtain ⟨p1, p3, p4, p5, p6⟩ := id hpl
  have hw8 := i1.le
  have hw2 := i1.pos
  have hnb := nb_le M.w
  have hlft : M.left ≤ 40 := i5
  refine jMi_of (by decide) (Nat.le_of_ble_eq_true rfl) (List.forall_mem_cons.mpr ⟨rfl, List.forall_mem_cons.mpr ⟨rfl, fun _ h => absurd h List.not_mem_nil⟩⟩) ?_
  intro X A hX
  have hX : jX X (yM D ad ac) A b_M_deliver 5 RM (mt_M_deliver.w :: TT) (rmk 6) (some .int) := hX
  show jW l X (yM D ad ac) A 5 0 0 kT (jQi X (yM D ad ac) A (endM (o_deliver M x))) σ 0 [(0, .ref (ad 19)), (1, .int x)] []
  refine jx_aload_n (pc := 0) hX d_M_deliver_0 rfl rfl ?_
  refine jx_iload_n (pc := 1) hX d_M_deliver_1 rfl rfl ?_
  refine jx_iconst (pc := 2) hX (v := 0) d_M_deliver_2 rfl ?_
  refine jx_aload_n (pc := 3) hX d_M_deliver_3 rfl rfl ?_
  refine g_M_102 (pc := 4) hX d_M_deliver_4 ?_
  refine jx_top (y := nI M.nl) (s3) ?_
  refine jx_iconst (pc := 7) hX (v := 1) d_M_deliver_7 rfl ?_
  refine jx_isub (pc := 8) hX d_M_deliver_8 ?_
  refine k_M_111 (pc := 9) hX (t_M_in σ x 0 (nI M.nl - 1)) ⟨rfl, rfl, (Nat.le_of_ble_eq_true rfl), (Nat.le_of_ble_eq_true rfl)⟩ rfl rfl (Nat.le_of_ble_eq_true rfl) ⟨Nat.zero_le _, Nat.zero_le _⟩ d_M_deliver_9 (fun r hr => ?_)
  rw [in_f (by omega) hx] at hr
  subst hr
  refine jx_if_ne (pc := 12) hX 19 d_M_deliver_12 rfl (fun hh => absurd (rfl) hh) (fun _ => ?_)
  refine jx_iconst (pc := 15) hX (v := 1) d_M_deliver_15 rfl ?_
  refine jx_goto (pc := 16) hX 20 d_M_deliver_16 rfl ?_
  refine jx_iconst (pc := 20) hX (v := 0) d_M_deliver_20 rfl ?_
  refine k_M_115 (pc := 21) hX (t_M_refuse σ true false) ⟨rfl, rfl, (Nat.le_of_ble_eq_true rfl), (Nat.le_of_ble_eq_true rfl)⟩ rfl rfl (Nat.le_of_ble_eq_true rfl) ⟨Nat.zero_le _, Nat.zero_le _⟩ d_M_deliver_21 (fun r u hru => ?_)
  obtain ⟨rfl, rfl⟩ := hru
  refine jx_if_eq (pc := 24) hX 29 d_M_deliver_24 rfl (fun hh => absurd hh (by decide)) (fun _ => ?_)
  refine jx_iconst (pc := 27) hX (v := 0) d_M_deliver_27 rfl ?_
  exact jx_iret (pc := 28) hX d_M_deliver_28 (by unfold o_deliver; rw [hx]; exact ⟨rfl, fun h => absurd h (show ¬ (1 : Int32) = 0 by decide), hM⟩)
set_option maxRecDepth 100000 in
set_option maxHeartbeats 4000000 in
theorem t_M_deliver_c {l : Launch} {D : va_G} {ad : Nat → Nat} {ac : Nat → ClassId} (σ : St) (M : Ms) (hI : Inv M) (hM : repM σ M) (i : Nat) (hi : i < M.nl) : jMi l (yM D ad ac) mt_M_deliver TT (rmk 6) [.ref (ad 19), .int (nI i)] σ (endM (o_deliver M (nI i))) := by
  obtain ⟨⟨⟨s0, s1, s2, s3⟩, h0, h1, h2, h3, h4, h5, h6, h7, h8, h9, h10, h11, h12, h13⟩, hpl⟩ := id hM
  obtain ⟨i1, i2, i3, i4, i5, i6, i7, i8⟩ := id hI
  obtain ⟨p1, p3, p4, p5, p6⟩ := id hpl
  have hw8 := i1.le
  have hw2 := i1.pos
  have hnb := nb_le M.w
  have hlft : M.left ≤ 40 := i5
  obtain ⟨k1, k2⟩ := i7 i hi
  have k3 := (i6 _ k1).2.2.1
  refine jMi_of (by decide) (Nat.le_of_ble_eq_true rfl) (List.forall_mem_cons.mpr ⟨rfl, List.forall_mem_cons.mpr ⟨rfl, fun _ h => absurd h List.not_mem_nil⟩⟩) ?_
  intro X A hX
  have hX : jX X (yM D ad ac) A b_M_deliver 5 RM (mt_M_deliver.w :: TT) (rmk 6) (some .int) := hX
  show jW l X (yM D ad ac) A 5 0 0 kT (jQi X (yM D ad ac) A (endM (o_deliver M (nI i)))) σ 0 [(0, .ref (ad 19)), (1, .int (nI i))] []
  refine jx_aload_n (pc := 0) hX d_M_deliver_0 rfl rfl ?_
  refine jx_iload_n (pc := 1) hX d_M_deliver_1 rfl rfl ?_
  refine jx_iconst (pc := 2) hX (v := 0) d_M_deliver_2 rfl ?_
  refine jx_aload_n (pc := 3) hX d_M_deliver_3 rfl rfl ?_
  refine g_M_102 (pc := 4) hX d_M_deliver_4 ?_
  refine jx_top (y := nI M.nl) (s3) ?_
  refine jx_iconst (pc := 7) hX (v := 1) d_M_deliver_7 rfl ?_
  refine jx_isub (pc := 8) hX d_M_deliver_8 ?_
  refine k_M_111 (pc := 9) hX (t_M_in σ (nI i) 0 (nI M.nl - 1)) ⟨rfl, rfl, (Nat.le_of_ble_eq_true rfl), (Nat.le_of_ble_eq_true rfl)⟩ rfl rfl (Nat.le_of_ble_eq_true rfl) ⟨Nat.zero_le _, Nat.zero_le _⟩ d_M_deliver_9 (fun r hr => ?_)
  rw [in_t (by omega) (inR_nI hi (by omega))] at hr
  subst hr
  refine jx_if_ne (pc := 12) hX 19 d_M_deliver_12 rfl (fun _ => ?_) (fun hh => absurd hh (by decide))
  refine jx_iconst (pc := 19) hX (v := 0) d_M_deliver_19 rfl ?_
  refine jx_iconst (pc := 20) hX (v := 0) d_M_deliver_20 rfl ?_
  refine k_M_115 (pc := 21) hX (t_M_refuse σ false false) ⟨rfl, rfl, (Nat.le_of_ble_eq_true rfl), (Nat.le_of_ble_eq_true rfl)⟩ rfl rfl (Nat.le_of_ble_eq_true rfl) ⟨Nat.zero_le _, Nat.zero_le _⟩ d_M_deliver_21 (fun r u hru => ?_)
  obtain ⟨rfl, rfl⟩ := hru
  refine jx_if_eq (pc := 24) hX 29 d_M_deliver_24 rfl (fun _ => ?_) (fun hh => absurd (rfl) hh)
  refine jx_aload_n (pc := 29) hX d_M_deliver_29 rfl rfl ?_
  refine g_M_59 (pc := 30) hX d_M_deliver_30 ?_
  refine jx_iload_n (pc := 33) hX d_M_deliver_33 rfl rfl ?_
  refine jx_iald (pc := 34) hX oM_16 _ rfl (show i < 60 by omega) d_M_deliver_34 ?_
  refine jx_top (y := nI (M.la i)) (h8 i hi) ?_
  refine jx_istore_n (pc := 35) hX d_M_deliver_35 rfl (by decide) (L' := [(0, _), (1, _), (2, _)]) rfl ?_
  refine jx_aload_n (pc := 36) hX d_M_deliver_36 rfl rfl ?_
  refine g_M_62 (pc := 37) hX d_M_deliver_37 ?_
  refine jx_iload_n (pc := 40) hX d_M_deliver_40 rfl rfl ?_
  refine jx_iald (pc := 41) hX oM_17 _ rfl (show i < 60 by omega) d_M_deliver_41 ?_
  refine jx_top (y := nI (M.lt i)) (h10 i hi) ?_
  refine jx_istore_n (pc := 42) hX d_M_deliver_42 rfl (by decide) (L' := [(0, _), (1, _), (2, _), (3, _)]) rfl ?_
  refine jx_aload_n (pc := 43) hX d_M_deliver_43 rfl rfl ?_
  refine g_M_28 (pc := 44) hX d_M_deliver_44 ?_
  refine jx_iload_n (pc := 47) hX d_M_deliver_47 rfl rfl ?_
  refine jx_zald (pc := 48) hX oM_6 _ rfl (show M.lt i < 6 by omega) d_M_deliver_48 ?_
  refine jx_top (y := eB (M.down (M.lt i))) (h11 _ (by omega)) ?_
  refine jx_if_ne (pc := 49) hX 81 d_M_deliver_49 rfl (fun q49 => ?_) (fun q49 => ?_)
  · have hc : M.comes i = false := Ms.comes_f (Or.inl (eB_n0.mp q49))
    refine jx_iconst (pc := 81) hX (v := 0) d_M_deliver_81 rfl ?_
    refine jx_istore (pc := 82) hX d_M_deliver_82 (by decide) (L' := [(0, _), (1, _), (2, _), (3, _), (4, _)]) rfl ?_
    refine jx_aload_n (pc := 84) hX d_M_deliver_84 rfl rfl ?_
    refine jx_iload_n (pc := 85) hX d_M_deliver_85 rfl rfl ?_
    refine k_M_144 (pc := 86) hX (t_M_take (sF σ 0 0) M hI hM i hi) ⟨rfl, rfl, (Nat.le_of_ble_eq_true rfl), (Nat.le_of_ble_eq_true rfl)⟩ rfl rfl (Nat.le_of_ble_eq_true rfl) ⟨Nat.zero_le _, Nat.zero_le _⟩ d_M_deliver_86 (fun u hu => ?_)
    refine jx_iload (pc := 89) hX d_M_deliver_89 rfl ?_
    refine jx_if_ne (pc := 91) hX 96 d_M_deliver_91 rfl (fun hh => absurd (rfl) hh) (fun _ => ?_)
    refine jx_iconst (pc := 94) hX (v := 0) d_M_deliver_94 rfl ?_
    exact jx_iret (pc := 95) hX d_M_deliver_95 (by unfold o_deliver; rw [inR_nI hi (by omega)]; dsimp only; rw [hc, Ms.deliver_f hc]; exact ⟨hu.2, fun _ => rfl, hu.1⟩)
  · refine jx_aload_n (pc := 52) hX d_M_deliver_52 rfl rfl ?_
    refine g_M_41 (pc := 53) hX d_M_deliver_53 ?_
    refine jx_iload_n (pc := 56) hX d_M_deliver_56 rfl rfl ?_
    refine jx_iald (pc := 57) hX oM_10 _ rfl (show M.la i < 200 by omega) d_M_deliver_57 ?_
    refine jx_top (y := nI (M.state (M.la i))) (h2 _ k1) ?_
    refine jx_iconst (pc := 58) hX (v := 1) d_M_deliver_58 rfl ?_
    refine jx_icmp_ne (pc := 59) hX 81 d_M_deliver_59 rfl (fun q59 => ?_) (fun q59 => ?_)
    · have hc : M.comes i = false := Ms.comes_f (Or.inr (Or.inl (fun q => q59 ((nI_n1 (by omega)).mpr q))))
      refine jx_iconst (pc := 81) hX (v := 0) d_M_deliver_81 rfl ?_
      refine jx_istore (pc := 82) hX d_M_deliver_82 (by decide) (L' := [(0, _), (1, _), (2, _), (3, _), (4, _)]) rfl ?_
      refine jx_aload_n (pc := 84) hX d_M_deliver_84 rfl rfl ?_
      refine jx_iload_n (pc := 85) hX d_M_deliver_85 rfl rfl ?_
      refine k_M_144 (pc := 86) hX (t_M_take (sF σ 0 0) M hI hM i hi) ⟨rfl, rfl, (Nat.le_of_ble_eq_true rfl), (Nat.le_of_ble_eq_true rfl)⟩ rfl rfl (Nat.le_of_ble_eq_true rfl) ⟨Nat.zero_le _, Nat.zero_le _⟩ d_M_deliver_86 (fun u hu => ?_)
      refine jx_iload (pc := 89) hX d_M_deliver_89 rfl ?_
      refine jx_if_ne (pc := 91) hX 96 d_M_deliver_91 rfl (fun hh => absurd (rfl) hh) (fun _ => ?_)
      refine jx_iconst (pc := 94) hX (v := 0) d_M_deliver_94 rfl ?_
      exact jx_iret (pc := 95) hX d_M_deliver_95 (by unfold o_deliver; rw [inR_nI hi (by omega)]; dsimp only; rw [hc, Ms.deliver_f hc]; exact ⟨hu.2, fun _ => rfl, hu.1⟩)
    · have a59 : M.state (M.la i) = 1 := (nI_n1 (by omega)).mp q59
      refine jx_aload_n (pc := 62) hX d_M_deliver_62 rfl rfl ?_
      refine g_M_65 (pc := 63) hX d_M_deliver_63 ?_
      refine jx_iload_n (pc := 66) hX d_M_deliver_66 rfl rfl ?_
      refine jx_iald (pc := 67) hX oM_18 _ rfl (show i < 60 by omega) d_M_deliver_67 ?_
      refine jx_top (y := M.lw i) (h9 i hi) ?_
      refine jx_aload_n (pc := 68) hX d_M_deliver_68 rfl rfl ?_
      refine g_M_53 (pc := 69) hX d_M_deliver_69 ?_
      refine jx_iload_n (pc := 72) hX d_M_deliver_72 rfl rfl ?_
      refine jx_iald (pc := 73) hX oM_14 _ rfl (show M.la i < 200 by omega) d_M_deliver_73 ?_
      refine jx_top (y := M.way (M.la i)) (h5 _ k1) ?_
      refine jx_icmp_ne (pc := 74) hX 81 d_M_deliver_74 rfl (fun q74 => ?_) (fun q74 => ?_)
      · have hc : M.comes i = false := Ms.comes_f (Or.inr (Or.inr (fun q => q74 q.symm)))
        refine jx_iconst (pc := 81) hX (v := 0) d_M_deliver_81 rfl ?_
        refine jx_istore (pc := 82) hX d_M_deliver_82 (by decide) (L' := [(0, _), (1, _), (2, _), (3, _), (4, _)]) rfl ?_
        refine jx_aload_n (pc := 84) hX d_M_deliver_84 rfl rfl ?_
        refine jx_iload_n (pc := 85) hX d_M_deliver_85 rfl rfl ?_
        refine k_M_144 (pc := 86) hX (t_M_take (sF σ 0 0) M hI hM i hi) ⟨rfl, rfl, (Nat.le_of_ble_eq_true rfl), (Nat.le_of_ble_eq_true rfl)⟩ rfl rfl (Nat.le_of_ble_eq_true rfl) ⟨Nat.zero_le _, Nat.zero_le _⟩ d_M_deliver_86 (fun u hu => ?_)
        refine jx_iload (pc := 89) hX d_M_deliver_89 rfl ?_
        refine jx_if_ne (pc := 91) hX 96 d_M_deliver_91 rfl (fun hh => absurd (rfl) hh) (fun _ => ?_)
        refine jx_iconst (pc := 94) hX (v := 0) d_M_deliver_94 rfl ?_
        exact jx_iret (pc := 95) hX d_M_deliver_95 (by unfold o_deliver; rw [inR_nI hi (by omega)]; dsimp only; rw [hc, Ms.deliver_f hc]; exact ⟨hu.2, fun _ => rfl, hu.1⟩)
      · have hc : M.comes i = true := Ms.comes_t (eB_0.mp q49) a59 q74.symm
        refine jx_iconst (pc := 77) hX (v := 1) d_M_deliver_77 rfl ?_
        refine jx_goto (pc := 78) hX 82 d_M_deliver_78 rfl ?_
        refine jx_istore (pc := 82) hX d_M_deliver_82 (by decide) (L' := [(0, _), (1, _), (2, _), (3, _), (4, _)]) rfl ?_
        refine jx_aload_n (pc := 84) hX d_M_deliver_84 rfl rfl ?_
        refine jx_iload_n (pc := 85) hX d_M_deliver_85 rfl rfl ?_
        refine k_M_144 (pc := 86) hX (t_M_take (sF σ 0 0) M hI hM i hi) ⟨rfl, rfl, (Nat.le_of_ble_eq_true rfl), (Nat.le_of_ble_eq_true rfl)⟩ rfl rfl (Nat.le_of_ble_eq_true rfl) ⟨Nat.zero_le _, Nat.zero_le _⟩ d_M_deliver_86 (fun u hu => ?_)
        refine jx_iload (pc := 89) hX d_M_deliver_89 rfl ?_
        refine jx_if_ne (pc := 91) hX 96 d_M_deliver_91 rfl (fun _ => ?_) (fun hh => absurd hh (by decide))
        refine jx_aload_n (pc := 96) hX d_M_deliver_96 rfl rfl ?_
        refine g_M_38 (pc := 97) hX d_M_deliver_97 ?_
        refine jx_iload_n (pc := 100) hX d_M_deliver_100 rfl rfl ?_
        refine jx_iload_n (pc := 101) hX d_M_deliver_101 rfl rfl ?_
        refine jx_iast (pc := 102) hX oM_9 _ rfl (show M.la i < 200 by omega) d_M_deliver_102 ?_
        refine jx_aload_n (pc := 103) hX d_M_deliver_103 rfl rfl ?_
        refine g_M_41 (pc := 104) hX d_M_deliver_104 ?_
        refine jx_iload_n (pc := 107) hX d_M_deliver_107 rfl rfl ?_
        refine jx_iconst (pc := 108) hX (v := 0) d_M_deliver_108 rfl ?_
        refine jx_iast (pc := 109) hX oM_10 _ rfl (show M.la i < 200 by omega) d_M_deliver_109 ?_
        refine jx_iconst (pc := 110) hX (v := 1) d_M_deliver_110 rfl ?_
        exact jx_iret (pc := 111) hX d_M_deliver_111 (by unfold o_deliver; rw [inR_nI hi (by omega)]; dsimp only; rw [hc, Ms.deliver_t hc]; exact ⟨hu.2, fun _ => rfl, hu.1.1.arrive rfl, hu.1.2⟩)
set_option maxRecDepth 100000 in
set_option maxHeartbeats 4000000 in
theorem t_M_lose_a {l : Launch} {D : va_G} {ad : Nat → Nat} {ac : Nat → ClassId} (σ : St) (M : Ms) (hI : Inv M) (hM : repM σ M) (x : Int32) (hx : inR x M.nl = none) : jMv l (yM D ad ac) mt_M_lose TT (rmk 6) [.ref (ad 19), .int x] σ (endMv (o_lose M x)) := by
  obtain ⟨⟨⟨s0, s1, s2, s3⟩, h0, h1, h2, h3, h4, h5, h6, h7, h8, h9, h10, h11, h12, h13⟩, hpl⟩ := id hM
  obtain ⟨i1, i2, i3, i4, i5, i6, i7, i8⟩ := id hI
  obtain ⟨p1, p3, p4, p5, p6⟩ := id hpl
  have hw8 := i1.le
  have hw2 := i1.pos
  have hnb := nb_le M.w
  have hlft : M.left ≤ 40 := i5
  refine jMv_of (by decide) (Nat.le_of_ble_eq_true rfl) (List.forall_mem_cons.mpr ⟨rfl, List.forall_mem_cons.mpr ⟨rfl, fun _ h => absurd h List.not_mem_nil⟩⟩) ?_
  intro X A hX
  have hX : jX X (yM D ad ac) A b_M_lose 2 RM (mt_M_lose.w :: TT) (rmk 6) none := hX
  show jW l X (yM D ad ac) A 2 0 0 kT (jQv X (yM D ad ac) A (endMv (o_lose M x))) σ 0 [(0, .ref (ad 19)), (1, .int x)] []
  refine jx_aload_n (pc := 0) hX d_M_lose_0 rfl rfl ?_
  refine jx_iload_n (pc := 1) hX d_M_lose_1 rfl rfl ?_
  refine jx_iconst (pc := 2) hX (v := 0) d_M_lose_2 rfl ?_
  refine jx_aload_n (pc := 3) hX d_M_lose_3 rfl rfl ?_
  refine g_M_102 (pc := 4) hX d_M_lose_4 ?_
  refine jx_top (y := nI M.nl) (s3) ?_
  refine jx_iconst (pc := 7) hX (v := 1) d_M_lose_7 rfl ?_
  refine jx_isub (pc := 8) hX d_M_lose_8 ?_
  refine k_M_111 (pc := 9) hX (t_M_in σ x 0 (nI M.nl - 1)) ⟨rfl, rfl, (Nat.le_of_ble_eq_true rfl), (Nat.le_of_ble_eq_true rfl)⟩ rfl rfl (Nat.le_of_ble_eq_true rfl) ⟨Nat.zero_le _, Nat.zero_le _⟩ d_M_lose_9 (fun r hr => ?_)
  rw [in_f (by omega) hx] at hr
  subst hr
  refine jx_if_ne (pc := 12) hX 19 d_M_lose_12 rfl (fun hh => absurd (rfl) hh) (fun _ => ?_)
  refine jx_iconst (pc := 15) hX (v := 1) d_M_lose_15 rfl ?_
  refine jx_goto (pc := 16) hX 20 d_M_lose_16 rfl ?_
  refine jx_iconst (pc := 20) hX (v := 0) d_M_lose_20 rfl ?_
  refine k_M_115 (pc := 21) hX (t_M_refuse σ true false) ⟨rfl, rfl, (Nat.le_of_ble_eq_true rfl), (Nat.le_of_ble_eq_true rfl)⟩ rfl rfl (Nat.le_of_ble_eq_true rfl) ⟨Nat.zero_le _, Nat.zero_le _⟩ d_M_lose_21 (fun r u hru => ?_)
  obtain ⟨rfl, rfl⟩ := hru
  refine jx_if_ne (pc := 24) hX 32 d_M_lose_24 rfl (fun _ => ?_) (fun hh => absurd hh (by decide))
  exact jx_vret (pc := 32) hX d_M_lose_32 (by unfold o_lose; rw [hx]; exact ⟨rfl, hM⟩)
set_option maxRecDepth 100000 in
set_option maxHeartbeats 4000000 in
theorem t_M_lose_c {l : Launch} {D : va_G} {ad : Nat → Nat} {ac : Nat → ClassId} (σ : St) (M : Ms) (hI : Inv M) (hM : repM σ M) (i : Nat) (hi : i < M.nl) : jMv l (yM D ad ac) mt_M_lose TT (rmk 6) [.ref (ad 19), .int (nI i)] σ (endMv (o_lose M (nI i))) := by
  obtain ⟨⟨⟨s0, s1, s2, s3⟩, h0, h1, h2, h3, h4, h5, h6, h7, h8, h9, h10, h11, h12, h13⟩, hpl⟩ := id hM
  obtain ⟨i1, i2, i3, i4, i5, i6, i7, i8⟩ := id hI
  obtain ⟨p1, p3, p4, p5, p6⟩ := id hpl
  have hw8 := i1.le
  have hw2 := i1.pos
  have hnb := nb_le M.w
  have hlft : M.left ≤ 40 := i5
  refine jMv_of (by decide) (Nat.le_of_ble_eq_true rfl) (List.forall_mem_cons.mpr ⟨rfl, List.forall_mem_cons.mpr ⟨rfl, fun _ h => absurd h List.not_mem_nil⟩⟩) ?_
  intro X A hX
  have hX : jX X (yM D ad ac) A b_M_lose 2 RM (mt_M_lose.w :: TT) (rmk 6) none := hX
  show jW l X (yM D ad ac) A 2 0 0 kT (jQv X (yM D ad ac) A (endMv (o_lose M (nI i)))) σ 0 [(0, .ref (ad 19)), (1, .int (nI i))] []
  refine jx_aload_n (pc := 0) hX d_M_lose_0 rfl rfl ?_
  refine jx_iload_n (pc := 1) hX d_M_lose_1 rfl rfl ?_
  refine jx_iconst (pc := 2) hX (v := 0) d_M_lose_2 rfl ?_
  refine jx_aload_n (pc := 3) hX d_M_lose_3 rfl rfl ?_
  refine g_M_102 (pc := 4) hX d_M_lose_4 ?_
  refine jx_top (y := nI M.nl) (s3) ?_
  refine jx_iconst (pc := 7) hX (v := 1) d_M_lose_7 rfl ?_
  refine jx_isub (pc := 8) hX d_M_lose_8 ?_
  refine k_M_111 (pc := 9) hX (t_M_in σ (nI i) 0 (nI M.nl - 1)) ⟨rfl, rfl, (Nat.le_of_ble_eq_true rfl), (Nat.le_of_ble_eq_true rfl)⟩ rfl rfl (Nat.le_of_ble_eq_true rfl) ⟨Nat.zero_le _, Nat.zero_le _⟩ d_M_lose_9 (fun r hr => ?_)
  rw [in_t (by omega) (inR_nI hi (by omega))] at hr
  subst hr
  refine jx_if_ne (pc := 12) hX 19 d_M_lose_12 rfl (fun _ => ?_) (fun hh => absurd hh (by decide))
  refine jx_iconst (pc := 19) hX (v := 0) d_M_lose_19 rfl ?_
  refine jx_iconst (pc := 20) hX (v := 0) d_M_lose_20 rfl ?_
  refine k_M_115 (pc := 21) hX (t_M_refuse σ false false) ⟨rfl, rfl, (Nat.le_of_ble_eq_true rfl), (Nat.le_of_ble_eq_true rfl)⟩ rfl rfl (Nat.le_of_ble_eq_true rfl) ⟨Nat.zero_le _, Nat.zero_le _⟩ d_M_lose_21 (fun r u hru => ?_)
  obtain ⟨rfl, rfl⟩ := hru
  refine jx_if_ne (pc := 24) hX 32 d_M_lose_24 rfl (fun hh => absurd (rfl) hh) (fun _ => ?_)
  refine jx_aload_n (pc := 27) hX d_M_lose_27 rfl rfl ?_
  refine jx_iload_n (pc := 28) hX d_M_lose_28 rfl rfl ?_
  refine k_M_144 (pc := 29) hX (t_M_take (sF σ 0 0) M hI hM i hi) ⟨rfl, rfl, (Nat.le_of_ble_eq_true rfl), (Nat.le_of_ble_eq_true rfl)⟩ rfl rfl (Nat.le_of_ble_eq_true rfl) ⟨Nat.zero_le _, Nat.zero_le _⟩ d_M_lose_29 (fun u hu => ?_)
  exact jx_vret (pc := 32) hX d_M_lose_32 (by unfold o_lose; rw [inR_nI hi (by omega)]; exact ⟨hu.2, hu.1⟩)
set_option maxRecDepth 100000 in
set_option maxHeartbeats 4000000 in
theorem t_M_twin_a {l : Launch} {D : va_G} {ad : Nat → Nat} {ac : Nat → ClassId} (σ : St) (M : Ms) (hI : Inv M) (hM : repM σ M) (x : Int32) (hx : inR x M.nl = none) : jMv l (yM D ad ac) mt_M_twin TT (rmk 6) [.ref (ad 19), .int x] σ (endMv (o_twin M x)) := by
  obtain ⟨⟨⟨s0, s1, s2, s3⟩, h0, h1, h2, h3, h4, h5, h6, h7, h8, h9, h10, h11, h12, h13⟩, hpl⟩ := id hM
  obtain ⟨i1, i2, i3, i4, i5, i6, i7, i8⟩ := id hI
  obtain ⟨p1, p3, p4, p5, p6⟩ := id hpl
  have hw8 := i1.le
  have hw2 := i1.pos
  have hnb := nb_le M.w
  have hlft : M.left ≤ 40 := i5
  refine jMv_of (by decide) (Nat.le_of_ble_eq_true rfl) (List.forall_mem_cons.mpr ⟨rfl, List.forall_mem_cons.mpr ⟨rfl, fun _ h => absurd h List.not_mem_nil⟩⟩) ?_
  intro X A hX
  have hX : jX X (yM D ad ac) A b_M_twin 3 RM (mt_M_twin.w :: TT) (rmk 6) none := hX
  show jW l X (yM D ad ac) A 3 0 0 kT (jQv X (yM D ad ac) A (endMv (o_twin M x))) σ 0 [(0, .ref (ad 19)), (1, .int x)] []
  refine jx_iload_n (pc := 0) hX d_M_twin_0 rfl rfl ?_
  refine jx_iconst (pc := 1) hX (v := 0) d_M_twin_1 rfl ?_
  refine jx_aload_n (pc := 2) hX d_M_twin_2 rfl rfl ?_
  refine g_M_102 (pc := 3) hX d_M_twin_3 ?_
  refine jx_top (y := nI M.nl) (s3) ?_
  refine jx_iconst (pc := 6) hX (v := 1) d_M_twin_6 rfl ?_
  refine jx_isub (pc := 7) hX d_M_twin_7 ?_
  refine k_M_111 (pc := 8) hX (t_M_in σ x 0 (nI M.nl - 1)) ⟨rfl, rfl, (Nat.le_of_ble_eq_true rfl), (Nat.le_of_ble_eq_true rfl)⟩ rfl rfl (Nat.le_of_ble_eq_true rfl) ⟨Nat.zero_le _, Nat.zero_le _⟩ d_M_twin_8 (fun r hr => ?_)
  rw [in_f (by omega) hx] at hr
  subst hr
  refine jx_istore_n (pc := 11) hX d_M_twin_11 rfl (by decide) (L' := [(0, _), (1, _), (2, _)]) rfl ?_
  refine jx_aload_n (pc := 12) hX d_M_twin_12 rfl rfl ?_
  refine jx_iload_n (pc := 13) hX d_M_twin_13 rfl rfl ?_
  refine jx_if_ne (pc := 14) hX 21 d_M_twin_14 rfl (fun hh => absurd (rfl) hh) (fun _ => ?_)
  refine jx_iconst (pc := 17) hX (v := 1) d_M_twin_17 rfl ?_
  refine jx_goto (pc := 18) hX 22 d_M_twin_18 rfl ?_
  refine jx_iload_n (pc := 22) hX d_M_twin_22 rfl rfl ?_
  refine jx_if_eq (pc := 23) hX 39 d_M_twin_23 rfl (fun _ => ?_) (fun hh => absurd (rfl) hh)
  refine jx_iconst (pc := 39) hX (v := 0) d_M_twin_39 rfl ?_
  refine k_M_115 (pc := 40) hX (t_M_refuse σ true false) ⟨rfl, rfl, (Nat.le_of_ble_eq_true rfl), (Nat.le_of_ble_eq_true rfl)⟩ rfl rfl (Nat.le_of_ble_eq_true rfl) ⟨Nat.zero_le _, Nat.zero_le _⟩ d_M_twin_40 (fun r u hru => ?_)
  obtain ⟨rfl, rfl⟩ := hru
  refine jx_if_eq (pc := 43) hX 47 d_M_twin_43 rfl (fun hh => absurd hh (by decide)) (fun _ => ?_)
  exact jx_vret (pc := 46) hX d_M_twin_46 (by unfold o_twin; rw [hx]; exact ⟨rfl, hM⟩)
set_option maxRecDepth 100000 in
set_option maxHeartbeats 4000000 in
theorem t_M_twin_b {l : Launch} {D : va_G} {ad : Nat → Nat} {ac : Nat → ClassId} (σ : St) (M : Ms) (hI : Inv M) (hM : repM σ M) (i : Nat) (hi : i < M.nl) (hf : M.nl = 60) : jMv l (yM D ad ac) mt_M_twin TT (rmk 6) [.ref (ad 19), .int (nI i)] σ (endMv (o_twin M (nI i))) := by
  obtain ⟨⟨⟨s0, s1, s2, s3⟩, h0, h1, h2, h3, h4, h5, h6, h7, h8, h9, h10, h11, h12, h13⟩, hpl⟩ := id hM
  obtain ⟨i1, i2, i3, i4, i5, i6, i7, i8⟩ := id hI
  obtain ⟨p1, p3, p4, p5, p6⟩ := id hpl
  have hw8 := i1.le
  have hw2 := i1.pos
  have hnb := nb_le M.w
  have hlft : M.left ≤ 40 := i5
  refine jMv_of (by decide) (Nat.le_of_ble_eq_true rfl) (List.forall_mem_cons.mpr ⟨rfl, List.forall_mem_cons.mpr ⟨rfl, fun _ h => absurd h List.not_mem_nil⟩⟩) ?_
  intro X A hX
  have hX : jX X (yM D ad ac) A b_M_twin 3 RM (mt_M_twin.w :: TT) (rmk 6) none := hX
  show jW l X (yM D ad ac) A 3 0 0 kT (jQv X (yM D ad ac) A (endMv (o_twin M (nI i)))) σ 0 [(0, .ref (ad 19)), (1, .int (nI i))] []
  refine jx_iload_n (pc := 0) hX d_M_twin_0 rfl rfl ?_
  refine jx_iconst (pc := 1) hX (v := 0) d_M_twin_1 rfl ?_
  refine jx_aload_n (pc := 2) hX d_M_twin_2 rfl rfl ?_
  refine g_M_102 (pc := 3) hX d_M_twin_3 ?_
  refine jx_top (y := nI M.nl) (s3) ?_
  refine jx_iconst (pc := 6) hX (v := 1) d_M_twin_6 rfl ?_
  refine jx_isub (pc := 7) hX d_M_twin_7 ?_
  refine k_M_111 (pc := 8) hX (t_M_in σ (nI i) 0 (nI M.nl - 1)) ⟨rfl, rfl, (Nat.le_of_ble_eq_true rfl), (Nat.le_of_ble_eq_true rfl)⟩ rfl rfl (Nat.le_of_ble_eq_true rfl) ⟨Nat.zero_le _, Nat.zero_le _⟩ d_M_twin_8 (fun r hr => ?_)
  rw [in_t (by omega) (inR_nI hi (by omega))] at hr
  subst hr
  refine jx_istore_n (pc := 11) hX d_M_twin_11 rfl (by decide) (L' := [(0, _), (1, _), (2, _)]) rfl ?_
  refine jx_aload_n (pc := 12) hX d_M_twin_12 rfl rfl ?_
  refine jx_iload_n (pc := 13) hX d_M_twin_13 rfl rfl ?_
  refine jx_if_ne (pc := 14) hX 21 d_M_twin_14 rfl (fun _ => ?_) (fun hh => absurd hh (by decide))
  refine jx_iconst (pc := 21) hX (v := 0) d_M_twin_21 rfl ?_
  refine jx_iload_n (pc := 22) hX d_M_twin_22 rfl rfl ?_
  refine jx_if_eq (pc := 23) hX 39 d_M_twin_23 rfl (fun hh => absurd hh (by decide)) (fun _ => ?_)
  refine jx_aload_n (pc := 26) hX d_M_twin_26 rfl rfl ?_
  refine g_M_102 (pc := 27) hX d_M_twin_27 ?_
  refine jx_top (y := nI M.nl) (s3) ?_
  refine jx_bipush (pc := 30) hX (v := 60) d_M_twin_30 rfl ?_
  refine jx_icmp_ne (pc := 32) hX 39 d_M_twin_32 rfl (fun hh => absurd (by rw [hf]; rfl) hh) (fun _ => ?_)
  refine jx_iconst (pc := 35) hX (v := 1) d_M_twin_35 rfl ?_
  refine jx_goto (pc := 36) hX 40 d_M_twin_36 rfl ?_
  refine k_M_115 (pc := 40) hX (t_M_refuse σ false true) ⟨rfl, rfl, (Nat.le_of_ble_eq_true rfl), (Nat.le_of_ble_eq_true rfl)⟩ rfl rfl (Nat.le_of_ble_eq_true rfl) ⟨Nat.zero_le _, Nat.zero_le _⟩ d_M_twin_40 (fun r u hru => ?_)
  obtain ⟨rfl, rfl⟩ := hru
  refine jx_if_eq (pc := 43) hX 47 d_M_twin_43 rfl (fun hh => absurd hh (by decide)) (fun _ => ?_)
  exact jx_vret (pc := 46) hX d_M_twin_46 (by unfold o_twin; rw [inR_nI hi (by omega)]; dsimp only; rw [if_pos hf]; exact ⟨rfl, hM⟩)
set_option maxRecDepth 100000 in
set_option maxHeartbeats 4000000 in
theorem t_M_twin_c {l : Launch} {D : va_G} {ad : Nat → Nat} {ac : Nat → ClassId} (σ : St) (M : Ms) (hI : Inv M) (hM : repM σ M) (i : Nat) (hi : i < M.nl) (hf : ¬ M.nl = 60) : jMv l (yM D ad ac) mt_M_twin TT (rmk 6) [.ref (ad 19), .int (nI i)] σ (endMv (o_twin M (nI i))) := by
  obtain ⟨⟨⟨s0, s1, s2, s3⟩, h0, h1, h2, h3, h4, h5, h6, h7, h8, h9, h10, h11, h12, h13⟩, hpl⟩ := id hM
  obtain ⟨i1, i2, i3, i4, i5, i6, i7, i8⟩ := id hI
  obtain ⟨p1, p3, p4, p5, p6⟩ := id hpl
  have hw8 := i1.le
  have hw2 := i1.pos
  have hnb := nb_le M.w
  have hlft : M.left ≤ 40 := i5
  refine jMv_of (by decide) (Nat.le_of_ble_eq_true rfl) (List.forall_mem_cons.mpr ⟨rfl, List.forall_mem_cons.mpr ⟨rfl, fun _ h => absurd h List.not_mem_nil⟩⟩) ?_
  intro X A hX
  have hX : jX X (yM D ad ac) A b_M_twin 3 RM (mt_M_twin.w :: TT) (rmk 6) none := hX
  show jW l X (yM D ad ac) A 3 0 0 kT (jQv X (yM D ad ac) A (endMv (o_twin M (nI i)))) σ 0 [(0, .ref (ad 19)), (1, .int (nI i))] []
  refine jx_iload_n (pc := 0) hX d_M_twin_0 rfl rfl ?_
  refine jx_iconst (pc := 1) hX (v := 0) d_M_twin_1 rfl ?_
  refine jx_aload_n (pc := 2) hX d_M_twin_2 rfl rfl ?_
  refine g_M_102 (pc := 3) hX d_M_twin_3 ?_
  refine jx_top (y := nI M.nl) (s3) ?_
  refine jx_iconst (pc := 6) hX (v := 1) d_M_twin_6 rfl ?_
  refine jx_isub (pc := 7) hX d_M_twin_7 ?_
  refine k_M_111 (pc := 8) hX (t_M_in σ (nI i) 0 (nI M.nl - 1)) ⟨rfl, rfl, (Nat.le_of_ble_eq_true rfl), (Nat.le_of_ble_eq_true rfl)⟩ rfl rfl (Nat.le_of_ble_eq_true rfl) ⟨Nat.zero_le _, Nat.zero_le _⟩ d_M_twin_8 (fun r hr => ?_)
  rw [in_t (by omega) (inR_nI hi (by omega))] at hr
  subst hr
  refine jx_istore_n (pc := 11) hX d_M_twin_11 rfl (by decide) (L' := [(0, _), (1, _), (2, _)]) rfl ?_
  refine jx_aload_n (pc := 12) hX d_M_twin_12 rfl rfl ?_
  refine jx_iload_n (pc := 13) hX d_M_twin_13 rfl rfl ?_
  refine jx_if_ne (pc := 14) hX 21 d_M_twin_14 rfl (fun _ => ?_) (fun hh => absurd hh (by decide))
  refine jx_iconst (pc := 21) hX (v := 0) d_M_twin_21 rfl ?_
  refine jx_iload_n (pc := 22) hX d_M_twin_22 rfl rfl ?_
  refine jx_if_eq (pc := 23) hX 39 d_M_twin_23 rfl (fun hh => absurd hh (by decide)) (fun _ => ?_)
  refine jx_aload_n (pc := 26) hX d_M_twin_26 rfl rfl ?_
  refine g_M_102 (pc := 27) hX d_M_twin_27 ?_
  refine jx_top (y := nI M.nl) (s3) ?_
  refine jx_bipush (pc := 30) hX (v := 60) d_M_twin_30 rfl ?_
  refine jx_icmp_ne (pc := 32) hX 39 d_M_twin_32 rfl (fun _ => ?_) (fun hh => absurd hh (fun q => hf ((nI_eq (by omega) (by decide)).mp q)))
  refine jx_iconst (pc := 39) hX (v := 0) d_M_twin_39 rfl ?_
  refine k_M_115 (pc := 40) hX (t_M_refuse σ false false) ⟨rfl, rfl, (Nat.le_of_ble_eq_true rfl), (Nat.le_of_ble_eq_true rfl)⟩ rfl rfl (Nat.le_of_ble_eq_true rfl) ⟨Nat.zero_le _, Nat.zero_le _⟩ d_M_twin_40 (fun r u hru => ?_)
  obtain ⟨rfl, rfl⟩ := hru
  refine jx_if_eq (pc := 43) hX 47 d_M_twin_43 rfl (fun _ => ?_) (fun hh => absurd (rfl) hh)
  refine jx_aload_n (pc := 47) hX d_M_twin_47 rfl rfl ?_
  refine g_M_59 (pc := 48) hX d_M_twin_48 ?_
  refine jx_aload_n (pc := 51) hX d_M_twin_51 rfl rfl ?_
  refine g_M_102 (pc := 52) hX d_M_twin_52 ?_
  refine jx_aload_n (pc := 55) hX d_M_twin_55 rfl rfl ?_
  refine g_M_59 (pc := 56) hX d_M_twin_56 ?_
  refine jx_iload_n (pc := 59) hX d_M_twin_59 rfl rfl ?_
  refine jx_iald (pc := 60) hX oM_16 _ rfl (show i < 60 by omega) d_M_twin_60 ?_
  refine jx_top (y := nI (M.la i)) (h8 i hi) ?_
  refine jx_iast (pc := 61) hX oM_16 _ s3 (show M.nl < 60 by omega) d_M_twin_61 ?_
  refine jx_aload_n (pc := 62) hX d_M_twin_62 rfl rfl ?_
  refine g_M_62 (pc := 63) hX d_M_twin_63 ?_
  refine jx_aload_n (pc := 66) hX d_M_twin_66 rfl rfl ?_
  refine g_M_102 (pc := 67) hX d_M_twin_67 ?_
  refine jx_aload_n (pc := 70) hX d_M_twin_70 rfl rfl ?_
  refine g_M_62 (pc := 71) hX d_M_twin_71 ?_
  refine jx_iload_n (pc := 74) hX d_M_twin_74 rfl rfl ?_
  refine jx_iald (pc := 75) hX oM_17 _ rfl (show i < 60 by omega) d_M_twin_75 ?_
  refine jx_top (y := nI (M.lt i)) (h10 i hi) ?_
  refine jx_iast (pc := 76) hX oM_17 _ s3 (show M.nl < 60 by omega) d_M_twin_76 ?_
  refine jx_aload_n (pc := 77) hX d_M_twin_77 rfl rfl ?_
  refine g_M_65 (pc := 78) hX d_M_twin_78 ?_
  refine jx_aload_n (pc := 81) hX d_M_twin_81 rfl rfl ?_
  refine g_M_102 (pc := 82) hX d_M_twin_82 ?_
  refine jx_aload_n (pc := 85) hX d_M_twin_85 rfl rfl ?_
  refine g_M_65 (pc := 86) hX d_M_twin_86 ?_
  refine jx_iload_n (pc := 89) hX d_M_twin_89 rfl rfl ?_
  refine jx_iald (pc := 90) hX oM_18 _ rfl (show i < 60 by omega) d_M_twin_90 ?_
  refine jx_top (y := M.lw i) (h9 i hi) ?_
  refine jx_iast (pc := 91) hX oM_18 _ s3 (show M.nl < 60 by omega) d_M_twin_91 ?_
  refine jx_aload_n (pc := 92) hX d_M_twin_92 rfl rfl ?_
  refine jx_dup (pc := 93) hX d_M_twin_93 rfl ?_
  refine g_M_102 (pc := 94) hX d_M_twin_94 ?_
  refine jx_iconst (pc := 97) hX (v := 1) d_M_twin_97 rfl ?_
  refine jx_iadd (pc := 98) hX d_M_twin_98 ?_
  refine p_M_102 (pc := 99) hX d_M_twin_99 ?_
  exact jx_vret (pc := 102) hX d_M_twin_102 (by unfold o_twin; rw [inR_nI hi (by omega)]; dsimp only; rw [if_neg hf]; exact ⟨rfl, hM.1.post rfl rfl, hpl⟩)
set_option maxRecDepth 100000 in
set_option maxHeartbeats 4000000 in
theorem t_M_letter_m {l : Launch} {D : va_G} {ad : Nat → Nat} {ac : Nat → ClassId} (σ : St) (M : Ms) (hI : Inv M) (hM : repM σ M) (y : Int32) : jMi l (yM D ad ac) mt_M_letter TT (rmk 6) [.ref (ad 19), .int (-1), .int y] σ (endM (o_letter M (-1) y)) := by
  obtain ⟨⟨⟨s0, s1, s2, s3⟩, h0, h1, h2, h3, h4, h5, h6, h7, h8, h9, h10, h11, h12, h13⟩, hpl⟩ := id hM
  obtain ⟨i1, i2, i3, i4, i5, i6, i7, i8⟩ := id hI
  obtain ⟨p1, p3, p4, p5, p6⟩ := id hpl
  have hw8 := i1.le
  have hw2 := i1.pos
  have hnb := nb_le M.w
  have hlft : M.left ≤ 40 := i5
  refine jMi_of (by decide) (Nat.le_of_ble_eq_true rfl) (List.forall_mem_cons.mpr ⟨rfl, List.forall_mem_cons.mpr ⟨rfl, List.forall_mem_cons.mpr ⟨rfl, fun _ h => absurd h List.not_mem_nil⟩⟩⟩) ?_
  intro X A hX
  have hX : jX X (yM D ad ac) A b_M_letter 4 RM (mt_M_letter.w :: TT) (rmk 6) (some .int) := hX
  show jW l X (yM D ad ac) A 4 0 0 kT (jQi X (yM D ad ac) A (endM (o_letter M (-1) y))) σ 0 [(0, .ref (ad 19)), (1, .int (-1)), (2, .int y)] []
  refine jx_iload_n (pc := 0) hX d_M_letter_0 rfl rfl ?_
  refine jx_iconst (pc := 1) hX (v := -1) d_M_letter_1 rfl ?_
  refine jx_aload_n (pc := 2) hX d_M_letter_2 rfl rfl ?_
  refine g_M_102 (pc := 3) hX d_M_letter_3 ?_
  refine jx_top (y := nI M.nl) (s3) ?_
  refine jx_iconst (pc := 6) hX (v := 1) d_M_letter_6 rfl ?_
  refine jx_isub (pc := 7) hX d_M_letter_7 ?_
  refine k_M_111 (pc := 8) hX (t_M_in σ (-1) (-1) (nI M.nl - 1)) ⟨rfl, rfl, (Nat.le_of_ble_eq_true rfl), (Nat.le_of_ble_eq_true rfl)⟩ rfl rfl (Nat.le_of_ble_eq_true rfl) ⟨Nat.zero_le _, Nat.zero_le _⟩ d_M_letter_8 (fun r hr => ?_)
  rw [inm_1 (by omega)] at hr
  subst hr
  refine jx_istore_n (pc := 11) hX d_M_letter_11 rfl (by decide) (L' := [(0, _), (1, _), (2, _), (3, _)]) rfl ?_
  refine jx_aload_n (pc := 12) hX d_M_letter_12 rfl rfl ?_
  refine jx_iload_n (pc := 13) hX d_M_letter_13 rfl rfl ?_
  refine jx_if_ne (pc := 14) hX 21 d_M_letter_14 rfl (fun _ => ?_) (fun hh => absurd hh (by decide))
  refine jx_iconst (pc := 21) hX (v := 0) d_M_letter_21 rfl ?_
  refine jx_iload_n (pc := 22) hX d_M_letter_22 rfl rfl ?_
  refine jx_if_eq (pc := 23) hX 43 d_M_letter_23 rfl (fun hh => absurd hh (by decide)) (fun _ => ?_)
  refine jx_iload_n (pc := 26) hX d_M_letter_26 rfl rfl ?_
  refine jx_if_lt (pc := 27) hX 43 d_M_letter_27 rfl (fun _ => ?_) (fun hh => absurd (by decide) hh)
  refine jx_iconst (pc := 43) hX (v := 0) d_M_letter_43 rfl ?_
  refine k_M_115 (pc := 44) hX (t_M_refuse σ false false) ⟨rfl, rfl, (Nat.le_of_ble_eq_true rfl), (Nat.le_of_ble_eq_true rfl)⟩ rfl rfl (Nat.le_of_ble_eq_true rfl) ⟨Nat.zero_le _, Nat.zero_le _⟩ d_M_letter_44 (fun r u hru => ?_)
  obtain ⟨rfl, rfl⟩ := hru
  refine jx_if_eq (pc := 47) hX 52 d_M_letter_47 rfl (fun _ => ?_) (fun hh => absurd (rfl) hh)
  refine jx_iload_n (pc := 52) hX d_M_letter_52 rfl rfl ?_
  refine jx_if_ge (pc := 53) hX 63 d_M_letter_53 rfl (fun hh => absurd hh (by decide)) (fun _ => ?_)
  refine jx_aload_n (pc := 56) hX d_M_letter_56 rfl rfl ?_
  refine g_M_102 (pc := 57) hX d_M_letter_57 ?_
  refine jx_top (y := nI M.nl) (s3) ?_
  refine jx_goto (pc := 60) hX 82 d_M_letter_60 rfl ?_
  exact jx_iret (pc := 82) hX d_M_letter_82 (by unfold o_letter; rw [if_pos rfl]; exact ⟨rfl, fun _ => rfl, hM⟩)
set_option maxRecDepth 100000 in
set_option maxHeartbeats 4000000 in
theorem t_M_letter_a {l : Launch} {D : va_G} {ad : Nat → Nat} {ac : Nat → ClassId} (σ : St) (M : Ms) (hI : Inv M) (hM : repM σ M) (x y : Int32) (h1m : ¬ x = -1) (hx : inR x M.nl = none) : jMi l (yM D ad ac) mt_M_letter TT (rmk 6) [.ref (ad 19), .int x, .int y] σ (endM (o_letter M x y)) := by
  obtain ⟨⟨⟨s0, s1, s2, s3⟩, h0, h1, h2, h3, h4, h5, h6, h7, h8, h9, h10, h11, h12, h13⟩, hpl⟩ := id hM
  obtain ⟨i1, i2, i3, i4, i5, i6, i7, i8⟩ := id hI
  obtain ⟨p1, p3, p4, p5, p6⟩ := id hpl
  have hw8 := i1.le
  have hw2 := i1.pos
  have hnb := nb_le M.w
  have hlft : M.left ≤ 40 := i5
  refine jMi_of (by decide) (Nat.le_of_ble_eq_true rfl) (List.forall_mem_cons.mpr ⟨rfl, List.forall_mem_cons.mpr ⟨rfl, List.forall_mem_cons.mpr ⟨rfl, fun _ h => absurd h List.not_mem_nil⟩⟩⟩) ?_
  intro X A hX
  have hX : jX X (yM D ad ac) A b_M_letter 4 RM (mt_M_letter.w :: TT) (rmk 6) (some .int) := hX
  show jW l X (yM D ad ac) A 4 0 0 kT (jQi X (yM D ad ac) A (endM (o_letter M x y))) σ 0 [(0, .ref (ad 19)), (1, .int x), (2, .int y)] []
  refine jx_iload_n (pc := 0) hX d_M_letter_0 rfl rfl ?_
  refine jx_iconst (pc := 1) hX (v := -1) d_M_letter_1 rfl ?_
  refine jx_aload_n (pc := 2) hX d_M_letter_2 rfl rfl ?_
  refine g_M_102 (pc := 3) hX d_M_letter_3 ?_
  refine jx_top (y := nI M.nl) (s3) ?_
  refine jx_iconst (pc := 6) hX (v := 1) d_M_letter_6 rfl ?_
  refine jx_isub (pc := 7) hX d_M_letter_7 ?_
  refine k_M_111 (pc := 8) hX (t_M_in σ x (-1) (nI M.nl - 1)) ⟨rfl, rfl, (Nat.le_of_ble_eq_true rfl), (Nat.le_of_ble_eq_true rfl)⟩ rfl rfl (Nat.le_of_ble_eq_true rfl) ⟨Nat.zero_le _, Nat.zero_le _⟩ d_M_letter_8 (fun r hr => ?_)
  rw [inm_f (by omega) hx h1m] at hr
  subst hr
  refine jx_istore_n (pc := 11) hX d_M_letter_11 rfl (by decide) (L' := [(0, _), (1, _), (2, _), (3, _)]) rfl ?_
  refine jx_aload_n (pc := 12) hX d_M_letter_12 rfl rfl ?_
  refine jx_iload_n (pc := 13) hX d_M_letter_13 rfl rfl ?_
  refine jx_if_ne (pc := 14) hX 21 d_M_letter_14 rfl (fun hh => absurd (rfl) hh) (fun _ => ?_)
  refine jx_iconst (pc := 17) hX (v := 1) d_M_letter_17 rfl ?_
  refine jx_goto (pc := 18) hX 22 d_M_letter_18 rfl ?_
  refine jx_iload_n (pc := 22) hX d_M_letter_22 rfl rfl ?_
  refine jx_if_eq (pc := 23) hX 43 d_M_letter_23 rfl (fun _ => ?_) (fun hh => absurd (rfl) hh)
  refine jx_iconst (pc := 43) hX (v := 0) d_M_letter_43 rfl ?_
  refine k_M_115 (pc := 44) hX (t_M_refuse σ true false) ⟨rfl, rfl, (Nat.le_of_ble_eq_true rfl), (Nat.le_of_ble_eq_true rfl)⟩ rfl rfl (Nat.le_of_ble_eq_true rfl) ⟨Nat.zero_le _, Nat.zero_le _⟩ d_M_letter_44 (fun r u hru => ?_)
  obtain ⟨rfl, rfl⟩ := hru
  refine jx_if_eq (pc := 47) hX 52 d_M_letter_47 rfl (fun hh => absurd hh (by decide)) (fun _ => ?_)
  refine jx_iconst (pc := 50) hX (v := 0) d_M_letter_50 rfl ?_
  exact jx_iret (pc := 51) hX d_M_letter_51 (by unfold o_letter; rw [if_neg h1m, hx]; exact ⟨rfl, fun h => absurd h (show ¬ (1 : Int32) = 0 by decide), hM⟩)
set_option maxRecDepth 100000 in
set_option maxHeartbeats 4000000 in
theorem t_M_letter_b {l : Launch} {D : va_G} {ad : Nat → Nat} {ac : Nat → ClassId} (σ : St) (M : Ms) (hI : Inv M) (hM : repM σ M) (i : Nat) (hi : i < M.nl) (y : Int32) (hy : inR y (1 + 1) = none) : jMi l (yM D ad ac) mt_M_letter TT (rmk 6) [.ref (ad 19), .int (nI i), .int y] σ (endM (o_letter M (nI i) y)) := by
  obtain ⟨⟨⟨s0, s1, s2, s3⟩, h0, h1, h2, h3, h4, h5, h6, h7, h8, h9, h10, h11, h12, h13⟩, hpl⟩ := id hM
  obtain ⟨i1, i2, i3, i4, i5, i6, i7, i8⟩ := id hI
  obtain ⟨p1, p3, p4, p5, p6⟩ := id hpl
  have hw8 := i1.le
  have hw2 := i1.pos
  have hnb := nb_le M.w
  have hlft : M.left ≤ 40 := i5
  refine jMi_of (by decide) (Nat.le_of_ble_eq_true rfl) (List.forall_mem_cons.mpr ⟨rfl, List.forall_mem_cons.mpr ⟨rfl, List.forall_mem_cons.mpr ⟨rfl, fun _ h => absurd h List.not_mem_nil⟩⟩⟩) ?_
  intro X A hX
  have hX : jX X (yM D ad ac) A b_M_letter 4 RM (mt_M_letter.w :: TT) (rmk 6) (some .int) := hX
  show jW l X (yM D ad ac) A 4 0 0 kT (jQi X (yM D ad ac) A (endM (o_letter M (nI i) y))) σ 0 [(0, .ref (ad 19)), (1, .int (nI i)), (2, .int y)] []
  refine jx_iload_n (pc := 0) hX d_M_letter_0 rfl rfl ?_
  refine jx_iconst (pc := 1) hX (v := -1) d_M_letter_1 rfl ?_
  refine jx_aload_n (pc := 2) hX d_M_letter_2 rfl rfl ?_
  refine g_M_102 (pc := 3) hX d_M_letter_3 ?_
  refine jx_top (y := nI M.nl) (s3) ?_
  refine jx_iconst (pc := 6) hX (v := 1) d_M_letter_6 rfl ?_
  refine jx_isub (pc := 7) hX d_M_letter_7 ?_
  refine k_M_111 (pc := 8) hX (t_M_in σ (nI i) (-1) (nI M.nl - 1)) ⟨rfl, rfl, (Nat.le_of_ble_eq_true rfl), (Nat.le_of_ble_eq_true rfl)⟩ rfl rfl (Nat.le_of_ble_eq_true rfl) ⟨Nat.zero_le _, Nat.zero_le _⟩ d_M_letter_8 (fun r hr => ?_)
  rw [inm_t (by omega) (inR_nI hi (by omega))] at hr
  subst hr
  refine jx_istore_n (pc := 11) hX d_M_letter_11 rfl (by decide) (L' := [(0, _), (1, _), (2, _), (3, _)]) rfl ?_
  refine jx_aload_n (pc := 12) hX d_M_letter_12 rfl rfl ?_
  refine jx_iload_n (pc := 13) hX d_M_letter_13 rfl rfl ?_
  refine jx_if_ne (pc := 14) hX 21 d_M_letter_14 rfl (fun _ => ?_) (fun hh => absurd hh (by decide))
  refine jx_iconst (pc := 21) hX (v := 0) d_M_letter_21 rfl ?_
  refine jx_iload_n (pc := 22) hX d_M_letter_22 rfl rfl ?_
  refine jx_if_eq (pc := 23) hX 43 d_M_letter_23 rfl (fun hh => absurd hh (by decide)) (fun _ => ?_)
  refine jx_iload_n (pc := 26) hX d_M_letter_26 rfl rfl ?_
  refine jx_if_lt (pc := 27) hX 43 d_M_letter_27 rfl (fun hh => absurd hh (nI_pos (by omega))) (fun _ => ?_)
  refine jx_iload_n (pc := 30) hX d_M_letter_30 rfl rfl ?_
  refine jx_iconst (pc := 31) hX (v := 0) d_M_letter_31 rfl ?_
  refine jx_iconst (pc := 32) hX (v := 1) d_M_letter_32 rfl ?_
  refine k_M_111 (pc := 33) hX (t_M_in σ y 0 (nI 1)) ⟨rfl, rfl, (Nat.le_of_ble_eq_true rfl), (Nat.le_of_ble_eq_true rfl)⟩ rfl rfl (Nat.le_of_ble_eq_true rfl) ⟨Nat.zero_le _, Nat.zero_le _⟩ d_M_letter_33 (fun r hr => ?_)
  rw [in_fc (by decide) hy] at hr
  subst hr
  refine jx_if_ne (pc := 36) hX 43 d_M_letter_36 rfl (fun hh => absurd (rfl) hh) (fun _ => ?_)
  refine jx_iconst (pc := 39) hX (v := 1) d_M_letter_39 rfl ?_
  refine jx_goto (pc := 40) hX 44 d_M_letter_40 rfl ?_
  refine k_M_115 (pc := 44) hX (t_M_refuse σ false true) ⟨rfl, rfl, (Nat.le_of_ble_eq_true rfl), (Nat.le_of_ble_eq_true rfl)⟩ rfl rfl (Nat.le_of_ble_eq_true rfl) ⟨Nat.zero_le _, Nat.zero_le _⟩ d_M_letter_44 (fun r u hru => ?_)
  obtain ⟨rfl, rfl⟩ := hru
  refine jx_if_eq (pc := 47) hX 52 d_M_letter_47 rfl (fun hh => absurd hh (by decide)) (fun _ => ?_)
  refine jx_iconst (pc := 50) hX (v := 0) d_M_letter_50 rfl ?_
  exact jx_iret (pc := 51) hX d_M_letter_51 (by unfold o_letter; rw [if_neg (nI_m1 (by omega)), inR_nI hi (by omega), show inR y 2 = none from hy]; exact ⟨rfl, fun h => absurd h (show ¬ (2 : Int32) = 0 by decide), hM⟩)
set_option maxRecDepth 100000 in
set_option maxHeartbeats 4000000 in
theorem t_M_letter_c0 {l : Launch} {D : va_G} {ad : Nat → Nat} {ac : Nat → ClassId} (σ : St) (M : Ms) (hI : Inv M) (hM : repM σ M) (i : Nat) (hi : i < M.nl) : jMi l (yM D ad ac) mt_M_letter TT (rmk 6) [.ref (ad 19), .int (nI i), .int (nI 0)] σ (endM (o_letter M (nI i) (nI 0))) := by
  obtain ⟨⟨⟨s0, s1, s2, s3⟩, h0, h1, h2, h3, h4, h5, h6, h7, h8, h9, h10, h11, h12, h13⟩, hpl⟩ := id hM
  obtain ⟨i1, i2, i3, i4, i5, i6, i7, i8⟩ := id hI
  obtain ⟨p1, p3, p4, p5, p6⟩ := id hpl
  have hw8 := i1.le
  have hw2 := i1.pos
  have hnb := nb_le M.w
  have hlft : M.left ≤ 40 := i5
  refine jMi_of (by decide) (Nat.le_of_ble_eq_true rfl) (List.forall_mem_cons.mpr ⟨rfl, List.forall_mem_cons.mpr ⟨rfl, List.forall_mem_cons.mpr ⟨rfl, fun _ h => absurd h List.not_mem_nil⟩⟩⟩) ?_
  intro X A hX
  have hX : jX X (yM D ad ac) A b_M_letter 4 RM (mt_M_letter.w :: TT) (rmk 6) (some .int) := hX
  show jW l X (yM D ad ac) A 4 0 0 kT (jQi X (yM D ad ac) A (endM (o_letter M (nI i) (nI 0)))) σ 0 [(0, .ref (ad 19)), (1, .int (nI i)), (2, .int (nI 0))] []
  refine jx_iload_n (pc := 0) hX d_M_letter_0 rfl rfl ?_
  refine jx_iconst (pc := 1) hX (v := -1) d_M_letter_1 rfl ?_
  refine jx_aload_n (pc := 2) hX d_M_letter_2 rfl rfl ?_
  refine g_M_102 (pc := 3) hX d_M_letter_3 ?_
  refine jx_top (y := nI M.nl) (s3) ?_
  refine jx_iconst (pc := 6) hX (v := 1) d_M_letter_6 rfl ?_
  refine jx_isub (pc := 7) hX d_M_letter_7 ?_
  refine k_M_111 (pc := 8) hX (t_M_in σ (nI i) (-1) (nI M.nl - 1)) ⟨rfl, rfl, (Nat.le_of_ble_eq_true rfl), (Nat.le_of_ble_eq_true rfl)⟩ rfl rfl (Nat.le_of_ble_eq_true rfl) ⟨Nat.zero_le _, Nat.zero_le _⟩ d_M_letter_8 (fun r hr => ?_)
  rw [inm_t (by omega) (inR_nI hi (by omega))] at hr
  subst hr
  refine jx_istore_n (pc := 11) hX d_M_letter_11 rfl (by decide) (L' := [(0, _), (1, _), (2, _), (3, _)]) rfl ?_
  refine jx_aload_n (pc := 12) hX d_M_letter_12 rfl rfl ?_
  refine jx_iload_n (pc := 13) hX d_M_letter_13 rfl rfl ?_
  refine jx_if_ne (pc := 14) hX 21 d_M_letter_14 rfl (fun _ => ?_) (fun hh => absurd hh (by decide))
  refine jx_iconst (pc := 21) hX (v := 0) d_M_letter_21 rfl ?_
  refine jx_iload_n (pc := 22) hX d_M_letter_22 rfl rfl ?_
  refine jx_if_eq (pc := 23) hX 43 d_M_letter_23 rfl (fun hh => absurd hh (by decide)) (fun _ => ?_)
  refine jx_iload_n (pc := 26) hX d_M_letter_26 rfl rfl ?_
  refine jx_if_lt (pc := 27) hX 43 d_M_letter_27 rfl (fun hh => absurd hh (nI_pos (by omega))) (fun _ => ?_)
  refine jx_iload_n (pc := 30) hX d_M_letter_30 rfl rfl ?_
  refine jx_iconst (pc := 31) hX (v := 0) d_M_letter_31 rfl ?_
  refine jx_iconst (pc := 32) hX (v := 1) d_M_letter_32 rfl ?_
  refine k_M_111 (pc := 33) hX (t_M_in σ (nI 0) 0 (nI 1)) ⟨rfl, rfl, (Nat.le_of_ble_eq_true rfl), (Nat.le_of_ble_eq_true rfl)⟩ rfl rfl (Nat.le_of_ble_eq_true rfl) ⟨Nat.zero_le _, Nat.zero_le _⟩ d_M_letter_33 (fun r hr => ?_)
  rw [in_tc (by decide) (inR_nI (show 0 < 1 + 1 by decide) (by decide))] at hr
  subst hr
  refine jx_if_ne (pc := 36) hX 43 d_M_letter_36 rfl (fun _ => ?_) (fun hh => absurd hh (by decide))
  refine jx_iconst (pc := 43) hX (v := 0) d_M_letter_43 rfl ?_
  refine k_M_115 (pc := 44) hX (t_M_refuse σ false false) ⟨rfl, rfl, (Nat.le_of_ble_eq_true rfl), (Nat.le_of_ble_eq_true rfl)⟩ rfl rfl (Nat.le_of_ble_eq_true rfl) ⟨Nat.zero_le _, Nat.zero_le _⟩ d_M_letter_44 (fun r u hru => ?_)
  obtain ⟨rfl, rfl⟩ := hru
  refine jx_if_eq (pc := 47) hX 52 d_M_letter_47 rfl (fun _ => ?_) (fun hh => absurd (rfl) hh)
  refine jx_iload_n (pc := 52) hX d_M_letter_52 rfl rfl ?_
  refine jx_if_ge (pc := 53) hX 63 d_M_letter_53 rfl (fun _ => ?_) (fun hh => absurd (nI_pos' (by omega)) hh)
  refine jx_iload_n (pc := 63) hX d_M_letter_63 rfl rfl ?_
  refine jx_if_ne (pc := 64) hX 76 d_M_letter_64 rfl (fun hh => absurd (rfl) hh) (fun _ => ?_)
  refine jx_aload_n (pc := 67) hX d_M_letter_67 rfl rfl ?_
  refine g_M_59 (pc := 68) hX d_M_letter_68 ?_
  refine jx_iload_n (pc := 71) hX d_M_letter_71 rfl rfl ?_
  refine jx_iald (pc := 72) hX oM_16 _ rfl (show i < 60 by omega) d_M_letter_72 ?_
  refine jx_top (y := nI (M.la i)) (h8 i hi) ?_
  refine jx_goto (pc := 73) hX 82 d_M_letter_73 rfl ?_
  exact jx_iret (pc := 82) hX d_M_letter_82 (by unfold o_letter; rw [if_neg (nI_m1 (by omega)), inR_nI hi (by omega), inR_nI (show 0 < 2 by decide) (by decide)]; exact ⟨rfl, fun _ => rfl, hM⟩)
set_option maxRecDepth 100000 in
set_option maxHeartbeats 4000000 in
theorem t_M_letter_c1 {l : Launch} {D : va_G} {ad : Nat → Nat} {ac : Nat → ClassId} (σ : St) (M : Ms) (hI : Inv M) (hM : repM σ M) (i : Nat) (hi : i < M.nl) : jMi l (yM D ad ac) mt_M_letter TT (rmk 6) [.ref (ad 19), .int (nI i), .int (nI 1)] σ (endM (o_letter M (nI i) (nI 1))) := by
  obtain ⟨⟨⟨s0, s1, s2, s3⟩, h0, h1, h2, h3, h4, h5, h6, h7, h8, h9, h10, h11, h12, h13⟩, hpl⟩ := id hM
  obtain ⟨i1, i2, i3, i4, i5, i6, i7, i8⟩ := id hI
  obtain ⟨p1, p3, p4, p5, p6⟩ := id hpl
  have hw8 := i1.le
  have hw2 := i1.pos
  have hnb := nb_le M.w
  have hlft : M.left ≤ 40 := i5
  refine jMi_of (by decide) (Nat.le_of_ble_eq_true rfl) (List.forall_mem_cons.mpr ⟨rfl, List.forall_mem_cons.mpr ⟨rfl, List.forall_mem_cons.mpr ⟨rfl, fun _ h => absurd h List.not_mem_nil⟩⟩⟩) ?_
  intro X A hX
  have hX : jX X (yM D ad ac) A b_M_letter 4 RM (mt_M_letter.w :: TT) (rmk 6) (some .int) := hX
  show jW l X (yM D ad ac) A 4 0 0 kT (jQi X (yM D ad ac) A (endM (o_letter M (nI i) (nI 1)))) σ 0 [(0, .ref (ad 19)), (1, .int (nI i)), (2, .int (nI 1))] []
  refine jx_iload_n (pc := 0) hX d_M_letter_0 rfl rfl ?_
  refine jx_iconst (pc := 1) hX (v := -1) d_M_letter_1 rfl ?_
  refine jx_aload_n (pc := 2) hX d_M_letter_2 rfl rfl ?_
  refine g_M_102 (pc := 3) hX d_M_letter_3 ?_
  refine jx_top (y := nI M.nl) (s3) ?_
  refine jx_iconst (pc := 6) hX (v := 1) d_M_letter_6 rfl ?_
  refine jx_isub (pc := 7) hX d_M_letter_7 ?_
  refine k_M_111 (pc := 8) hX (t_M_in σ (nI i) (-1) (nI M.nl - 1)) ⟨rfl, rfl, (Nat.le_of_ble_eq_true rfl), (Nat.le_of_ble_eq_true rfl)⟩ rfl rfl (Nat.le_of_ble_eq_true rfl) ⟨Nat.zero_le _, Nat.zero_le _⟩ d_M_letter_8 (fun r hr => ?_)
  rw [inm_t (by omega) (inR_nI hi (by omega))] at hr
  subst hr
  refine jx_istore_n (pc := 11) hX d_M_letter_11 rfl (by decide) (L' := [(0, _), (1, _), (2, _), (3, _)]) rfl ?_
  refine jx_aload_n (pc := 12) hX d_M_letter_12 rfl rfl ?_
  refine jx_iload_n (pc := 13) hX d_M_letter_13 rfl rfl ?_
  refine jx_if_ne (pc := 14) hX 21 d_M_letter_14 rfl (fun _ => ?_) (fun hh => absurd hh (by decide))
  refine jx_iconst (pc := 21) hX (v := 0) d_M_letter_21 rfl ?_
  refine jx_iload_n (pc := 22) hX d_M_letter_22 rfl rfl ?_
  refine jx_if_eq (pc := 23) hX 43 d_M_letter_23 rfl (fun hh => absurd hh (by decide)) (fun _ => ?_)
  refine jx_iload_n (pc := 26) hX d_M_letter_26 rfl rfl ?_
  refine jx_if_lt (pc := 27) hX 43 d_M_letter_27 rfl (fun hh => absurd hh (nI_pos (by omega))) (fun _ => ?_)
  refine jx_iload_n (pc := 30) hX d_M_letter_30 rfl rfl ?_
  refine jx_iconst (pc := 31) hX (v := 0) d_M_letter_31 rfl ?_
  refine jx_iconst (pc := 32) hX (v := 1) d_M_letter_32 rfl ?_
  refine k_M_111 (pc := 33) hX (t_M_in σ (nI 1) 0 (nI 1)) ⟨rfl, rfl, (Nat.le_of_ble_eq_true rfl), (Nat.le_of_ble_eq_true rfl)⟩ rfl rfl (Nat.le_of_ble_eq_true rfl) ⟨Nat.zero_le _, Nat.zero_le _⟩ d_M_letter_33 (fun r hr => ?_)
  rw [in_tc (by decide) (inR_nI (show 1 < 1 + 1 by decide) (by decide))] at hr
  subst hr
  refine jx_if_ne (pc := 36) hX 43 d_M_letter_36 rfl (fun _ => ?_) (fun hh => absurd hh (by decide))
  refine jx_iconst (pc := 43) hX (v := 0) d_M_letter_43 rfl ?_
  refine k_M_115 (pc := 44) hX (t_M_refuse σ false false) ⟨rfl, rfl, (Nat.le_of_ble_eq_true rfl), (Nat.le_of_ble_eq_true rfl)⟩ rfl rfl (Nat.le_of_ble_eq_true rfl) ⟨Nat.zero_le _, Nat.zero_le _⟩ d_M_letter_44 (fun r u hru => ?_)
  obtain ⟨rfl, rfl⟩ := hru
  refine jx_if_eq (pc := 47) hX 52 d_M_letter_47 rfl (fun _ => ?_) (fun hh => absurd (rfl) hh)
  refine jx_iload_n (pc := 52) hX d_M_letter_52 rfl rfl ?_
  refine jx_if_ge (pc := 53) hX 63 d_M_letter_53 rfl (fun _ => ?_) (fun hh => absurd (nI_pos' (by omega)) hh)
  refine jx_iload_n (pc := 63) hX d_M_letter_63 rfl rfl ?_
  refine jx_if_ne (pc := 64) hX 76 d_M_letter_64 rfl (fun _ => ?_) (fun hh => absurd hh (by decide))
  refine jx_aload_n (pc := 76) hX d_M_letter_76 rfl rfl ?_
  refine g_M_62 (pc := 77) hX d_M_letter_77 ?_
  refine jx_iload_n (pc := 80) hX d_M_letter_80 rfl rfl ?_
  refine jx_iald (pc := 81) hX oM_17 _ rfl (show i < 60 by omega) d_M_letter_81 ?_
  refine jx_top (y := nI (M.lt i)) (h10 i hi) ?_
  exact jx_iret (pc := 82) hX d_M_letter_82 (by unfold o_letter; rw [if_neg (nI_m1 (by omega)), inR_nI hi (by omega), inR_nI (show 1 < 2 by decide) (by decide)]; exact ⟨rfl, fun _ => rfl, hM⟩)
set_option maxRecDepth 100000 in
set_option maxHeartbeats 4000000 in
theorem t_M_station_a {l : Launch} {D : va_G} {ad : Nat → Nat} {ac : Nat → ClassId} (σ : St) (M : Ms) (hI : Inv M) (hM : repM σ M) (x : Int32) (ob : Bool) (hx : inR x M.ns = none) : jMv l (yM D ad ac) mt_M_station TT (rmk 6) [.ref (ad 19), .int x, .int (eB ob)] σ (endMv (o_station M x ob)) := by
  obtain ⟨⟨⟨s0, s1, s2, s3⟩, h0, h1, h2, h3, h4, h5, h6, h7, h8, h9, h10, h11, h12, h13⟩, hpl⟩ := id hM
  obtain ⟨i1, i2, i3, i4, i5, i6, i7, i8⟩ := id hI
  obtain ⟨p1, p3, p4, p5, p6⟩ := id hpl
  have hw8 := i1.le
  have hw2 := i1.pos
  have hnb := nb_le M.w
  have hlft : M.left ≤ 40 := i5
  refine jMv_of (by decide) (Nat.le_of_ble_eq_true rfl) (List.forall_mem_cons.mpr ⟨rfl, List.forall_mem_cons.mpr ⟨rfl, List.forall_mem_cons.mpr ⟨rfl, fun _ h => absurd h List.not_mem_nil⟩⟩⟩) ?_
  intro X A hX
  have hX : jX X (yM D ad ac) A b_M_station 3 RM (mt_M_station.w :: TT) (rmk 6) none := hX
  show jW l X (yM D ad ac) A 3 0 0 kT (jQv X (yM D ad ac) A (endMv (o_station M x ob))) σ 0 [(0, .ref (ad 19)), (1, .int x), (2, .int (eB ob))] []
  refine jx_aload_n (pc := 0) hX d_M_station_0 rfl rfl ?_
  refine jx_iload_n (pc := 1) hX d_M_station_1 rfl rfl ?_
  refine jx_iconst (pc := 2) hX (v := 0) d_M_station_2 rfl ?_
  refine jx_aload_n (pc := 3) hX d_M_station_3 rfl rfl ?_
  refine g_M_96 (pc := 4) hX d_M_station_4 ?_
  refine jx_top (y := nI M.ns) (s1) ?_
  refine jx_iconst (pc := 7) hX (v := 1) d_M_station_7 rfl ?_
  refine jx_isub (pc := 8) hX d_M_station_8 ?_
  refine k_M_111 (pc := 9) hX (t_M_in σ x 0 (nI M.ns - 1)) ⟨rfl, rfl, (Nat.le_of_ble_eq_true rfl), (Nat.le_of_ble_eq_true rfl)⟩ rfl rfl (Nat.le_of_ble_eq_true rfl) ⟨Nat.zero_le _, Nat.zero_le _⟩ d_M_station_9 (fun r hr => ?_)
  rw [in_f (by omega) hx] at hr
  subst hr
  refine jx_if_ne (pc := 12) hX 19 d_M_station_12 rfl (fun hh => absurd (rfl) hh) (fun _ => ?_)
  refine jx_iconst (pc := 15) hX (v := 1) d_M_station_15 rfl ?_
  refine jx_goto (pc := 16) hX 20 d_M_station_16 rfl ?_
  refine jx_iconst (pc := 20) hX (v := 0) d_M_station_20 rfl ?_
  refine k_M_115 (pc := 21) hX (t_M_refuse σ true false) ⟨rfl, rfl, (Nat.le_of_ble_eq_true rfl), (Nat.le_of_ble_eq_true rfl)⟩ rfl rfl (Nat.le_of_ble_eq_true rfl) ⟨Nat.zero_le _, Nat.zero_le _⟩ d_M_station_21 (fun r u hru => ?_)
  obtain ⟨rfl, rfl⟩ := hru
  refine jx_if_ne (pc := 24) hX 34 d_M_station_24 rfl (fun _ => ?_) (fun hh => absurd hh (by decide))
  exact jx_vret (pc := 34) hX d_M_station_34 (by unfold o_station; rw [hx]; exact ⟨rfl, hM⟩)
set_option maxRecDepth 100000 in
set_option maxHeartbeats 4000000 in
theorem t_M_station_c {l : Launch} {D : va_G} {ad : Nat → Nat} {ac : Nat → ClassId} (σ : St) (M : Ms) (hI : Inv M) (hM : repM σ M) (s : Nat) (ob : Bool) (hs : s < M.ns) : jMv l (yM D ad ac) mt_M_station TT (rmk 6) [.ref (ad 19), .int (nI s), .int (eB ob)] σ (endMv (o_station M (nI s) ob)) := by
  obtain ⟨⟨⟨s0, s1, s2, s3⟩, h0, h1, h2, h3, h4, h5, h6, h7, h8, h9, h10, h11, h12, h13⟩, hpl⟩ := id hM
  obtain ⟨i1, i2, i3, i4, i5, i6, i7, i8⟩ := id hI
  obtain ⟨p1, p3, p4, p5, p6⟩ := id hpl
  have hw8 := i1.le
  have hw2 := i1.pos
  have hnb := nb_le M.w
  have hlft : M.left ≤ 40 := i5
  refine jMv_of (by decide) (Nat.le_of_ble_eq_true rfl) (List.forall_mem_cons.mpr ⟨rfl, List.forall_mem_cons.mpr ⟨rfl, List.forall_mem_cons.mpr ⟨rfl, fun _ h => absurd h List.not_mem_nil⟩⟩⟩) ?_
  intro X A hX
  have hX : jX X (yM D ad ac) A b_M_station 3 RM (mt_M_station.w :: TT) (rmk 6) none := hX
  show jW l X (yM D ad ac) A 3 0 0 kT (jQv X (yM D ad ac) A (endMv (o_station M (nI s) ob))) σ 0 [(0, .ref (ad 19)), (1, .int (nI s)), (2, .int (eB ob))] []
  refine jx_aload_n (pc := 0) hX d_M_station_0 rfl rfl ?_
  refine jx_iload_n (pc := 1) hX d_M_station_1 rfl rfl ?_
  refine jx_iconst (pc := 2) hX (v := 0) d_M_station_2 rfl ?_
  refine jx_aload_n (pc := 3) hX d_M_station_3 rfl rfl ?_
  refine g_M_96 (pc := 4) hX d_M_station_4 ?_
  refine jx_top (y := nI M.ns) (s1) ?_
  refine jx_iconst (pc := 7) hX (v := 1) d_M_station_7 rfl ?_
  refine jx_isub (pc := 8) hX d_M_station_8 ?_
  refine k_M_111 (pc := 9) hX (t_M_in σ (nI s) 0 (nI M.ns - 1)) ⟨rfl, rfl, (Nat.le_of_ble_eq_true rfl), (Nat.le_of_ble_eq_true rfl)⟩ rfl rfl (Nat.le_of_ble_eq_true rfl) ⟨Nat.zero_le _, Nat.zero_le _⟩ d_M_station_9 (fun r hr => ?_)
  rw [in_t (by omega) (inR_nI hs (by omega))] at hr
  subst hr
  refine jx_if_ne (pc := 12) hX 19 d_M_station_12 rfl (fun _ => ?_) (fun hh => absurd hh (by decide))
  refine jx_iconst (pc := 19) hX (v := 0) d_M_station_19 rfl ?_
  refine jx_iconst (pc := 20) hX (v := 0) d_M_station_20 rfl ?_
  refine k_M_115 (pc := 21) hX (t_M_refuse σ false false) ⟨rfl, rfl, (Nat.le_of_ble_eq_true rfl), (Nat.le_of_ble_eq_true rfl)⟩ rfl rfl (Nat.le_of_ble_eq_true rfl) ⟨Nat.zero_le _, Nat.zero_le _⟩ d_M_station_21 (fun r u hru => ?_)
  obtain ⟨rfl, rfl⟩ := hru
  refine jx_if_ne (pc := 24) hX 34 d_M_station_24 rfl (fun hh => absurd (rfl) hh) (fun _ => ?_)
  refine jx_aload_n (pc := 27) hX d_M_station_27 rfl rfl ?_
  refine g_M_28 (pc := 28) hX d_M_station_28 ?_
  refine jx_iload_n (pc := 31) hX d_M_station_31 rfl rfl ?_
  refine jx_iload_n (pc := 32) hX d_M_station_32 rfl rfl ?_
  refine jx_zast (pc := 33) hX oM_6 _ rfl (show s < 6 by omega) (eB_nar ob) d_M_station_33 ?_
  exact jx_vret (pc := 34) hX d_M_station_34 (by unfold o_station; rw [inR_nI hs (by omega)]; exact ⟨rfl, hM.1.station rfl, hpl⟩)
set_option maxRecDepth 100000 in
set_option maxHeartbeats 4000000 in
theorem t_M_token_a {l : Launch} {D : va_G} {ad : Nat → Nat} {ac : Nat → ClassId} (σ : St) (M : Ms) (hI : Inv M) (hM : repM σ M) (x y : Int32) (hx : inR x M.nt = none) : jMi l (yM D ad ac) mt_M_token TT (rmk 6) [.ref (ad 19), .int x, .int y] σ (endM (o_token M x y)) := by
  obtain ⟨⟨⟨s0, s1, s2, s3⟩, h0, h1, h2, h3, h4, h5, h6, h7, h8, h9, h10, h11, h12, h13⟩, hpl⟩ := id hM
  obtain ⟨i1, i2, i3, i4, i5, i6, i7, i8⟩ := id hI
  obtain ⟨p1, p3, p4, p5, p6⟩ := id hpl
  have hw8 := i1.le
  have hw2 := i1.pos
  have hnb := nb_le M.w
  have hlft : M.left ≤ 40 := i5
  refine jMi_of (by decide) (Nat.le_of_ble_eq_true rfl) (List.forall_mem_cons.mpr ⟨rfl, List.forall_mem_cons.mpr ⟨rfl, List.forall_mem_cons.mpr ⟨rfl, fun _ h => absurd h List.not_mem_nil⟩⟩⟩) ?_
  intro X A hX
  have hX : jX X (yM D ad ac) A b_M_token 3 RM (mt_M_token.w :: TT) (rmk 6) (some .int) := hX
  show jW l X (yM D ad ac) A 3 0 0 kT (jQi X (yM D ad ac) A (endM (o_token M x y))) σ 0 [(0, .ref (ad 19)), (1, .int x), (2, .int y)] []
  refine jx_aload_n (pc := 0) hX d_M_token_0 rfl rfl ?_
  refine jx_iload_n (pc := 1) hX d_M_token_1 rfl rfl ?_
  refine jx_iconst (pc := 2) hX (v := 0) d_M_token_2 rfl ?_
  refine jx_aload_n (pc := 3) hX d_M_token_3 rfl rfl ?_
  refine g_M_99 (pc := 4) hX d_M_token_4 ?_
  refine jx_top (y := nI M.nt) (s2) ?_
  refine jx_iconst (pc := 7) hX (v := 1) d_M_token_7 rfl ?_
  refine jx_isub (pc := 8) hX d_M_token_8 ?_
  refine k_M_111 (pc := 9) hX (t_M_in σ x 0 (nI M.nt - 1)) ⟨rfl, rfl, (Nat.le_of_ble_eq_true rfl), (Nat.le_of_ble_eq_true rfl)⟩ rfl rfl (Nat.le_of_ble_eq_true rfl) ⟨Nat.zero_le _, Nat.zero_le _⟩ d_M_token_9 (fun r hr => ?_)
  rw [in_f (by omega) hx] at hr
  subst hr
  refine jx_if_eq (pc := 12) hX 24 d_M_token_12 rfl (fun _ => ?_) (fun hh => absurd (rfl) hh)
  refine jx_iconst (pc := 24) hX (v := 1) d_M_token_24 rfl ?_
  refine jx_goto (pc := 25) hX 29 d_M_token_25 rfl ?_
  refine jx_iconst (pc := 29) hX (v := 0) d_M_token_29 rfl ?_
  refine k_M_115 (pc := 30) hX (t_M_refuse σ true false) ⟨rfl, rfl, (Nat.le_of_ble_eq_true rfl), (Nat.le_of_ble_eq_true rfl)⟩ rfl rfl (Nat.le_of_ble_eq_true rfl) ⟨Nat.zero_le _, Nat.zero_le _⟩ d_M_token_30 (fun r u hru => ?_)
  obtain ⟨rfl, rfl⟩ := hru
  refine jx_if_eq (pc := 33) hX 38 d_M_token_33 rfl (fun hh => absurd hh (by decide)) (fun _ => ?_)
  refine jx_iconst (pc := 36) hX (v := 0) d_M_token_36 rfl ?_
  exact jx_iret (pc := 37) hX d_M_token_37 (by unfold o_token; rw [hx]; exact ⟨rfl, fun h => absurd h (show ¬ (1 : Int32) = 0 by decide), hM⟩)
set_option maxRecDepth 100000 in
set_option maxHeartbeats 4000000 in
theorem t_M_token_b {l : Launch} {D : va_G} {ad : Nat → Nat} {ac : Nat → ClassId} (σ : St) (M : Ms) (hI : Inv M) (hM : repM σ M) (t : Nat) (ht : t < M.nt) (y : Int32) (hy : inR y (4 + 1) = none) : jMi l (yM D ad ac) mt_M_token TT (rmk 6) [.ref (ad 19), .int (nI t), .int y] σ (endM (o_token M (nI t) y)) := by
  obtain ⟨⟨⟨s0, s1, s2, s3⟩, h0, h1, h2, h3, h4, h5, h6, h7, h8, h9, h10, h11, h12, h13⟩, hpl⟩ := id hM
  obtain ⟨i1, i2, i3, i4, i5, i6, i7, i8⟩ := id hI
  obtain ⟨p1, p3, p4, p5, p6⟩ := id hpl
  have hw8 := i1.le
  have hw2 := i1.pos
  have hnb := nb_le M.w
  have hlft : M.left ≤ 40 := i5
  refine jMi_of (by decide) (Nat.le_of_ble_eq_true rfl) (List.forall_mem_cons.mpr ⟨rfl, List.forall_mem_cons.mpr ⟨rfl, List.forall_mem_cons.mpr ⟨rfl, fun _ h => absurd h List.not_mem_nil⟩⟩⟩) ?_
  intro X A hX
  have hX : jX X (yM D ad ac) A b_M_token 3 RM (mt_M_token.w :: TT) (rmk 6) (some .int) := hX
  show jW l X (yM D ad ac) A 3 0 0 kT (jQi X (yM D ad ac) A (endM (o_token M (nI t) y))) σ 0 [(0, .ref (ad 19)), (1, .int (nI t)), (2, .int y)] []
  refine jx_aload_n (pc := 0) hX d_M_token_0 rfl rfl ?_
  refine jx_iload_n (pc := 1) hX d_M_token_1 rfl rfl ?_
  refine jx_iconst (pc := 2) hX (v := 0) d_M_token_2 rfl ?_
  refine jx_aload_n (pc := 3) hX d_M_token_3 rfl rfl ?_
  refine g_M_99 (pc := 4) hX d_M_token_4 ?_
  refine jx_top (y := nI M.nt) (s2) ?_
  refine jx_iconst (pc := 7) hX (v := 1) d_M_token_7 rfl ?_
  refine jx_isub (pc := 8) hX d_M_token_8 ?_
  refine k_M_111 (pc := 9) hX (t_M_in σ (nI t) 0 (nI M.nt - 1)) ⟨rfl, rfl, (Nat.le_of_ble_eq_true rfl), (Nat.le_of_ble_eq_true rfl)⟩ rfl rfl (Nat.le_of_ble_eq_true rfl) ⟨Nat.zero_le _, Nat.zero_le _⟩ d_M_token_9 (fun r hr => ?_)
  rw [in_t (by omega) (inR_nI ht (by omega))] at hr
  subst hr
  refine jx_if_eq (pc := 12) hX 24 d_M_token_12 rfl (fun hh => absurd hh (by decide)) (fun _ => ?_)
  refine jx_iload_n (pc := 15) hX d_M_token_15 rfl rfl ?_
  refine jx_iconst (pc := 16) hX (v := 0) d_M_token_16 rfl ?_
  refine jx_iconst (pc := 17) hX (v := 4) d_M_token_17 rfl ?_
  refine k_M_111 (pc := 18) hX (t_M_in σ y 0 (nI 4)) ⟨rfl, rfl, (Nat.le_of_ble_eq_true rfl), (Nat.le_of_ble_eq_true rfl)⟩ rfl rfl (Nat.le_of_ble_eq_true rfl) ⟨Nat.zero_le _, Nat.zero_le _⟩ d_M_token_18 (fun r hr => ?_)
  rw [in_fc (by decide) hy] at hr
  subst hr
  refine jx_if_ne (pc := 21) hX 28 d_M_token_21 rfl (fun hh => absurd (rfl) hh) (fun _ => ?_)
  refine jx_iconst (pc := 24) hX (v := 1) d_M_token_24 rfl ?_
  refine jx_goto (pc := 25) hX 29 d_M_token_25 rfl ?_
  refine jx_iconst (pc := 29) hX (v := 0) d_M_token_29 rfl ?_
  refine k_M_115 (pc := 30) hX (t_M_refuse σ true false) ⟨rfl, rfl, (Nat.le_of_ble_eq_true rfl), (Nat.le_of_ble_eq_true rfl)⟩ rfl rfl (Nat.le_of_ble_eq_true rfl) ⟨Nat.zero_le _, Nat.zero_le _⟩ d_M_token_30 (fun r u hru => ?_)
  obtain ⟨rfl, rfl⟩ := hru
  refine jx_if_eq (pc := 33) hX 38 d_M_token_33 rfl (fun hh => absurd hh (by decide)) (fun _ => ?_)
  refine jx_iconst (pc := 36) hX (v := 0) d_M_token_36 rfl ?_
  exact jx_iret (pc := 37) hX d_M_token_37 (by unfold o_token; rw [inR_nI ht (by omega), show inR y 5 = none from hy]; exact ⟨rfl, fun h => absurd h (show ¬ (1 : Int32) = 0 by decide), hM⟩)
set_option maxRecDepth 100000 in
set_option maxHeartbeats 4000000 in
theorem t_M_token_c0 {l : Launch} {D : va_G} {ad : Nat → Nat} {ac : Nat → ClassId} (σ : St) (M : Ms) (hI : Inv M) (hM : repM σ M) (t : Nat) (ht : t < M.nt) : jMi l (yM D ad ac) mt_M_token TT (rmk 6) [.ref (ad 19), .int (nI t), .int (nI 0)] σ (endM (o_token M (nI t) (nI 0))) := by
  obtain ⟨⟨⟨s0, s1, s2, s3⟩, h0, h1, h2, h3, h4, h5, h6, h7, h8, h9, h10, h11, h12, h13⟩, hpl⟩ := id hM
  obtain ⟨i1, i2, i3, i4, i5, i6, i7, i8⟩ := id hI
  obtain ⟨p1, p3, p4, p5, p6⟩ := id hpl
  have hw8 := i1.le
  have hw2 := i1.pos
  have hnb := nb_le M.w
  have hlft : M.left ≤ 40 := i5
  refine jMi_of (by decide) (Nat.le_of_ble_eq_true rfl) (List.forall_mem_cons.mpr ⟨rfl, List.forall_mem_cons.mpr ⟨rfl, List.forall_mem_cons.mpr ⟨rfl, fun _ h => absurd h List.not_mem_nil⟩⟩⟩) ?_
  intro X A hX
  have hX : jX X (yM D ad ac) A b_M_token 3 RM (mt_M_token.w :: TT) (rmk 6) (some .int) := hX
  show jW l X (yM D ad ac) A 3 0 0 kT (jQi X (yM D ad ac) A (endM (o_token M (nI t) (nI 0)))) σ 0 [(0, .ref (ad 19)), (1, .int (nI t)), (2, .int (nI 0))] []
  refine jx_aload_n (pc := 0) hX d_M_token_0 rfl rfl ?_
  refine jx_iload_n (pc := 1) hX d_M_token_1 rfl rfl ?_
  refine jx_iconst (pc := 2) hX (v := 0) d_M_token_2 rfl ?_
  refine jx_aload_n (pc := 3) hX d_M_token_3 rfl rfl ?_
  refine g_M_99 (pc := 4) hX d_M_token_4 ?_
  refine jx_top (y := nI M.nt) (s2) ?_
  refine jx_iconst (pc := 7) hX (v := 1) d_M_token_7 rfl ?_
  refine jx_isub (pc := 8) hX d_M_token_8 ?_
  refine k_M_111 (pc := 9) hX (t_M_in σ (nI t) 0 (nI M.nt - 1)) ⟨rfl, rfl, (Nat.le_of_ble_eq_true rfl), (Nat.le_of_ble_eq_true rfl)⟩ rfl rfl (Nat.le_of_ble_eq_true rfl) ⟨Nat.zero_le _, Nat.zero_le _⟩ d_M_token_9 (fun r hr => ?_)
  rw [in_t (by omega) (inR_nI ht (by omega))] at hr
  subst hr
  refine jx_if_eq (pc := 12) hX 24 d_M_token_12 rfl (fun hh => absurd hh (by decide)) (fun _ => ?_)
  refine jx_iload_n (pc := 15) hX d_M_token_15 rfl rfl ?_
  refine jx_iconst (pc := 16) hX (v := 0) d_M_token_16 rfl ?_
  refine jx_iconst (pc := 17) hX (v := 4) d_M_token_17 rfl ?_
  refine k_M_111 (pc := 18) hX (t_M_in σ (nI 0) 0 (nI 4)) ⟨rfl, rfl, (Nat.le_of_ble_eq_true rfl), (Nat.le_of_ble_eq_true rfl)⟩ rfl rfl (Nat.le_of_ble_eq_true rfl) ⟨Nat.zero_le _, Nat.zero_le _⟩ d_M_token_18 (fun r hr => ?_)
  rw [in_tc (by decide) (inR_nI (show 0 < 4 + 1 by decide) (by decide))] at hr
  subst hr
  refine jx_if_ne (pc := 21) hX 28 d_M_token_21 rfl (fun _ => ?_) (fun hh => absurd hh (by decide))
  refine jx_iconst (pc := 28) hX (v := 0) d_M_token_28 rfl ?_
  refine jx_iconst (pc := 29) hX (v := 0) d_M_token_29 rfl ?_
  refine k_M_115 (pc := 30) hX (t_M_refuse σ false false) ⟨rfl, rfl, (Nat.le_of_ble_eq_true rfl), (Nat.le_of_ble_eq_true rfl)⟩ rfl rfl (Nat.le_of_ble_eq_true rfl) ⟨Nat.zero_le _, Nat.zero_le _⟩ d_M_token_30 (fun r u hru => ?_)
  obtain ⟨rfl, rfl⟩ := hru
  refine jx_if_eq (pc := 33) hX 38 d_M_token_33 rfl (fun _ => ?_) (fun hh => absurd (rfl) hh)
  refine jx_iload_n (pc := 38) hX d_M_token_38 rfl rfl ?_
  refine jx_tsIn (pc := 39) hX 68 d_M_token_39 (by decide) (by decide) rfl rfl ?_
  refine jx_aload_n (pc := 68) hX d_M_token_68 rfl rfl ?_
  refine g_M_35 (pc := 69) hX d_M_token_69 ?_
  refine jx_iload_n (pc := 72) hX d_M_token_72 rfl rfl ?_
  refine jx_iald (pc := 73) hX oM_8 _ rfl (show t < 200 by omega) d_M_token_73 ?_
  refine jx_top (y := nI (M.wire t)) (h0 t ht) ?_
  exact jx_iret (pc := 74) hX d_M_token_74 (by unfold o_token; rw [inR_nI ht (by omega), inR_nI (show 0 < 5 by decide) (by decide)]; exact ⟨rfl, fun _ => rfl, hM⟩)
set_option maxRecDepth 100000 in
set_option maxHeartbeats 4000000 in
theorem t_M_token_c1 {l : Launch} {D : va_G} {ad : Nat → Nat} {ac : Nat → ClassId} (σ : St) (M : Ms) (hI : Inv M) (hM : repM σ M) (t : Nat) (ht : t < M.nt) : jMi l (yM D ad ac) mt_M_token TT (rmk 6) [.ref (ad 19), .int (nI t), .int (nI 1)] σ (endM (o_token M (nI t) (nI 1))) := by
  obtain ⟨⟨⟨s0, s1, s2, s3⟩, h0, h1, h2, h3, h4, h5, h6, h7, h8, h9, h10, h11, h12, h13⟩, hpl⟩ := id hM
  obtain ⟨i1, i2, i3, i4, i5, i6, i7, i8⟩ := id hI
  obtain ⟨p1, p3, p4, p5, p6⟩ := id hpl
  have hw8 := i1.le
  have hw2 := i1.pos
  have hnb := nb_le M.w
  have hlft : M.left ≤ 40 := i5
  refine jMi_of (by decide) (Nat.le_of_ble_eq_true rfl) (List.forall_mem_cons.mpr ⟨rfl, List.forall_mem_cons.mpr ⟨rfl, List.forall_mem_cons.mpr ⟨rfl, fun _ h => absurd h List.not_mem_nil⟩⟩⟩) ?_
  intro X A hX
  have hX : jX X (yM D ad ac) A b_M_token 3 RM (mt_M_token.w :: TT) (rmk 6) (some .int) := hX
  show jW l X (yM D ad ac) A 3 0 0 kT (jQi X (yM D ad ac) A (endM (o_token M (nI t) (nI 1)))) σ 0 [(0, .ref (ad 19)), (1, .int (nI t)), (2, .int (nI 1))] []
  refine jx_aload_n (pc := 0) hX d_M_token_0 rfl rfl ?_
  refine jx_iload_n (pc := 1) hX d_M_token_1 rfl rfl ?_
  refine jx_iconst (pc := 2) hX (v := 0) d_M_token_2 rfl ?_
  refine jx_aload_n (pc := 3) hX d_M_token_3 rfl rfl ?_
  refine g_M_99 (pc := 4) hX d_M_token_4 ?_
  refine jx_top (y := nI M.nt) (s2) ?_
  refine jx_iconst (pc := 7) hX (v := 1) d_M_token_7 rfl ?_
  refine jx_isub (pc := 8) hX d_M_token_8 ?_
  refine k_M_111 (pc := 9) hX (t_M_in σ (nI t) 0 (nI M.nt - 1)) ⟨rfl, rfl, (Nat.le_of_ble_eq_true rfl), (Nat.le_of_ble_eq_true rfl)⟩ rfl rfl (Nat.le_of_ble_eq_true rfl) ⟨Nat.zero_le _, Nat.zero_le _⟩ d_M_token_9 (fun r hr => ?_)
  rw [in_t (by omega) (inR_nI ht (by omega))] at hr
  subst hr
  refine jx_if_eq (pc := 12) hX 24 d_M_token_12 rfl (fun hh => absurd hh (by decide)) (fun _ => ?_)
  refine jx_iload_n (pc := 15) hX d_M_token_15 rfl rfl ?_
  refine jx_iconst (pc := 16) hX (v := 0) d_M_token_16 rfl ?_
  refine jx_iconst (pc := 17) hX (v := 4) d_M_token_17 rfl ?_
  refine k_M_111 (pc := 18) hX (t_M_in σ (nI 1) 0 (nI 4)) ⟨rfl, rfl, (Nat.le_of_ble_eq_true rfl), (Nat.le_of_ble_eq_true rfl)⟩ rfl rfl (Nat.le_of_ble_eq_true rfl) ⟨Nat.zero_le _, Nat.zero_le _⟩ d_M_token_18 (fun r hr => ?_)
  rw [in_tc (by decide) (inR_nI (show 1 < 4 + 1 by decide) (by decide))] at hr
  subst hr
  refine jx_if_ne (pc := 21) hX 28 d_M_token_21 rfl (fun _ => ?_) (fun hh => absurd hh (by decide))
  refine jx_iconst (pc := 28) hX (v := 0) d_M_token_28 rfl ?_
  refine jx_iconst (pc := 29) hX (v := 0) d_M_token_29 rfl ?_
  refine k_M_115 (pc := 30) hX (t_M_refuse σ false false) ⟨rfl, rfl, (Nat.le_of_ble_eq_true rfl), (Nat.le_of_ble_eq_true rfl)⟩ rfl rfl (Nat.le_of_ble_eq_true rfl) ⟨Nat.zero_le _, Nat.zero_le _⟩ d_M_token_30 (fun r u hru => ?_)
  obtain ⟨rfl, rfl⟩ := hru
  refine jx_if_eq (pc := 33) hX 38 d_M_token_33 rfl (fun _ => ?_) (fun hh => absurd (rfl) hh)
  refine jx_iload_n (pc := 38) hX d_M_token_38 rfl rfl ?_
  refine jx_tsIn (pc := 39) hX 75 d_M_token_39 (by decide) (by decide) rfl rfl ?_
  refine jx_aload_n (pc := 75) hX d_M_token_75 rfl rfl ?_
  refine g_M_38 (pc := 76) hX d_M_token_76 ?_
  refine jx_iload_n (pc := 79) hX d_M_token_79 rfl rfl ?_
  refine jx_iald (pc := 80) hX oM_9 _ rfl (show t < 200 by omega) d_M_token_80 ?_
  refine jx_top (y := eO (M.place t)) (h1 t ht) ?_
  exact jx_iret (pc := 81) hX d_M_token_81 (by unfold o_token; rw [inR_nI ht (by omega), inR_nI (show 1 < 5 by decide) (by decide)]; exact ⟨rfl, fun _ => rfl, hM⟩)
set_option maxRecDepth 100000 in
set_option maxHeartbeats 4000000 in
theorem t_M_token_c2 {l : Launch} {D : va_G} {ad : Nat → Nat} {ac : Nat → ClassId} (σ : St) (M : Ms) (hI : Inv M) (hM : repM σ M) (t : Nat) (ht : t < M.nt) : jMi l (yM D ad ac) mt_M_token TT (rmk 6) [.ref (ad 19), .int (nI t), .int (nI 2)] σ (endM (o_token M (nI t) (nI 2))) := by
  obtain ⟨⟨⟨s0, s1, s2, s3⟩, h0, h1, h2, h3, h4, h5, h6, h7, h8, h9, h10, h11, h12, h13⟩, hpl⟩ := id hM
  obtain ⟨i1, i2, i3, i4, i5, i6, i7, i8⟩ := id hI
  obtain ⟨p1, p3, p4, p5, p6⟩ := id hpl
  have hw8 := i1.le
  have hw2 := i1.pos
  have hnb := nb_le M.w
  have hlft : M.left ≤ 40 := i5
  refine jMi_of (by decide) (Nat.le_of_ble_eq_true rfl) (List.forall_mem_cons.mpr ⟨rfl, List.forall_mem_cons.mpr ⟨rfl, List.forall_mem_cons.mpr ⟨rfl, fun _ h => absurd h List.not_mem_nil⟩⟩⟩) ?_
  intro X A hX
  have hX : jX X (yM D ad ac) A b_M_token 3 RM (mt_M_token.w :: TT) (rmk 6) (some .int) := hX
  show jW l X (yM D ad ac) A 3 0 0 kT (jQi X (yM D ad ac) A (endM (o_token M (nI t) (nI 2)))) σ 0 [(0, .ref (ad 19)), (1, .int (nI t)), (2, .int (nI 2))] []
  refine jx_aload_n (pc := 0) hX d_M_token_0 rfl rfl ?_
  refine jx_iload_n (pc := 1) hX d_M_token_1 rfl rfl ?_
  refine jx_iconst (pc := 2) hX (v := 0) d_M_token_2 rfl ?_
  refine jx_aload_n (pc := 3) hX d_M_token_3 rfl rfl ?_
  refine g_M_99 (pc := 4) hX d_M_token_4 ?_
  refine jx_top (y := nI M.nt) (s2) ?_
  refine jx_iconst (pc := 7) hX (v := 1) d_M_token_7 rfl ?_
  refine jx_isub (pc := 8) hX d_M_token_8 ?_
  refine k_M_111 (pc := 9) hX (t_M_in σ (nI t) 0 (nI M.nt - 1)) ⟨rfl, rfl, (Nat.le_of_ble_eq_true rfl), (Nat.le_of_ble_eq_true rfl)⟩ rfl rfl (Nat.le_of_ble_eq_true rfl) ⟨Nat.zero_le _, Nat.zero_le _⟩ d_M_token_9 (fun r hr => ?_)
  rw [in_t (by omega) (inR_nI ht (by omega))] at hr
  subst hr
  refine jx_if_eq (pc := 12) hX 24 d_M_token_12 rfl (fun hh => absurd hh (by decide)) (fun _ => ?_)
  refine jx_iload_n (pc := 15) hX d_M_token_15 rfl rfl ?_
  refine jx_iconst (pc := 16) hX (v := 0) d_M_token_16 rfl ?_
  refine jx_iconst (pc := 17) hX (v := 4) d_M_token_17 rfl ?_
  refine k_M_111 (pc := 18) hX (t_M_in σ (nI 2) 0 (nI 4)) ⟨rfl, rfl, (Nat.le_of_ble_eq_true rfl), (Nat.le_of_ble_eq_true rfl)⟩ rfl rfl (Nat.le_of_ble_eq_true rfl) ⟨Nat.zero_le _, Nat.zero_le _⟩ d_M_token_18 (fun r hr => ?_)
  rw [in_tc (by decide) (inR_nI (show 2 < 4 + 1 by decide) (by decide))] at hr
  subst hr
  refine jx_if_ne (pc := 21) hX 28 d_M_token_21 rfl (fun _ => ?_) (fun hh => absurd hh (by decide))
  refine jx_iconst (pc := 28) hX (v := 0) d_M_token_28 rfl ?_
  refine jx_iconst (pc := 29) hX (v := 0) d_M_token_29 rfl ?_
  refine k_M_115 (pc := 30) hX (t_M_refuse σ false false) ⟨rfl, rfl, (Nat.le_of_ble_eq_true rfl), (Nat.le_of_ble_eq_true rfl)⟩ rfl rfl (Nat.le_of_ble_eq_true rfl) ⟨Nat.zero_le _, Nat.zero_le _⟩ d_M_token_30 (fun r u hru => ?_)
  obtain ⟨rfl, rfl⟩ := hru
  refine jx_if_eq (pc := 33) hX 38 d_M_token_33 rfl (fun _ => ?_) (fun hh => absurd (rfl) hh)
  refine jx_iload_n (pc := 38) hX d_M_token_38 rfl rfl ?_
  refine jx_tsIn (pc := 39) hX 82 d_M_token_39 (by decide) (by decide) rfl rfl ?_
  refine jx_aload_n (pc := 82) hX d_M_token_82 rfl rfl ?_
  refine g_M_41 (pc := 83) hX d_M_token_83 ?_
  refine jx_iload_n (pc := 86) hX d_M_token_86 rfl rfl ?_
  refine jx_iald (pc := 87) hX oM_10 _ rfl (show t < 200 by omega) d_M_token_87 ?_
  refine jx_top (y := nI (M.state t)) (h2 t ht) ?_
  exact jx_iret (pc := 88) hX d_M_token_88 (by unfold o_token; rw [inR_nI ht (by omega), inR_nI (show 2 < 5 by decide) (by decide)]; exact ⟨rfl, fun _ => rfl, hM⟩)
set_option maxRecDepth 100000 in
set_option maxHeartbeats 4000000 in
theorem t_M_token_c3 {l : Launch} {D : va_G} {ad : Nat → Nat} {ac : Nat → ClassId} (σ : St) (M : Ms) (hI : Inv M) (hM : repM σ M) (t : Nat) (ht : t < M.nt) : jMi l (yM D ad ac) mt_M_token TT (rmk 6) [.ref (ad 19), .int (nI t), .int (nI 3)] σ (endM (o_token M (nI t) (nI 3))) := by
  obtain ⟨⟨⟨s0, s1, s2, s3⟩, h0, h1, h2, h3, h4, h5, h6, h7, h8, h9, h10, h11, h12, h13⟩, hpl⟩ := id hM
  obtain ⟨i1, i2, i3, i4, i5, i6, i7, i8⟩ := id hI
  obtain ⟨p1, p3, p4, p5, p6⟩ := id hpl
  have hw8 := i1.le
  have hw2 := i1.pos
  have hnb := nb_le M.w
  have hlft : M.left ≤ 40 := i5
  refine jMi_of (by decide) (Nat.le_of_ble_eq_true rfl) (List.forall_mem_cons.mpr ⟨rfl, List.forall_mem_cons.mpr ⟨rfl, List.forall_mem_cons.mpr ⟨rfl, fun _ h => absurd h List.not_mem_nil⟩⟩⟩) ?_
  intro X A hX
  have hX : jX X (yM D ad ac) A b_M_token 3 RM (mt_M_token.w :: TT) (rmk 6) (some .int) := hX
  show jW l X (yM D ad ac) A 3 0 0 kT (jQi X (yM D ad ac) A (endM (o_token M (nI t) (nI 3)))) σ 0 [(0, .ref (ad 19)), (1, .int (nI t)), (2, .int (nI 3))] []
  refine jx_aload_n (pc := 0) hX d_M_token_0 rfl rfl ?_
  refine jx_iload_n (pc := 1) hX d_M_token_1 rfl rfl ?_
  refine jx_iconst (pc := 2) hX (v := 0) d_M_token_2 rfl ?_
  refine jx_aload_n (pc := 3) hX d_M_token_3 rfl rfl ?_
  refine g_M_99 (pc := 4) hX d_M_token_4 ?_
  refine jx_top (y := nI M.nt) (s2) ?_
  refine jx_iconst (pc := 7) hX (v := 1) d_M_token_7 rfl ?_
  refine jx_isub (pc := 8) hX d_M_token_8 ?_
  refine k_M_111 (pc := 9) hX (t_M_in σ (nI t) 0 (nI M.nt - 1)) ⟨rfl, rfl, (Nat.le_of_ble_eq_true rfl), (Nat.le_of_ble_eq_true rfl)⟩ rfl rfl (Nat.le_of_ble_eq_true rfl) ⟨Nat.zero_le _, Nat.zero_le _⟩ d_M_token_9 (fun r hr => ?_)
  rw [in_t (by omega) (inR_nI ht (by omega))] at hr
  subst hr
  refine jx_if_eq (pc := 12) hX 24 d_M_token_12 rfl (fun hh => absurd hh (by decide)) (fun _ => ?_)
  refine jx_iload_n (pc := 15) hX d_M_token_15 rfl rfl ?_
  refine jx_iconst (pc := 16) hX (v := 0) d_M_token_16 rfl ?_
  refine jx_iconst (pc := 17) hX (v := 4) d_M_token_17 rfl ?_
  refine k_M_111 (pc := 18) hX (t_M_in σ (nI 3) 0 (nI 4)) ⟨rfl, rfl, (Nat.le_of_ble_eq_true rfl), (Nat.le_of_ble_eq_true rfl)⟩ rfl rfl (Nat.le_of_ble_eq_true rfl) ⟨Nat.zero_le _, Nat.zero_le _⟩ d_M_token_18 (fun r hr => ?_)
  rw [in_tc (by decide) (inR_nI (show 3 < 4 + 1 by decide) (by decide))] at hr
  subst hr
  refine jx_if_ne (pc := 21) hX 28 d_M_token_21 rfl (fun _ => ?_) (fun hh => absurd hh (by decide))
  refine jx_iconst (pc := 28) hX (v := 0) d_M_token_28 rfl ?_
  refine jx_iconst (pc := 29) hX (v := 0) d_M_token_29 rfl ?_
  refine k_M_115 (pc := 30) hX (t_M_refuse σ false false) ⟨rfl, rfl, (Nat.le_of_ble_eq_true rfl), (Nat.le_of_ble_eq_true rfl)⟩ rfl rfl (Nat.le_of_ble_eq_true rfl) ⟨Nat.zero_le _, Nat.zero_le _⟩ d_M_token_30 (fun r u hru => ?_)
  obtain ⟨rfl, rfl⟩ := hru
  refine jx_if_eq (pc := 33) hX 38 d_M_token_33 rfl (fun _ => ?_) (fun hh => absurd (rfl) hh)
  refine jx_iload_n (pc := 38) hX d_M_token_38 rfl rfl ?_
  refine jx_tsIn (pc := 39) hX 89 d_M_token_39 (by decide) (by decide) rfl rfl ?_
  refine jx_aload_n (pc := 89) hX d_M_token_89 rfl rfl ?_
  refine g_M_47 (pc := 90) hX d_M_token_90 ?_
  refine jx_iload_n (pc := 93) hX d_M_token_93 rfl rfl ?_
  refine jx_iald (pc := 94) hX oM_12 _ rfl (show t < 200 by omega) d_M_token_94 ?_
  refine jx_top (y := M.passed t) (h3 t ht) ?_
  exact jx_iret (pc := 95) hX d_M_token_95 (by unfold o_token; rw [inR_nI ht (by omega), inR_nI (show 3 < 5 by decide) (by decide)]; exact ⟨rfl, fun _ => rfl, hM⟩)
set_option maxRecDepth 100000 in
set_option maxHeartbeats 4000000 in
theorem t_M_token_c4 {l : Launch} {D : va_G} {ad : Nat → Nat} {ac : Nat → ClassId} (σ : St) (M : Ms) (hI : Inv M) (hM : repM σ M) (t : Nat) (ht : t < M.nt) : jMi l (yM D ad ac) mt_M_token TT (rmk 6) [.ref (ad 19), .int (nI t), .int (nI 4)] σ (endM (o_token M (nI t) (nI 4))) := by
  obtain ⟨⟨⟨s0, s1, s2, s3⟩, h0, h1, h2, h3, h4, h5, h6, h7, h8, h9, h10, h11, h12, h13⟩, hpl⟩ := id hM
  obtain ⟨i1, i2, i3, i4, i5, i6, i7, i8⟩ := id hI
  obtain ⟨p1, p3, p4, p5, p6⟩ := id hpl
  have hw8 := i1.le
  have hw2 := i1.pos
  have hnb := nb_le M.w
  have hlft : M.left ≤ 40 := i5
  refine jMi_of (by decide) (Nat.le_of_ble_eq_true rfl) (List.forall_mem_cons.mpr ⟨rfl, List.forall_mem_cons.mpr ⟨rfl, List.forall_mem_cons.mpr ⟨rfl, fun _ h => absurd h List.not_mem_nil⟩⟩⟩) ?_
  intro X A hX
  have hX : jX X (yM D ad ac) A b_M_token 3 RM (mt_M_token.w :: TT) (rmk 6) (some .int) := hX
  show jW l X (yM D ad ac) A 3 0 0 kT (jQi X (yM D ad ac) A (endM (o_token M (nI t) (nI 4)))) σ 0 [(0, .ref (ad 19)), (1, .int (nI t)), (2, .int (nI 4))] []
  refine jx_aload_n (pc := 0) hX d_M_token_0 rfl rfl ?_
  refine jx_iload_n (pc := 1) hX d_M_token_1 rfl rfl ?_
  refine jx_iconst (pc := 2) hX (v := 0) d_M_token_2 rfl ?_
  refine jx_aload_n (pc := 3) hX d_M_token_3 rfl rfl ?_
  refine g_M_99 (pc := 4) hX d_M_token_4 ?_
  refine jx_top (y := nI M.nt) (s2) ?_
  refine jx_iconst (pc := 7) hX (v := 1) d_M_token_7 rfl ?_
  refine jx_isub (pc := 8) hX d_M_token_8 ?_
  refine k_M_111 (pc := 9) hX (t_M_in σ (nI t) 0 (nI M.nt - 1)) ⟨rfl, rfl, (Nat.le_of_ble_eq_true rfl), (Nat.le_of_ble_eq_true rfl)⟩ rfl rfl (Nat.le_of_ble_eq_true rfl) ⟨Nat.zero_le _, Nat.zero_le _⟩ d_M_token_9 (fun r hr => ?_)
  rw [in_t (by omega) (inR_nI ht (by omega))] at hr
  subst hr
  refine jx_if_eq (pc := 12) hX 24 d_M_token_12 rfl (fun hh => absurd hh (by decide)) (fun _ => ?_)
  refine jx_iload_n (pc := 15) hX d_M_token_15 rfl rfl ?_
  refine jx_iconst (pc := 16) hX (v := 0) d_M_token_16 rfl ?_
  refine jx_iconst (pc := 17) hX (v := 4) d_M_token_17 rfl ?_
  refine k_M_111 (pc := 18) hX (t_M_in σ (nI 4) 0 (nI 4)) ⟨rfl, rfl, (Nat.le_of_ble_eq_true rfl), (Nat.le_of_ble_eq_true rfl)⟩ rfl rfl (Nat.le_of_ble_eq_true rfl) ⟨Nat.zero_le _, Nat.zero_le _⟩ d_M_token_18 (fun r hr => ?_)
  rw [in_tc (by decide) (inR_nI (show 4 < 4 + 1 by decide) (by decide))] at hr
  subst hr
  refine jx_if_ne (pc := 21) hX 28 d_M_token_21 rfl (fun _ => ?_) (fun hh => absurd hh (by decide))
  refine jx_iconst (pc := 28) hX (v := 0) d_M_token_28 rfl ?_
  refine jx_iconst (pc := 29) hX (v := 0) d_M_token_29 rfl ?_
  refine k_M_115 (pc := 30) hX (t_M_refuse σ false false) ⟨rfl, rfl, (Nat.le_of_ble_eq_true rfl), (Nat.le_of_ble_eq_true rfl)⟩ rfl rfl (Nat.le_of_ble_eq_true rfl) ⟨Nat.zero_le _, Nat.zero_le _⟩ d_M_token_30 (fun r u hru => ?_)
  obtain ⟨rfl, rfl⟩ := hru
  refine jx_if_eq (pc := 33) hX 38 d_M_token_33 rfl (fun _ => ?_) (fun hh => absurd (rfl) hh)
  refine jx_iload_n (pc := 38) hX d_M_token_38 rfl rfl ?_
  refine jx_tsOut (pc := 39) hX 96 d_M_token_39 (by decide) rfl ?_
  refine jx_aload_n (pc := 96) hX d_M_token_96 rfl rfl ?_
  refine jx_iload_n (pc := 97) hX d_M_token_97 rfl rfl ?_
  refine k_M_153 (pc := 98) hX (t_M_shown (sF σ 0 0) M hI hM t ht) ⟨rfl, rfl, (Nat.le_of_ble_eq_true rfl), (Nat.le_of_ble_eq_true rfl)⟩ rfl rfl (Nat.le_of_ble_eq_true rfl) ⟨Nat.zero_le _, Nat.zero_le _⟩ d_M_token_98 (fun r hr => ?_)
  subst hr
  exact jx_iret (pc := 101) hX d_M_token_101 (by unfold o_token; rw [inR_nI ht (by omega), inR_nI (show 4 < 5 by decide) (by decide)]; exact ⟨rfl, fun _ => rfl, hM⟩)
set_option maxRecDepth 100000 in
set_option maxHeartbeats 4000000 in
theorem t_M_about_a {l : Launch} {D : va_G} {ad : Nat → Nat} {ac : Nat → ClassId} (σ : St) (M : Ms) (hI : Inv M) (hM : repM σ M) (y : Int32) (hy : inR y (5 + 1) = none) : jMi l (yM D ad ac) mt_M_about TT (rmk 6) [.ref (ad 19), .int y] σ (endM (o_about M y)) := by
  obtain ⟨⟨⟨s0, s1, s2, s3⟩, h0, h1, h2, h3, h4, h5, h6, h7, h8, h9, h10, h11, h12, h13⟩, hpl⟩ := id hM
  obtain ⟨i1, i2, i3, i4, i5, i6, i7, i8⟩ := id hI
  obtain ⟨p1, p3, p4, p5, p6⟩ := id hpl
  have hw8 := i1.le
  have hw2 := i1.pos
  have hnb := nb_le M.w
  have hlft : M.left ≤ 40 := i5
  refine jMi_of (by decide) (Nat.le_of_ble_eq_true rfl) (List.forall_mem_cons.mpr ⟨rfl, List.forall_mem_cons.mpr ⟨rfl, fun _ h => absurd h List.not_mem_nil⟩⟩) ?_
  intro X A hX
  have hX : jX X (yM D ad ac) A b_M_about 2 RM (mt_M_about.w :: TT) (rmk 6) (some .int) := hX
  show jW l X (yM D ad ac) A 2 0 0 kT (jQi X (yM D ad ac) A (endM (o_about M y))) σ 0 [(0, .ref (ad 19)), (1, .int y)] []
  refine jx_aload_n (pc := 0) hX d_M_about_0 rfl rfl ?_
  refine jx_iload_n (pc := 1) hX d_M_about_1 rfl rfl ?_
  refine jx_iconst (pc := 2) hX (v := 0) d_M_about_2 rfl ?_
  refine jx_iconst (pc := 3) hX (v := 5) d_M_about_3 rfl ?_
  refine k_M_111 (pc := 4) hX (t_M_in σ y 0 (nI 5)) ⟨rfl, rfl, (Nat.le_of_ble_eq_true rfl), (Nat.le_of_ble_eq_true rfl)⟩ rfl rfl (Nat.le_of_ble_eq_true rfl) ⟨Nat.zero_le _, Nat.zero_le _⟩ d_M_about_4 (fun r hr => ?_)
  rw [in_fc (by decide) hy] at hr
  subst hr
  refine jx_if_ne (pc := 7) hX 14 d_M_about_7 rfl (fun hh => absurd (rfl) hh) (fun _ => ?_)
  refine jx_iconst (pc := 10) hX (v := 1) d_M_about_10 rfl ?_
  refine jx_goto (pc := 11) hX 15 d_M_about_11 rfl ?_
  refine jx_iconst (pc := 15) hX (v := 0) d_M_about_15 rfl ?_
  refine k_M_115 (pc := 16) hX (t_M_refuse σ true false) ⟨rfl, rfl, (Nat.le_of_ble_eq_true rfl), (Nat.le_of_ble_eq_true rfl)⟩ rfl rfl (Nat.le_of_ble_eq_true rfl) ⟨Nat.zero_le _, Nat.zero_le _⟩ d_M_about_16 (fun r u hru => ?_)
  obtain ⟨rfl, rfl⟩ := hru
  refine jx_if_eq (pc := 19) hX 24 d_M_about_19 rfl (fun hh => absurd hh (by decide)) (fun _ => ?_)
  refine jx_iconst (pc := 22) hX (v := 0) d_M_about_22 rfl ?_
  exact jx_iret (pc := 23) hX d_M_about_23 (by unfold o_about; rw [show inR y 6 = none from hy]; exact ⟨rfl, fun h => absurd h (show ¬ (1 : Int32) = 0 by decide), hM⟩)
set_option maxRecDepth 100000 in
set_option maxHeartbeats 4000000 in
theorem t_M_about_c0 {l : Launch} {D : va_G} {ad : Nat → Nat} {ac : Nat → ClassId} (σ : St) (M : Ms) (hI : Inv M) (hM : repM σ M)  : jMi l (yM D ad ac) mt_M_about TT (rmk 6) [.ref (ad 19), .int (nI 0)] σ (endM (o_about M (nI 0))) := by
  obtain ⟨⟨⟨s0, s1, s2, s3⟩, h0, h1, h2, h3, h4, h5, h6, h7, h8, h9, h10, h11, h12, h13⟩, hpl⟩ := id hM
  obtain ⟨i1, i2, i3, i4, i5, i6, i7, i8⟩ := id hI
  obtain ⟨p1, p3, p4, p5, p6⟩ := id hpl
  have hw8 := i1.le
  have hw2 := i1.pos
  have hnb := nb_le M.w
  have hlft : M.left ≤ 40 := i5
  refine jMi_of (by decide) (Nat.le_of_ble_eq_true rfl) (List.forall_mem_cons.mpr ⟨rfl, List.forall_mem_cons.mpr ⟨rfl, fun _ h => absurd h List.not_mem_nil⟩⟩) ?_
  intro X A hX
  have hX : jX X (yM D ad ac) A b_M_about 2 RM (mt_M_about.w :: TT) (rmk 6) (some .int) := hX
  show jW l X (yM D ad ac) A 2 0 0 kT (jQi X (yM D ad ac) A (endM (o_about M (nI 0)))) σ 0 [(0, .ref (ad 19)), (1, .int (nI 0))] []
  refine jx_aload_n (pc := 0) hX d_M_about_0 rfl rfl ?_
  refine jx_iload_n (pc := 1) hX d_M_about_1 rfl rfl ?_
  refine jx_iconst (pc := 2) hX (v := 0) d_M_about_2 rfl ?_
  refine jx_iconst (pc := 3) hX (v := 5) d_M_about_3 rfl ?_
  refine k_M_111 (pc := 4) hX (t_M_in σ (nI 0) 0 (nI 5)) ⟨rfl, rfl, (Nat.le_of_ble_eq_true rfl), (Nat.le_of_ble_eq_true rfl)⟩ rfl rfl (Nat.le_of_ble_eq_true rfl) ⟨Nat.zero_le _, Nat.zero_le _⟩ d_M_about_4 (fun r hr => ?_)
  rw [in_tc (by decide) (inR_nI (show 0 < 5 + 1 by decide) (by decide))] at hr
  subst hr
  refine jx_if_ne (pc := 7) hX 14 d_M_about_7 rfl (fun _ => ?_) (fun hh => absurd hh (by decide))
  refine jx_iconst (pc := 14) hX (v := 0) d_M_about_14 rfl ?_
  refine jx_iconst (pc := 15) hX (v := 0) d_M_about_15 rfl ?_
  refine k_M_115 (pc := 16) hX (t_M_refuse σ false false) ⟨rfl, rfl, (Nat.le_of_ble_eq_true rfl), (Nat.le_of_ble_eq_true rfl)⟩ rfl rfl (Nat.le_of_ble_eq_true rfl) ⟨Nat.zero_le _, Nat.zero_le _⟩ d_M_about_16 (fun r u hru => ?_)
  obtain ⟨rfl, rfl⟩ := hru
  refine jx_if_eq (pc := 19) hX 24 d_M_about_19 rfl (fun _ => ?_) (fun hh => absurd (rfl) hh)
  refine jx_iload_n (pc := 24) hX d_M_about_24 rfl rfl ?_
  refine jx_tsIn (pc := 25) hX 60 d_M_about_25 (by decide) (by decide) rfl rfl ?_
  refine jx_aload_n (pc := 60) hX d_M_about_60 rfl rfl ?_
  refine g_M_93 (pc := 61) hX d_M_about_61 ?_
  refine jx_top (y := nI M.w) (s0) ?_
  exact jx_iret (pc := 64) hX d_M_about_64 (by unfold o_about; rw [inR_nI (show 0 < 6 by decide) (by decide)]; exact ⟨rfl, fun _ => rfl, hM⟩)
set_option maxRecDepth 100000 in
set_option maxHeartbeats 4000000 in
theorem t_M_about_c1 {l : Launch} {D : va_G} {ad : Nat → Nat} {ac : Nat → ClassId} (σ : St) (M : Ms) (hI : Inv M) (hM : repM σ M)  : jMi l (yM D ad ac) mt_M_about TT (rmk 6) [.ref (ad 19), .int (nI 1)] σ (endM (o_about M (nI 1))) := by
  obtain ⟨⟨⟨s0, s1, s2, s3⟩, h0, h1, h2, h3, h4, h5, h6, h7, h8, h9, h10, h11, h12, h13⟩, hpl⟩ := id hM
  obtain ⟨i1, i2, i3, i4, i5, i6, i7, i8⟩ := id hI
  obtain ⟨p1, p3, p4, p5, p6⟩ := id hpl
  have hw8 := i1.le
  have hw2 := i1.pos
  have hnb := nb_le M.w
  have hlft : M.left ≤ 40 := i5
  refine jMi_of (by decide) (Nat.le_of_ble_eq_true rfl) (List.forall_mem_cons.mpr ⟨rfl, List.forall_mem_cons.mpr ⟨rfl, fun _ h => absurd h List.not_mem_nil⟩⟩) ?_
  intro X A hX
  have hX : jX X (yM D ad ac) A b_M_about 2 RM (mt_M_about.w :: TT) (rmk 6) (some .int) := hX
  show jW l X (yM D ad ac) A 2 0 0 kT (jQi X (yM D ad ac) A (endM (o_about M (nI 1)))) σ 0 [(0, .ref (ad 19)), (1, .int (nI 1))] []
  refine jx_aload_n (pc := 0) hX d_M_about_0 rfl rfl ?_
  refine jx_iload_n (pc := 1) hX d_M_about_1 rfl rfl ?_
  refine jx_iconst (pc := 2) hX (v := 0) d_M_about_2 rfl ?_
  refine jx_iconst (pc := 3) hX (v := 5) d_M_about_3 rfl ?_
  refine k_M_111 (pc := 4) hX (t_M_in σ (nI 1) 0 (nI 5)) ⟨rfl, rfl, (Nat.le_of_ble_eq_true rfl), (Nat.le_of_ble_eq_true rfl)⟩ rfl rfl (Nat.le_of_ble_eq_true rfl) ⟨Nat.zero_le _, Nat.zero_le _⟩ d_M_about_4 (fun r hr => ?_)
  rw [in_tc (by decide) (inR_nI (show 1 < 5 + 1 by decide) (by decide))] at hr
  subst hr
  refine jx_if_ne (pc := 7) hX 14 d_M_about_7 rfl (fun _ => ?_) (fun hh => absurd hh (by decide))
  refine jx_iconst (pc := 14) hX (v := 0) d_M_about_14 rfl ?_
  refine jx_iconst (pc := 15) hX (v := 0) d_M_about_15 rfl ?_
  refine k_M_115 (pc := 16) hX (t_M_refuse σ false false) ⟨rfl, rfl, (Nat.le_of_ble_eq_true rfl), (Nat.le_of_ble_eq_true rfl)⟩ rfl rfl (Nat.le_of_ble_eq_true rfl) ⟨Nat.zero_le _, Nat.zero_le _⟩ d_M_about_16 (fun r u hru => ?_)
  obtain ⟨rfl, rfl⟩ := hru
  refine jx_if_eq (pc := 19) hX 24 d_M_about_19 rfl (fun _ => ?_) (fun hh => absurd (rfl) hh)
  refine jx_iload_n (pc := 24) hX d_M_about_24 rfl rfl ?_
  refine jx_tsIn (pc := 25) hX 65 d_M_about_25 (by decide) (by decide) rfl rfl ?_
  refine jx_aload_n (pc := 65) hX d_M_about_65 rfl rfl ?_
  refine g_M_99 (pc := 66) hX d_M_about_66 ?_
  refine jx_top (y := nI M.nt) (s2) ?_
  exact jx_iret (pc := 69) hX d_M_about_69 (by unfold o_about; rw [inR_nI (show 1 < 6 by decide) (by decide)]; exact ⟨rfl, fun _ => rfl, hM⟩)
set_option maxRecDepth 100000 in
set_option maxHeartbeats 4000000 in
theorem t_M_about_c2 {l : Launch} {D : va_G} {ad : Nat → Nat} {ac : Nat → ClassId} (σ : St) (M : Ms) (hI : Inv M) (hM : repM σ M)  : jMi l (yM D ad ac) mt_M_about TT (rmk 6) [.ref (ad 19), .int (nI 2)] σ (endM (o_about M (nI 2))) := by
  obtain ⟨⟨⟨s0, s1, s2, s3⟩, h0, h1, h2, h3, h4, h5, h6, h7, h8, h9, h10, h11, h12, h13⟩, hpl⟩ := id hM
  obtain ⟨i1, i2, i3, i4, i5, i6, i7, i8⟩ := id hI
  obtain ⟨p1, p3, p4, p5, p6⟩ := id hpl
  have hw8 := i1.le
  have hw2 := i1.pos
  have hnb := nb_le M.w
  have hlft : M.left ≤ 40 := i5
  refine jMi_of (by decide) (Nat.le_of_ble_eq_true rfl) (List.forall_mem_cons.mpr ⟨rfl, List.forall_mem_cons.mpr ⟨rfl, fun _ h => absurd h List.not_mem_nil⟩⟩) ?_
  intro X A hX
  have hX : jX X (yM D ad ac) A b_M_about 2 RM (mt_M_about.w :: TT) (rmk 6) (some .int) := hX
  show jW l X (yM D ad ac) A 2 0 0 kT (jQi X (yM D ad ac) A (endM (o_about M (nI 2)))) σ 0 [(0, .ref (ad 19)), (1, .int (nI 2))] []
  refine jx_aload_n (pc := 0) hX d_M_about_0 rfl rfl ?_
  refine jx_iload_n (pc := 1) hX d_M_about_1 rfl rfl ?_
  refine jx_iconst (pc := 2) hX (v := 0) d_M_about_2 rfl ?_
  refine jx_iconst (pc := 3) hX (v := 5) d_M_about_3 rfl ?_
  refine k_M_111 (pc := 4) hX (t_M_in σ (nI 2) 0 (nI 5)) ⟨rfl, rfl, (Nat.le_of_ble_eq_true rfl), (Nat.le_of_ble_eq_true rfl)⟩ rfl rfl (Nat.le_of_ble_eq_true rfl) ⟨Nat.zero_le _, Nat.zero_le _⟩ d_M_about_4 (fun r hr => ?_)
  rw [in_tc (by decide) (inR_nI (show 2 < 5 + 1 by decide) (by decide))] at hr
  subst hr
  refine jx_if_ne (pc := 7) hX 14 d_M_about_7 rfl (fun _ => ?_) (fun hh => absurd hh (by decide))
  refine jx_iconst (pc := 14) hX (v := 0) d_M_about_14 rfl ?_
  refine jx_iconst (pc := 15) hX (v := 0) d_M_about_15 rfl ?_
  refine k_M_115 (pc := 16) hX (t_M_refuse σ false false) ⟨rfl, rfl, (Nat.le_of_ble_eq_true rfl), (Nat.le_of_ble_eq_true rfl)⟩ rfl rfl (Nat.le_of_ble_eq_true rfl) ⟨Nat.zero_le _, Nat.zero_le _⟩ d_M_about_16 (fun r u hru => ?_)
  obtain ⟨rfl, rfl⟩ := hru
  refine jx_if_eq (pc := 19) hX 24 d_M_about_19 rfl (fun _ => ?_) (fun hh => absurd (rfl) hh)
  refine jx_iload_n (pc := 24) hX d_M_about_24 rfl rfl ?_
  refine jx_tsIn (pc := 25) hX 70 d_M_about_25 (by decide) (by decide) rfl rfl ?_
  refine jx_aload_n (pc := 70) hX d_M_about_70 rfl rfl ?_
  refine k_M_119 (pc := 71) hX (t_M_left (sF σ 0 0) M hI hM) ⟨rfl, rfl, (Nat.le_of_ble_eq_true rfl), (Nat.le_of_ble_eq_true rfl)⟩ rfl rfl (Nat.le_of_ble_eq_true rfl) ⟨Nat.zero_le _, Nat.zero_le _⟩ d_M_about_71 (fun r hr => ?_)
  subst hr
  exact jx_iret (pc := 74) hX d_M_about_74 (by unfold o_about; rw [inR_nI (show 2 < 6 by decide) (by decide)]; exact ⟨rfl, fun _ => rfl, hM⟩)
set_option maxRecDepth 100000 in
set_option maxHeartbeats 4000000 in
theorem t_M_about_c3 {l : Launch} {D : va_G} {ad : Nat → Nat} {ac : Nat → ClassId} (σ : St) (M : Ms) (hI : Inv M) (hM : repM σ M)  : jMi l (yM D ad ac) mt_M_about TT (rmk 6) [.ref (ad 19), .int (nI 3)] σ (endM (o_about M (nI 3))) := by
  obtain ⟨⟨⟨s0, s1, s2, s3⟩, h0, h1, h2, h3, h4, h5, h6, h7, h8, h9, h10, h11, h12, h13⟩, hpl⟩ := id hM
  obtain ⟨i1, i2, i3, i4, i5, i6, i7, i8⟩ := id hI
  obtain ⟨p1, p3, p4, p5, p6⟩ := id hpl
  have hw8 := i1.le
  have hw2 := i1.pos
  have hnb := nb_le M.w
  have hlft : M.left ≤ 40 := i5
  refine jMi_of (by decide) (Nat.le_of_ble_eq_true rfl) (List.forall_mem_cons.mpr ⟨rfl, List.forall_mem_cons.mpr ⟨rfl, fun _ h => absurd h List.not_mem_nil⟩⟩) ?_
  intro X A hX
  have hX : jX X (yM D ad ac) A b_M_about 2 RM (mt_M_about.w :: TT) (rmk 6) (some .int) := hX
  show jW l X (yM D ad ac) A 2 0 0 kT (jQi X (yM D ad ac) A (endM (o_about M (nI 3)))) σ 0 [(0, .ref (ad 19)), (1, .int (nI 3))] []
  refine jx_aload_n (pc := 0) hX d_M_about_0 rfl rfl ?_
  refine jx_iload_n (pc := 1) hX d_M_about_1 rfl rfl ?_
  refine jx_iconst (pc := 2) hX (v := 0) d_M_about_2 rfl ?_
  refine jx_iconst (pc := 3) hX (v := 5) d_M_about_3 rfl ?_
  refine k_M_111 (pc := 4) hX (t_M_in σ (nI 3) 0 (nI 5)) ⟨rfl, rfl, (Nat.le_of_ble_eq_true rfl), (Nat.le_of_ble_eq_true rfl)⟩ rfl rfl (Nat.le_of_ble_eq_true rfl) ⟨Nat.zero_le _, Nat.zero_le _⟩ d_M_about_4 (fun r hr => ?_)
  rw [in_tc (by decide) (inR_nI (show 3 < 5 + 1 by decide) (by decide))] at hr
  subst hr
  refine jx_if_ne (pc := 7) hX 14 d_M_about_7 rfl (fun _ => ?_) (fun hh => absurd hh (by decide))
  refine jx_iconst (pc := 14) hX (v := 0) d_M_about_14 rfl ?_
  refine jx_iconst (pc := 15) hX (v := 0) d_M_about_15 rfl ?_
  refine k_M_115 (pc := 16) hX (t_M_refuse σ false false) ⟨rfl, rfl, (Nat.le_of_ble_eq_true rfl), (Nat.le_of_ble_eq_true rfl)⟩ rfl rfl (Nat.le_of_ble_eq_true rfl) ⟨Nat.zero_le _, Nat.zero_le _⟩ d_M_about_16 (fun r u hru => ?_)
  obtain ⟨rfl, rfl⟩ := hru
  refine jx_if_eq (pc := 19) hX 24 d_M_about_19 rfl (fun _ => ?_) (fun hh => absurd (rfl) hh)
  refine jx_iload_n (pc := 24) hX d_M_about_24 rfl rfl ?_
  refine jx_tsIn (pc := 25) hX 75 d_M_about_25 (by decide) (by decide) rfl rfl ?_
  refine jx_aload_n (pc := 75) hX d_M_about_75 rfl rfl ?_
  refine k_M_156 (pc := 76) hX (t_M_highest (sF σ 0 0) M hI hM) ⟨rfl, rfl, (Nat.le_of_ble_eq_true rfl), (Nat.le_of_ble_eq_true rfl)⟩ rfl rfl (Nat.le_of_ble_eq_true rfl) ⟨Nat.zero_le _, Nat.zero_le _⟩ d_M_about_76 (fun r hr => ?_)
  subst hr
  exact jx_iret (pc := 79) hX d_M_about_79 (by unfold o_about; rw [inR_nI (show 3 < 6 by decide) (by decide)]; exact ⟨rfl, fun _ => rfl, hM⟩)
set_option maxRecDepth 100000 in
set_option maxHeartbeats 4000000 in
theorem t_M_about_c4 {l : Launch} {D : va_G} {ad : Nat → Nat} {ac : Nat → ClassId} (σ : St) (M : Ms) (hI : Inv M) (hM : repM σ M)  : jMi l (yM D ad ac) mt_M_about TT (rmk 6) [.ref (ad 19), .int (nI 4)] σ (endM (o_about M (nI 4))) := by
  obtain ⟨⟨⟨s0, s1, s2, s3⟩, h0, h1, h2, h3, h4, h5, h6, h7, h8, h9, h10, h11, h12, h13⟩, hpl⟩ := id hM
  obtain ⟨i1, i2, i3, i4, i5, i6, i7, i8⟩ := id hI
  obtain ⟨p1, p3, p4, p5, p6⟩ := id hpl
  have hw8 := i1.le
  have hw2 := i1.pos
  have hnb := nb_le M.w
  have hlft : M.left ≤ 40 := i5
  refine jMi_of (by decide) (Nat.le_of_ble_eq_true rfl) (List.forall_mem_cons.mpr ⟨rfl, List.forall_mem_cons.mpr ⟨rfl, fun _ h => absurd h List.not_mem_nil⟩⟩) ?_
  intro X A hX
  have hX : jX X (yM D ad ac) A b_M_about 2 RM (mt_M_about.w :: TT) (rmk 6) (some .int) := hX
  show jW l X (yM D ad ac) A 2 0 0 kT (jQi X (yM D ad ac) A (endM (o_about M (nI 4)))) σ 0 [(0, .ref (ad 19)), (1, .int (nI 4))] []
  refine jx_aload_n (pc := 0) hX d_M_about_0 rfl rfl ?_
  refine jx_iload_n (pc := 1) hX d_M_about_1 rfl rfl ?_
  refine jx_iconst (pc := 2) hX (v := 0) d_M_about_2 rfl ?_
  refine jx_iconst (pc := 3) hX (v := 5) d_M_about_3 rfl ?_
  refine k_M_111 (pc := 4) hX (t_M_in σ (nI 4) 0 (nI 5)) ⟨rfl, rfl, (Nat.le_of_ble_eq_true rfl), (Nat.le_of_ble_eq_true rfl)⟩ rfl rfl (Nat.le_of_ble_eq_true rfl) ⟨Nat.zero_le _, Nat.zero_le _⟩ d_M_about_4 (fun r hr => ?_)
  rw [in_tc (by decide) (inR_nI (show 4 < 5 + 1 by decide) (by decide))] at hr
  subst hr
  refine jx_if_ne (pc := 7) hX 14 d_M_about_7 rfl (fun _ => ?_) (fun hh => absurd hh (by decide))
  refine jx_iconst (pc := 14) hX (v := 0) d_M_about_14 rfl ?_
  refine jx_iconst (pc := 15) hX (v := 0) d_M_about_15 rfl ?_
  refine k_M_115 (pc := 16) hX (t_M_refuse σ false false) ⟨rfl, rfl, (Nat.le_of_ble_eq_true rfl), (Nat.le_of_ble_eq_true rfl)⟩ rfl rfl (Nat.le_of_ble_eq_true rfl) ⟨Nat.zero_le _, Nat.zero_le _⟩ d_M_about_16 (fun r u hru => ?_)
  obtain ⟨rfl, rfl⟩ := hru
  refine jx_if_eq (pc := 19) hX 24 d_M_about_19 rfl (fun _ => ?_) (fun hh => absurd (rfl) hh)
  refine jx_iload_n (pc := 24) hX d_M_about_24 rfl rfl ?_
  refine jx_tsIn (pc := 25) hX 80 d_M_about_25 (by decide) (by decide) rfl rfl ?_
  refine jx_aload_n (pc := 80) hX d_M_about_80 rfl rfl ?_
  refine k_M_159 (pc := 81) hX (t_M_gaps (sF σ 0 0) M hI hM) ⟨rfl, rfl, (Nat.le_of_ble_eq_true rfl), (Nat.le_of_ble_eq_true rfl)⟩ rfl rfl (Nat.le_of_ble_eq_true rfl) ⟨Nat.zero_le _, Nat.zero_le _⟩ d_M_about_81 (fun r hr => ?_)
  subst hr
  exact jx_iret (pc := 84) hX d_M_about_84 (by unfold o_about; rw [inR_nI (show 4 < 6 by decide) (by decide)]; exact ⟨rfl, fun _ => rfl, hM⟩)
set_option maxRecDepth 100000 in
set_option maxHeartbeats 4000000 in
theorem t_M_about_c5 {l : Launch} {D : va_G} {ad : Nat → Nat} {ac : Nat → ClassId} (σ : St) (M : Ms) (hI : Inv M) (hM : repM σ M)  : jMi l (yM D ad ac) mt_M_about TT (rmk 6) [.ref (ad 19), .int (nI 5)] σ (endM (o_about M (nI 5))) := by
  obtain ⟨⟨⟨s0, s1, s2, s3⟩, h0, h1, h2, h3, h4, h5, h6, h7, h8, h9, h10, h11, h12, h13⟩, hpl⟩ := id hM
  obtain ⟨i1, i2, i3, i4, i5, i6, i7, i8⟩ := id hI
  obtain ⟨p1, p3, p4, p5, p6⟩ := id hpl
  have hw8 := i1.le
  have hw2 := i1.pos
  have hnb := nb_le M.w
  have hlft : M.left ≤ 40 := i5
  refine jMi_of (by decide) (Nat.le_of_ble_eq_true rfl) (List.forall_mem_cons.mpr ⟨rfl, List.forall_mem_cons.mpr ⟨rfl, fun _ h => absurd h List.not_mem_nil⟩⟩) ?_
  intro X A hX
  have hX : jX X (yM D ad ac) A b_M_about 2 RM (mt_M_about.w :: TT) (rmk 6) (some .int) := hX
  show jW l X (yM D ad ac) A 2 0 0 kT (jQi X (yM D ad ac) A (endM (o_about M (nI 5)))) σ 0 [(0, .ref (ad 19)), (1, .int (nI 5))] []
  refine jx_aload_n (pc := 0) hX d_M_about_0 rfl rfl ?_
  refine jx_iload_n (pc := 1) hX d_M_about_1 rfl rfl ?_
  refine jx_iconst (pc := 2) hX (v := 0) d_M_about_2 rfl ?_
  refine jx_iconst (pc := 3) hX (v := 5) d_M_about_3 rfl ?_
  refine k_M_111 (pc := 4) hX (t_M_in σ (nI 5) 0 (nI 5)) ⟨rfl, rfl, (Nat.le_of_ble_eq_true rfl), (Nat.le_of_ble_eq_true rfl)⟩ rfl rfl (Nat.le_of_ble_eq_true rfl) ⟨Nat.zero_le _, Nat.zero_le _⟩ d_M_about_4 (fun r hr => ?_)
  rw [in_tc (by decide) (inR_nI (show 5 < 5 + 1 by decide) (by decide))] at hr
  subst hr
  refine jx_if_ne (pc := 7) hX 14 d_M_about_7 rfl (fun _ => ?_) (fun hh => absurd hh (by decide))
  refine jx_iconst (pc := 14) hX (v := 0) d_M_about_14 rfl ?_
  refine jx_iconst (pc := 15) hX (v := 0) d_M_about_15 rfl ?_
  refine k_M_115 (pc := 16) hX (t_M_refuse σ false false) ⟨rfl, rfl, (Nat.le_of_ble_eq_true rfl), (Nat.le_of_ble_eq_true rfl)⟩ rfl rfl (Nat.le_of_ble_eq_true rfl) ⟨Nat.zero_le _, Nat.zero_le _⟩ d_M_about_16 (fun r u hru => ?_)
  obtain ⟨rfl, rfl⟩ := hru
  refine jx_if_eq (pc := 19) hX 24 d_M_about_19 rfl (fun _ => ?_) (fun hh => absurd (rfl) hh)
  refine jx_iload_n (pc := 24) hX d_M_about_24 rfl rfl ?_
  refine jx_tsOut (pc := 25) hX 85 d_M_about_25 (by decide) rfl ?_
  refine jx_aload_n (pc := 85) hX d_M_about_85 rfl rfl ?_
  refine g_M_93 (pc := 86) hX d_M_about_86 ?_
  refine jx_top (y := nI M.w) (s0) ?_
  refine jx_iconst (pc := 89) hX (v := 2) d_M_about_89 rfl ?_
  refine jx_icmp_ne (pc := 90) hX 97 d_M_about_90 rfl (fun q90 => ?_) (fun q90 => ?_)
  · refine jx_aload_n (pc := 97) hX d_M_about_97 rfl rfl ?_
    refine g_M_93 (pc := 98) hX d_M_about_98 ?_
    refine jx_top (y := nI M.w) (s0) ?_
    refine jx_iconst (pc := 101) hX (v := 4) d_M_about_101 rfl ?_
    refine jx_icmp_ne (pc := 102) hX 109 d_M_about_102 rfl (fun q102 => ?_) (fun q102 => ?_)
    · refine jx_bipush (pc := 109) hX (v := 6) d_M_about_109 rfl ?_
      exact jx_iret (pc := 111) hX d_M_about_111 (by unfold o_about; rw [inR_nI (show 5 < 6 by decide) (by decide)]; refine ⟨rfl, fun _ => ?_, hM⟩; have e : M.w = 8 := i1.elim (fun q => absurd (by rw [q]; rfl) q90) (fun q => q.elim (fun q => absurd (by rw [q]; rfl) q102) id); show _ = nI (nc M.w); rw [e]; rfl)
    · refine jx_iconst (pc := 105) hX (v := 3) d_M_about_105 rfl ?_
      refine jx_goto (pc := 106) hX 111 d_M_about_106 rfl ?_
      exact jx_iret (pc := 111) hX d_M_about_111 (by unfold o_about; rw [inR_nI (show 5 < 6 by decide) (by decide)]; refine ⟨rfl, fun _ => ?_, hM⟩; have e : M.w = 4 := (nI_eq (by omega) (by decide)).mp q102; show _ = nI (nc M.w); rw [e]; rfl)
  · refine jx_iconst (pc := 93) hX (v := 1) d_M_about_93 rfl ?_
    refine jx_goto (pc := 94) hX 111 d_M_about_94 rfl ?_
    exact jx_iret (pc := 111) hX d_M_about_111 (by unfold o_about; rw [inR_nI (show 5 < 6 by decide) (by decide)]; refine ⟨rfl, fun _ => ?_, hM⟩; have e : M.w = 2 := (nI_eq (by omega) (by decide)).mp q90; show _ = nI (nc M.w); rw [e]; rfl)
