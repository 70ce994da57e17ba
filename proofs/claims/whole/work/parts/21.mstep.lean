set_option maxRecDepth 100000 in
set_option maxHeartbeats 4000000 in
theorem t_M_thrown {l : Launch} {D : va_G} {ad : Nat → Nat} {ac : Nat → ClassId} (σ : St) : jMp l (yM D ad ac) mt_M_thrown TT (rmk 0) [.ref (ad 19)] σ (fun r => r = σ.1 0) := by
  refine jMp_of (by decide) (Nat.le_of_ble_eq_true rfl) (List.forall_mem_cons.mpr ⟨rfl, fun _ h => absurd h List.not_mem_nil⟩) ?_
  intro X A hX
  have hX : jX X (yM D ad ac) A b_M_thrown 1 RM (mt_M_thrown.w :: TT) (rmk 0) (some .int) := hX
  show jW l X (yM D ad ac) A 1 0 0 (k0 X) (jQp X (fun r => r = σ.1 0)) σ 0 [(0, .ref (ad 19))] []
  refine jx_aload_n (pc := 0) hX d_M_thrown_0 rfl rfl ?_
  refine g_M_72 (pc := 1) hX d_M_thrown_1 ?_
  exact jx_iretp (pc := 4) hX d_M_thrown_4 (rfl)
set_option maxRecDepth 100000 in
set_option maxHeartbeats 4000000 in
theorem t_M_in {l : Launch} {D : va_G} {ad : Nat → Nat} {ac : Nat → ClassId} (σ : St) (v lo hi : Int32) : jMp l (yM D ad ac) mt_M_in TT (rmk 0) [.int v, .int lo, .int hi] σ (fun r => r = eB (decide (lo ≤ v ∧ v ≤ hi))) := by
  refine jMp_of (by decide) (Nat.le_of_ble_eq_true rfl) (List.forall_mem_cons.mpr ⟨rfl, List.forall_mem_cons.mpr ⟨rfl, List.forall_mem_cons.mpr ⟨rfl, fun _ h => absurd h List.not_mem_nil⟩⟩⟩) ?_
  intro X A hX
  have hX : jX X (yM D ad ac) A b_M_in 3 RM (mt_M_in.w :: TT) (rmk 0) (some .boolean) := hX
  show jW l X (yM D ad ac) A 3 0 0 (k0 X) (jQp X (fun r => r = eB (decide (lo ≤ v ∧ v ≤ hi)))) σ 0 [(0, .int v), (1, .int lo), (2, .int hi)] []
  refine jx_iload_n (pc := 0) hX d_M_in_0 rfl rfl ?_
  refine jx_iload_n (pc := 1) hX d_M_in_1 rfl rfl ?_
  refine jx_icmp_lt (pc := 2) hX 14 d_M_in_2 rfl (fun h2 => ?_) (fun h2 => ?_)
  · refine jx_iconst (pc := 14) hX (v := 0) d_M_in_14 rfl ?_
    exact jx_zretp (pc := 15) hX d_M_in_15 rfl (eB_f (decide_eq_false (fun q => absurd q.1 (Int32.not_le.mpr h2))))
  · refine jx_iload_n (pc := 5) hX d_M_in_5 rfl rfl ?_
    refine jx_iload_n (pc := 6) hX d_M_in_6 rfl rfl ?_
    refine jx_icmp_gt (pc := 7) hX 14 d_M_in_7 rfl (fun h7 => ?_) (fun h7 => ?_)
    · refine jx_iconst (pc := 14) hX (v := 0) d_M_in_14 rfl ?_
      exact jx_zretp (pc := 15) hX d_M_in_15 rfl (eB_f (decide_eq_false (fun q => absurd q.2 (Int32.not_le.mpr h7))))
    · refine jx_iconst (pc := 10) hX (v := 1) d_M_in_10 rfl ?_
      refine jx_goto (pc := 11) hX 15 d_M_in_11 rfl ?_
      exact jx_zretp (pc := 15) hX d_M_in_15 rfl (eB_t (decide_eq_true ⟨Int32.not_lt.mp h2, Int32.not_lt.mp h7⟩))
set_option maxRecDepth 100000 in
set_option maxHeartbeats 4000000 in
theorem t_M_refuse1 {l : Launch} {D : va_G} {ad : Nat → Nat} {ac : Nat → ClassId} (σ : St) (y : Int32) : jMi l (yM D ad ac) mt_M_refuse TT (rmk 0) [.ref (ad 19), .int 1, .int y] σ (fun r u => r = 1 ∧ u = sF σ 0 1) := by
  refine jMi_of (by decide) (Nat.le_of_ble_eq_true rfl) (List.forall_mem_cons.mpr ⟨rfl, List.forall_mem_cons.mpr ⟨rfl, List.forall_mem_cons.mpr ⟨rfl, fun _ h => absurd h List.not_mem_nil⟩⟩⟩) ?_
  intro X A hX
  have hX : jX X (yM D ad ac) A b_M_refuse 3 RM (mt_M_refuse.w :: TT) (rmk 0) (some .boolean) := hX
  show jW l X (yM D ad ac) A 3 0 0 kT (jQi X (yM D ad ac) A (fun r u => r = 1 ∧ u = sF σ 0 1)) σ 0 [(0, .ref (ad 19)), (1, .int 1), (2, .int y)] []
  refine jx_aload_n (pc := 0) hX d_M_refuse_0 rfl rfl ?_
  refine jx_iload_n (pc := 1) hX d_M_refuse_1 rfl rfl ?_
  refine jx_if_eq (pc := 2) hX 9 d_M_refuse_2 rfl (fun hh => absurd hh (by decide)) (fun _ => ?_)
  refine jx_iconst (pc := 5) hX (v := 1) d_M_refuse_5 rfl ?_
  refine jx_goto (pc := 6) hX 18 d_M_refuse_6 rfl ?_
  refine p_M_72 (pc := 18) hX d_M_refuse_18 ?_
  refine jx_aload_n (pc := 21) hX d_M_refuse_21 rfl rfl ?_
  refine g_M_72 (pc := 22) hX d_M_refuse_22 ?_
  refine jx_top (y := 1) (rfl) ?_
  refine jx_if_le (pc := 25) hX 32 d_M_refuse_25 rfl (fun hh => absurd hh (by decide)) (fun _ => ?_)
  refine jx_iconst (pc := 28) hX (v := 1) d_M_refuse_28 rfl ?_
  refine jx_goto (pc := 29) hX 33 d_M_refuse_29 rfl ?_
  exact jx_zret (pc := 33) hX d_M_refuse_33 rfl (⟨rfl, rfl⟩)
set_option maxRecDepth 100000 in
set_option maxHeartbeats 4000000 in
theorem t_M_refuse2 {l : Launch} {D : va_G} {ad : Nat → Nat} {ac : Nat → ClassId} (σ : St) : jMi l (yM D ad ac) mt_M_refuse TT (rmk 0) [.ref (ad 19), .int 0, .int 1] σ (fun r u => r = 1 ∧ u = sF σ 0 2) := by
  refine jMi_of (by decide) (Nat.le_of_ble_eq_true rfl) (List.forall_mem_cons.mpr ⟨rfl, List.forall_mem_cons.mpr ⟨rfl, List.forall_mem_cons.mpr ⟨rfl, fun _ h => absurd h List.not_mem_nil⟩⟩⟩) ?_
  intro X A hX
  have hX : jX X (yM D ad ac) A b_M_refuse 3 RM (mt_M_refuse.w :: TT) (rmk 0) (some .boolean) := hX
  show jW l X (yM D ad ac) A 3 0 0 kT (jQi X (yM D ad ac) A (fun r u => r = 1 ∧ u = sF σ 0 2)) σ 0 [(0, .ref (ad 19)), (1, .int 0), (2, .int 1)] []
  refine jx_aload_n (pc := 0) hX d_M_refuse_0 rfl rfl ?_
  refine jx_iload_n (pc := 1) hX d_M_refuse_1 rfl rfl ?_
  refine jx_if_eq (pc := 2) hX 9 d_M_refuse_2 rfl (fun _ => ?_) (fun hh => absurd (rfl) hh)
  refine jx_iload_n (pc := 9) hX d_M_refuse_9 rfl rfl ?_
  refine jx_if_eq (pc := 10) hX 17 d_M_refuse_10 rfl (fun hh => absurd hh (by decide)) (fun _ => ?_)
  refine jx_iconst (pc := 13) hX (v := 2) d_M_refuse_13 rfl ?_
  refine jx_goto (pc := 14) hX 18 d_M_refuse_14 rfl ?_
  refine p_M_72 (pc := 18) hX d_M_refuse_18 ?_
  refine jx_aload_n (pc := 21) hX d_M_refuse_21 rfl rfl ?_
  refine g_M_72 (pc := 22) hX d_M_refuse_22 ?_
  refine jx_top (y := 2) (rfl) ?_
  refine jx_if_le (pc := 25) hX 32 d_M_refuse_25 rfl (fun hh => absurd hh (by decide)) (fun _ => ?_)
  refine jx_iconst (pc := 28) hX (v := 1) d_M_refuse_28 rfl ?_
  refine jx_goto (pc := 29) hX 33 d_M_refuse_29 rfl ?_
  exact jx_zret (pc := 33) hX d_M_refuse_33 rfl (⟨rfl, rfl⟩)
set_option maxRecDepth 100000 in
set_option maxHeartbeats 4000000 in
theorem t_M_refuse0 {l : Launch} {D : va_G} {ad : Nat → Nat} {ac : Nat → ClassId} (σ : St) : jMi l (yM D ad ac) mt_M_refuse TT (rmk 0) [.ref (ad 19), .int 0, .int 0] σ (fun r u => r = 0 ∧ u = sF σ 0 0) := by
  refine jMi_of (by decide) (Nat.le_of_ble_eq_true rfl) (List.forall_mem_cons.mpr ⟨rfl, List.forall_mem_cons.mpr ⟨rfl, List.forall_mem_cons.mpr ⟨rfl, fun _ h => absurd h List.not_mem_nil⟩⟩⟩) ?_
  intro X A hX
  have hX : jX X (yM D ad ac) A b_M_refuse 3 RM (mt_M_refuse.w :: TT) (rmk 0) (some .boolean) := hX
  show jW l X (yM D ad ac) A 3 0 0 kT (jQi X (yM D ad ac) A (fun r u => r = 0 ∧ u = sF σ 0 0)) σ 0 [(0, .ref (ad 19)), (1, .int 0), (2, .int 0)] []
  refine jx_aload_n (pc := 0) hX d_M_refuse_0 rfl rfl ?_
  refine jx_iload_n (pc := 1) hX d_M_refuse_1 rfl rfl ?_
  refine jx_if_eq (pc := 2) hX 9 d_M_refuse_2 rfl (fun _ => ?_) (fun hh => absurd (rfl) hh)
  refine jx_iload_n (pc := 9) hX d_M_refuse_9 rfl rfl ?_
  refine jx_if_eq (pc := 10) hX 17 d_M_refuse_10 rfl (fun _ => ?_) (fun hh => absurd (rfl) hh)
  refine jx_iconst (pc := 17) hX (v := 0) d_M_refuse_17 rfl ?_
  refine p_M_72 (pc := 18) hX d_M_refuse_18 ?_
  refine jx_aload_n (pc := 21) hX d_M_refuse_21 rfl rfl ?_
  refine g_M_72 (pc := 22) hX d_M_refuse_22 ?_
  refine jx_top (y := 0) (rfl) ?_
  refine jx_if_le (pc := 25) hX 32 d_M_refuse_25 rfl (fun _ => ?_) (fun hh => absurd (by decide) hh)
  refine jx_iconst (pc := 32) hX (v := 0) d_M_refuse_32 rfl ?_
  exact jx_zret (pc := 33) hX d_M_refuse_33 rfl (⟨rfl, rfl⟩)
theorem t_M_refuse {l : Launch} {D : va_G} {ad : Nat → Nat} {ac : Nat → ClassId} (σ : St) (a b : Bool) : jMi l (yM D ad ac) mt_M_refuse TT (rmk 0) [.ref (ad 19), .int (eB a), .int (eB b)] σ (fun r u => r = eB (a || b) ∧ u = sF σ 0 (rf a b)) := by
  cases a with
  | true => exact t_M_refuse1 σ (eB b)
  | false =>
    cases b with
    | true => exact t_M_refuse2 σ
    | false => exact t_M_refuse0 σ
set_option maxRecDepth 100000 in
set_option maxHeartbeats 4000000 in
theorem t_M_left {l : Launch} {D : va_G} {ad : Nat → Nat} {ac : Nat → ClassId} (σ : St) (M : Ms) (hI : Inv M) (hM : repM σ M) : jMp l (yM D ad ac) mt_M_left TT (rmk 0) [.ref (ad 19)] σ (fun r => r = nI M.left) := by
  obtain ⟨⟨⟨s0, s1, s2, s3⟩, h0, h1, h2, h3, h4, h5, h6, h7, h8, h9, h10, h11, h12, h13⟩, hpl⟩ := id hM
  obtain ⟨i1, i2, i3, i4, i5, i6, i7, i8⟩ := id hI
  obtain ⟨p1, p3, p4, p5, p6⟩ := id hpl
  have hw8 := i1.le
  have hw2 := i1.pos
  have hnb := nb_le M.w
  refine jMp_of (by decide) (Nat.le_of_ble_eq_true rfl) (List.forall_mem_cons.mpr ⟨rfl, fun _ h => absurd h List.not_mem_nil⟩) ?_
  intro X A hX
  have hX : jX X (yM D ad ac) A b_M_left 3 RM (mt_M_left.w :: TT) (rmk 0) (some .int) := hX
  show jW l X (yM D ad ac) A 3 0 0 (k0 X) (jQp X (fun r => r = nI M.left)) σ 0 [(0, .ref (ad 19))] []
  have loop : ∀ (fu : Nat) (t : Nat), M.nt - t = fu → t ≤ M.nt → jW l X (yM D ad ac) A 3 0 0 (k0 X) (jQp X (fun r => r = nI M.left)) σ 4 [(0, .ref (ad 19)), (1, .int (nI (lefF M.state t))), (2, .int (nI t))] [] := by
    intro fu
    induction fu using Nat.strongRecOn with
    | ind fu ih =>
      intro t hfu htl
      refine jx_iload_n (pc := 4) hX d_M_left_4 rfl rfl ?_
      refine jx_aload_n (pc := 5) hX d_M_left_5 rfl rfl ?_
      refine g_M_99 (pc := 6) hX d_M_left_6 ?_
      refine jx_top (y := nI M.nt) (s2) ?_
      refine jx_icmp_ge (pc := 9) hX 36 d_M_left_9 rfl (fun q9 => ?_) (fun q9 => ?_)
      · have hge : t = M.nt := by have : M.nt ≤ t := (nI_leI (by omega) (by omega)).mp q9; omega
        refine jx_iload_n (pc := 36) hX d_M_left_36 rfl rfl ?_
        exact jx_iretp (pc := 37) hX d_M_left_37 (by rw [hge]; rfl)
      · have hlt : t < M.nt := Nat.lt_of_not_le (fun q => q9 (nI_le q (by omega)))
        have j3 := (i6 t hlt).2.2.1
        refine jx_aload_n (pc := 12) hX d_M_left_12 rfl rfl ?_
        refine g_M_41 (pc := 13) hX d_M_left_13 ?_
        refine jx_iload_n (pc := 16) hX d_M_left_16 rfl rfl ?_
        refine jx_iald (pc := 17) hX oM_10 _ rfl (show t < 200 by omega) d_M_left_17 ?_
        refine jx_top (y := nI (M.state t)) (h2 t hlt) ?_
        refine jx_iconst (pc := 18) hX (v := 2) d_M_left_18 rfl ?_
        refine jx_icmp_ne (pc := 19) hX 26 d_M_left_19 rfl (fun q19 => ?_) (fun q19 => ?_)
        · have a19 : ¬ M.state t = 2 := fun q => q19 ((nI_n2 (by omega)).mpr q)
          refine jx_iload_n (pc := 26) hX d_M_left_26 rfl rfl ?_
          refine jx_iconst (pc := 27) hX (v := 1) d_M_left_27 rfl ?_
          refine jx_iadd (pc := 28) hX d_M_left_28 ?_
          refine jx_top (y := nI (lefF M.state t + 1)) (nI_1 _) ?_
          refine jx_istore_n (pc := 29) hX d_M_left_29 rfl (by decide) (L' := [(0, _), (1, _), (2, _)]) rfl ?_
          refine jx_iinc (pc := 30) hX (v := nI (t + 1)) d_M_left_30 rfl (nI_1 t) (by decide) (L' := [(0, _), (1, _), (2, _)]) rfl ?_
          refine jx_goto (pc := 33) hX 4 d_M_left_33 rfl ?_
          rw [← lefF_s1 a19]
          exact ih _ (by omega) (t + 1) rfl (by omega)
        · have a19 : M.state t = 2 := (nI_n2 (by omega)).mp q19
          refine jx_iload_n (pc := 22) hX d_M_left_22 rfl rfl ?_
          refine jx_goto (pc := 23) hX 29 d_M_left_23 rfl ?_
          refine jx_istore_n (pc := 29) hX d_M_left_29 rfl (by decide) (L' := [(0, _), (1, _), (2, _)]) rfl ?_
          refine jx_iinc (pc := 30) hX (v := nI (t + 1)) d_M_left_30 rfl (nI_1 t) (by decide) (L' := [(0, _), (1, _), (2, _)]) rfl ?_
          refine jx_goto (pc := 33) hX 4 d_M_left_33 rfl ?_
          rw [← lefF_s2 a19]
          exact ih _ (by omega) (t + 1) rfl (by omega)
  refine jx_iconst (pc := 0) hX (v := 0) d_M_left_0 rfl ?_
  refine jx_istore_n (pc := 1) hX d_M_left_1 rfl (by decide) (L' := [(0, _), (1, _)]) rfl ?_
  refine jx_iconst (pc := 2) hX (v := 0) d_M_left_2 rfl ?_
  refine jx_istore_n (pc := 3) hX d_M_left_3 rfl (by decide) (L' := [(0, _), (1, _), (2, _)]) rfl ?_
  exact loop _ 0 rfl (Nat.zero_le _)
set_option maxRecDepth 100000 in
set_option maxHeartbeats 4000000 in
theorem t_M_nextOf {l : Launch} {D : va_G} {ad : Nat → Nat} {ac : Nat → ClassId} (σ : St) (M : Ms) (hI : Inv M) (hM : repM σ M) (t : Nat) (ht : t < M.nt) : jMp l (yM D ad ac) mt_M_nextOf TT (rmk 0) [.ref (ad 19), .int (nI t)] σ (fun r => r = eO (M.next t)) := by
  obtain ⟨⟨⟨s0, s1, s2, s3⟩, h0, h1, h2, h3, h4, h5, h6, h7, h8, h9, h10, h11, h12, h13⟩, hpl⟩ := id hM
  obtain ⟨i1, i2, i3, i4, i5, i6, i7, i8⟩ := id hI
  obtain ⟨p1, p3, p4, p5, p6⟩ := id hpl
  have hw8 := i1.le
  have hw2 := i1.pos
  have hnb := nb_le M.w
  obtain ⟨j1, j2, j3, j4, j5, j6⟩ := i6 t ht
  have ht9 : t < 200 := by omega
  have jp : ∀ p, M.place t = some p → p < 2 ^ 31 := fun p hp => by have := j2 p hp; omega
  refine jMp_of (by decide) (Nat.le_of_ble_eq_true rfl) (List.forall_mem_cons.mpr ⟨rfl, List.forall_mem_cons.mpr ⟨rfl, fun _ h => absurd h List.not_mem_nil⟩⟩) ?_
  intro X A hX
  have hX : jX X (yM D ad ac) A b_M_nextOf 3 RM (mt_M_nextOf.w :: TT) (rmk 0) (some .int) := hX
  show jW l X (yM D ad ac) A 3 0 0 (k0 X) (jQp X (fun r => r = eO (M.next t))) σ 0 [(0, .ref (ad 19)), (1, .int (nI t))] []
  have loop : ∀ (fu : Nat) (b : Nat), nb M.w - b = fu → b ≤ nb M.w → nxF M.w (M.wire t) (nb M.w - b) b = nxB M.w (M.wire t) (M.nxt t) → jW l X (yM D ad ac) A 3 0 0 (k0 X) (jQp X (fun r => r = eO (M.next t))) σ 9 [(0, .ref (ad 19)), (1, .int (nI t)), (2, .int (nI b))] [] := by
    intro fu
    induction fu using Nat.strongRecOn with
    | ind fu ih =>
      intro b hfu hbl hq
      refine jx_iload_n (pc := 9) hX d_M_nextOf_9 rfl rfl ?_
      refine jx_aload_n (pc := 10) hX d_M_nextOf_10 rfl rfl ?_
      refine g_M_76 (pc := 11) hX d_M_nextOf_11 ?_
      refine jx_top (y := nI (nb M.w)) (p1) ?_
      refine jx_icmp_ge (pc := 14) hX 55 d_M_nextOf_14 rfl (fun q14 => ?_) (fun q14 => ?_)
      · have hb : nb M.w ≤ b := (nI_leI (by omega) (by omega)).mp q14
        refine jx_iconst (pc := 55) hX (v := -1) d_M_nextOf_55 rfl ?_
        exact jx_iretp (pc := 56) hX d_M_nextOf_56 (by unfold Ms.next; rw [nxB_none hb hq]; rfl)
      · have hb : b < nb M.w := Nat.lt_of_not_le (fun q => q14 (nI_le q (by omega)))
        have hu := uU_lt i1 hb
        have hv := uL_lt i1 hb
        refine jx_aload_n (pc := 17) hX d_M_nextOf_17 rfl rfl ?_
        refine g_M_7 (pc := 18) hX d_M_nextOf_18 ?_
        refine jx_iload_n (pc := 21) hX d_M_nextOf_21 rfl rfl ?_
        refine jx_iald (pc := 22) hX oM_0 _ rfl (show b < 24 by omega) d_M_nextOf_22 ?_
        refine jx_top (y := nI (uU M.w b)) (p3 b hb) ?_
        refine jx_aload_n (pc := 23) hX d_M_nextOf_23 rfl rfl ?_
        refine g_M_35 (pc := 24) hX d_M_nextOf_24 ?_
        refine jx_iload_n (pc := 27) hX d_M_nextOf_27 rfl rfl ?_
        refine jx_iald (pc := 28) hX oM_8 _ rfl ht9 d_M_nextOf_28 ?_
        refine jx_top (y := nI (M.wire t)) (h0 t ht) ?_
        refine jx_icmp_eq (pc := 29) hX 47 d_M_nextOf_29 rfl (fun e19 => ?_) (fun e19 => ?_)
        · refine jx_iload_n (pc := 47) hX d_M_nextOf_47 rfl rfl ?_
          exact jx_iretp (pc := 48) hX d_M_nextOf_48 (by unfold Ms.next; rw [nxB_hit hb hq (Or.inl ((nI_eq (by omega) (by omega)).mp e19))]; rfl)
        · refine jx_aload_n (pc := 32) hX d_M_nextOf_32 rfl rfl ?_
          refine g_M_13 (pc := 33) hX d_M_nextOf_33 ?_
          refine jx_iload_n (pc := 36) hX d_M_nextOf_36 rfl rfl ?_
          refine jx_iald (pc := 37) hX oM_1 _ rfl (show b < 24 by omega) d_M_nextOf_37 ?_
          refine jx_top (y := nI (uL M.w b)) (p4 b hb) ?_
          refine jx_aload_n (pc := 38) hX d_M_nextOf_38 rfl rfl ?_
          refine g_M_35 (pc := 39) hX d_M_nextOf_39 ?_
          refine jx_iload_n (pc := 42) hX d_M_nextOf_42 rfl rfl ?_
          refine jx_iald (pc := 43) hX oM_8 _ rfl ht9 d_M_nextOf_43 ?_
          refine jx_top (y := nI (M.wire t)) (h0 t ht) ?_
          refine jx_icmp_ne (pc := 44) hX 49 d_M_nextOf_44 rfl (fun e29 => ?_) (fun e29 => ?_)
          · have hno : ¬ (uU M.w b = M.wire t ∨ uL M.w b = M.wire t) := fun q => q.elim (fun a => e19 (by rw [a])) (fun a => e29 (by rw [a]))
            refine jx_iinc (pc := 49) hX (v := nI (b + 1)) d_M_nextOf_49 rfl (nI_1 b) (by decide) (L' := [(0, _), (1, _), (2, _)]) rfl ?_
            refine jx_goto (pc := 52) hX 9 d_M_nextOf_52 rfl ?_
            exact ih _ (by omega) (b + 1) rfl (by omega) (nxB_step hb hq hno)
          · refine jx_iload_n (pc := 47) hX d_M_nextOf_47 rfl rfl ?_
            exact jx_iretp (pc := 48) hX d_M_nextOf_48 (by unfold Ms.next; rw [nxB_hit hb hq (Or.inr ((nI_eq (by omega) (by omega)).mp e29))]; rfl)
  refine jx_aload_n (pc := 0) hX d_M_nextOf_0 rfl rfl ?_
  refine g_M_44 (pc := 1) hX d_M_nextOf_1 ?_
  refine jx_iload_n (pc := 4) hX d_M_nextOf_4 rfl rfl ?_
  refine jx_iald (pc := 5) hX oM_11 _ rfl ht9 d_M_nextOf_5 ?_
  refine jx_top (y := eP (M.nxt t)) (h4 t ht) ?_
  refine jx_iconst (pc := 6) hX (v := 1) d_M_nextOf_6 rfl ?_
  refine jx_iadd (pc := 7) hX d_M_nextOf_7 ?_
  refine jx_top (y := nI (M.nxt t)) (eP_1 _) ?_
  refine jx_istore_n (pc := 8) hX d_M_nextOf_8 rfl (by decide) (L' := [(0, _), (1, _), (2, _)]) rfl ?_
  exact loop _ (M.nxt t) rfl j4 rfl
set_option maxRecDepth 100000 in
set_option maxHeartbeats 4000000 in
theorem t_M_exitOf {l : Launch} {D : va_G} {ad : Nat → Nat} {ac : Nat → ClassId} (σ : St) (M : Ms) (hI : Inv M) (hM : repM σ M) (wi : Nat) (hwi : wi < M.w) : jMp l (yM D ad ac) mt_M_exitOf TT (rmk 0) [.ref (ad 19), .int (nI wi)] σ (fun r => r = nI (uX M.w wi)) := by
  obtain ⟨⟨⟨s0, s1, s2, s3⟩, h0, h1, h2, h3, h4, h5, h6, h7, h8, h9, h10, h11, h12, h13⟩, hpl⟩ := id hM
  obtain ⟨i1, i2, i3, i4, i5, i6, i7, i8⟩ := id hI
  obtain ⟨p1, p3, p4, p5, p6⟩ := id hpl
  have hw8 := i1.le
  have hw2 := i1.pos
  have hnb := nb_le M.w
  refine jMp_of (by decide) (Nat.le_of_ble_eq_true rfl) (List.forall_mem_cons.mpr ⟨rfl, List.forall_mem_cons.mpr ⟨rfl, fun _ h => absurd h List.not_mem_nil⟩⟩) ?_
  intro X A hX
  have hX : jX X (yM D ad ac) A b_M_exitOf 4 RM (mt_M_exitOf.w :: TT) (rmk 0) (some .int) := hX
  show jW l X (yM D ad ac) A 4 0 0 (k0 X) (jQp X (fun r => r = nI (uX M.w wi))) σ 0 [(0, .ref (ad 19)), (1, .int (nI wi))] []
  have loop : ∀ (fu : Nat) (i : Nat), M.w - i = fu → i ≤ M.w → jW l X (yM D ad ac) A 4 0 0 (k0 X) (jQp X (fun r => r = nI (uX M.w wi))) σ 4 [(0, .ref (ad 19)), (1, .int (nI wi)), (2, .int (nI (exF M.w wi i))), (3, .int (nI i))] [] := by
    intro fu
    induction fu using Nat.strongRecOn with
    | ind fu ih =>
      intro i hfu hi
      refine jx_iload_n (pc := 4) hX d_M_exitOf_4 rfl rfl ?_
      refine jx_aload_n (pc := 5) hX d_M_exitOf_5 rfl rfl ?_
      refine g_M_93 (pc := 6) hX d_M_exitOf_6 ?_
      refine jx_top (y := nI M.w) (s0) ?_
      refine jx_icmp_ge (pc := 9) hX 34 d_M_exitOf_9 rfl (fun q9 => ?_) (fun q9 => ?_)
      · have hge : i = M.w := by have : M.w ≤ i := (nI_leI (by omega) (by omega)).mp q9; omega
        refine jx_iload_n (pc := 34) hX d_M_exitOf_34 rfl rfl ?_
        exact jx_iretp (pc := 35) hX d_M_exitOf_35 (by rw [hge, exF_end i1 hwi])
      · have hlt : i < M.w := Nat.lt_of_not_le (fun q => q9 (nI_le q (by omega)))
        have hu := uE_lt i1 hlt
        refine jx_aload_n (pc := 12) hX d_M_exitOf_12 rfl rfl ?_
        refine g_M_22 (pc := 13) hX d_M_exitOf_13 ?_
        refine jx_iload_n (pc := 16) hX d_M_exitOf_16 rfl rfl ?_
        refine jx_iald (pc := 17) hX oM_4 _ rfl (show i < 8 by omega) d_M_exitOf_17 ?_
        refine jx_top (y := nI (uE M.w i)) (p6 i hlt) ?_
        refine jx_iload_n (pc := 18) hX d_M_exitOf_18 rfl rfl ?_
        refine jx_icmp_ne (pc := 19) hX 26 d_M_exitOf_19 rfl (fun q19 => ?_) (fun q19 => ?_)
        · have a19 : ¬ i = uX M.w wi := fun q => q19 (by rw [q, uE_uX i1 hwi])
          refine jx_iload_n (pc := 26) hX d_M_exitOf_26 rfl rfl ?_
          refine jx_istore_n (pc := 27) hX d_M_exitOf_27 rfl (by decide) (L' := [(0, _), (1, _), (2, _), (3, _)]) rfl ?_
          refine jx_iinc (pc := 28) hX (v := nI (i + 1)) d_M_exitOf_28 rfl (nI_1 i) (by decide) (L' := [(0, _), (1, _), (2, _), (3, _)]) rfl ?_
          refine jx_goto (pc := 31) hX 4 d_M_exitOf_31 rfl ?_
          rw [← exF_no a19]
          exact ih _ (by omega) (i + 1) rfl (by omega)
        · have a19 : i = uX M.w wi := uX_hit i1 hlt ((nI_eq (by omega) (by omega)).mp q19)
          refine jx_iload_n (pc := 22) hX d_M_exitOf_22 rfl rfl ?_
          refine jx_goto (pc := 23) hX 27 d_M_exitOf_23 rfl ?_
          refine jx_istore_n (pc := 27) hX d_M_exitOf_27 rfl (by decide) (L' := [(0, _), (1, _), (2, _), (3, _)]) rfl ?_
          refine jx_iinc (pc := 28) hX (v := nI (i + 1)) d_M_exitOf_28 rfl (nI_1 i) (by decide) (L' := [(0, _), (1, _), (2, _), (3, _)]) rfl ?_
          refine jx_goto (pc := 31) hX 4 d_M_exitOf_31 rfl ?_
          exact jx_to (ih _ (by omega) (i + 1) rfl (by omega)) rfl rfl (by rw [exF_hit a19]) rfl
  refine jx_iconst (pc := 0) hX (v := 0) d_M_exitOf_0 rfl ?_
  refine jx_istore_n (pc := 1) hX d_M_exitOf_1 rfl (by decide) (L' := [(0, _), (1, _), (2, _)]) rfl ?_
  refine jx_iconst (pc := 2) hX (v := 0) d_M_exitOf_2 rfl ?_
  refine jx_istore_n (pc := 3) hX d_M_exitOf_3 rfl (by decide) (L' := [(0, _), (1, _), (2, _), (3, _)]) rfl ?_
  exact jx_to (loop _ 0 rfl (Nat.zero_le _)) rfl rfl (by rw [exF_0]; rfl) rfl
set_option maxRecDepth 100000 in
set_option maxHeartbeats 4000000 in
theorem t_M_stationOf {l : Launch} {D : va_G} {ad : Nat → Nat} {ac : Nat → ClassId} (σ : St) (M : Ms) (hI : Inv M) (hM : repM σ M) (t : Nat) (ht : t < M.nt) : jMp l (yM D ad ac) mt_M_stationOf TT (rmk 1) [.ref (ad 19), .int (nI t)] σ (fun r => r = nI (M.stN t)) := by
  obtain ⟨⟨⟨s0, s1, s2, s3⟩, h0, h1, h2, h3, h4, h5, h6, h7, h8, h9, h10, h11, h12, h13⟩, hpl⟩ := id hM
  obtain ⟨i1, i2, i3, i4, i5, i6, i7, i8⟩ := id hI
  obtain ⟨p1, p3, p4, p5, p6⟩ := id hpl
  have hw8 := i1.le
  have hw2 := i1.pos
  have hnb := nb_le M.w
  obtain ⟨j1, j2, j3, j4, j5, j6⟩ := i6 t ht
  have ht9 : t < 200 := by omega
  have jp : ∀ p, M.place t = some p → p < 2 ^ 31 := fun p hp => by have := j2 p hp; omega
  have jn : ∀ p, M.next t = some p → p < 2 ^ 31 := fun p hp => by have := nxB_lt hp; omega
  refine jMp_of (by decide) (Nat.le_of_ble_eq_true rfl) (List.forall_mem_cons.mpr ⟨rfl, List.forall_mem_cons.mpr ⟨rfl, fun _ h => absurd h List.not_mem_nil⟩⟩) ?_
  intro X A hX
  have hX : jX X (yM D ad ac) A b_M_stationOf 3 RM (mt_M_stationOf.w :: TT) (rmk 1) (some .int) := hX
  show jW l X (yM D ad ac) A 3 0 0 (k0 X) (jQp X (fun r => r = nI (M.stN t))) σ 0 [(0, .ref (ad 19)), (1, .int (nI t))] []
  refine jx_aload_n (pc := 0) hX d_M_stationOf_0 rfl rfl ?_
  refine jx_iload_n (pc := 1) hX d_M_stationOf_1 rfl rfl ?_
  refine k_M_123 (pc := 2) hX (t_M_nextOf σ M hI hM t ht) ⟨rfl, rfl, (Nat.le_of_ble_eq_true rfl), (Nat.le_of_ble_eq_true rfl)⟩ rfl rfl (Nat.le_of_ble_eq_true rfl) ⟨Nat.zero_le _, Nat.zero_le _⟩ d_M_stationOf_2 (fun r hr => ?_)
  subst hr
  refine jx_istore_n (pc := 5) hX d_M_stationOf_5 rfl (by decide) (L' := [(0, _), (1, _), (2, _)]) rfl ?_
  refine jx_iload_n (pc := 6) hX d_M_stationOf_6 rfl rfl ?_
  refine jx_if_ge (pc := 7) hX 28 d_M_stationOf_7 rfl (fun q7 => ?_) (fun q7 => ?_)
  · obtain ⟨b, hb⟩ := (eO_ge jn).mp q7
    have hbl : b < nb M.w := nxB_lt hb
    rw [hb]
    refine jx_aload_n (pc := 28) hX d_M_stationOf_28 rfl rfl ?_
    refine g_M_16 (pc := 29) hX d_M_stationOf_29 ?_
    refine jx_iload_n (pc := 32) hX d_M_stationOf_32 rfl rfl ?_
    refine jx_iald (pc := 33) hX oM_2 _ rfl (show b < 24 by omega) d_M_stationOf_33 ?_
    refine jx_top (y := nI (uC M.w b)) (p5 b hbl) ?_
    refine jx_aload_n (pc := 34) hX d_M_stationOf_34 rfl rfl ?_
    refine g_M_96 (pc := 35) hX d_M_stationOf_35 ?_
    refine jx_top (y := nI M.ns) (s1) ?_
    refine jx_irem (pc := 38) hX d_M_stationOf_38 (nI_ne0 (by omega) (by omega)) ?_
    refine jx_top (y := nI (uC M.w b % M.ns)) (pk_rem (by have := uC_lt i1 hbl; omega) (by omega) (by omega)) ?_
    exact jx_iretp (pc := 39) hX d_M_stationOf_39 (by rw [Ms.stN_some hb])
  · have hb : M.next t = none := by
      cases hq : M.next t with
      | none => rfl
      | some b => exact absurd ((eO_ge jn).mpr ⟨b, hq⟩) q7
    refine jx_aload_n (pc := 10) hX d_M_stationOf_10 rfl rfl ?_
    refine jx_aload_n (pc := 11) hX d_M_stationOf_11 rfl rfl ?_
    refine g_M_35 (pc := 12) hX d_M_stationOf_12 ?_
    refine jx_iload_n (pc := 15) hX d_M_stationOf_15 rfl rfl ?_
    refine jx_iald (pc := 16) hX oM_8 _ rfl ht9 d_M_stationOf_16 ?_
    refine jx_top (y := nI (M.wire t)) (h0 t ht) ?_
    refine k_M_127 (pc := 17) hX (t_M_exitOf σ M hI hM (M.wire t) j1) ⟨rfl, rfl, (Nat.le_of_ble_eq_true rfl), (Nat.le_of_ble_eq_true rfl)⟩ rfl rfl (Nat.le_of_ble_eq_true rfl) ⟨Nat.zero_le _, Nat.zero_le _⟩ d_M_stationOf_17 (fun r hr => ?_)
    subst hr
    refine jx_aload_n (pc := 20) hX d_M_stationOf_20 rfl rfl ?_
    refine g_M_96 (pc := 21) hX d_M_stationOf_21 ?_
    refine jx_top (y := nI M.ns) (s1) ?_
    refine jx_irem (pc := 24) hX d_M_stationOf_24 (nI_ne0 (by omega) (by omega)) ?_
    refine jx_top (y := nI (uX M.w (M.wire t) % M.ns)) (pk_rem (by have := uX_lt i1 j1; omega) (by omega) (by omega)) ?_
    refine jx_goto (pc := 25) hX 39 d_M_stationOf_25 rfl ?_
    exact jx_iretp (pc := 39) hX d_M_stationOf_39 (by rw [Ms.stN_none hb]; rfl)
set_option maxRecDepth 100000 in
set_option maxHeartbeats 4000000 in
theorem t_M_post {l : Launch} {D : va_G} {ad : Nat → Nat} {ac : Nat → ClassId} (σ : St) (M : Ms) (hI : Inv M) (hM : repM σ M) (t : Nat) (ht : t < M.nt) (hnl : M.nl < 60) : jMv l (yM D ad ac) mt_M_post TT (rmk 2) [.ref (ad 19), .int (nI t)] σ (fun u => repM u (M.post t (M.way t) (M.stN t)) ∧ u.1 0 = σ.1 0) := by
  obtain ⟨⟨⟨s0, s1, s2, s3⟩, h0, h1, h2, h3, h4, h5, h6, h7, h8, h9, h10, h11, h12, h13⟩, hpl⟩ := id hM
  obtain ⟨i1, i2, i3, i4, i5, i6, i7, i8⟩ := id hI
  obtain ⟨p1, p3, p4, p5, p6⟩ := id hpl
  have hw8 := i1.le
  have hw2 := i1.pos
  have hnb := nb_le M.w
  obtain ⟨j1, j2, j3, j4, j5, j6⟩ := i6 t ht
  have ht9 : t < 200 := by omega
  have jp : ∀ p, M.place t = some p → p < 2 ^ 31 := fun p hp => by have := j2 p hp; omega
  refine jMv_of (by decide) (Nat.le_of_ble_eq_true rfl) (List.forall_mem_cons.mpr ⟨rfl, List.forall_mem_cons.mpr ⟨rfl, fun _ h => absurd h List.not_mem_nil⟩⟩) ?_
  intro X A hX
  have hX : jX X (yM D ad ac) A b_M_post 2 RM (mt_M_post.w :: TT) (rmk 2) none := hX
  show jW l X (yM D ad ac) A 2 0 0 kT (jQv X (yM D ad ac) A (fun u => repM u (M.post t (M.way t) (M.stN t)) ∧ u.1 0 = σ.1 0)) σ 0 [(0, .ref (ad 19)), (1, .int (nI t))] []
  refine jx_aload_n (pc := 0) hX d_M_post_0 rfl rfl ?_
  refine g_M_59 (pc := 1) hX d_M_post_1 ?_
  refine jx_aload_n (pc := 4) hX d_M_post_4 rfl rfl ?_
  refine g_M_102 (pc := 5) hX d_M_post_5 ?_
  refine jx_iload_n (pc := 8) hX d_M_post_8 rfl rfl ?_
  refine jx_iast (pc := 9) hX oM_16 _ s3 hnl d_M_post_9 ?_
  refine jx_aload_n (pc := 10) hX d_M_post_10 rfl rfl ?_
  refine g_M_62 (pc := 11) hX d_M_post_11 ?_
  refine jx_aload_n (pc := 14) hX d_M_post_14 rfl rfl ?_
  refine g_M_102 (pc := 15) hX d_M_post_15 ?_
  refine jx_aload_n (pc := 18) hX d_M_post_18 rfl rfl ?_
  refine jx_iload_n (pc := 19) hX d_M_post_19 rfl rfl ?_
  refine k_M_130 (pc := 20) hX (t_M_stationOf (sA σ 16 M.nl (nI t)) M hI ⟨⟨⟨s0, s1, s2, s3⟩, h0, h1, h2, h3, h4, h5, h6, h7, h8.off (Nat.le_refl _), h9, h10, h11, h12, h13⟩, hpl⟩ t ht) ⟨rfl, rfl, (Nat.le_of_ble_eq_true rfl), (Nat.le_of_ble_eq_true rfl)⟩ rfl rfl (Nat.le_of_ble_eq_true rfl) ⟨Nat.zero_le _, Nat.zero_le _⟩ d_M_post_20 (fun r hr => ?_)
  subst hr
  refine jx_iast (pc := 23) hX oM_17 _ s3 hnl d_M_post_23 ?_
  refine jx_aload_n (pc := 24) hX d_M_post_24 rfl rfl ?_
  refine g_M_65 (pc := 25) hX d_M_post_25 ?_
  refine jx_aload_n (pc := 28) hX d_M_post_28 rfl rfl ?_
  refine g_M_102 (pc := 29) hX d_M_post_29 ?_
  refine jx_aload_n (pc := 32) hX d_M_post_32 rfl rfl ?_
  refine g_M_53 (pc := 33) hX d_M_post_33 ?_
  refine jx_iload_n (pc := 36) hX d_M_post_36 rfl rfl ?_
  refine jx_iald (pc := 37) hX oM_14 _ rfl ht9 d_M_post_37 ?_
  refine jx_top (y := M.way t) (h5 t ht) ?_
  refine jx_iast (pc := 38) hX oM_18 _ s3 hnl d_M_post_38 ?_
  refine jx_aload_n (pc := 39) hX d_M_post_39 rfl rfl ?_
  refine jx_dup (pc := 40) hX d_M_post_40 rfl ?_
  refine g_M_102 (pc := 41) hX d_M_post_41 ?_
  refine jx_iconst (pc := 44) hX (v := 1) d_M_post_44 rfl ?_
  refine jx_iadd (pc := 45) hX d_M_post_45 ?_
  refine p_M_102 (pc := 46) hX d_M_post_46 ?_
  exact jx_vret (pc := 49) hX d_M_post_49 (⟨⟨hM.1.post rfl rfl, hpl⟩, rfl⟩)
set_option maxRecDepth 100000 in
set_option maxHeartbeats 4000000 in
theorem t_M_isStuck {l : Launch} {D : va_G} {ad : Nat → Nat} {ac : Nat → ClassId} (σ : St) (M : Ms) (hI : Inv M) (hM : repM σ M) (t : Nat) (ht : t < M.nt) : jMp l (yM D ad ac) mt_M_isStuck TT (rmk 2) [.ref (ad 19), .int (nI t)] σ (fun r => r = eB (!M.can t)) := by
  obtain ⟨⟨⟨s0, s1, s2, s3⟩, h0, h1, h2, h3, h4, h5, h6, h7, h8, h9, h10, h11, h12, h13⟩, hpl⟩ := id hM
  obtain ⟨i1, i2, i3, i4, i5, i6, i7, i8⟩ := id hI
  obtain ⟨p1, p3, p4, p5, p6⟩ := id hpl
  have hw8 := i1.le
  have hw2 := i1.pos
  have hnb := nb_le M.w
  obtain ⟨j1, j2, j3, j4, j5, j6⟩ := i6 t ht
  have ht9 : t < 200 := by omega
  have jp : ∀ p, M.place t = some p → p < 2 ^ 31 := fun p hp => by have := j2 p hp; omega
  refine jMp_of (by decide) (Nat.le_of_ble_eq_true rfl) (List.forall_mem_cons.mpr ⟨rfl, List.forall_mem_cons.mpr ⟨rfl, fun _ h => absurd h List.not_mem_nil⟩⟩) ?_
  intro X A hX
  have hX : jX X (yM D ad ac) A b_M_isStuck 3 RM (mt_M_isStuck.w :: TT) (rmk 2) (some .boolean) := hX
  show jW l X (yM D ad ac) A 3 0 0 (k0 X) (jQp X (fun r => r = eB (!M.can t))) σ 0 [(0, .ref (ad 19)), (1, .int (nI t))] []
  have join : ∀ (fu : Nat) (z : Int32), 0 = fu → z = eB (M.asleep t) → jW l X (yM D ad ac) A 3 0 0 (k0 X) (jQp X (fun r => r = eB (!M.can t))) σ 29 [(0, .ref (ad 19)), (1, .int (nI t)), (2, .int z)] [] := by
    intro fu
    induction fu using Nat.strongRecOn with
    | ind fu ih =>
      intro z hfu hz
      subst hz
      refine jx_aload_n (pc := 29) hX d_M_isStuck_29 rfl rfl ?_
      refine g_M_41 (pc := 30) hX d_M_isStuck_30 ?_
      refine jx_iload_n (pc := 33) hX d_M_isStuck_33 rfl rfl ?_
      refine jx_iald (pc := 34) hX oM_10 _ rfl ht9 d_M_isStuck_34 ?_
      refine jx_top (y := nI (M.state t)) (h2 t ht) ?_
      refine jx_iconst (pc := 35) hX (v := 2) d_M_isStuck_35 rfl ?_
      refine jx_icmp_eq (pc := 36) hX 75 d_M_isStuck_36 rfl (fun q36 => ?_) (fun q36 => ?_)
      · have a36 : M.state t = 2 := (nI_n2 (by omega)).mp q36
        refine jx_iconst (pc := 75) hX (v := 1) d_M_isStuck_75 rfl ?_
        refine jx_goto (pc := 76) hX 80 d_M_isStuck_76 rfl ?_
        exact jx_zretp (pc := 80) hX d_M_isStuck_80 rfl (by rw [Ms.can_f (Or.inl a36)]; rfl)
      · have a36 : ¬ M.state t = 2 := fun q => q36 ((nI_n2 (by omega)).mpr q)
        refine jx_iload_n (pc := 39) hX d_M_isStuck_39 rfl rfl ?_
        refine jx_if_ne (pc := 40) hX 75 d_M_isStuck_40 rfl (fun q40 => ?_) (fun q40 => ?_)
        · have a40 : M.asleep t = true := eB_n0.mp q40
          refine jx_iconst (pc := 75) hX (v := 1) d_M_isStuck_75 rfl ?_
          refine jx_goto (pc := 76) hX 80 d_M_isStuck_76 rfl ?_
          exact jx_zretp (pc := 80) hX d_M_isStuck_80 rfl (by rw [Ms.can_f (Or.inr (Or.inl a40))]; rfl)
        · have a40 : M.asleep t = false := eB_0.mp q40
          refine jx_aload_n (pc := 43) hX d_M_isStuck_43 rfl rfl ?_
          refine g_M_41 (pc := 44) hX d_M_isStuck_44 ?_
          refine jx_iload_n (pc := 47) hX d_M_isStuck_47 rfl rfl ?_
          refine jx_iald (pc := 48) hX oM_10 _ rfl ht9 d_M_isStuck_48 ?_
          refine jx_top (y := nI (M.state t)) (h2 t ht) ?_
          refine jx_if_ne (pc := 49) hX 79 d_M_isStuck_49 rfl (fun q49 => ?_) (fun q49 => ?_)
          · have a49 : M.state t = 1 := by have : ¬ M.state t = 0 := fun q => q49 (by rw [q]; rfl); omega
            refine jx_iconst (pc := 79) hX (v := 0) d_M_isStuck_79 rfl ?_
            exact jx_zretp (pc := 80) hX d_M_isStuck_80 rfl (by rw [Ms.can_t a36 a40 (Or.inr (Or.inl a49))]; rfl)
          · have a49 : M.state t = 0 := (nI_n0 (by omega)).mp q49
            refine jx_aload_n (pc := 52) hX d_M_isStuck_52 rfl rfl ?_
            refine g_M_38 (pc := 53) hX d_M_isStuck_53 ?_
            refine jx_iload_n (pc := 56) hX d_M_isStuck_56 rfl rfl ?_
            refine jx_iald (pc := 57) hX oM_9 _ rfl ht9 d_M_isStuck_57 ?_
            refine jx_top (y := eO (M.place t)) (h1 t ht) ?_
            refine jx_aload_n (pc := 58) hX d_M_isStuck_58 rfl rfl ?_
            refine jx_iload_n (pc := 59) hX d_M_isStuck_59 rfl rfl ?_
            refine k_M_130 (pc := 60) hX (t_M_stationOf σ M hI hM t ht) ⟨rfl, rfl, (Nat.le_of_ble_eq_true rfl), (Nat.le_of_ble_eq_true rfl)⟩ rfl rfl (Nat.le_of_ble_eq_true rfl) ⟨Nat.zero_le _, Nat.zero_le _⟩ d_M_isStuck_60 (fun r hr => ?_)
            subst hr
            refine jx_icmp_eq (pc := 63) hX 79 d_M_isStuck_63 rfl (fun q63 => ?_) (fun q63 => ?_)
            · have a63 : M.place t = some (M.stN t) := (eO_some jp (by have := Ms.stN_lt i2.1 t; omega)).mp q63
              refine jx_iconst (pc := 79) hX (v := 0) d_M_isStuck_79 rfl ?_
              exact jx_zretp (pc := 80) hX d_M_isStuck_80 rfl (by rw [Ms.can_t a36 a40 (Or.inr (Or.inr a63))]; rfl)
            · have a63 : ¬ M.place t = some (M.stN t) := fun q => q63 (by rw [q]; rfl)
              refine jx_aload_n (pc := 66) hX d_M_isStuck_66 rfl rfl ?_
              refine g_M_102 (pc := 67) hX d_M_isStuck_67 ?_
              refine jx_top (y := nI M.nl) (s3) ?_
              refine jx_bipush (pc := 70) hX (v := 60) d_M_isStuck_70 rfl ?_
              refine jx_icmp_ne (pc := 72) hX 79 d_M_isStuck_72 rfl (fun q72 => ?_) (fun q72 => ?_)
              · have a72 : M.nl < 60 := by have : ¬ M.nl = 60 := fun q => q72 (by rw [q]; rfl); omega
                refine jx_iconst (pc := 79) hX (v := 0) d_M_isStuck_79 rfl ?_
                exact jx_zretp (pc := 80) hX d_M_isStuck_80 rfl (by rw [Ms.can_t a36 a40 (Or.inl a72)]; rfl)
              · have a72 : ¬ M.nl < 60 := by have : M.nl = 60 := (nI_eq (by omega) (by decide)).mp q72; omega
                refine jx_iconst (pc := 75) hX (v := 1) d_M_isStuck_75 rfl ?_
                refine jx_goto (pc := 76) hX 80 d_M_isStuck_76 rfl ?_
                exact jx_zretp (pc := 80) hX d_M_isStuck_80 rfl (by rw [Ms.can_f (Or.inr (Or.inr ⟨a72, by omega, a63⟩))]; rfl)
  refine jx_aload_n (pc := 0) hX d_M_isStuck_0 rfl rfl ?_
  refine g_M_38 (pc := 1) hX d_M_isStuck_1 ?_
  refine jx_iload_n (pc := 4) hX d_M_isStuck_4 rfl rfl ?_
  refine jx_iald (pc := 5) hX oM_9 _ rfl ht9 d_M_isStuck_5 ?_
  refine jx_top (y := eO (M.place t)) (h1 t ht) ?_
  refine jx_if_lt (pc := 6) hX 27 d_M_isStuck_6 rfl (fun q6 => ?_) (fun q6 => ?_)
  · have hp : M.place t = none := (eO_neg jp).mp q6
    have ha : (0 : Int32) = eB (M.asleep t) := by unfold Ms.asleep; rw [hp]; rfl
    refine jx_iconst (pc := 27) hX (v := 0) d_M_isStuck_27 rfl ?_
    refine jx_istore_n (pc := 28) hX d_M_isStuck_28 rfl (by decide) (L' := [(0, _), (1, _), (2, _)]) rfl ?_
    exact join _ _ rfl ha
  · obtain ⟨p, hp⟩ : ∃ p, M.place t = some p := by
      cases hq : M.place t with
      | none => exact absurd ((eO_neg jp).mpr hq) q6
      | some p => exact ⟨p, rfl⟩
    refine jx_aload_n (pc := 9) hX d_M_isStuck_9 rfl rfl ?_
    refine g_M_28 (pc := 10) hX d_M_isStuck_10 ?_
    refine jx_aload_n (pc := 13) hX d_M_isStuck_13 rfl rfl ?_
    refine g_M_38 (pc := 14) hX d_M_isStuck_14 ?_
    refine jx_iload_n (pc := 17) hX d_M_isStuck_17 rfl rfl ?_
    refine jx_iald (pc := 18) hX oM_9 _ rfl ht9 d_M_isStuck_18 ?_
    refine jx_top (y := nI p) (by rw [h1 t ht, hp]; rfl) ?_
    refine jx_zald (pc := 19) hX oM_6 _ rfl (show p < 6 by have := j2 p hp; omega) d_M_isStuck_19 ?_
    refine jx_top (y := eB (M.down p)) (h11 p (by have := j2 p hp; omega)) ?_
    refine jx_if_eq (pc := 20) hX 27 d_M_isStuck_20 rfl (fun q20 => ?_) (fun q20 => ?_)
    · have ha : (0 : Int32) = eB (M.asleep t) := by unfold Ms.asleep; rw [hp]; exact q20.symm
      refine jx_iconst (pc := 27) hX (v := 0) d_M_isStuck_27 rfl ?_
      refine jx_istore_n (pc := 28) hX d_M_isStuck_28 rfl (by decide) (L' := [(0, _), (1, _), (2, _)]) rfl ?_
      exact join _ _ rfl ha
    · have ha : (1 : Int32) = eB (M.asleep t) := by unfold Ms.asleep; rw [hp]; exact eB_t (eB_n0.mp q20)
      refine jx_iconst (pc := 23) hX (v := 1) d_M_isStuck_23 rfl ?_
      refine jx_goto (pc := 24) hX 28 d_M_isStuck_24 rfl ?_
      refine jx_istore_n (pc := 28) hX d_M_isStuck_28 rfl (by decide) (L' := [(0, _), (1, _), (2, _)]) rfl ?_
      exact join _ _ rfl ha
set_option maxRecDepth 100000 in
set_option maxHeartbeats 4000000 in
theorem t_M_step {l : Launch} {D : va_G} {ad : Nat → Nat} {ac : Nat → ClassId} (σ : St) (M : Ms) (hI : Inv M) (hM : repM σ M) (t : Nat) (ht : t < M.nt) (hc : M.can t = true) : jMi l (yM D ad ac) mt_M_step TT (rmk 3) [.ref (ad 19), .int (nI t)] σ (fun r u => r = nI (M.step t).1 ∧ repM u (M.step t).2 ∧ u.1 0 = σ.1 0) := by
  obtain ⟨⟨⟨s0, s1, s2, s3⟩, h0, h1, h2, h3, h4, h5, h6, h7, h8, h9, h10, h11, h12, h13⟩, hpl⟩ := id hM
  obtain ⟨i1, i2, i3, i4, i5, i6, i7, i8⟩ := id hI
  obtain ⟨p1, p3, p4, p5, p6⟩ := id hpl
  have hw8 := i1.le
  have hw2 := i1.pos
  have hnb := nb_le M.w
  obtain ⟨j1, j2, j3, j4, j5, j6⟩ := i6 t ht
  have ht9 : t < 200 := by omega
  have jp : ∀ p, M.place t = some p → p < 2 ^ 31 := fun p hp => by have := j2 p hp; omega
  obtain ⟨c1, c2, c3⟩ := Ms.can_spec hc
  have jn : ∀ p, M.next t = some p → p < 2 ^ 31 := fun p hp => by have := nxB_lt hp; omega
  refine jMi_of (by decide) (Nat.le_of_ble_eq_true rfl) (List.forall_mem_cons.mpr ⟨rfl, List.forall_mem_cons.mpr ⟨rfl, fun _ h => absurd h List.not_mem_nil⟩⟩) ?_
  intro X A hX
  have hX : jX X (yM D ad ac) A b_M_step 4 RM (mt_M_step.w :: TT) (rmk 3) (some .int) := hX
  show jW l X (yM D ad ac) A 4 0 0 kT (jQi X (yM D ad ac) A (fun r u => r = nI (M.step t).1 ∧ repM u (M.step t).2 ∧ u.1 0 = σ.1 0)) σ 0 [(0, .ref (ad 19)), (1, .int (nI t))] []
  refine jx_aload_n (pc := 0) hX d_M_step_0 rfl rfl ?_
  refine g_M_41 (pc := 1) hX d_M_step_1 ?_
  refine jx_iload_n (pc := 4) hX d_M_step_4 rfl rfl ?_
  refine jx_iald (pc := 5) hX oM_10 _ rfl ht9 d_M_step_5 ?_
  refine jx_top (y := nI (M.state t)) (h2 t ht) ?_
  refine jx_iconst (pc := 6) hX (v := 1) d_M_step_6 rfl ?_
  refine jx_icmp_ne (pc := 7) hX 12 d_M_step_7 rfl (fun q10 => ?_) (fun q10 => ?_)
  · have a10 : ¬ M.state t = 1 := fun q => q10 ((nI_n1 (by omega)).mpr q)
    refine jx_aload_n (pc := 12) hX d_M_step_12 rfl rfl ?_
    refine g_M_38 (pc := 13) hX d_M_step_13 ?_
    refine jx_iload_n (pc := 16) hX d_M_step_16 rfl rfl ?_
    refine jx_iald (pc := 17) hX oM_9 _ rfl ht9 d_M_step_17 ?_
    refine jx_top (y := eO (M.place t)) (h1 t ht) ?_
    refine jx_aload_n (pc := 18) hX d_M_step_18 rfl rfl ?_
    refine jx_iload_n (pc := 19) hX d_M_step_19 rfl rfl ?_
    refine k_M_130 (pc := 20) hX (t_M_stationOf σ M hI hM t ht) ⟨rfl, rfl, (Nat.le_of_ble_eq_true rfl), (Nat.le_of_ble_eq_true rfl)⟩ rfl rfl (Nat.le_of_ble_eq_true rfl) ⟨Nat.zero_le _, Nat.zero_le _⟩ d_M_step_20 (fun r hr => ?_)
    subst hr
    refine jx_icmp_eq (pc := 23) hX 50 d_M_step_23 rfl (fun q31 => ?_) (fun q31 => ?_)
    · have a31 : M.place t = some (M.stN t) := (eO_some jp (by have := Ms.stN_lt i2.1 t; omega)).mp q31
      refine jx_aload_n (pc := 50) hX d_M_step_50 rfl rfl ?_
      refine jx_iload_n (pc := 51) hX d_M_step_51 rfl rfl ?_
      refine k_M_123 (pc := 52) hX (t_M_nextOf σ M hI hM t ht) ⟨rfl, rfl, (Nat.le_of_ble_eq_true rfl), (Nat.le_of_ble_eq_true rfl)⟩ rfl rfl (Nat.le_of_ble_eq_true rfl) ⟨Nat.zero_le _, Nat.zero_le _⟩ d_M_step_52 (fun r hr => ?_)
      subst hr
      refine jx_istore_n (pc := 55) hX d_M_step_55 rfl (by decide) (L' := [(0, _), (1, _), (2, _)]) rfl ?_
      refine jx_iload_n (pc := 56) hX d_M_step_56 rfl rfl ?_
      refine jx_if_lt (pc := 57) hX 121 d_M_step_57 rfl (fun q57 => ?_) (fun q57 => ?_)
      · have hb : M.next t = none := (eO_neg jn).mp q57
        have hx := uX_lt i1 j1
        refine jx_aload_n (pc := 121) hX d_M_step_121 rfl rfl ?_
        refine jx_aload_n (pc := 122) hX d_M_step_122 rfl rfl ?_
        refine g_M_35 (pc := 123) hX d_M_step_123 ?_
        refine jx_iload_n (pc := 126) hX d_M_step_126 rfl rfl ?_
        refine jx_iald (pc := 127) hX oM_8 _ rfl ht9 d_M_step_127 ?_
        refine jx_top (y := nI (M.wire t)) (h0 t ht) ?_
        refine k_M_127 (pc := 128) hX (t_M_exitOf σ M hI hM (M.wire t) j1) ⟨rfl, rfl, (Nat.le_of_ble_eq_true rfl), (Nat.le_of_ble_eq_true rfl)⟩ rfl rfl (Nat.le_of_ble_eq_true rfl) ⟨Nat.zero_le _, Nat.zero_le _⟩ d_M_step_128 (fun r hr => ?_)
        subst hr
        refine jx_istore_n (pc := 131) hX d_M_step_131 rfl (by decide) (L' := [(0, _), (1, _), (2, _), (3, _)]) rfl ?_
        refine jx_aload_n (pc := 132) hX d_M_step_132 rfl rfl ?_
        refine g_M_50 (pc := 133) hX d_M_step_133 ?_
        refine jx_iload_n (pc := 136) hX d_M_step_136 rfl rfl ?_
        refine jx_iload_n (pc := 137) hX d_M_step_137 rfl rfl ?_
        refine jx_aload_n (pc := 138) hX d_M_step_138 rfl rfl ?_
        refine g_M_93 (pc := 139) hX d_M_step_139 ?_
        refine jx_top (y := nI M.w) (s0) ?_
        refine jx_aload_n (pc := 142) hX d_M_step_142 rfl rfl ?_
        refine g_M_25 (pc := 143) hX d_M_step_143 ?_
        refine jx_iload_n (pc := 146) hX d_M_step_146 rfl rfl ?_
        refine jx_iald (pc := 147) hX oM_5 _ rfl (show uX M.w (M.wire t) < 8 by omega) d_M_step_147 ?_
        refine jx_top (y := nI (M.handed (uX M.w (M.wire t)))) (h13 _ hx) ?_
        refine jx_imul (pc := 148) hX d_M_step_148 ?_
        refine jx_top (y := nI (M.w * M.handed (uX M.w (M.wire t)))) (pk_mul _ _) ?_
        refine jx_iadd (pc := 149) hX d_M_step_149 ?_
        refine jx_top (y := nI (uX M.w (M.wire t) + M.w * M.handed (uX M.w (M.wire t)))) (nI_add _ _) ?_
        refine jx_iast (pc := 150) hX oM_13 _ rfl ht9 d_M_step_150 ?_
        refine jx_aload_n (pc := 151) hX d_M_step_151 rfl rfl ?_
        refine g_M_25 (pc := 152) hX d_M_step_152 ?_
        refine jx_iload_n (pc := 155) hX d_M_step_155 rfl rfl ?_
        refine jx_dup2 (pc := 156) hX d_M_step_156 rfl rfl ?_
        refine jx_iald (pc := 157) hX oM_5 _ rfl (show uX M.w (M.wire t) < 8 by omega) d_M_step_157 ?_
        refine jx_iconst (pc := 158) hX (v := 1) d_M_step_158 rfl ?_
        refine jx_iadd (pc := 159) hX d_M_step_159 ?_
        refine jx_iast (pc := 160) hX oM_5 _ rfl (show uX M.w (M.wire t) < 8 by omega) d_M_step_160 ?_
        refine jx_aload_n (pc := 161) hX d_M_step_161 rfl rfl ?_
        refine g_M_41 (pc := 162) hX d_M_step_162 ?_
        refine jx_iload_n (pc := 165) hX d_M_step_165 rfl rfl ?_
        refine jx_iconst (pc := 166) hX (v := 2) d_M_step_166 rfl ?_
        refine jx_iast (pc := 167) hX oM_10 _ rfl ht9 d_M_step_167 ?_
        refine jx_iconst (pc := 168) hX (v := 1) d_M_step_168 rfl ?_
        exact jx_iret (pc := 169) hX d_M_step_169 (by rw [Ms.step_1 a10 a31 hb]; exact ⟨rfl, ⟨hM.1.out hx rfl, hpl⟩, rfl⟩)
      · obtain ⟨b, hb⟩ : ∃ b, M.next t = some b := by
          cases hq : M.next t with
          | none => exact absurd ((eO_neg jn).mpr hq) q57
          | some b => exact ⟨b, rfl⟩
        have hbl : b < nb M.w := nxB_lt hb
        rw [hb]
        refine jx_aload_n (pc := 60) hX d_M_step_60 rfl rfl ?_
        refine g_M_35 (pc := 61) hX d_M_step_61 ?_
        refine jx_iload_n (pc := 64) hX d_M_step_64 rfl rfl ?_
        refine jx_aload_n (pc := 65) hX d_M_step_65 rfl rfl ?_
        refine g_M_19 (pc := 66) hX d_M_step_66 ?_
        refine jx_iload_n (pc := 69) hX d_M_step_69 rfl rfl ?_
        refine jx_iald (pc := 70) hX oM_3 _ rfl (show b < 24 by omega) d_M_step_70 ?_
        refine jx_top (y := M.had b) (h12 b hbl) ?_
        refine jx_iconst (pc := 71) hX (v := 2) d_M_step_71 rfl ?_
        refine jx_irem (pc := 72) hX d_M_step_72 (by decide) ?_
        refine jx_if_ne (pc := 73) hX 85 d_M_step_73 rfl (fun q73 => ?_) (fun q73 => ?_)
        · refine jx_aload_n (pc := 85) hX d_M_step_85 rfl rfl ?_
          refine g_M_13 (pc := 86) hX d_M_step_86 ?_
          refine jx_iload_n (pc := 89) hX d_M_step_89 rfl rfl ?_
          refine jx_iald (pc := 90) hX oM_1 _ rfl (show b < 24 by omega) d_M_step_90 ?_
          refine jx_top (y := nI (uL M.w b)) (p4 b hbl) ?_
          refine jx_iast (pc := 91) hX oM_8 _ rfl ht9 d_M_step_91 ?_
          refine jx_aload_n (pc := 92) hX d_M_step_92 rfl rfl ?_
          refine g_M_19 (pc := 93) hX d_M_step_93 ?_
          refine jx_iload_n (pc := 96) hX d_M_step_96 rfl rfl ?_
          refine jx_dup2 (pc := 97) hX d_M_step_97 rfl rfl ?_
          refine jx_iald (pc := 98) hX oM_3 _ rfl (show b < 24 by omega) d_M_step_98 ?_
          refine jx_iconst (pc := 99) hX (v := 1) d_M_step_99 rfl ?_
          refine jx_iadd (pc := 100) hX d_M_step_100 ?_
          refine jx_iast (pc := 101) hX oM_3 _ rfl (show b < 24 by omega) d_M_step_101 ?_
          refine jx_aload_n (pc := 102) hX d_M_step_102 rfl rfl ?_
          refine g_M_44 (pc := 103) hX d_M_step_103 ?_
          refine jx_iload_n (pc := 106) hX d_M_step_106 rfl rfl ?_
          refine jx_iload_n (pc := 107) hX d_M_step_107 rfl rfl ?_
          refine jx_iast (pc := 108) hX oM_11 _ rfl ht9 d_M_step_108 ?_
          refine jx_aload_n (pc := 109) hX d_M_step_109 rfl rfl ?_
          refine g_M_47 (pc := 110) hX d_M_step_110 ?_
          refine jx_iload_n (pc := 113) hX d_M_step_113 rfl rfl ?_
          refine jx_dup2 (pc := 114) hX d_M_step_114 rfl rfl ?_
          refine jx_iald (pc := 115) hX oM_12 _ rfl ht9 d_M_step_115 ?_
          refine jx_iconst (pc := 116) hX (v := 1) d_M_step_116 rfl ?_
          refine jx_iadd (pc := 117) hX d_M_step_117 ?_
          refine jx_iast (pc := 118) hX oM_12 _ rfl ht9 d_M_step_118 ?_
          refine jx_iconst (pc := 119) hX (v := 0) d_M_step_119 rfl ?_
          exact jx_iret (pc := 120) hX d_M_step_120 (by rw [Ms.step_0 a10 a31 hb]; exact ⟨rfl, ⟨hM.1.go ht hbl (by rw [if_neg q73]) rfl, hpl⟩, rfl⟩)
        · refine jx_aload_n (pc := 76) hX d_M_step_76 rfl rfl ?_
          refine g_M_7 (pc := 77) hX d_M_step_77 ?_
          refine jx_iload_n (pc := 80) hX d_M_step_80 rfl rfl ?_
          refine jx_iald (pc := 81) hX oM_0 _ rfl (show b < 24 by omega) d_M_step_81 ?_
          refine jx_top (y := nI (uU M.w b)) (p3 b hbl) ?_
          refine jx_goto (pc := 82) hX 91 d_M_step_82 rfl ?_
          refine jx_iast (pc := 91) hX oM_8 _ rfl ht9 d_M_step_91 ?_
          refine jx_aload_n (pc := 92) hX d_M_step_92 rfl rfl ?_
          refine g_M_19 (pc := 93) hX d_M_step_93 ?_
          refine jx_iload_n (pc := 96) hX d_M_step_96 rfl rfl ?_
          refine jx_dup2 (pc := 97) hX d_M_step_97 rfl rfl ?_
          refine jx_iald (pc := 98) hX oM_3 _ rfl (show b < 24 by omega) d_M_step_98 ?_
          refine jx_iconst (pc := 99) hX (v := 1) d_M_step_99 rfl ?_
          refine jx_iadd (pc := 100) hX d_M_step_100 ?_
          refine jx_iast (pc := 101) hX oM_3 _ rfl (show b < 24 by omega) d_M_step_101 ?_
          refine jx_aload_n (pc := 102) hX d_M_step_102 rfl rfl ?_
          refine g_M_44 (pc := 103) hX d_M_step_103 ?_
          refine jx_iload_n (pc := 106) hX d_M_step_106 rfl rfl ?_
          refine jx_iload_n (pc := 107) hX d_M_step_107 rfl rfl ?_
          refine jx_iast (pc := 108) hX oM_11 _ rfl ht9 d_M_step_108 ?_
          refine jx_aload_n (pc := 109) hX d_M_step_109 rfl rfl ?_
          refine g_M_47 (pc := 110) hX d_M_step_110 ?_
          refine jx_iload_n (pc := 113) hX d_M_step_113 rfl rfl ?_
          refine jx_dup2 (pc := 114) hX d_M_step_114 rfl rfl ?_
          refine jx_iald (pc := 115) hX oM_12 _ rfl ht9 d_M_step_115 ?_
          refine jx_iconst (pc := 116) hX (v := 1) d_M_step_116 rfl ?_
          refine jx_iadd (pc := 117) hX d_M_step_117 ?_
          refine jx_iast (pc := 118) hX oM_12 _ rfl ht9 d_M_step_118 ?_
          refine jx_iconst (pc := 119) hX (v := 0) d_M_step_119 rfl ?_
          exact jx_iret (pc := 120) hX d_M_step_120 (by rw [Ms.step_0 a10 a31 hb]; exact ⟨rfl, ⟨hM.1.go ht hbl (by rw [if_pos q73]) rfl, hpl⟩, rfl⟩)
    · have a31 : ¬ M.place t = some (M.stN t) := fun q => q31 (by rw [q]; rfl)
      have hnl : M.nl < 60 := by
        rcases c3 with q | q | q
        · exact q
        · exact absurd q a10
        · exact absurd q a31
      refine jx_aload_n (pc := 26) hX d_M_step_26 rfl rfl ?_
      refine g_M_41 (pc := 27) hX d_M_step_27 ?_
      refine jx_iload_n (pc := 30) hX d_M_step_30 rfl rfl ?_
      refine jx_iconst (pc := 31) hX (v := 1) d_M_step_31 rfl ?_
      refine jx_iast (pc := 32) hX oM_10 _ rfl ht9 d_M_step_32 ?_
      refine jx_aload_n (pc := 33) hX d_M_step_33 rfl rfl ?_
      refine g_M_53 (pc := 34) hX d_M_step_34 ?_
      refine jx_iload_n (pc := 37) hX d_M_step_37 rfl rfl ?_
      refine jx_dup2 (pc := 38) hX d_M_step_38 rfl rfl ?_
      refine jx_iald (pc := 39) hX oM_14 _ rfl ht9 d_M_step_39 ?_
      refine jx_iconst (pc := 40) hX (v := 1) d_M_step_40 rfl ?_
      refine jx_iadd (pc := 41) hX d_M_step_41 ?_
      refine jx_iast (pc := 42) hX oM_14 _ rfl ht9 d_M_step_42 ?_
      refine jx_aload_n (pc := 43) hX d_M_step_43 rfl rfl ?_
      refine jx_iload_n (pc := 44) hX d_M_step_44 rfl rfl ?_
      refine k_M_133 (pc := 45) hX (t_M_post (sA (sA σ 10 t 1) 14 t (σ.2 14 t + 1)) (M.setOut t) (hI.setOut ht c1) ⟨hM.1.setOut ht, hpl⟩ t ht hnl) ⟨rfl, rfl, (Nat.le_of_ble_eq_true rfl), (Nat.le_of_ble_eq_true rfl)⟩ rfl rfl (Nat.le_of_ble_eq_true rfl) ⟨Nat.zero_le _, Nat.zero_le _⟩ d_M_step_45 (fun u hu => ?_)
      refine jx_iconst (pc := 48) hX (v := 2) d_M_step_48 rfl ?_
      exact jx_iret (pc := 49) hX d_M_step_49 (by rw [Ms.step_2 a10 a31]; refine ⟨rfl, ?_, hu.2⟩; have := hu.1; rw [show (M.setOut t).way t = M.way t + 1 from va_up_self _ _ _] at this; exact this)
  · have a10 : M.state t = 1 := (nI_n1 (by omega)).mp q10
    refine jx_iconst (pc := 10) hX (v := 3) d_M_step_10 rfl ?_
    exact jx_iret (pc := 11) hX d_M_step_11 (by rw [Ms.step_3 a10]; exact ⟨rfl, hM, rfl⟩)
