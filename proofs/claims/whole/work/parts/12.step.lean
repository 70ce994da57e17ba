set_option maxRecDepth 100000 in
set_option maxHeartbeats 4000000 in
theorem t_P_exitOf {l : Launch} {D : va_G} {ad : Nat → Nat} {ac : Nat → ClassId} (σ : St) (w wi : Nat) (hw : Wok w) (hwi : wi < w) (hs : σ.1 1 = nI w) (hpl : planC σ w) : jMp l (yC D ad ac) mt_P_exitOf TT (rmk 0) [.ref (ad 21), .int (nI wi)] σ (fun r => r = nI (uX w wi)) := by
  obtain ⟨p1, p2, p3, p4, p5, p6⟩ := hpl
  have hw8 := hw.le
  have hw2 := hw.pos
  refine jMp_of (by decide) (Nat.le_of_ble_eq_true rfl) (List.forall_mem_cons.mpr ⟨rfl, List.forall_mem_cons.mpr ⟨rfl, fun _ h => absurd h List.not_mem_nil⟩⟩) ?_
  intro X A hX
  have hX : jX X (yC D ad ac) A b_P_exitOf 3 RP (mt_P_exitOf.w :: TT) (rmk 0) (some .int) := hX
  show jW l X (yC D ad ac) A 3 0 0 (k0 X) (jQp X (fun r => r = nI (uX w wi))) σ 0 [(0, .ref (ad 21)), (1, .int (nI wi))] []
  have loop : ∀ (fu : Nat) (i : Nat), w - i = fu → i + 1 ≤ w → (∀ j, j < i → ¬ uE w j = wi) → jW l X (yC D ad ac) A 3 0 0 (k0 X) (jQp X (fun r => r = nI (uX w wi))) σ 2 [(0, .ref (ad 21)), (1, .int (nI wi)), (2, .int (nI i))] [] := by
    intro fu
    induction fu using Nat.strongRecOn with
    | ind fu ih =>
      intro i hn hi hv
      refine jx_iload_n (pc := 2) hX d_P_exitOf_2 rfl rfl ?_
      refine jx_aload_n (pc := 3) hX d_P_exitOf_3 rfl rfl ?_
      refine g_P_30 (pc := 4) hX d_P_exitOf_4 ?_
      refine jx_top (y := nI w) (hs) ?_
      refine jx_iconst (pc := 7) hX (v := 1) d_P_exitOf_7 rfl ?_
      refine jx_isub (pc := 8) hX d_P_exitOf_8 ?_
      refine jx_top (y := nI (w - 1)) (by rw [nI_c1, pk_sub (by omega)]) ?_
      refine jx_icmp_ge (pc := 9) hX 28 d_P_exitOf_9 rfl (fun h9 => ?_) (fun h9 => ?_)
      · have hb : w - 1 ≤ i := (nI_leI (by omega) (by omega)).mp h9
        refine jx_iload_n (pc := 28) hX d_P_exitOf_28 rfl rfl ?_
        exact jx_iretp (pc := 29) hX d_P_exitOf_29 (by rw [← uX_last hw hwi (show i + 1 = w by omega) hv])
      · have hb : i < w - 1 := Nat.lt_of_not_le (fun q => h9 (nI_le q (by omega)))
        have hu := uE_lt hw (show i < w by omega)
        refine jx_aload_n (pc := 12) hX d_P_exitOf_12 rfl rfl ?_
        refine g_P_21 (pc := 13) hX d_P_exitOf_13 ?_
        refine jx_iload_n (pc := 16) hX d_P_exitOf_16 rfl rfl ?_
        refine jx_iald (pc := 17) hX oC_6 _ rfl (show i < 8 by omega) d_P_exitOf_17 ?_
        refine jx_top (y := nI (uE w i)) (p6 i (by omega)) ?_
        refine jx_iload_n (pc := 18) hX d_P_exitOf_18 rfl rfl ?_
        refine jx_icmp_eq (pc := 19) hX 28 d_P_exitOf_19 rfl (fun e19 => ?_) (fun e19 => ?_)
        · refine jx_iload_n (pc := 28) hX d_P_exitOf_28 rfl rfl ?_
          exact jx_iretp (pc := 29) hX d_P_exitOf_29 (by rw [← uX_hit hw (show i < w by omega) ((nI_eq (by omega) (by omega)).mp e19)])
        · refine jx_iinc (pc := 22) hX (v := nI (i + 1)) d_P_exitOf_22 rfl (nI_1 i) (by decide) (L' := [(0, _), (1, _), (2, _)]) rfl ?_
          refine jx_goto (pc := 25) hX 2 d_P_exitOf_25 rfl ?_
          exact ih _ (by omega) (i + 1) rfl (by omega) (fun j hj => (Nat.lt_or_ge j i).elim (hv j) (fun q => (show j = i by omega) ▸ (fun a => e19 (by rw [a]))))
  refine jx_iconst (pc := 0) hX (v := 0) d_P_exitOf_0 rfl ?_
  refine jx_istore_n (pc := 1) hX d_P_exitOf_1 rfl (by decide) (L' := [(0, _), (1, _), (2, _)]) rfl ?_
  exact loop _ 0 rfl (by omega) (fun j hj => absurd hj (Nat.not_lt_zero j))
set_option maxRecDepth 100000 in
set_option maxHeartbeats 4000000 in
theorem t_N_stationOfExit {l : Launch} {D : va_G} {ad : Nat → Nat} {ac : Nat → ClassId} (σ : St) (ns i : Nat) (h0 : 0 < ns) (h1 : ns < 2 ^ 31) (hi : i < 2 ^ 31) (hs : σ.1 0 = nI ns) : jMp l (yC D ad ac) mt_N_stationOfExit TT (rmk 0) [.ref (ad 20), .int (nI i)] σ (fun r => r = nI (i % ns)) := by
  refine jMp_of (by decide) (Nat.le_of_ble_eq_true rfl) (List.forall_mem_cons.mpr ⟨rfl, List.forall_mem_cons.mpr ⟨rfl, fun _ h => absurd h List.not_mem_nil⟩⟩) ?_
  intro X A hX
  have hX : jX X (yC D ad ac) A b_N_stationOfExit 2 RN (mt_N_stationOfExit.w :: TT) (rmk 0) (some .int) := hX
  show jW l X (yC D ad ac) A 2 0 0 (k0 X) (jQp X (fun r => r = nI (i % ns))) σ 0 [(0, .ref (ad 20)), (1, .int (nI i))] []
  refine jx_iload_n (pc := 0) hX d_N_stationOfExit_0 rfl rfl ?_
  refine jx_aload_n (pc := 1) hX d_N_stationOfExit_1 rfl rfl ?_
  refine g_N_162 (pc := 2) hX d_N_stationOfExit_2 ?_
  refine jx_top (y := nI ns) (hs) ?_
  refine jx_irem (pc := 5) hX d_N_stationOfExit_5 (nI_ne0 h0 h1) ?_
  refine jx_top (y := nI (i % ns)) (pk_rem hi h0 h1) ?_
  exact jx_iretp (pc := 6) hX d_N_stationOfExit_6 (rfl)
set_option maxRecDepth 100000 in
set_option maxHeartbeats 4000000 in
theorem t_N_stationOfBalancer {l : Launch} {D : va_G} {ad : Nat → Nat} {ac : Nat → ClassId} (σ : St) (ns w b : Nat) (h0 : 0 < ns) (h1 : ns < 2 ^ 31) (hw : Wok w) (hb : b < nb w) (hs : σ.1 0 = nI ns) (hpl : planC σ w) : jMp l (yC D ad ac) mt_N_stationOfBalancer TT (rmk 0) [.ref (ad 20), .int (nI b)] σ (fun r => r = nI (uC w b % ns)) := by
  obtain ⟨p1, p2, p3, p4, p5, p6⟩ := hpl
  have hnb := nb_le w
  have hc := uC_lt hw hb
  refine jMp_of (by decide) (Nat.le_of_ble_eq_true rfl) (List.forall_mem_cons.mpr ⟨rfl, List.forall_mem_cons.mpr ⟨rfl, fun _ h => absurd h List.not_mem_nil⟩⟩) ?_
  intro X A hX
  have hX : jX X (yC D ad ac) A b_N_stationOfBalancer 2 RN (mt_N_stationOfBalancer.w :: TT) (rmk 0) (some .int) := hX
  show jW l X (yC D ad ac) A 2 0 0 (k0 X) (jQp X (fun r => r = nI (uC w b % ns))) σ 0 [(0, .ref (ad 20)), (1, .int (nI b))] []
  refine jx_aload_n (pc := 0) hX d_N_stationOfBalancer_0 rfl rfl ?_
  refine g_N_10 (pc := 1) hX d_N_stationOfBalancer_1 ?_
  refine g_N_69 (pc := 4) hX d_N_stationOfBalancer_4 ?_
  refine jx_iload_n (pc := 7) hX d_N_stationOfBalancer_7 rfl rfl ?_
  refine jx_iald (pc := 8) hX oC_5 _ rfl (show b < 24 by omega) d_N_stationOfBalancer_8 ?_
  refine jx_top (y := nI (uC w b)) (p5 b hb) ?_
  refine jx_aload_n (pc := 9) hX d_N_stationOfBalancer_9 rfl rfl ?_
  refine g_N_162 (pc := 10) hX d_N_stationOfBalancer_10 ?_
  refine jx_top (y := nI ns) (hs) ?_
  refine jx_irem (pc := 13) hX d_N_stationOfBalancer_13 (nI_ne0 h0 h1) ?_
  refine jx_top (y := nI (uC w b % ns)) (pk_rem (by omega) h0 h1) ?_
  exact jx_iretp (pc := 14) hX d_N_stationOfBalancer_14 (rfl)
set_option maxRecDepth 100000 in
set_option maxHeartbeats 4000000 in
theorem t_N_nextBalancer {l : Launch} {D : va_G} {ad : Nat → Nat} {ac : Nat → ClassId} (σ : St) (M : Ms) (hI : Inv M) (hM : repC σ M) (t : Nat) (ht : t < M.nt) : jMp l (yC D ad ac) mt_N_nextBalancer TT (rmk 1) [.ref (ad 20), .int (nI t)] σ (fun r => r = eO (M.next t)) := by
  obtain ⟨⟨⟨s0, s1, s2, s3⟩, h0, h1, h2, h3, h4, h5, h6, h7, h8, h9, h10, h11, h12, h13⟩, hlf, hpl⟩ := id hM
  obtain ⟨i1, i2, i3, i4, i5, i6, i7, i8⟩ := id hI
  obtain ⟨p1, p2, p3, p4, p5, p6⟩ := id hpl
  have hw8 := i1.le
  have hw2 := i1.pos
  have hnb := nb_le M.w
  obtain ⟨j1, j2, j3, j4, j5, j6⟩ := i6 t ht
  have ht9 : t < 200 := by omega
  refine jMp_of (by decide) (Nat.le_of_ble_eq_true rfl) (List.forall_mem_cons.mpr ⟨rfl, List.forall_mem_cons.mpr ⟨rfl, fun _ h => absurd h List.not_mem_nil⟩⟩) ?_
  intro X A hX
  have hX : jX X (yC D ad ac) A b_N_nextBalancer 2 RN (mt_N_nextBalancer.w :: TT) (rmk 1) (some .int) := hX
  show jW l X (yC D ad ac) A 2 0 0 (k0 X) (jQp X (fun r => r = eO (M.next t))) σ 0 [(0, .ref (ad 20)), (1, .int (nI t))] []
  refine jx_aload_n (pc := 0) hX d_N_nextBalancer_0 rfl rfl ?_
  refine g_N_10 (pc := 1) hX d_N_nextBalancer_1 ?_
  refine jx_aload_n (pc := 4) hX d_N_nextBalancer_4 rfl rfl ?_
  refine g_N_19 (pc := 5) hX d_N_nextBalancer_5 ?_
  refine g_N_166 (pc := 8) hX d_N_nextBalancer_8 ?_
  refine jx_iload_n (pc := 11) hX d_N_nextBalancer_11 rfl rfl ?_
  refine jx_iald (pc := 12) hX oC_9 _ rfl ht9 d_N_nextBalancer_12 ?_
  refine jx_top (y := nI (M.wire t)) (h0 t ht) ?_
  refine jx_aload_n (pc := 13) hX d_N_nextBalancer_13 rfl rfl ?_
  refine g_N_19 (pc := 14) hX d_N_nextBalancer_14 ?_
  refine g_N_202 (pc := 17) hX d_N_nextBalancer_17 ?_
  refine jx_iload_n (pc := 20) hX d_N_nextBalancer_20 rfl rfl ?_
  refine jx_iald (pc := 21) hX oC_13 _ rfl ht9 d_N_nextBalancer_21 ?_
  refine jx_top (y := eP (M.nxt t)) (h4 t ht) ?_
  refine k_N_205 (pc := 22) hX (t_P_balancerBehind σ M.w (M.wire t) (M.nxt t) i1 j1 j4 hpl) ⟨rfl, rfl, (Nat.le_of_ble_eq_true rfl), (Nat.le_of_ble_eq_true rfl)⟩ rfl rfl (Nat.le_of_ble_eq_true rfl) ⟨Nat.zero_le _, Nat.zero_le _⟩ d_N_nextBalancer_22 (fun r hr => ?_)
  exact jx_iretp (pc := 25) hX d_N_nextBalancer_25 (hr)
set_option maxRecDepth 100000 in
set_option maxHeartbeats 4000000 in
theorem t_N_stationOfNext {l : Launch} {D : va_G} {ad : Nat → Nat} {ac : Nat → ClassId} (σ : St) (M : Ms) (hI : Inv M) (hM : repC σ M) (t : Nat) (ht : t < M.nt) : jMp l (yC D ad ac) mt_N_stationOfNext TT (rmk 2) [.ref (ad 20), .int (nI t)] σ (fun r => r = nI (M.stN t)) := by
  obtain ⟨⟨⟨s0, s1, s2, s3⟩, h0, h1, h2, h3, h4, h5, h6, h7, h8, h9, h10, h11, h12, h13⟩, hlf, hpl⟩ := id hM
  obtain ⟨i1, i2, i3, i4, i5, i6, i7, i8⟩ := id hI
  obtain ⟨p1, p2, p3, p4, p5, p6⟩ := id hpl
  have hw8 := i1.le
  have hw2 := i1.pos
  have hnb := nb_le M.w
  obtain ⟨j1, j2, j3, j4, j5, j6⟩ := i6 t ht
  have ht9 : t < 200 := by omega
  refine jMp_of (by decide) (Nat.le_of_ble_eq_true rfl) (List.forall_mem_cons.mpr ⟨rfl, List.forall_mem_cons.mpr ⟨rfl, fun _ h => absurd h List.not_mem_nil⟩⟩) ?_
  intro X A hX
  have hX : jX X (yC D ad ac) A b_N_stationOfNext 3 RN (mt_N_stationOfNext.w :: TT) (rmk 2) (some .int) := hX
  show jW l X (yC D ad ac) A 3 0 0 (k0 X) (jQp X (fun r => r = nI (M.stN t))) σ 0 [(0, .ref (ad 20)), (1, .int (nI t))] []
  refine jx_aload_n (pc := 0) hX d_N_stationOfNext_0 rfl rfl ?_
  refine jx_iload_n (pc := 1) hX d_N_stationOfNext_1 rfl rfl ?_
  refine k_N_209 (pc := 2) hX (t_N_nextBalancer σ M hI hM t ht) ⟨rfl, rfl, (Nat.le_of_ble_eq_true rfl), (Nat.le_of_ble_eq_true rfl)⟩ rfl rfl (Nat.le_of_ble_eq_true rfl) ⟨Nat.zero_le _, Nat.zero_le _⟩ d_N_stationOfNext_2 (fun r hr => ?_)
  subst hr
  refine jx_istore_n (pc := 5) hX d_N_stationOfNext_5 rfl (by decide) (L' := [(0, _), (1, _), (2, _)]) rfl ?_
  refine jx_iload_n (pc := 6) hX d_N_stationOfNext_6 rfl rfl ?_
  refine jx_iconst (pc := 7) hX (v := -1) d_N_stationOfNext_7 rfl ?_
  refine jx_icmp_ne (pc := 8) hX 34 d_N_stationOfNext_8 rfl (fun q8 => ?_) (fun q8 => ?_)
  · obtain ⟨b, hb⟩ : ∃ b, M.next t = some b := by
      cases hq : M.next t with
      | none => exact absurd (by rw [hq]; rfl) q8
      | some b => exact ⟨b, rfl⟩
    rw [hb]
    refine jx_aload_n (pc := 34) hX d_N_stationOfNext_34 rfl rfl ?_
    refine jx_iload_n (pc := 35) hX d_N_stationOfNext_35 rfl rfl ?_
    refine k_N_72 (pc := 36) hX (t_N_stationOfBalancer σ M.ns M.w b (by omega) (by omega) i1 (nxB_lt hb) s1 hpl) ⟨rfl, rfl, (Nat.le_of_ble_eq_true rfl), (Nat.le_of_ble_eq_true rfl)⟩ rfl rfl (Nat.le_of_ble_eq_true rfl) ⟨Nat.zero_le _, Nat.zero_le _⟩ d_N_stationOfNext_36 (fun r hr => ?_)
    subst hr
    exact jx_iretp (pc := 39) hX d_N_stationOfNext_39 (by rw [Ms.stN_some hb])
  · have hb : M.next t = none := (eO_m1 (fun p hp => by have := nxB_lt hp; omega)).mp q8
    refine jx_aload_n (pc := 11) hX d_N_stationOfNext_11 rfl rfl ?_
    refine jx_aload_n (pc := 12) hX d_N_stationOfNext_12 rfl rfl ?_
    refine g_N_10 (pc := 13) hX d_N_stationOfNext_13 ?_
    refine jx_aload_n (pc := 16) hX d_N_stationOfNext_16 rfl rfl ?_
    refine g_N_19 (pc := 17) hX d_N_stationOfNext_17 ?_
    refine g_N_166 (pc := 20) hX d_N_stationOfNext_20 ?_
    refine jx_iload_n (pc := 23) hX d_N_stationOfNext_23 rfl rfl ?_
    refine jx_iald (pc := 24) hX oC_9 _ rfl ht9 d_N_stationOfNext_24 ?_
    refine jx_top (y := nI (M.wire t)) (h0 t ht) ?_
    refine k_N_212 (pc := 25) hX (t_P_exitOf σ M.w (M.wire t) i1 j1 s0 hpl) ⟨rfl, rfl, (Nat.le_of_ble_eq_true rfl), (Nat.le_of_ble_eq_true rfl)⟩ rfl rfl (Nat.le_of_ble_eq_true rfl) ⟨Nat.zero_le _, Nat.zero_le _⟩ d_N_stationOfNext_25 (fun r hr => ?_)
    subst hr
    refine k_N_85 (pc := 28) hX (t_N_stationOfExit σ M.ns (uX M.w (M.wire t)) (by omega) (by omega) (by have := uX_lt i1 j1; omega) s1) ⟨rfl, rfl, (Nat.le_of_ble_eq_true rfl), (Nat.le_of_ble_eq_true rfl)⟩ rfl rfl (Nat.le_of_ble_eq_true rfl) ⟨Nat.zero_le _, Nat.zero_le _⟩ d_N_stationOfNext_28 (fun r hr => ?_)
    subst hr
    refine jx_goto (pc := 31) hX 39 d_N_stationOfNext_31 rfl ?_
    exact jx_iretp (pc := 39) hX d_N_stationOfNext_39 (by rw [Ms.stN_none hb]; rfl)
set_option maxRecDepth 100000 in
set_option maxHeartbeats 4000000 in
theorem t_N_isDown0 {l : Launch} {D : va_G} {ad : Nat → Nat} {ac : Nat → ClassId} (σ : St) : jMp l (yC D ad ac) mt_N_isDown TT (rmk 0) [.ref (ad 20), .int (-1)] σ (fun r => r = 0) := by
  refine jMp_of (by decide) (Nat.le_of_ble_eq_true rfl) (List.forall_mem_cons.mpr ⟨rfl, List.forall_mem_cons.mpr ⟨rfl, fun _ h => absurd h List.not_mem_nil⟩⟩) ?_
  intro X A hX
  have hX : jX X (yC D ad ac) A b_N_isDown 2 RN (mt_N_isDown.w :: TT) (rmk 0) (some .boolean) := hX
  show jW l X (yC D ad ac) A 2 0 0 (k0 X) (jQp X (fun r => r = 0)) σ 0 [(0, .ref (ad 20)), (1, .int (-1))] []
  refine jx_iload_n (pc := 0) hX d_N_isDown_0 rfl rfl ?_
  refine jx_iconst (pc := 1) hX (v := -1) d_N_isDown_1 rfl ?_
  refine jx_icmp_eq (pc := 2) hX 18 d_N_isDown_2 rfl (fun _ => ?_) (fun hh => absurd (rfl) hh)
  refine jx_iconst (pc := 18) hX (v := 0) d_N_isDown_18 rfl ?_
  exact jx_zretp (pc := 19) hX d_N_isDown_19 rfl (rfl)
set_option maxRecDepth 100000 in
set_option maxHeartbeats 4000000 in
theorem t_N_isDown1 {l : Launch} {D : va_G} {ad : Nat → Nat} {ac : Nat → ClassId} (σ : St) (M : Ms) (hI : Inv M) (hM : repC σ M) (q : Nat) (hq : q < 6) : jMp l (yC D ad ac) mt_N_isDown TT (rmk 0) [.ref (ad 20), .int (nI q)] σ (fun r => r = eB (M.down q)) := by
  obtain ⟨⟨⟨s0, s1, s2, s3⟩, h0, h1, h2, h3, h4, h5, h6, h7, h8, h9, h10, h11, h12, h13⟩, hlf, hpl⟩ := id hM
  obtain ⟨i1, i2, i3, i4, i5, i6, i7, i8⟩ := id hI
  obtain ⟨p1, p2, p3, p4, p5, p6⟩ := id hpl
  have hw8 := i1.le
  have hw2 := i1.pos
  have hnb := nb_le M.w
  refine jMp_of (by decide) (Nat.le_of_ble_eq_true rfl) (List.forall_mem_cons.mpr ⟨rfl, List.forall_mem_cons.mpr ⟨rfl, fun _ h => absurd h List.not_mem_nil⟩⟩) ?_
  intro X A hX
  have hX : jX X (yC D ad ac) A b_N_isDown 2 RN (mt_N_isDown.w :: TT) (rmk 0) (some .boolean) := hX
  show jW l X (yC D ad ac) A 2 0 0 (k0 X) (jQp X (fun r => r = eB (M.down q))) σ 0 [(0, .ref (ad 20)), (1, .int (nI q))] []
  refine jx_iload_n (pc := 0) hX d_N_isDown_0 rfl rfl ?_
  refine jx_iconst (pc := 1) hX (v := -1) d_N_isDown_1 rfl ?_
  refine jx_icmp_eq (pc := 2) hX 18 d_N_isDown_2 rfl (fun hh => absurd hh (nI_m1 (by omega))) (fun _ => ?_)
  refine jx_aload_n (pc := 5) hX d_N_isDown_5 rfl rfl ?_
  refine g_N_37 (pc := 6) hX d_N_isDown_6 ?_
  refine jx_iload_n (pc := 9) hX d_N_isDown_9 rfl rfl ?_
  refine jx_zald (pc := 10) hX oC_2 _ rfl hq d_N_isDown_10 ?_
  refine jx_top (y := eB (M.down q)) (h11 q hq) ?_
  refine jx_if_eq (pc := 11) hX 18 d_N_isDown_11 rfl (fun e11 => ?_) (fun e11 => ?_)
  · refine jx_iconst (pc := 18) hX (v := 0) d_N_isDown_18 rfl ?_
    exact jx_zretp (pc := 19) hX d_N_isDown_19 rfl (eB_f (eB_0.mp e11))
  · refine jx_iconst (pc := 14) hX (v := 1) d_N_isDown_14 rfl ?_
    refine jx_goto (pc := 15) hX 19 d_N_isDown_15 rfl ?_
    exact jx_zretp (pc := 19) hX d_N_isDown_19 rfl (eB_t (eB_n0.mp e11))
theorem t_N_isDown {l : Launch} {D : va_G} {ad : Nat → Nat} {ac : Nat → ClassId} (σ : St) (M : Ms) (hI : Inv M) (hM : repC σ M) (p : Option Nat) (hp : ∀ q, p = some q → q < 6) : jMp l (yC D ad ac) mt_N_isDown TT (rmk 0) [.ref (ad 20), .int (eO p)] σ (fun r => r = eB (M.dn p)) := by
  cases p with
  | none => exact t_N_isDown0 σ
  | some q => exact t_N_isDown1 σ M hI hM q (hp q rfl)
set_option maxRecDepth 100000 in
set_option maxHeartbeats 4000000 in
theorem t_N_canStep {l : Launch} {D : va_G} {ad : Nat → Nat} {ac : Nat → ClassId} (σ : St) (M : Ms) (hI : Inv M) (hM : repC σ M) (t : Nat) (ht : t < M.nt) : jMp l (yC D ad ac) mt_N_canStep TT (rmk 3) [.ref (ad 20), .int (nI t)] σ (fun r => r = eB (M.can t)) := by
  obtain ⟨⟨⟨s0, s1, s2, s3⟩, h0, h1, h2, h3, h4, h5, h6, h7, h8, h9, h10, h11, h12, h13⟩, hlf, hpl⟩ := id hM
  obtain ⟨i1, i2, i3, i4, i5, i6, i7, i8⟩ := id hI
  obtain ⟨p1, p2, p3, p4, p5, p6⟩ := id hpl
  have hw8 := i1.le
  have hw2 := i1.pos
  have hnb := nb_le M.w
  obtain ⟨j1, j2, j3, j4, j5, j6⟩ := i6 t ht
  have ht9 : t < 200 := by omega
  refine jMp_of (by decide) (Nat.le_of_ble_eq_true rfl) (List.forall_mem_cons.mpr ⟨rfl, List.forall_mem_cons.mpr ⟨rfl, fun _ h => absurd h List.not_mem_nil⟩⟩) ?_
  intro X A hX
  have hX : jX X (yC D ad ac) A b_N_canStep 2 RN (mt_N_canStep.w :: TT) (rmk 3) (some .boolean) := hX
  show jW l X (yC D ad ac) A 2 0 0 (k0 X) (jQp X (fun r => r = eB (M.can t))) σ 0 [(0, .ref (ad 20)), (1, .int (nI t))] []
  refine jx_aload_n (pc := 0) hX d_N_canStep_0 rfl rfl ?_
  refine g_N_19 (pc := 1) hX d_N_canStep_1 ?_
  refine g_N_151 (pc := 4) hX d_N_canStep_4 ?_
  refine jx_iload_n (pc := 7) hX d_N_canStep_7 rfl rfl ?_
  refine jx_iald (pc := 8) hX oC_11 _ rfl ht9 d_N_canStep_8 ?_
  refine jx_top (y := nI (M.state t)) (h2 t ht) ?_
  refine jx_iconst (pc := 9) hX (v := 2) d_N_canStep_9 rfl ?_
  refine jx_icmp_eq (pc := 10) hX 29 d_N_canStep_10 rfl (fun q10 => ?_) (fun q10 => ?_)
  · have a10 : M.state t = 2 := (nI_n2 (by omega)).mp q10
    refine jx_iconst (pc := 29) hX (v := 0) d_N_canStep_29 rfl ?_
    exact jx_zretp (pc := 30) hX d_N_canStep_30 rfl (eB_f (Ms.can_f (Or.inl a10)))
  · have a10 : ¬ M.state t = 2 := fun q => q10 ((nI_n2 (by omega)).mpr q)
    refine jx_aload_n (pc := 13) hX d_N_canStep_13 rfl rfl ?_
    refine jx_aload_n (pc := 14) hX d_N_canStep_14 rfl rfl ?_
    refine g_N_19 (pc := 15) hX d_N_canStep_15 ?_
    refine g_N_168 (pc := 18) hX d_N_canStep_18 ?_
    refine jx_iload_n (pc := 21) hX d_N_canStep_21 rfl rfl ?_
    refine jx_iald (pc := 22) hX oC_10 _ rfl ht9 d_N_canStep_22 ?_
    refine jx_top (y := eO (M.place t)) (h1 t ht) ?_
    refine k_N_215 (pc := 23) hX (t_N_isDown σ M hI hM (M.place t) (fun q hq => by have := j2 q hq; omega)) ⟨rfl, rfl, (Nat.le_of_ble_eq_true rfl), (Nat.le_of_ble_eq_true rfl)⟩ rfl rfl (Nat.le_of_ble_eq_true rfl) ⟨Nat.zero_le _, Nat.zero_le _⟩ d_N_canStep_23 (fun r hr => ?_)
    subst hr
    refine jx_if_eq (pc := 26) hX 31 d_N_canStep_26 rfl (fun q26 => ?_) (fun q26 => ?_)
    · have a26 : M.asleep t = false := eB_0.mp q26
      refine jx_aload_n (pc := 31) hX d_N_canStep_31 rfl rfl ?_
      refine g_N_26 (pc := 32) hX d_N_canStep_32 ?_
      refine k_N_129 (pc := 35) hX (t_B_hasRoom σ M.nl (by omega) s3) ⟨rfl, rfl, (Nat.le_of_ble_eq_true rfl), (Nat.le_of_ble_eq_true rfl)⟩ rfl rfl (Nat.le_of_ble_eq_true rfl) ⟨Nat.zero_le _, Nat.zero_le _⟩ d_N_canStep_35 (fun r hr => ?_)
      subst hr
      refine jx_if_ne (pc := 38) hX 71 d_N_canStep_38 rfl (fun q38 => ?_) (fun q38 => ?_)
      · have a38 : M.nl < 60 := of_decide_eq_true (eB_n0.mp q38)
        refine jx_iconst (pc := 71) hX (v := 1) d_N_canStep_71 rfl ?_
        refine jx_goto (pc := 72) hX 76 d_N_canStep_72 rfl ?_
        exact jx_zretp (pc := 76) hX d_N_canStep_76 rfl (eB_t (Ms.can_t a10 a26 (Or.inl a38)))
      · have a38 : ¬ M.nl < 60 := of_decide_eq_false (eB_0.mp q38)
        refine jx_aload_n (pc := 41) hX d_N_canStep_41 rfl rfl ?_
        refine g_N_19 (pc := 42) hX d_N_canStep_42 ?_
        refine g_N_151 (pc := 45) hX d_N_canStep_45 ?_
        refine jx_iload_n (pc := 48) hX d_N_canStep_48 rfl rfl ?_
        refine jx_iald (pc := 49) hX oC_11 _ rfl ht9 d_N_canStep_49 ?_
        refine jx_top (y := nI (M.state t)) (h2 t ht) ?_
        refine jx_iconst (pc := 50) hX (v := 1) d_N_canStep_50 rfl ?_
        refine jx_icmp_eq (pc := 51) hX 71 d_N_canStep_51 rfl (fun q51 => ?_) (fun q51 => ?_)
        · have a51 : M.state t = 1 := (nI_n1 (by omega)).mp q51
          refine jx_iconst (pc := 71) hX (v := 1) d_N_canStep_71 rfl ?_
          refine jx_goto (pc := 72) hX 76 d_N_canStep_72 rfl ?_
          exact jx_zretp (pc := 76) hX d_N_canStep_76 rfl (eB_t (Ms.can_t a10 a26 (Or.inr (Or.inl a51))))
        · have a51 : ¬ M.state t = 1 := fun q => q51 ((nI_n1 (by omega)).mpr q)
          refine jx_aload_n (pc := 54) hX d_N_canStep_54 rfl rfl ?_
          refine g_N_19 (pc := 55) hX d_N_canStep_55 ?_
          refine g_N_168 (pc := 58) hX d_N_canStep_58 ?_
          refine jx_iload_n (pc := 61) hX d_N_canStep_61 rfl rfl ?_
          refine jx_iald (pc := 62) hX oC_10 _ rfl ht9 d_N_canStep_62 ?_
          refine jx_top (y := eO (M.place t)) (h1 t ht) ?_
          refine jx_aload_n (pc := 63) hX d_N_canStep_63 rfl rfl ?_
          refine jx_iload_n (pc := 64) hX d_N_canStep_64 rfl rfl ?_
          refine k_N_159 (pc := 65) hX (t_N_stationOfNext σ M hI hM t ht) ⟨rfl, rfl, (Nat.le_of_ble_eq_true rfl), (Nat.le_of_ble_eq_true rfl)⟩ rfl rfl (Nat.le_of_ble_eq_true rfl) ⟨Nat.zero_le _, Nat.zero_le _⟩ d_N_canStep_65 (fun r hr => ?_)
          subst hr
          refine jx_icmp_ne (pc := 68) hX 75 d_N_canStep_68 rfl (fun q68 => ?_) (fun q68 => ?_)
          · have a68 : ¬ M.place t = some (M.stN t) := fun q => q68 (by rw [q]; rfl)
            refine jx_iconst (pc := 75) hX (v := 0) d_N_canStep_75 rfl ?_
            exact jx_zretp (pc := 76) hX d_N_canStep_76 rfl (eB_f (Ms.can_f (Or.inr (Or.inr ⟨a38, a51, a68⟩))))
          · have a68 : M.place t = some (M.stN t) := (eO_some (fun p hp => by have := j2 p hp; omega) (by have := Ms.stN_lt i2.1 t; omega)).mp q68
            refine jx_iconst (pc := 71) hX (v := 1) d_N_canStep_71 rfl ?_
            refine jx_goto (pc := 72) hX 76 d_N_canStep_72 rfl ?_
            exact jx_zretp (pc := 76) hX d_N_canStep_76 rfl (eB_t (Ms.can_t a10 a26 (Or.inr (Or.inr a68))))
    · have a26 : M.asleep t = true := eB_n0.mp q26
      refine jx_iconst (pc := 29) hX (v := 0) d_N_canStep_29 rfl ?_
      exact jx_zretp (pc := 30) hX d_N_canStep_30 rfl (eB_f (Ms.can_f (Or.inr (Or.inl a26))))
set_option maxRecDepth 100000 in
set_option maxHeartbeats 4000000 in
theorem t_N_nextNumberAt {l : Launch} {D : va_G} {ad : Nat → Nat} {ac : Nat → ClassId} (σ : St) (M : Ms) (hI : Inv M) (hM : repC σ M) (i : Nat) (hi : i < M.w) : jMp l (yC D ad ac) mt_N_nextNumberAt TT (rmk 0) [.ref (ad 20), .int (nI i)] σ (fun r => r = nI (i + M.w * M.handed i)) := by
  obtain ⟨⟨⟨s0, s1, s2, s3⟩, h0, h1, h2, h3, h4, h5, h6, h7, h8, h9, h10, h11, h12, h13⟩, hlf, hpl⟩ := id hM
  obtain ⟨i1, i2, i3, i4, i5, i6, i7, i8⟩ := id hI
  obtain ⟨p1, p2, p3, p4, p5, p6⟩ := id hpl
  have hw8 := i1.le
  have hw2 := i1.pos
  have hnb := nb_le M.w
  refine jMp_of (by decide) (Nat.le_of_ble_eq_true rfl) (List.forall_mem_cons.mpr ⟨rfl, List.forall_mem_cons.mpr ⟨rfl, fun _ h => absurd h List.not_mem_nil⟩⟩) ?_
  intro X A hX
  have hX : jX X (yC D ad ac) A b_N_nextNumberAt 2 RN (mt_N_nextNumberAt.w :: TT) (rmk 0) (some .int) := hX
  show jW l X (yC D ad ac) A 2 0 0 (k0 X) (jQp X (fun r => r = nI (i + M.w * M.handed i))) σ 0 [(0, .ref (ad 20)), (1, .int (nI i))] []
  refine jx_iload_n (pc := 0) hX d_N_nextNumberAt_0 rfl rfl ?_
  refine jx_aload_n (pc := 1) hX d_N_nextNumberAt_1 rfl rfl ?_
  refine g_N_10 (pc := 2) hX d_N_nextNumberAt_2 ?_
  refine g_N_78 (pc := 5) hX d_N_nextNumberAt_5 ?_
  refine jx_top (y := nI M.w) (s0) ?_
  refine jx_aload_n (pc := 8) hX d_N_nextNumberAt_8 rfl rfl ?_
  refine g_N_34 (pc := 9) hX d_N_nextNumberAt_9 ?_
  refine jx_iload_n (pc := 12) hX d_N_nextNumberAt_12 rfl rfl ?_
  refine jx_iald (pc := 13) hX oC_1 _ rfl (show i < 8 by omega) d_N_nextNumberAt_13 ?_
  refine jx_top (y := nI (M.handed i)) (h13 i hi) ?_
  refine jx_imul (pc := 14) hX d_N_nextNumberAt_14 ?_
  refine jx_top (y := nI (M.w * M.handed i)) (pk_mul _ _) ?_
  refine jx_iadd (pc := 15) hX d_N_nextNumberAt_15 ?_
  refine jx_top (y := nI (i + M.w * M.handed i)) (nI_add _ _) ?_
  exact jx_iretp (pc := 16) hX d_N_nextNumberAt_16 (rfl)
set_option maxRecDepth 100000 in
set_option maxHeartbeats 4000000 in
theorem t_N_goThrough {l : Launch} {D : va_G} {ad : Nat → Nat} {ac : Nat → ClassId} (σ : St) (M : Ms) (hI : Inv M) (hM : repC σ M) (t b : Nat) (ht : t < M.nt) (hb : b < nb M.w) : jMv l (yC D ad ac) mt_N_goThrough TT (rmk 1) [.ref (ad 20), .int (nI t), .int (nI b)] σ (fun u => repC u (M.go t b)) := by
  obtain ⟨⟨⟨s0, s1, s2, s3⟩, h0, h1, h2, h3, h4, h5, h6, h7, h8, h9, h10, h11, h12, h13⟩, hlf, hpl⟩ := id hM
  obtain ⟨i1, i2, i3, i4, i5, i6, i7, i8⟩ := id hI
  obtain ⟨p1, p2, p3, p4, p5, p6⟩ := id hpl
  have hw8 := i1.le
  have hw2 := i1.pos
  have hnb := nb_le M.w
  obtain ⟨j1, j2, j3, j4, j5, j6⟩ := i6 t ht
  have ht9 : t < 200 := by omega
  have hb9 : b < 24 := by omega
  refine jMv_of (by decide) (Nat.le_of_ble_eq_true rfl) (List.forall_mem_cons.mpr ⟨rfl, List.forall_mem_cons.mpr ⟨rfl, List.forall_mem_cons.mpr ⟨rfl, fun _ h => absurd h List.not_mem_nil⟩⟩⟩) ?_
  intro X A hX
  have hX : jX X (yC D ad ac) A b_N_goThrough 4 RN (mt_N_goThrough.w :: TT) (rmk 1) none := hX
  show jW l X (yC D ad ac) A 4 0 0 kT (jQv X (yC D ad ac) A (fun u => repC u (M.go t b))) σ 0 [(0, .ref (ad 20)), (1, .int (nI t)), (2, .int (nI b))] []
  refine jx_aload_n (pc := 0) hX d_N_goThrough_0 rfl rfl ?_
  refine g_N_30 (pc := 1) hX d_N_goThrough_1 ?_
  refine jx_iload_n (pc := 4) hX d_N_goThrough_4 rfl rfl ?_
  refine jx_iald (pc := 5) hX oC_0 _ rfl hb9 d_N_goThrough_5 ?_
  refine jx_top (y := M.had b) (h12 b hb) ?_
  refine jx_iconst (pc := 6) hX (v := 2) d_N_goThrough_6 rfl ?_
  refine jx_irem (pc := 7) hX d_N_goThrough_7 (by decide) ?_
  refine jx_if_ne (pc := 8) hX 23 d_N_goThrough_8 rfl (fun q8 => ?_) (fun q8 => ?_)
  · refine jx_aload_n (pc := 23) hX d_N_goThrough_23 rfl rfl ?_
    refine g_N_10 (pc := 24) hX d_N_goThrough_24 ?_
    refine g_N_66 (pc := 27) hX d_N_goThrough_27 ?_
    refine jx_iload_n (pc := 30) hX d_N_goThrough_30 rfl rfl ?_
    refine jx_iald (pc := 31) hX oC_4 _ rfl hb9 d_N_goThrough_31 ?_
    refine jx_top (y := nI (uL M.w b)) (p4 b hb) ?_
    refine jx_istore_n (pc := 32) hX d_N_goThrough_32 rfl (by decide) (L' := [(0, _), (1, _), (2, _), (3, _)]) rfl ?_
    refine jx_aload_n (pc := 33) hX d_N_goThrough_33 rfl rfl ?_
    refine g_N_30 (pc := 34) hX d_N_goThrough_34 ?_
    refine jx_iload_n (pc := 37) hX d_N_goThrough_37 rfl rfl ?_
    refine jx_dup2 (pc := 38) hX d_N_goThrough_38 rfl rfl ?_
    refine jx_iald (pc := 39) hX oC_0 _ rfl hb9 d_N_goThrough_39 ?_
    refine jx_iconst (pc := 40) hX (v := 1) d_N_goThrough_40 rfl ?_
    refine jx_iadd (pc := 41) hX d_N_goThrough_41 ?_
    refine jx_iast (pc := 42) hX oC_0 _ rfl hb9 d_N_goThrough_42 ?_
    refine jx_aload_n (pc := 43) hX d_N_goThrough_43 rfl rfl ?_
    refine g_N_19 (pc := 44) hX d_N_goThrough_44 ?_
    refine jx_iload_n (pc := 47) hX d_N_goThrough_47 rfl rfl ?_
    refine jx_iload_n (pc := 48) hX d_N_goThrough_48 rfl rfl ?_
    refine jx_iload_n (pc := 49) hX d_N_goThrough_49 rfl rfl ?_
    refine k_N_227 (pc := 50) hX (t_T_pass _ t ht9 _ _) ⟨rfl, rfl, (Nat.le_of_ble_eq_true rfl), (Nat.le_of_ble_eq_true rfl)⟩ rfl rfl (Nat.le_of_ble_eq_true rfl) ⟨Nat.zero_le _, Nat.zero_le _⟩ d_N_goThrough_50 (fun u hu => ?_)
    subst hu
    exact jx_vret (pc := 53) hX d_N_goThrough_53 (⟨hM.1.go ht hb (by rw [if_neg q8]) rfl, hlf, hpl⟩)
  · refine jx_aload_n (pc := 11) hX d_N_goThrough_11 rfl rfl ?_
    refine g_N_10 (pc := 12) hX d_N_goThrough_12 ?_
    refine g_N_63 (pc := 15) hX d_N_goThrough_15 ?_
    refine jx_iload_n (pc := 18) hX d_N_goThrough_18 rfl rfl ?_
    refine jx_iald (pc := 19) hX oC_3 _ rfl hb9 d_N_goThrough_19 ?_
    refine jx_top (y := nI (uU M.w b)) (p3 b hb) ?_
    refine jx_goto (pc := 20) hX 32 d_N_goThrough_20 rfl ?_
    refine jx_istore_n (pc := 32) hX d_N_goThrough_32 rfl (by decide) (L' := [(0, _), (1, _), (2, _), (3, _)]) rfl ?_
    refine jx_aload_n (pc := 33) hX d_N_goThrough_33 rfl rfl ?_
    refine g_N_30 (pc := 34) hX d_N_goThrough_34 ?_
    refine jx_iload_n (pc := 37) hX d_N_goThrough_37 rfl rfl ?_
    refine jx_dup2 (pc := 38) hX d_N_goThrough_38 rfl rfl ?_
    refine jx_iald (pc := 39) hX oC_0 _ rfl hb9 d_N_goThrough_39 ?_
    refine jx_iconst (pc := 40) hX (v := 1) d_N_goThrough_40 rfl ?_
    refine jx_iadd (pc := 41) hX d_N_goThrough_41 ?_
    refine jx_iast (pc := 42) hX oC_0 _ rfl hb9 d_N_goThrough_42 ?_
    refine jx_aload_n (pc := 43) hX d_N_goThrough_43 rfl rfl ?_
    refine g_N_19 (pc := 44) hX d_N_goThrough_44 ?_
    refine jx_iload_n (pc := 47) hX d_N_goThrough_47 rfl rfl ?_
    refine jx_iload_n (pc := 48) hX d_N_goThrough_48 rfl rfl ?_
    refine jx_iload_n (pc := 49) hX d_N_goThrough_49 rfl rfl ?_
    refine k_N_227 (pc := 50) hX (t_T_pass _ t ht9 _ _) ⟨rfl, rfl, (Nat.le_of_ble_eq_true rfl), (Nat.le_of_ble_eq_true rfl)⟩ rfl rfl (Nat.le_of_ble_eq_true rfl) ⟨Nat.zero_le _, Nat.zero_le _⟩ d_N_goThrough_50 (fun u hu => ?_)
    subst hu
    exact jx_vret (pc := 53) hX d_N_goThrough_53 (⟨hM.1.go ht hb (by rw [if_pos q8]) rfl, hlf, hpl⟩)
set_option maxRecDepth 100000 in
set_option maxHeartbeats 4000000 in
theorem t_N_comeOut {l : Launch} {D : va_G} {ad : Nat → Nat} {ac : Nat → ClassId} (σ : St) (M : Ms) (hI : Inv M) (hM : repC σ M) (t i : Nat) (ht : t < M.nt) (hst : ¬ M.state t = 2) (hi : i < M.w) : jMv l (yC D ad ac) mt_N_comeOut TT (rmk 1) [.ref (ad 20), .int (nI t), .int (nI i)] σ (fun u => repC u (M.out t i)) := by
  obtain ⟨⟨⟨s0, s1, s2, s3⟩, h0, h1, h2, h3, h4, h5, h6, h7, h8, h9, h10, h11, h12, h13⟩, hlf, hpl⟩ := id hM
  obtain ⟨i1, i2, i3, i4, i5, i6, i7, i8⟩ := id hI
  obtain ⟨p1, p2, p3, p4, p5, p6⟩ := id hpl
  have hw8 := i1.le
  have hw2 := i1.pos
  have hnb := nb_le M.w
  obtain ⟨j1, j2, j3, j4, j5, j6⟩ := i6 t ht
  have ht9 : t < 200 := by omega
  refine jMv_of (by decide) (Nat.le_of_ble_eq_true rfl) (List.forall_mem_cons.mpr ⟨rfl, List.forall_mem_cons.mpr ⟨rfl, List.forall_mem_cons.mpr ⟨rfl, fun _ h => absurd h List.not_mem_nil⟩⟩⟩) ?_
  intro X A hX
  have hX : jX X (yC D ad ac) A b_N_comeOut 3 RN (mt_N_comeOut.w :: TT) (rmk 1) none := hX
  show jW l X (yC D ad ac) A 3 0 0 kT (jQv X (yC D ad ac) A (fun u => repC u (M.out t i))) σ 0 [(0, .ref (ad 20)), (1, .int (nI t)), (2, .int (nI i))] []
  refine jx_aload_n (pc := 0) hX d_N_comeOut_0 rfl rfl ?_
  refine g_N_19 (pc := 1) hX d_N_comeOut_1 ?_
  refine jx_iload_n (pc := 4) hX d_N_comeOut_4 rfl rfl ?_
  refine jx_aload_n (pc := 5) hX d_N_comeOut_5 rfl rfl ?_
  refine jx_iload_n (pc := 6) hX d_N_comeOut_6 rfl rfl ?_
  refine k_N_230 (pc := 7) hX (t_N_nextNumberAt σ M hI hM i hi) ⟨rfl, rfl, (Nat.le_of_ble_eq_true rfl), (Nat.le_of_ble_eq_true rfl)⟩ rfl rfl (Nat.le_of_ble_eq_true rfl) ⟨Nat.zero_le _, Nat.zero_le _⟩ d_N_comeOut_7 (fun r hr => ?_)
  subst hr
  refine k_N_233 (pc := 10) hX (t_T_finish σ t ht9 _) ⟨rfl, rfl, (Nat.le_of_ble_eq_true rfl), (Nat.le_of_ble_eq_true rfl)⟩ rfl rfl (Nat.le_of_ble_eq_true rfl) ⟨Nat.zero_le _, Nat.zero_le _⟩ d_N_comeOut_10 (fun u hu => ?_)
  subst hu
  refine jx_aload_n (pc := 13) hX d_N_comeOut_13 rfl rfl ?_
  refine g_N_34 (pc := 14) hX d_N_comeOut_14 ?_
  refine jx_iload_n (pc := 17) hX d_N_comeOut_17 rfl rfl ?_
  refine jx_dup2 (pc := 18) hX d_N_comeOut_18 rfl rfl ?_
  refine jx_iald (pc := 19) hX oC_1 _ rfl (show i < 8 by omega) d_N_comeOut_19 ?_
  refine jx_iconst (pc := 20) hX (v := 1) d_N_comeOut_20 rfl ?_
  refine jx_iadd (pc := 21) hX d_N_comeOut_21 ?_
  refine jx_iast (pc := 22) hX oC_1 _ rfl (show i < 8 by omega) d_N_comeOut_22 ?_
  exact jx_vret (pc := 23) hX d_N_comeOut_23 (⟨hM.1.out hi rfl, by have e := Ms.left_out (i := i) ht hst; show σ.1 5 - 1 = _; rw [hlf, ← e, nI_pred], hpl⟩)
set_option maxRecDepth 100000 in
set_option maxHeartbeats 4000000 in
theorem t_N_step {l : Launch} {D : va_G} {ad : Nat → Nat} {ac : Nat → ClassId} (σ : St) (M : Ms) (hI : Inv M) (hM : repC σ M) (t : Nat) (ht : t < M.nt) (hc : M.can t = true) : jMi l (yC D ad ac) mt_N_step TT (rmk 4) [.ref (ad 20), .int (nI t)] σ (fun r u => r = nI (M.step t).1 ∧ repC u (M.step t).2) := by
  obtain ⟨⟨⟨s0, s1, s2, s3⟩, h0, h1, h2, h3, h4, h5, h6, h7, h8, h9, h10, h11, h12, h13⟩, hlf, hpl⟩ := id hM
  obtain ⟨i1, i2, i3, i4, i5, i6, i7, i8⟩ := id hI
  obtain ⟨p1, p2, p3, p4, p5, p6⟩ := id hpl
  have hw8 := i1.le
  have hw2 := i1.pos
  have hnb := nb_le M.w
  obtain ⟨j1, j2, j3, j4, j5, j6⟩ := i6 t ht
  have ht9 : t < 200 := by omega
  obtain ⟨c1, c2, c3⟩ := Ms.can_spec hc
  refine jMi_of (by decide) (Nat.le_of_ble_eq_true rfl) (List.forall_mem_cons.mpr ⟨rfl, List.forall_mem_cons.mpr ⟨rfl, fun _ h => absurd h List.not_mem_nil⟩⟩) ?_
  intro X A hX
  have hX : jX X (yC D ad ac) A b_N_step 4 RN (mt_N_step.w :: TT) (rmk 4) (some .int) := hX
  show jW l X (yC D ad ac) A 4 0 0 kT (jQi X (yC D ad ac) A (fun r u => r = nI (M.step t).1 ∧ repC u (M.step t).2)) σ 0 [(0, .ref (ad 20)), (1, .int (nI t))] []
  refine jx_aload_n (pc := 0) hX d_N_step_0 rfl rfl ?_
  refine g_N_19 (pc := 1) hX d_N_step_1 ?_
  refine g_N_151 (pc := 4) hX d_N_step_4 ?_
  refine jx_iload_n (pc := 7) hX d_N_step_7 rfl rfl ?_
  refine jx_iald (pc := 8) hX oC_11 _ rfl ht9 d_N_step_8 ?_
  refine jx_top (y := nI (M.state t)) (h2 t ht) ?_
  refine jx_iconst (pc := 9) hX (v := 1) d_N_step_9 rfl ?_
  refine jx_icmp_ne (pc := 10) hX 15 d_N_step_10 rfl (fun q10 => ?_) (fun q10 => ?_)
  · have a10 : ¬ M.state t = 1 := fun q => q10 ((nI_n1 (by omega)).mpr q)
    refine jx_aload_n (pc := 15) hX d_N_step_15 rfl rfl ?_
    refine jx_iload_n (pc := 16) hX d_N_step_16 rfl rfl ?_
    refine k_N_159 (pc := 17) hX (t_N_stationOfNext σ M hI hM t ht) ⟨rfl, rfl, (Nat.le_of_ble_eq_true rfl), (Nat.le_of_ble_eq_true rfl)⟩ rfl rfl (Nat.le_of_ble_eq_true rfl) ⟨Nat.zero_le _, Nat.zero_le _⟩ d_N_step_17 (fun r hr => ?_)
    subst hr
    refine jx_istore_n (pc := 20) hX d_N_step_20 rfl (by decide) (L' := [(0, _), (1, _), (2, _)]) rfl ?_
    refine jx_aload_n (pc := 21) hX d_N_step_21 rfl rfl ?_
    refine g_N_19 (pc := 22) hX d_N_step_22 ?_
    refine g_N_168 (pc := 25) hX d_N_step_25 ?_
    refine jx_iload_n (pc := 28) hX d_N_step_28 rfl rfl ?_
    refine jx_iald (pc := 29) hX oC_10 _ rfl ht9 d_N_step_29 ?_
    refine jx_top (y := eO (M.place t)) (h1 t ht) ?_
    refine jx_iload_n (pc := 30) hX d_N_step_30 rfl rfl ?_
    refine jx_icmp_eq (pc := 31) hX 62 d_N_step_31 rfl (fun q31 => ?_) (fun q31 => ?_)
    · have a31 : M.place t = some (M.stN t) := (eO_some (fun p hp => by have := j2 p hp; omega) (by have := Ms.stN_lt i2.1 t; omega)).mp q31
      refine jx_aload_n (pc := 62) hX d_N_step_62 rfl rfl ?_
      refine jx_iload_n (pc := 63) hX d_N_step_63 rfl rfl ?_
      refine k_N_209 (pc := 64) hX (t_N_nextBalancer σ M hI hM t ht) ⟨rfl, rfl, (Nat.le_of_ble_eq_true rfl), (Nat.le_of_ble_eq_true rfl)⟩ rfl rfl (Nat.le_of_ble_eq_true rfl) ⟨Nat.zero_le _, Nat.zero_le _⟩ d_N_step_64 (fun r hr => ?_)
      subst hr
      refine jx_istore_n (pc := 67) hX d_N_step_67 rfl (by decide) (L' := [(0, _), (1, _), (2, _), (3, _)]) rfl ?_
      refine jx_iload_n (pc := 68) hX d_N_step_68 rfl rfl ?_
      refine jx_iconst (pc := 69) hX (v := -1) d_N_step_69 rfl ?_
      refine jx_icmp_ne (pc := 70) hX 96 d_N_step_70 rfl (fun q70 => ?_) (fun q70 => ?_)
      · obtain ⟨b, hb⟩ : ∃ b, M.next t = some b := by
          cases hq : M.next t with
          | none => exact absurd (by rw [hq]; rfl) q70
          | some b => exact ⟨b, rfl⟩
        rw [hb]
        refine jx_aload_n (pc := 96) hX d_N_step_96 rfl rfl ?_
        refine jx_iload_n (pc := 97) hX d_N_step_97 rfl rfl ?_
        refine jx_iload_n (pc := 98) hX d_N_step_98 rfl rfl ?_
        refine k_N_224 (pc := 99) hX (t_N_goThrough σ M hI hM t b ht (nxB_lt hb)) ⟨rfl, rfl, (Nat.le_of_ble_eq_true rfl), (Nat.le_of_ble_eq_true rfl)⟩ rfl rfl (Nat.le_of_ble_eq_true rfl) ⟨Nat.zero_le _, Nat.zero_le _⟩ d_N_step_99 (fun u hu => ?_)
        refine jx_iconst (pc := 102) hX (v := 0) d_N_step_102 rfl ?_
        exact jx_iret (pc := 103) hX d_N_step_103 (by rw [Ms.step_0 a10 a31 hb]; exact ⟨rfl, hu⟩)
      · have hb : M.next t = none := (eO_m1 (fun p hp => by have := nxB_lt hp; omega)).mp q70
        refine jx_aload_n (pc := 73) hX d_N_step_73 rfl rfl ?_
        refine jx_iload_n (pc := 74) hX d_N_step_74 rfl rfl ?_
        refine jx_aload_n (pc := 75) hX d_N_step_75 rfl rfl ?_
        refine g_N_10 (pc := 76) hX d_N_step_76 ?_
        refine jx_aload_n (pc := 79) hX d_N_step_79 rfl rfl ?_
        refine g_N_19 (pc := 80) hX d_N_step_80 ?_
        refine g_N_166 (pc := 83) hX d_N_step_83 ?_
        refine jx_iload_n (pc := 86) hX d_N_step_86 rfl rfl ?_
        refine jx_iald (pc := 87) hX oC_9 _ rfl ht9 d_N_step_87 ?_
        refine jx_top (y := nI (M.wire t)) (h0 t ht) ?_
        refine k_N_212 (pc := 88) hX (t_P_exitOf σ M.w (M.wire t) i1 j1 s0 hpl) ⟨rfl, rfl, (Nat.le_of_ble_eq_true rfl), (Nat.le_of_ble_eq_true rfl)⟩ rfl rfl (Nat.le_of_ble_eq_true rfl) ⟨Nat.zero_le _, Nat.zero_le _⟩ d_N_step_88 (fun r hr => ?_)
        subst hr
        refine k_N_221 (pc := 91) hX (t_N_comeOut σ M hI hM t (M.ex t) ht c1 (uX_lt i1 j1)) ⟨rfl, rfl, (Nat.le_of_ble_eq_true rfl), (Nat.le_of_ble_eq_true rfl)⟩ rfl rfl (Nat.le_of_ble_eq_true rfl) ⟨Nat.zero_le _, Nat.zero_le _⟩ d_N_step_91 (fun u hu => ?_)
        refine jx_iconst (pc := 94) hX (v := 1) d_N_step_94 rfl ?_
        exact jx_iret (pc := 95) hX d_N_step_95 (by rw [Ms.step_1 a10 a31 hb]; exact ⟨rfl, hu⟩)
    · have a31 : ¬ M.place t = some (M.stN t) := fun q => q31 (by rw [q]; rfl)
      have hnl : M.nl < 60 := by
        rcases c3 with q | q | q
        · exact q
        · exact absurd q a10
        · exact absurd q a31
      refine jx_aload_n (pc := 34) hX d_N_step_34 rfl rfl ?_
      refine g_N_19 (pc := 35) hX d_N_step_35 ?_
      refine jx_iload_n (pc := 38) hX d_N_step_38 rfl rfl ?_
      refine k_N_218 (pc := 39) hX (t_T_setOut σ t ht9) ⟨rfl, rfl, (Nat.le_of_ble_eq_true rfl), (Nat.le_of_ble_eq_true rfl)⟩ rfl rfl (Nat.le_of_ble_eq_true rfl) ⟨Nat.zero_le _, Nat.zero_le _⟩ d_N_step_39 (fun u hu => ?_)
      subst hu
      refine jx_aload_n (pc := 42) hX d_N_step_42 rfl rfl ?_
      refine g_N_26 (pc := 43) hX d_N_step_43 ?_
      refine jx_iload_n (pc := 46) hX d_N_step_46 rfl rfl ?_
      refine jx_aload_n (pc := 47) hX d_N_step_47 rfl rfl ?_
      refine g_N_19 (pc := 48) hX d_N_step_48 ?_
      refine g_N_154 (pc := 51) hX d_N_step_51 ?_
      refine jx_iload_n (pc := 54) hX d_N_step_54 rfl rfl ?_
      refine jx_iald (pc := 55) hX oC_14 _ rfl ht9 d_N_step_55 ?_
      refine jx_top (y := M.way t + 1) (by show upd (σ.2 14) t (σ.2 14 t + 1) t = _; rw [pk_us, h5 t ht]; rfl) ?_
      refine jx_iload_n (pc := 56) hX d_N_step_56 rfl rfl ?_
      refine k_N_144 (pc := 57) hX (t_B_post (sA (sA σ 14 t (σ.2 14 t + 1)) 11 t 1) M.nl hnl s3 (nI t) (M.way t + 1) (nI (M.stN t))) ⟨rfl, rfl, (Nat.le_of_ble_eq_true rfl), (Nat.le_of_ble_eq_true rfl)⟩ rfl rfl (Nat.le_of_ble_eq_true rfl) ⟨Nat.zero_le _, Nat.zero_le _⟩ d_N_step_57 (fun u hu => ?_)
      subst hu
      refine jx_iconst (pc := 60) hX (v := 2) d_N_step_60 rfl ?_
      exact jx_iret (pc := 61) hX d_N_step_61 (by rw [Ms.step_2 a10 a31]; exact ⟨rfl, (hM.1.setOut ht).post rfl rfl, by rw [← Ms.left_setOut ht c1] at hlf; exact hlf, hpl⟩)
  · have a10 : M.state t = 1 := (nI_n1 (by omega)).mp q10
    refine jx_iconst (pc := 13) hX (v := 3) d_N_step_13 rfl ?_
    exact jx_iret (pc := 14) hX d_N_step_14 (by rw [Ms.step_3 a10]; exact ⟨rfl, hM⟩)
