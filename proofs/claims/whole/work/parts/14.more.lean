set_option maxRecDepth 100000 in
set_option maxHeartbeats 4000000 in
theorem t_N_handOver {l : Launch} {D : va_G} {ad : Nat → Nat} {ac : Nat → ClassId} (σ : St) (M : Ms) (hI : Inv M) (hM : repC σ M) (i : Nat) (hi : i < M.nl) : jMi l (yC D ad ac) mt_N_handOver TT (rmk 2) [.ref (ad 20), .int (nI i)] σ (fun r u => r = eB (M.comes i) ∧ repC u (M.deliver i)) := by
  obtain ⟨⟨⟨s0, s1, s2, s3⟩, h0, h1, h2, h3, h4, h5, h6, h7, h8, h9, h10, h11, h12, h13⟩, hlf, hpl⟩ := id hM
  obtain ⟨i1, i2, i3, i4, i5, i6, i7, i8⟩ := id hI
  obtain ⟨p1, p2, p3, p4, p5, p6⟩ := id hpl
  have hw8 := i1.le
  have hw2 := i1.pos
  have hnb := nb_le M.w
  obtain ⟨k1, k2⟩ := i7 i hi
  refine jMi_of (by decide) (Nat.le_of_ble_eq_true rfl) (List.forall_mem_cons.mpr ⟨rfl, List.forall_mem_cons.mpr ⟨rfl, fun _ h => absurd h List.not_mem_nil⟩⟩) ?_
  intro X A hX
  have hX : jX X (yC D ad ac) A b_N_handOver 5 RN (mt_N_handOver.w :: TT) (rmk 2) (some .boolean) := hX
  show jW l X (yC D ad ac) A 5 0 0 kT (jQi X (yC D ad ac) A (fun r u => r = eB (M.comes i) ∧ repC u (M.deliver i))) σ 0 [(0, .ref (ad 20)), (1, .int (nI i))] []
  refine jx_aload_n (pc := 0) hX d_N_handOver_0 rfl rfl ?_
  refine g_N_26 (pc := 1) hX d_N_handOver_1 ?_
  refine g_N_135 (pc := 4) hX d_N_handOver_4 ?_
  refine jx_iload_n (pc := 7) hX d_N_handOver_7 rfl rfl ?_
  refine jx_iald (pc := 8) hX oC_17 _ rfl (show i < 60 by omega) d_N_handOver_8 ?_
  refine jx_top (y := nI (M.la i)) (h8 i hi) ?_
  refine jx_istore_n (pc := 9) hX d_N_handOver_9 rfl (by decide) (L' := [(0, _), (1, _), (2, _)]) rfl ?_
  refine jx_aload_n (pc := 10) hX d_N_handOver_10 rfl rfl ?_
  refine g_N_26 (pc := 11) hX d_N_handOver_11 ?_
  refine g_N_138 (pc := 14) hX d_N_handOver_14 ?_
  refine jx_iload_n (pc := 17) hX d_N_handOver_17 rfl rfl ?_
  refine jx_iald (pc := 18) hX oC_18 _ rfl (show i < 60 by omega) d_N_handOver_18 ?_
  refine jx_top (y := M.lw i) (h9 i hi) ?_
  refine jx_istore_n (pc := 19) hX d_N_handOver_19 rfl (by decide) (L' := [(0, _), (1, _), (2, _), (3, _)]) rfl ?_
  refine jx_aload_n (pc := 20) hX d_N_handOver_20 rfl rfl ?_
  refine g_N_26 (pc := 21) hX d_N_handOver_21 ?_
  refine g_N_141 (pc := 24) hX d_N_handOver_24 ?_
  refine jx_iload_n (pc := 27) hX d_N_handOver_27 rfl rfl ?_
  refine jx_iald (pc := 28) hX oC_19 _ rfl (show i < 60 by omega) d_N_handOver_28 ?_
  refine jx_top (y := nI (M.lt i)) (h10 i hi) ?_
  refine jx_istore (pc := 29) hX d_N_handOver_29 (by decide) (L' := [(0, _), (1, _), (2, _), (3, _), (4, _)]) rfl ?_
  refine jx_aload_n (pc := 31) hX d_N_handOver_31 rfl rfl ?_
  refine g_N_26 (pc := 32) hX d_N_handOver_32 ?_
  refine jx_iload_n (pc := 35) hX d_N_handOver_35 rfl rfl ?_
  refine k_N_125 (pc := 36) hX (t_B_takeOut σ M.nl i hi (by omega) s3) ⟨rfl, rfl, (Nat.le_of_ble_eq_true rfl), (Nat.le_of_ble_eq_true rfl)⟩ rfl rfl (Nat.le_of_ble_eq_true rfl) ⟨Nat.zero_le _, Nat.zero_le _⟩ d_N_handOver_36 (fun u hu => ?_)
  have hT : repC u (M.take i) := by
    subst hu
    exact ⟨hM.1.take hi (h8.cut hi) (h9.cut hi) (h10.cut hi), hlf, hpl⟩
  subst hu
  refine jx_aload_n (pc := 39) hX d_N_handOver_39 rfl rfl ?_
  refine g_N_37 (pc := 40) hX d_N_handOver_40 ?_
  refine jx_iload (pc := 43) hX d_N_handOver_43 rfl ?_
  refine jx_zald (pc := 45) hX oC_2 _ rfl (show M.lt i < 6 by omega) d_N_handOver_45 ?_
  refine jx_top (y := eB (M.down (M.lt i))) (h11 (M.lt i) (by omega)) ?_
  refine jx_if_ne (pc := 46) hX 75 d_N_handOver_46 rfl (fun q46 => ?_) (fun q46 => ?_)
  · have hc : M.comes i = false := Ms.comes_f (Or.inl (eB_n0.mp q46))
    refine jx_iconst (pc := 75) hX (v := 0) d_N_handOver_75 rfl ?_
    exact jx_zret (pc := 76) hX d_N_handOver_76 rfl (⟨eB_f hc, by rw [Ms.deliver_f hc]; exact hT⟩)
  · refine jx_aload_n (pc := 49) hX d_N_handOver_49 rfl rfl ?_
    refine g_N_19 (pc := 50) hX d_N_handOver_50 ?_
    refine g_N_151 (pc := 53) hX d_N_handOver_53 ?_
    refine jx_iload_n (pc := 56) hX d_N_handOver_56 rfl rfl ?_
    refine jx_iald (pc := 57) hX oC_11 _ rfl (show M.la i < 200 by omega) d_N_handOver_57 ?_
    refine jx_top (y := nI (M.state (M.la i))) (h2 _ k1) ?_
    refine jx_iconst (pc := 58) hX (v := 1) d_N_handOver_58 rfl ?_
    refine jx_icmp_ne (pc := 59) hX 75 d_N_handOver_59 rfl (fun q59 => ?_) (fun q59 => ?_)
    · have hc : M.comes i = false := Ms.comes_f (Or.inr (Or.inl (fun q => q59 ((nI_n1 (by have := (i6 _ k1).2.2.1; omega)).mpr q))))
      refine jx_iconst (pc := 75) hX (v := 0) d_N_handOver_75 rfl ?_
      exact jx_zret (pc := 76) hX d_N_handOver_76 rfl (⟨eB_f hc, by rw [Ms.deliver_f hc]; exact hT⟩)
    · have a59 : M.state (M.la i) = 1 := (nI_n1 (by have := (i6 _ k1).2.2.1; omega)).mp q59
      refine jx_aload_n (pc := 62) hX d_N_handOver_62 rfl rfl ?_
      refine g_N_19 (pc := 63) hX d_N_handOver_63 ?_
      refine g_N_154 (pc := 66) hX d_N_handOver_66 ?_
      refine jx_iload_n (pc := 69) hX d_N_handOver_69 rfl rfl ?_
      refine jx_iald (pc := 70) hX oC_14 _ rfl (show M.la i < 200 by omega) d_N_handOver_70 ?_
      refine jx_top (y := M.way (M.la i)) (h5 _ k1) ?_
      refine jx_iload_n (pc := 71) hX d_N_handOver_71 rfl rfl ?_
      refine jx_icmp_eq (pc := 72) hX 77 d_N_handOver_72 rfl (fun q72 => ?_) (fun q72 => ?_)
      · have hc : M.comes i = true := Ms.comes_t (eB_0.mp q46) a59 q72
        refine jx_aload_n (pc := 77) hX d_N_handOver_77 rfl rfl ?_
        refine g_N_19 (pc := 78) hX d_N_handOver_78 ?_
        refine jx_iload_n (pc := 81) hX d_N_handOver_81 rfl rfl ?_
        refine jx_iload (pc := 82) hX d_N_handOver_82 rfl ?_
        refine k_N_236 (pc := 84) hX (t_T_arrive _ (M.la i) (show M.la i < 200 by omega) (nI (M.lt i))) ⟨rfl, rfl, (Nat.le_of_ble_eq_true rfl), (Nat.le_of_ble_eq_true rfl)⟩ rfl rfl (Nat.le_of_ble_eq_true rfl) ⟨Nat.zero_le _, Nat.zero_le _⟩ d_N_handOver_84 (fun u hu => ?_)
        subst hu
        refine jx_iconst (pc := 87) hX (v := 1) d_N_handOver_87 rfl ?_
        exact jx_zret (pc := 88) hX d_N_handOver_88 rfl (⟨eB_t hc, by rw [Ms.deliver_t hc]; exact ⟨hT.1.arrive rfl, by have e := Ms.left_arrive (M := M.take i) (s := M.lt i) k1 a59; rw [e]; exact hT.2.1, hT.2.2⟩⟩)
      · have hc : M.comes i = false := Ms.comes_f (Or.inr (Or.inr q72))
        refine jx_iconst (pc := 75) hX (v := 0) d_N_handOver_75 rfl ?_
        exact jx_zret (pc := 76) hX d_N_handOver_76 rfl (⟨eB_f hc, by rw [Ms.deliver_f hc]; exact hT⟩)
set_option maxRecDepth 100000 in
set_option maxHeartbeats 4000000 in
theorem t_N_stepAll {l : Launch} {D : va_G} {ad : Nat → Nat} {ac : Nat → ClassId} (σ : St) (M : Ms) (hI : Inv M) (hM : repC σ M) : jMv l (yC D ad ac) mt_N_stepAll TT (rmk 5) [.ref (ad 20)] σ (fun u => repC u (Ms.stepAll M.nt 0 M)) := by
  have i3 : M.nt ≤ 200 := hI.2.2.1
  refine jMv_of (by decide) (Nat.le_of_ble_eq_true rfl) (List.forall_mem_cons.mpr ⟨rfl, fun _ h => absurd h List.not_mem_nil⟩) ?_
  intro X A hX
  have hX : jX X (yC D ad ac) A b_N_stepAll 2 RN (mt_N_stepAll.w :: TT) (rmk 5) none := hX
  show jW l X (yC D ad ac) A 2 0 0 kT (jQv X (yC D ad ac) A (fun u => repC u (Ms.stepAll M.nt 0 M))) σ 0 [(0, .ref (ad 20))] []
  have loop : ∀ (fu : Nat) (t : Nat) (σ1 : St) (M1 : Ms), M.nt - t = fu → t ≤ M.nt → Inv M1 → repC σ1 M1 → M1.nt = M.nt → Ms.stepAll (M.nt - t) t M1 = Ms.stepAll M.nt 0 M → jW l X (yC D ad ac) A 2 0 0 kT (jQv X (yC D ad ac) A (fun u => repC u (Ms.stepAll M.nt 0 M))) σ1 2 [(0, .ref (ad 20)), (1, .int (nI t))] [] := by
    intro fu
    induction fu using Nat.strongRecOn with
    | ind fu ih =>
      intro t σ1 M1 hfu htl hI1 hM1 e1 e2
      refine jx_iload_n (pc := 2) hX d_N_stepAll_2 rfl rfl ?_
      refine jx_aload_n (pc := 3) hX d_N_stepAll_3 rfl rfl ?_
      refine g_N_19 (pc := 4) hX d_N_stepAll_4 ?_
      refine g_N_90 (pc := 7) hX d_N_stepAll_7 ?_
      refine jx_top (y := nI M.nt) (by rw [← e1]; exact hM1.1.1.2.2.1) ?_
      refine jx_icmp_ge (pc := 10) hX 33 d_N_stepAll_10 rfl (fun q10 => ?_) (fun q10 => ?_)
      · have hge : M.nt ≤ t := (nI_leI (by omega) (by omega)).mp q10
        exact jx_vret (pc := 33) hX d_N_stepAll_33 (by rw [← e2, Nat.sub_eq_zero_of_le hge]; exact hM1)
      · have hlt : t < M.nt := Nat.lt_of_not_le (fun q => q10 (nI_le q (by omega)))
        refine jx_aload_n (pc := 13) hX d_N_stepAll_13 rfl rfl ?_
        refine jx_iload_n (pc := 14) hX d_N_stepAll_14 rfl rfl ?_
        refine k_N_111 (pc := 15) hX (t_N_canStep σ1 M1 hI1 hM1 t (by omega)) ⟨rfl, rfl, (Nat.le_of_ble_eq_true rfl), (Nat.le_of_ble_eq_true rfl)⟩ rfl rfl (Nat.le_of_ble_eq_true rfl) ⟨Nat.zero_le _, Nat.zero_le _⟩ d_N_stepAll_15 (fun r hr => ?_)
        subst hr
        refine jx_if_eq (pc := 18) hX 27 d_N_stepAll_18 rfl (fun q18 => ?_) (fun q18 => ?_)
        · have hc : M1.can t = false := eB_0.mp q18
          refine jx_iinc (pc := 27) hX (v := nI (t + 1)) d_N_stepAll_27 rfl (nI_1 t) (by decide) (L' := [(0, _), (1, _)]) rfl ?_
          refine jx_goto (pc := 30) hX 2 d_N_stepAll_30 rfl ?_
          exact ih _ (by omega) (t + 1) σ1 M1 rfl (by omega) hI1 hM1 e1 (by rw [← e2, Ms.stepAll_s hlt, if_neg (by rw [hc]; decide)])
        · have hc : M1.can t = true := eB_n0.mp q18
          refine jx_aload_n (pc := 21) hX d_N_stepAll_21 rfl rfl ?_
          refine jx_iload_n (pc := 22) hX d_N_stepAll_22 rfl rfl ?_
          refine k_N_116 (pc := 23) hX (t_N_step σ1 M1 hI1 hM1 t (by omega) hc) ⟨rfl, rfl, (Nat.le_of_ble_eq_true rfl), (Nat.le_of_ble_eq_true rfl)⟩ rfl rfl (Nat.le_of_ble_eq_true rfl) ⟨Nat.zero_le _, Nat.zero_le _⟩ d_N_stepAll_23 (fun r u hru => ?_)
          obtain ⟨hr, hu⟩ := hru
          refine jx_pop (pc := 26) hX d_N_stepAll_26 rfl ?_
          refine jx_iinc (pc := 27) hX (v := nI (t + 1)) d_N_stepAll_27 rfl (nI_1 t) (by decide) (L' := [(0, _), (1, _)]) rfl ?_
          refine jx_goto (pc := 30) hX 2 d_N_stepAll_30 rfl ?_
          exact ih _ (by omega) (t + 1) u (M1.step t).2 rfl (by omega) (hI1.step (by omega) hc) hu ((Ms.step_nt M1 t).trans e1) (by rw [← e2, Ms.stepAll_s hlt, if_pos hc])
  refine jx_iconst (pc := 0) hX (v := 0) d_N_stepAll_0 rfl ?_
  refine jx_istore_n (pc := 1) hX d_N_stepAll_1 rfl (by decide) (L' := [(0, _), (1, _)]) rfl ?_
  exact loop _ 0 σ M rfl (Nat.zero_le _) hI hM rfl rfl
set_option maxRecDepth 100000 in
set_option maxHeartbeats 4000000 in
theorem t_N_handOverAll {l : Launch} {D : va_G} {ad : Nat → Nat} {ac : Nat → ClassId} (σ : St) (M : Ms) (hI : Inv M) (hM : repC σ M) : jMv l (yC D ad ac) mt_N_handOverAll TT (rmk 3) [.ref (ad 20)] σ (fun u => repC u (Ms.delAll M.nl M)) := by
  have i4 : M.nl ≤ 60 := hI.2.2.2.1
  refine jMv_of (by decide) (Nat.le_of_ble_eq_true rfl) (List.forall_mem_cons.mpr ⟨rfl, fun _ h => absurd h List.not_mem_nil⟩) ?_
  intro X A hX
  have hX : jX X (yC D ad ac) A b_N_handOverAll 3 RN (mt_N_handOverAll.w :: TT) (rmk 3) none := hX
  show jW l X (yC D ad ac) A 3 0 0 kT (jQv X (yC D ad ac) A (fun u => repC u (Ms.delAll M.nl M))) σ 0 [(0, .ref (ad 20))] []
  have loop : ∀ (fu : Nat) (k : Nat) (σ1 : St) (M1 : Ms), M.nl - k = fu → k ≤ M.nl → Inv M1 → repC σ1 M1 → M1.nl = M.nl - k → Ms.delAll (M.nl - k) M1 = Ms.delAll M.nl M → jW l X (yC D ad ac) A 3 0 0 kT (jQv X (yC D ad ac) A (fun u => repC u (Ms.delAll M.nl M))) σ1 10 [(0, .ref (ad 20)), (1, .int (nI M.nl)), (2, .int (nI k))] [] := by
    intro fu
    induction fu using Nat.strongRecOn with
    | ind fu ih =>
      intro k σ1 M1 hfu hkl hI1 hM1 e1 e2
      refine jx_iload_n (pc := 10) hX d_N_handOverAll_10 rfl rfl ?_
      refine jx_iload_n (pc := 11) hX d_N_handOverAll_11 rfl rfl ?_
      refine jx_icmp_ge (pc := 12) hX 27 d_N_handOverAll_12 rfl (fun q12 => ?_) (fun q12 => ?_)
      · have hge : M.nl ≤ k := (nI_leI (by omega) (by omega)).mp q12
        exact jx_vret (pc := 27) hX d_N_handOverAll_27 (by rw [← e2, Nat.sub_eq_zero_of_le hge]; exact hM1)
      · have hlt : k < M.nl := Nat.lt_of_not_le (fun q => q12 (nI_le q (by omega)))
        refine jx_aload_n (pc := 15) hX d_N_handOverAll_15 rfl rfl ?_
        refine jx_iconst (pc := 16) hX (v := 0) d_N_handOverAll_16 rfl ?_
        refine k_N_122 (pc := 17) hX (t_N_handOver σ1 M1 hI1 hM1 0 (by omega)) ⟨rfl, rfl, (Nat.le_of_ble_eq_true rfl), (Nat.le_of_ble_eq_true rfl)⟩ rfl rfl (Nat.le_of_ble_eq_true rfl) ⟨Nat.zero_le _, Nat.zero_le _⟩ d_N_handOverAll_17 (fun r u hru => ?_)
        obtain ⟨hr, hu⟩ := hru
        refine jx_pop (pc := 20) hX d_N_handOverAll_20 rfl ?_
        refine jx_iinc (pc := 21) hX (v := nI (k + 1)) d_N_handOverAll_21 rfl (nI_1 k) (by decide) (L' := [(0, _), (1, _), (2, _)]) rfl ?_
        refine jx_goto (pc := 24) hX 10 d_N_handOverAll_24 rfl ?_
        exact ih _ (by omega) (k + 1) u (M1.deliver 0) rfl (by omega) (hI1.deliver (by omega)) hu (by rw [Ms.deliver_nl]; omega) (by rw [← e2, Ms.delAll_s hlt])
  refine jx_aload_n (pc := 0) hX d_N_handOverAll_0 rfl rfl ?_
  refine g_N_26 (pc := 1) hX d_N_handOverAll_1 ?_
  refine g_N_148 (pc := 4) hX d_N_handOverAll_4 ?_
  refine jx_top (y := nI M.nl) (hM.1.1.2.2.2) ?_
  refine jx_istore_n (pc := 7) hX d_N_handOverAll_7 rfl (by decide) (L' := [(0, _), (1, _)]) rfl ?_
  refine jx_iconst (pc := 8) hX (v := 0) d_N_handOverAll_8 rfl ?_
  refine jx_istore_n (pc := 9) hX d_N_handOverAll_9 rfl (by decide) (L' := [(0, _), (1, _), (2, _)]) rfl ?_
  exact loop _ 0 σ M rfl (Nat.zero_le _) hI hM rfl rfl
set_option maxRecDepth 100000 in
set_option maxHeartbeats 4000000 in
theorem t_N_leastMissing {l : Launch} {D : va_G} {ad : Nat → Nat} {ac : Nat → ClassId} (σ : St) (M : Ms) (hI : Inv M) (hM : repC σ M) : jMp l (yC D ad ac) mt_N_leastMissing TT (rmk 1) [.ref (ad 20)] σ (fun r => r = nI M.least) := by
  obtain ⟨⟨⟨s0, s1, s2, s3⟩, h0, h1, h2, h3, h4, h5, h6, h7, h8, h9, h10, h11, h12, h13⟩, hlf, hpl⟩ := id hM
  obtain ⟨i1, i2, i3, i4, i5, i6, i7, i8⟩ := id hI
  obtain ⟨p1, p2, p3, p4, p5, p6⟩ := id hpl
  have hw8 := i1.le
  have hw2 := i1.pos
  have hnb := nb_le M.w
  have hb0 : ∀ n, n + 1 ≤ M.w → minF M.handed M.w n ≤ 1600 := fun n hn => Nat.le_trans (minF_le n 0 (Nat.zero_le _)) (by have := hI.prod (i := 0) (by omega); omega)
  refine jMp_of (by decide) (Nat.le_of_ble_eq_true rfl) (List.forall_mem_cons.mpr ⟨rfl, fun _ h => absurd h List.not_mem_nil⟩) ?_
  intro X A hX
  have hX : jX X (yC D ad ac) A b_N_leastMissing 3 RN (mt_N_leastMissing.w :: TT) (rmk 1) (some .int) := hX
  show jW l X (yC D ad ac) A 3 0 0 (k0 X) (jQp X (fun r => r = nI M.least)) σ 0 [(0, .ref (ad 20))] []
  have loop : ∀ (fu : Nat) (i : Nat), M.w - i = fu → i + 1 ≤ M.w → jW l X (yC D ad ac) A 3 0 0 (k0 X) (jQp X (fun r => r = nI M.least)) σ 8 [(0, .ref (ad 20)), (1, .int (nI (minF M.handed M.w i))), (2, .int (nI (i + 1)))] [] := by
    intro fu
    induction fu using Nat.strongRecOn with
    | ind fu ih =>
      intro i hfu hi
      refine jx_iload_n (pc := 8) hX d_N_leastMissing_8 rfl rfl ?_
      refine jx_aload_n (pc := 9) hX d_N_leastMissing_9 rfl rfl ?_
      refine g_N_10 (pc := 10) hX d_N_leastMissing_10 ?_
      refine g_N_78 (pc := 13) hX d_N_leastMissing_13 ?_
      refine jx_top (y := nI M.w) (s0) ?_
      refine jx_icmp_ge (pc := 16) hX 35 d_N_leastMissing_16 rfl (fun q16 => ?_) (fun q16 => ?_)
      · have hge : M.w ≤ i + 1 := (nI_leI (by omega) (by omega)).mp q16
        refine jx_iload_n (pc := 35) hX d_N_leastMissing_35 rfl rfl ?_
        exact jx_iretp (pc := 36) hX d_N_leastMissing_36 (by unfold Ms.least; rw [show M.w - 1 = i by omega])
      · have hlt : i + 1 < M.w := Nat.lt_of_not_le (fun q => q16 (nI_le q (by omega)))
        refine jx_iload_n (pc := 19) hX d_N_leastMissing_19 rfl rfl ?_
        refine jx_aload_n (pc := 20) hX d_N_leastMissing_20 rfl rfl ?_
        refine jx_iload_n (pc := 21) hX d_N_leastMissing_21 rfl rfl ?_
        refine k_N_230 (pc := 22) hX (t_N_nextNumberAt σ M hI hM (i + 1) hlt) ⟨rfl, rfl, (Nat.le_of_ble_eq_true rfl), (Nat.le_of_ble_eq_true rfl)⟩ rfl rfl (Nat.le_of_ble_eq_true rfl) ⟨Nat.zero_le _, Nat.zero_le _⟩ d_N_leastMissing_22 (fun r hr => ?_)
        subst hr
        refine jx_min (pc := 25) hX w_N_248 ⟨(Nat.le_of_ble_eq_true rfl), (Nat.le_of_ble_eq_true rfl), Nat.zero_le _, Nat.zero_le _⟩ d_N_leastMissing_25 ?_
        refine jx_top (y := nI (minF M.handed M.w (i + 1))) (by have a := hb0 i hi; have b := hI.prod (i := i + 1) hlt; rw [nI_min (by omega) (by omega)]; rfl) ?_
        refine jx_istore_n (pc := 28) hX d_N_leastMissing_28 rfl (by decide) (L' := [(0, _), (1, _), (2, _)]) rfl ?_
        refine jx_iinc (pc := 29) hX (v := nI (i + 1 + 1)) d_N_leastMissing_29 rfl (nI_1 (i + 1)) (by decide) (L' := [(0, _), (1, _), (2, _)]) rfl ?_
        refine jx_goto (pc := 32) hX 8 d_N_leastMissing_32 rfl ?_
        exact ih _ (by omega) (i + 1) rfl (by omega)
  refine jx_aload_n (pc := 0) hX d_N_leastMissing_0 rfl rfl ?_
  refine jx_iconst (pc := 1) hX (v := 0) d_N_leastMissing_1 rfl ?_
  refine k_N_230 (pc := 2) hX (t_N_nextNumberAt σ M hI hM 0 (by omega)) ⟨rfl, rfl, (Nat.le_of_ble_eq_true rfl), (Nat.le_of_ble_eq_true rfl)⟩ rfl rfl (Nat.le_of_ble_eq_true rfl) ⟨Nat.zero_le _, Nat.zero_le _⟩ d_N_leastMissing_2 (fun r hr => ?_)
  subst hr
  rw [Nat.zero_add]
  refine jx_istore_n (pc := 5) hX d_N_leastMissing_5 rfl (by decide) (L' := [(0, _), (1, _)]) rfl ?_
  refine jx_iconst (pc := 6) hX (v := 1) d_N_leastMissing_6 rfl ?_
  refine jx_istore_n (pc := 7) hX d_N_leastMissing_7 rfl (by decide) (L' := [(0, _), (1, _), (2, _)]) rfl ?_
  exact loop _ 0 rfl (by omega)
set_option maxRecDepth 100000 in
set_option maxHeartbeats 4000000 in
theorem t_N_highestNumber {l : Launch} {D : va_G} {ad : Nat → Nat} {ac : Nat → ClassId} (σ : St) (M : Ms) (hI : Inv M) (hM : repC σ M) : jMp l (yC D ad ac) mt_N_highestNumber TT (rmk 1) [.ref (ad 20)] σ (fun r => r = eP (hi1 M.handed M.w M.w)) := by
  obtain ⟨⟨⟨s0, s1, s2, s3⟩, h0, h1, h2, h3, h4, h5, h6, h7, h8, h9, h10, h11, h12, h13⟩, hlf, hpl⟩ := id hM
  obtain ⟨i1, i2, i3, i4, i5, i6, i7, i8⟩ := id hI
  obtain ⟨p1, p2, p3, p4, p5, p6⟩ := id hpl
  have hw8 := i1.le
  have hw2 := i1.pos
  have hnb := nb_le M.w
  refine jMp_of (by decide) (Nat.le_of_ble_eq_true rfl) (List.forall_mem_cons.mpr ⟨rfl, fun _ h => absurd h List.not_mem_nil⟩) ?_
  intro X A hX
  have hX : jX X (yC D ad ac) A b_N_highestNumber 3 RN (mt_N_highestNumber.w :: TT) (rmk 1) (some .int) := hX
  show jW l X (yC D ad ac) A 3 0 0 (k0 X) (jQp X (fun r => r = eP (hi1 M.handed M.w M.w))) σ 0 [(0, .ref (ad 20))] []
  have loop : ∀ (fu : Nat) (i : Nat), M.w - i = fu → i ≤ M.w → jW l X (yC D ad ac) A 3 0 0 (k0 X) (jQp X (fun r => r = eP (hi1 M.handed M.w M.w))) σ 4 [(0, .ref (ad 20)), (1, .int (eP (hi1 M.handed M.w i))), (2, .int (nI i))] [] := by
    intro fu
    induction fu using Nat.strongRecOn with
    | ind fu ih =>
      intro i hfu hi
      refine jx_iload_n (pc := 4) hX d_N_highestNumber_4 rfl rfl ?_
      refine jx_aload_n (pc := 5) hX d_N_highestNumber_5 rfl rfl ?_
      refine g_N_10 (pc := 6) hX d_N_highestNumber_6 ?_
      refine g_N_78 (pc := 9) hX d_N_highestNumber_9 ?_
      refine jx_top (y := nI M.w) (s0) ?_
      refine jx_icmp_ge (pc := 12) hX 48 d_N_highestNumber_12 rfl (fun q12 => ?_) (fun q12 => ?_)
      · have hge : i = M.w := by have : M.w ≤ i := (nI_leI (by omega) (by omega)).mp q12; omega
        refine jx_iload_n (pc := 48) hX d_N_highestNumber_48 rfl rfl ?_
        exact jx_iretp (pc := 49) hX d_N_highestNumber_49 (by rw [hge])
      · have hlt : i < M.w := Nat.lt_of_not_le (fun q => q12 (nI_le q (by omega)))
        have hh := hI.hand hlt
        refine jx_aload_n (pc := 15) hX d_N_highestNumber_15 rfl rfl ?_
        refine g_N_34 (pc := 16) hX d_N_highestNumber_16 ?_
        refine jx_iload_n (pc := 19) hX d_N_highestNumber_19 rfl rfl ?_
        refine jx_iald (pc := 20) hX oC_1 _ rfl (show i < 8 by omega) d_N_highestNumber_20 ?_
        refine jx_top (y := nI (M.handed i)) (h13 i hlt) ?_
        refine jx_if_le (pc := 21) hX 42 d_N_highestNumber_21 rfl (fun q21 => ?_) (fun q21 => ?_)
        · have hz : M.handed i = 0 := by have : M.handed i ≤ 0 := (nI_leI (by omega) (by omega)).mp q21; omega
          rw [← hi1_s0 (w := M.w) hz]
          refine jx_iinc (pc := 42) hX (v := nI (i + 1)) d_N_highestNumber_42 rfl (nI_1 i) (by decide) (L' := [(0, _), (1, _), (2, _)]) rfl ?_
          refine jx_goto (pc := 45) hX 4 d_N_highestNumber_45 rfl ?_
          exact ih _ (by omega) (i + 1) rfl (by omega)
        · have hne : ¬ M.handed i = 0 := fun q => q21 (by rw [q]; decide)
          have hsub : nI (i + M.w * M.handed i) - nI M.w = eP (i + M.w * (M.handed i - 1) + 1) := by
            have e9 : M.w * M.handed i = M.w * (M.handed i - 1) + M.w := by
              rw [← Nat.mul_succ]; congr 1; omega
            rw [eP_s, pk_sub (by omega)]
            congr 1
            omega
          refine jx_iload_n (pc := 24) hX d_N_highestNumber_24 rfl rfl ?_
          refine jx_aload_n (pc := 25) hX d_N_highestNumber_25 rfl rfl ?_
          refine jx_iload_n (pc := 26) hX d_N_highestNumber_26 rfl rfl ?_
          refine k_N_230 (pc := 27) hX (t_N_nextNumberAt σ M hI hM i hlt) ⟨rfl, rfl, (Nat.le_of_ble_eq_true rfl), (Nat.le_of_ble_eq_true rfl)⟩ rfl rfl (Nat.le_of_ble_eq_true rfl) ⟨Nat.zero_le _, Nat.zero_le _⟩ d_N_highestNumber_27 (fun r hr => ?_)
          subst hr
          refine jx_aload_n (pc := 30) hX d_N_highestNumber_30 rfl rfl ?_
          refine g_N_10 (pc := 31) hX d_N_highestNumber_31 ?_
          refine g_N_78 (pc := 34) hX d_N_highestNumber_34 ?_
          refine jx_top (y := nI M.w) (s0) ?_
          refine jx_isub (pc := 37) hX d_N_highestNumber_37 ?_
          refine jx_top (y := eP (i + M.w * (M.handed i - 1) + 1)) (hsub) ?_
          refine jx_max (pc := 38) hX w_N_253 ⟨(Nat.le_of_ble_eq_true rfl), (Nat.le_of_ble_eq_true rfl), Nat.zero_le _, Nat.zero_le _⟩ d_N_highestNumber_38 ?_
          refine jx_top (y := eP (hi1 M.handed M.w (i + 1))) (by rw [eP_max (by have := hI.hi_le i hi; omega) (by have := hI.prod hlt; have : M.w * (M.handed i - 1) ≤ M.w * M.handed i := Nat.mul_le_mul_left _ (by omega); omega), hi1_s1 hne]) ?_
          refine jx_istore_n (pc := 41) hX d_N_highestNumber_41 rfl (by decide) (L' := [(0, _), (1, _), (2, _)]) rfl ?_
          refine jx_iinc (pc := 42) hX (v := nI (i + 1)) d_N_highestNumber_42 rfl (nI_1 i) (by decide) (L' := [(0, _), (1, _), (2, _)]) rfl ?_
          refine jx_goto (pc := 45) hX 4 d_N_highestNumber_45 rfl ?_
          exact ih _ (by omega) (i + 1) rfl (by omega)
  refine jx_iconst (pc := 0) hX (v := -1) d_N_highestNumber_0 rfl ?_
  refine jx_top (y := eP 0) (by decide) ?_
  refine jx_istore_n (pc := 1) hX d_N_highestNumber_1 rfl (by decide) (L' := [(0, _), (1, _)]) rfl ?_
  refine jx_iconst (pc := 2) hX (v := 0) d_N_highestNumber_2 rfl ?_
  refine jx_istore_n (pc := 3) hX d_N_highestNumber_3 rfl (by decide) (L' := [(0, _), (1, _), (2, _)]) rfl ?_
  exact loop _ 0 rfl (Nat.zero_le _)
set_option maxRecDepth 100000 in
set_option maxHeartbeats 4000000 in
theorem t_N_missingBelowHighest {l : Launch} {D : va_G} {ad : Nat → Nat} {ac : Nat → ClassId} (σ : St) (M : Ms) (hI : Inv M) (hM : repC σ M) : jMp l (yC D ad ac) mt_N_missingBelowHighest TT (rmk 2) [.ref (ad 20)] σ (fun r => r = nI (gaF M.handed M.w (hi1 M.handed M.w M.w - 1))) := by
  obtain ⟨⟨⟨s0, s1, s2, s3⟩, h0, h1, h2, h3, h4, h5, h6, h7, h8, h9, h10, h11, h12, h13⟩, hlf, hpl⟩ := id hM
  obtain ⟨i1, i2, i3, i4, i5, i6, i7, i8⟩ := id hI
  obtain ⟨p1, p2, p3, p4, p5, p6⟩ := id hpl
  have hw8 := i1.le
  have hw2 := i1.pos
  have hnb := nb_le M.w
  have hg := ga_hi (h := M.handed) (show 0 < M.w by omega)
  refine jMp_of (by decide) (Nat.le_of_ble_eq_true rfl) (List.forall_mem_cons.mpr ⟨rfl, fun _ h => absurd h List.not_mem_nil⟩) ?_
  intro X A hX
  have hX : jX X (yC D ad ac) A b_N_missingBelowHighest 2 RN (mt_N_missingBelowHighest.w :: TT) (rmk 2) (some .int) := hX
  show jW l X (yC D ad ac) A 2 0 0 (k0 X) (jQp X (fun r => r = nI (gaF M.handed M.w (hi1 M.handed M.w M.w - 1)))) σ 0 [(0, .ref (ad 20))] []
  refine jx_aload_n (pc := 0) hX d_N_missingBelowHighest_0 rfl rfl ?_
  refine g_N_19 (pc := 1) hX d_N_missingBelowHighest_1 ?_
  refine g_N_90 (pc := 4) hX d_N_missingBelowHighest_4 ?_
  refine jx_top (y := nI M.nt) (s2) ?_
  refine jx_aload_n (pc := 7) hX d_N_missingBelowHighest_7 rfl rfl ?_
  refine g_N_19 (pc := 8) hX d_N_missingBelowHighest_8 ?_
  refine g_N_93 (pc := 11) hX d_N_missingBelowHighest_11 ?_
  refine jx_top (y := nI M.left) (hlf) ?_
  refine jx_isub (pc := 14) hX d_N_missingBelowHighest_14 ?_
  refine jx_top (y := nI (sumF M.handed M.w)) (by rw [pk_sub (by omega)]; congr 1; omega) ?_
  refine jx_istore_n (pc := 15) hX d_N_missingBelowHighest_15 rfl (by decide) (L' := [(0, _), (1, _)]) rfl ?_
  refine jx_aload_n (pc := 16) hX d_N_missingBelowHighest_16 rfl rfl ?_
  refine k_N_177 (pc := 17) hX (t_N_highestNumber σ M hI hM) ⟨rfl, rfl, (Nat.le_of_ble_eq_true rfl), (Nat.le_of_ble_eq_true rfl)⟩ rfl rfl (Nat.le_of_ble_eq_true rfl) ⟨Nat.zero_le _, Nat.zero_le _⟩ d_N_missingBelowHighest_17 (fun r hr => ?_)
  subst hr
  refine jx_iconst (pc := 20) hX (v := 1) d_N_missingBelowHighest_20 rfl ?_
  refine jx_iadd (pc := 21) hX d_N_missingBelowHighest_21 ?_
  refine jx_top (y := nI (hi1 M.handed M.w M.w)) (eP_1 _) ?_
  refine jx_iload_n (pc := 22) hX d_N_missingBelowHighest_22 rfl rfl ?_
  refine jx_isub (pc := 23) hX d_N_missingBelowHighest_23 ?_
  refine jx_top (y := nI (gaF M.handed M.w (hi1 M.handed M.w M.w - 1))) (by rw [pk_sub (by omega)]; congr 1; omega) ?_
  exact jx_iretp (pc := 24) hX d_N_missingBelowHighest_24 (rfl)
set_option maxRecDepth 100000 in
set_option maxHeartbeats 4000000 in
theorem t_N_shownNumber {l : Launch} {D : va_G} {ad : Nat → Nat} {ac : Nat → ClassId} (σ : St) (M : Ms) (hI : Inv M) (hM : repC σ M) (t : Nat) (ht : t < M.nt) : jMp l (yC D ad ac) mt_N_shownNumber TT (rmk 2) [.ref (ad 20), .int (nI t)] σ (fun r => r = eO (M.shown t)) := by
  obtain ⟨⟨⟨s0, s1, s2, s3⟩, h0, h1, h2, h3, h4, h5, h6, h7, h8, h9, h10, h11, h12, h13⟩, hlf, hpl⟩ := id hM
  obtain ⟨i1, i2, i3, i4, i5, i6, i7, i8⟩ := id hI
  obtain ⟨p1, p2, p3, p4, p5, p6⟩ := id hpl
  have hw8 := i1.le
  have hw2 := i1.pos
  have hnb := nb_le M.w
  obtain ⟨j1, j2, j3, j4, j5, j6⟩ := i6 t ht
  have ht9 : t < 200 := by omega
  refine jMp_of (by decide) (Nat.le_of_ble_eq_true rfl) (List.forall_mem_cons.mpr ⟨rfl, List.forall_mem_cons.mpr ⟨rfl, fun _ h => absurd h List.not_mem_nil⟩⟩) ?_
  intro X A hX
  have hX : jX X (yC D ad ac) A b_N_shownNumber 3 RN (mt_N_shownNumber.w :: TT) (rmk 2) (some .int) := hX
  show jW l X (yC D ad ac) A 3 0 0 (k0 X) (jQp X (fun r => r = eO (M.shown t))) σ 0 [(0, .ref (ad 20)), (1, .int (nI t))] []
  refine jx_aload_n (pc := 0) hX d_N_shownNumber_0 rfl rfl ?_
  refine g_N_19 (pc := 1) hX d_N_shownNumber_1 ?_
  refine g_N_151 (pc := 4) hX d_N_shownNumber_4 ?_
  refine jx_iload_n (pc := 7) hX d_N_shownNumber_7 rfl rfl ?_
  refine jx_iald (pc := 8) hX oC_11 _ rfl ht9 d_N_shownNumber_8 ?_
  refine jx_top (y := nI (M.state t)) (h2 t ht) ?_
  refine jx_iconst (pc := 9) hX (v := 2) d_N_shownNumber_9 rfl ?_
  refine jx_icmp_eq (pc := 10) hX 15 d_N_shownNumber_10 rfl (fun q10 => ?_) (fun q10 => ?_)
  · have a10 : M.state t = 2 := (nI_n2 (by omega)).mp q10
    obtain ⟨q, hq⟩ : ∃ q, M.number t = some q := Option.isSome_iff_exists.mp (j5.mp a10)
    have hqb := hI.num ht hq
    have hlb : M.least ≤ 1600 := Nat.le_trans (minF_le (M.w - 1) 0 (Nat.zero_le _)) (by have := hI.prod (i := 0) (by omega); omega)
    refine jx_aload_n (pc := 15) hX d_N_shownNumber_15 rfl rfl ?_
    refine g_N_19 (pc := 16) hX d_N_shownNumber_16 ?_
    refine g_N_239 (pc := 19) hX d_N_shownNumber_19 ?_
    refine jx_iload_n (pc := 22) hX d_N_shownNumber_22 rfl rfl ?_
    refine jx_iald (pc := 23) hX oC_15 _ rfl ht9 d_N_shownNumber_23 ?_
    refine jx_top (y := nI q) (by rw [h6 t ht, hq]; rfl) ?_
    refine jx_istore_n (pc := 24) hX d_N_shownNumber_24 rfl (by decide) (L' := [(0, _), (1, _), (2, _)]) rfl ?_
    refine jx_aload_n (pc := 25) hX d_N_shownNumber_25 rfl rfl ?_
    refine g_N_19 (pc := 26) hX d_N_shownNumber_26 ?_
    refine g_N_242 (pc := 29) hX d_N_shownNumber_29 ?_
    refine jx_iload_n (pc := 32) hX d_N_shownNumber_32 rfl rfl ?_
    refine jx_zald (pc := 33) hX oC_16 _ rfl ht9 d_N_shownNumber_33 ?_
    refine jx_top (y := eB (M.ordered t)) (h7 t ht) ?_
    refine jx_if_eq (pc := 34) hX 49 d_N_shownNumber_34 rfl (fun q34 => ?_) (fun q34 => ?_)
    · have a34 : M.ordered t = false := eB_0.mp q34
      refine jx_iload_n (pc := 49) hX d_N_shownNumber_49 rfl rfl ?_
      exact jx_iretp (pc := 50) hX d_N_shownNumber_50 (by rw [Ms.shown_some hq, if_neg (by rw [a34]; exact fun a => absurd a.1 (by decide))]; rfl)
    · have a34 : M.ordered t = true := eB_n0.mp q34
      refine jx_iload_n (pc := 37) hX d_N_shownNumber_37 rfl rfl ?_
      refine jx_aload_n (pc := 38) hX d_N_shownNumber_38 rfl rfl ?_
      refine k_N_245 (pc := 39) hX (t_N_leastMissing σ M hI hM) ⟨rfl, rfl, (Nat.le_of_ble_eq_true rfl), (Nat.le_of_ble_eq_true rfl)⟩ rfl rfl (Nat.le_of_ble_eq_true rfl) ⟨Nat.zero_le _, Nat.zero_le _⟩ d_N_shownNumber_39 (fun r hr => ?_)
      subst hr
      refine jx_icmp_le (pc := 42) hX 49 d_N_shownNumber_42 rfl (fun q42 => ?_) (fun q42 => ?_)
      · have a42 : q ≤ M.least := (nI_leI (by omega) (by omega)).mp q42
        refine jx_iload_n (pc := 49) hX d_N_shownNumber_49 rfl rfl ?_
        exact jx_iretp (pc := 50) hX d_N_shownNumber_50 (by rw [Ms.shown_some hq, if_neg (fun a => a.2 a42)]; rfl)
      · have a42 : ¬ q ≤ M.least := fun a => q42 (nI_le a (by omega))
        refine jx_iconst (pc := 45) hX (v := -1) d_N_shownNumber_45 rfl ?_
        refine jx_goto (pc := 46) hX 50 d_N_shownNumber_46 rfl ?_
        exact jx_iretp (pc := 50) hX d_N_shownNumber_50 (by rw [Ms.shown_some hq, if_pos ⟨a34, a42⟩]; rfl)
  · have hq : M.number t = none := by
      cases hq : M.number t with
      | none => rfl
      | some q => exact absurd ((nI_n2 (by omega)).mpr (j5.mpr (by rw [hq]; rfl))) q10
    refine jx_iconst (pc := 13) hX (v := -1) d_N_shownNumber_13 rfl ?_
    exact jx_iretp (pc := 14) hX d_N_shownNumber_14 (by rw [Ms.shown_none hq]; rfl)
set_option maxRecDepth 100000 in
set_option maxHeartbeats 4000000 in
theorem t_N_resend {l : Launch} {D : va_G} {ad : Nat → Nat} {ac : Nat → ClassId} (σ : St) (M : Ms) (hI : Inv M) (hM : repC σ M) : jMi l (yC D ad ac) mt_N_resend TT (rmk 3) [.ref (ad 20)] σ (fun r u => r = nI (M.resend.nl - M.nl) ∧ repC u M.resend) := by
  have i3 : M.nt ≤ 200 := hI.2.2.1
  have i4 : M.nl ≤ 60 := hI.2.2.2.1
  refine jMi_of (by decide) (Nat.le_of_ble_eq_true rfl) (List.forall_mem_cons.mpr ⟨rfl, fun _ h => absurd h List.not_mem_nil⟩) ?_
  intro X A hX
  have hX : jX X (yC D ad ac) A b_N_resend 3 RN (mt_N_resend.w :: TT) (rmk 3) (some .int) := hX
  show jW l X (yC D ad ac) A 3 0 0 kT (jQi X (yC D ad ac) A (fun r u => r = nI (M.resend.nl - M.nl) ∧ repC u M.resend)) σ 0 [(0, .ref (ad 20))] []
  have loop : ∀ (fu : Nat) (t : Nat) (σ1 : St) (M1 : Ms), M.nt - t = fu → t ≤ M.nt → Inv M1 → repC σ1 M1 → M1.nt = M.nt → M.nl ≤ M1.nl → Ms.resF (M.nt - t) t M1 = M.resend → jW l X (yC D ad ac) A 3 0 0 kT (jQi X (yC D ad ac) A (fun r u => r = nI (M.resend.nl - M.nl) ∧ repC u M.resend)) σ1 10 [(0, .ref (ad 20)), (1, .int (nI M.nl)), (2, .int (nI t))] [] := by
    intro fu
    induction fu using Nat.strongRecOn with
    | ind fu ih =>
      intro t σ1 M1 hfu htl hI1 hM1 e1 e3 e2
      have j4 : M1.nl ≤ 60 := hI1.2.2.2.1
      refine jx_iload_n (pc := 10) hX d_N_resend_10 rfl rfl ?_
      refine jx_aload_n (pc := 11) hX d_N_resend_11 rfl rfl ?_
      refine g_N_19 (pc := 12) hX d_N_resend_12 ?_
      refine g_N_90 (pc := 15) hX d_N_resend_15 ?_
      refine jx_top (y := nI M.nt) (by rw [← e1]; exact hM1.1.1.2.2.1) ?_
      refine jx_icmp_ge (pc := 18) hX 92 d_N_resend_18 rfl (fun q18 => ?_) (fun q18 => ?_)
      · have hge : M.nt ≤ t := (nI_leI (by omega) (by omega)).mp q18
        have hend : M1 = M.resend := by rw [← e2, Nat.sub_eq_zero_of_le hge]; rfl
        refine jx_aload_n (pc := 92) hX d_N_resend_92 rfl rfl ?_
        refine g_N_26 (pc := 93) hX d_N_resend_93 ?_
        refine g_N_148 (pc := 96) hX d_N_resend_96 ?_
        refine jx_top (y := nI M1.nl) (hM1.1.1.2.2.2) ?_
        refine jx_iload_n (pc := 99) hX d_N_resend_99 rfl rfl ?_
        refine jx_isub (pc := 100) hX d_N_resend_100 ?_
        refine jx_top (y := nI (M1.nl - M.nl)) (pk_sub e3) ?_
        exact jx_iret (pc := 101) hX d_N_resend_101 (by rw [← hend]; exact ⟨rfl, hM1⟩)
      · have hlt : t < M.nt := Nat.lt_of_not_le (fun q => q18 (nI_le q (by omega)))
        have hs9 := (hI1.2.2.2.2.2.1 t (by omega)).2.2.1
        refine jx_aload_n (pc := 21) hX d_N_resend_21 rfl rfl ?_
        refine g_N_26 (pc := 22) hX d_N_resend_22 ?_
        refine k_N_129 (pc := 25) hX (t_B_hasRoom σ1 M1.nl (by omega) hM1.1.1.2.2.2) ⟨rfl, rfl, (Nat.le_of_ble_eq_true rfl), (Nat.le_of_ble_eq_true rfl)⟩ rfl rfl (Nat.le_of_ble_eq_true rfl) ⟨Nat.zero_le _, Nat.zero_le _⟩ d_N_resend_25 (fun r hr => ?_)
        subst hr
        refine jx_if_eq (pc := 28) hX 92 d_N_resend_28 rfl (fun q28 => ?_) (fun q28 => ?_)
        · have a28 : ¬ M1.nl < 60 := of_decide_eq_false (eB_0.mp q28)
          have hend : M1 = M.resend := by rw [← e2, Ms.resF_f a28]
          refine jx_aload_n (pc := 92) hX d_N_resend_92 rfl rfl ?_
          refine g_N_26 (pc := 93) hX d_N_resend_93 ?_
          refine g_N_148 (pc := 96) hX d_N_resend_96 ?_
          refine jx_top (y := nI M1.nl) (hM1.1.1.2.2.2) ?_
          refine jx_iload_n (pc := 99) hX d_N_resend_99 rfl rfl ?_
          refine jx_isub (pc := 100) hX d_N_resend_100 ?_
          refine jx_top (y := nI (M1.nl - M.nl)) (pk_sub e3) ?_
          exact jx_iret (pc := 101) hX d_N_resend_101 (by rw [← hend]; exact ⟨rfl, hM1⟩)
        · have a28 : M1.nl < 60 := of_decide_eq_true (eB_n0.mp q28)
          refine jx_aload_n (pc := 31) hX d_N_resend_31 rfl rfl ?_
          refine g_N_19 (pc := 32) hX d_N_resend_32 ?_
          refine g_N_151 (pc := 35) hX d_N_resend_35 ?_
          refine jx_iload_n (pc := 38) hX d_N_resend_38 rfl rfl ?_
          refine jx_iald (pc := 39) hX oC_11 _ rfl (show t < 200 by omega) d_N_resend_39 ?_
          refine jx_top (y := nI (M1.state t)) (hM1.1.2.2.2.1 t (by omega)) ?_
          refine jx_iconst (pc := 40) hX (v := 1) d_N_resend_40 rfl ?_
          refine jx_icmp_ne (pc := 41) hX 86 d_N_resend_41 rfl (fun q41 => ?_) (fun q41 => ?_)
          · have a41 : ¬ M1.state t = 1 := fun q => q41 ((nI_n1 (by omega)).mpr q)
            refine jx_iinc (pc := 86) hX (v := nI (t + 1)) d_N_resend_86 rfl (nI_1 t) (by decide) (L' := [(0, _), (1, _), (2, _)]) rfl ?_
            refine jx_goto (pc := 89) hX 10 d_N_resend_89 rfl ?_
            exact ih _ (by omega) (t + 1) σ1 M1 rfl (by omega) hI1 hM1 e1 e3 (by rw [← e2, Ms.resF_s hlt a28, Ms.res1_f (Or.inl a41)])
          · have a41 : M1.state t = 1 := (nI_n1 (by omega)).mp q41
            refine jx_aload_n (pc := 44) hX d_N_resend_44 rfl rfl ?_
            refine g_N_26 (pc := 45) hX d_N_resend_45 ?_
            refine jx_iload_n (pc := 48) hX d_N_resend_48 rfl rfl ?_
            refine jx_aload_n (pc := 49) hX d_N_resend_49 rfl rfl ?_
            refine g_N_19 (pc := 50) hX d_N_resend_50 ?_
            refine g_N_154 (pc := 53) hX d_N_resend_53 ?_
            refine jx_iload_n (pc := 56) hX d_N_resend_56 rfl rfl ?_
            refine jx_iald (pc := 57) hX oC_14 _ rfl (show t < 200 by omega) d_N_resend_57 ?_
            refine jx_top (y := M1.way t) (hM1.1.2.2.2.2.2.2.1 t (by omega)) ?_
            refine k_N_155 (pc := 58) hX (t_B_holds σ1 M1 hI1 hM1 t (by omega) (M1.way t)) ⟨rfl, rfl, (Nat.le_of_ble_eq_true rfl), (Nat.le_of_ble_eq_true rfl)⟩ rfl rfl (Nat.le_of_ble_eq_true rfl) ⟨Nat.zero_le _, Nat.zero_le _⟩ d_N_resend_58 (fun r hr => ?_)
            subst hr
            refine jx_if_ne (pc := 61) hX 86 d_N_resend_61 rfl (fun q61 => ?_) (fun q61 => ?_)
            · have a61 : M1.holds t = true := eB_n0.mp q61
              refine jx_iinc (pc := 86) hX (v := nI (t + 1)) d_N_resend_86 rfl (nI_1 t) (by decide) (L' := [(0, _), (1, _), (2, _)]) rfl ?_
              refine jx_goto (pc := 89) hX 10 d_N_resend_89 rfl ?_
              exact ih _ (by omega) (t + 1) σ1 M1 rfl (by omega) hI1 hM1 e1 e3 (by rw [← e2, Ms.resF_s hlt a28, Ms.res1_f (Or.inr a61)])
            · have a61 : M1.holds t = false := eB_0.mp q61
              refine jx_aload_n (pc := 64) hX d_N_resend_64 rfl rfl ?_
              refine g_N_26 (pc := 65) hX d_N_resend_65 ?_
              refine jx_iload_n (pc := 68) hX d_N_resend_68 rfl rfl ?_
              refine jx_aload_n (pc := 69) hX d_N_resend_69 rfl rfl ?_
              refine g_N_19 (pc := 70) hX d_N_resend_70 ?_
              refine g_N_154 (pc := 73) hX d_N_resend_73 ?_
              refine jx_iload_n (pc := 76) hX d_N_resend_76 rfl rfl ?_
              refine jx_iald (pc := 77) hX oC_14 _ rfl (show t < 200 by omega) d_N_resend_77 ?_
              refine jx_top (y := M1.way t) (hM1.1.2.2.2.2.2.2.1 t (by omega)) ?_
              refine jx_aload_n (pc := 78) hX d_N_resend_78 rfl rfl ?_
              refine jx_iload_n (pc := 79) hX d_N_resend_79 rfl rfl ?_
              refine k_N_159 (pc := 80) hX (t_N_stationOfNext σ1 M1 hI1 hM1 t (by omega)) ⟨rfl, rfl, (Nat.le_of_ble_eq_true rfl), (Nat.le_of_ble_eq_true rfl)⟩ rfl rfl (Nat.le_of_ble_eq_true rfl) ⟨Nat.zero_le _, Nat.zero_le _⟩ d_N_resend_80 (fun r hr => ?_)
              subst hr
              refine k_N_144 (pc := 83) hX (t_B_post σ1 M1.nl a28 hM1.1.1.2.2.2 (nI t) (M1.way t) (nI (M1.stN t))) ⟨rfl, rfl, (Nat.le_of_ble_eq_true rfl), (Nat.le_of_ble_eq_true rfl)⟩ rfl rfl (Nat.le_of_ble_eq_true rfl) ⟨Nat.zero_le _, Nat.zero_le _⟩ d_N_resend_83 (fun u hu => ?_)
              subst hu
              refine jx_iinc (pc := 86) hX (v := nI (t + 1)) d_N_resend_86 rfl (nI_1 t) (by decide) (L' := [(0, _), (1, _), (2, _)]) rfl ?_
              refine jx_goto (pc := 89) hX 10 d_N_resend_89 rfl ?_
              exact ih _ (by omega) (t + 1) _ (M1.post t (M1.way t) (M1.stN t)) rfl (by omega) (hI1.post (by omega) (Ms.stN_lt hI1.2.1.1 t) a28) ⟨hM1.1.post rfl rfl, hM1.2.1, hM1.2.2⟩ e1 (Nat.le_trans e3 (Nat.le_succ _)) (by rw [← e2, Ms.resF_s hlt a28, Ms.res1_t a41 a61])
  refine jx_aload_n (pc := 0) hX d_N_resend_0 rfl rfl ?_
  refine g_N_26 (pc := 1) hX d_N_resend_1 ?_
  refine g_N_148 (pc := 4) hX d_N_resend_4 ?_
  refine jx_top (y := nI M.nl) (hM.1.1.2.2.2) ?_
  refine jx_istore_n (pc := 7) hX d_N_resend_7 rfl (by decide) (L' := [(0, _), (1, _)]) rfl ?_
  refine jx_iconst (pc := 8) hX (v := 0) d_N_resend_8 rfl ?_
  refine jx_istore_n (pc := 9) hX d_N_resend_9 rfl (by decide) (L' := [(0, _), (1, _), (2, _)]) rfl ?_
  exact loop _ 0 σ M rfl (Nat.zero_le _) hI hM rfl (Nat.le_refl _) rfl
