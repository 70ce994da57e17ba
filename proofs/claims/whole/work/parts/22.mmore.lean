set_option maxRecDepth 100000 in
set_option maxHeartbeats 4000000 in
theorem t_M_take {l : Launch} {D : va_G} {ad : Nat → Nat} {ac : Nat → ClassId} (σ : St) (M : Ms) (hI : Inv M) (hM : repM σ M) (i : Nat) (hi : i < M.nl) : jMv l (yM D ad ac) mt_M_take TT (rmk 0) [.ref (ad 19), .int (nI i)] σ (fun u => repM u (M.take i) ∧ u.1 0 = σ.1 0) := by
  obtain ⟨⟨⟨s0, s1, s2, s3⟩, h0, h1, h2, h3, h4, h5, h6, h7, h8, h9, h10, h11, h12, h13⟩, hpl⟩ := id hM
  obtain ⟨i1, i2, i3, i4, i5, i6, i7, i8⟩ := id hI
  obtain ⟨p1, p3, p4, p5, p6⟩ := id hpl
  have hw8 := i1.le
  have hw2 := i1.pos
  have hnb := nb_le M.w
  have hb : σ.1 5 - 1 = nI (M.nl - 1) := by rw [s3, nI_c1, pk_sub (by omega)]
  refine jMv_of (by decide) (Nat.le_of_ble_eq_true rfl) (List.forall_mem_cons.mpr ⟨rfl, List.forall_mem_cons.mpr ⟨rfl, fun _ h => absurd h List.not_mem_nil⟩⟩) ?_
  intro X A hX
  have hX : jX X (yM D ad ac) A b_M_take 3 RM (mt_M_take.w :: TT) (rmk 0) none := hX
  show jW l X (yM D ad ac) A 3 0 0 kT (jQv X (yM D ad ac) A (fun u => repM u (M.take i) ∧ u.1 0 = σ.1 0)) σ 0 [(0, .ref (ad 19)), (1, .int (nI i))] []
  have loop : ∀ (fu : Nat) (k : Nat), M.nl - k = fu → i ≤ k → k + 1 ≤ M.nl → jW l X (yM D ad ac) A 3 0 0 kT (jQv X (yM D ad ac) A (fun u => repM u (M.take i) ∧ u.1 0 = σ.1 0)) (sR (sR (sR (sF σ 5 (σ.1 5 - 1)) 16 (cp (σ.2 16) i k)) 17 (cp (σ.2 17) i k)) 18 (cp (σ.2 18) i k)) 12 [(0, .ref (ad 19)), (1, .int (nI i)), (2, .int (nI k))] [] := by
    intro fu
    induction fu using Nat.strongRecOn with
    | ind fu ih =>
      intro k hfu hik hk
      refine jx_iload_n (pc := 12) hX d_M_take_12 rfl rfl ?_
      refine jx_aload_n (pc := 13) hX d_M_take_13 rfl rfl ?_
      refine g_M_102 (pc := 14) hX d_M_take_14 ?_
      refine jx_top (y := nI (M.nl - 1)) (hb) ?_
      refine jx_icmp_ge (pc := 17) hX 68 d_M_take_17 rfl (fun q17 => ?_) (fun q17 => ?_)
      · have hge : k = M.nl - 1 := by have : M.nl - 1 ≤ k := (nI_leI (by omega) (by omega)).mp q17; omega
        subst hge
        exact jx_vret (pc := 68) hX d_M_take_68 (by have e : M.nl - 1 - i = M.nl - i - 1 := (by omega); exact ⟨⟨hM.1.take hi (by have := h8.cut hi; rw [← e] at this; exact this) (by have := h9.cut hi; rw [← e] at this; exact this) (by have := h10.cut hi; rw [← e] at this; exact this), hpl⟩, rfl⟩)
      · have hlt : k < M.nl - 1 := Nat.lt_of_not_le (fun q => q17 (nI_le q (by omega)))
        refine jx_aload_n (pc := 20) hX d_M_take_20 rfl rfl ?_
        refine g_M_59 (pc := 21) hX d_M_take_21 ?_
        refine jx_iload_n (pc := 24) hX d_M_take_24 rfl rfl ?_
        refine jx_aload_n (pc := 25) hX d_M_take_25 rfl rfl ?_
        refine g_M_59 (pc := 26) hX d_M_take_26 ?_
        refine jx_iload_n (pc := 29) hX d_M_take_29 rfl rfl ?_
        refine jx_iconst (pc := 30) hX (v := 1) d_M_take_30 rfl ?_
        refine jx_iadd (pc := 31) hX d_M_take_31 ?_
        refine jx_top (y := nI (k + 1)) (nI_1 k) ?_
        refine jx_iald (pc := 32) hX oM_16 _ rfl (show k + 1 < 60 by omega) d_M_take_32 ?_
        refine jx_top (y := σ.2 16 (k + 1)) (cp_at _ hik) ?_
        refine jx_iast (pc := 33) hX oM_16 _ rfl (show k < 60 by omega) d_M_take_33 ?_
        refine jx_aload_n (pc := 34) hX d_M_take_34 rfl rfl ?_
        refine g_M_62 (pc := 35) hX d_M_take_35 ?_
        refine jx_iload_n (pc := 38) hX d_M_take_38 rfl rfl ?_
        refine jx_aload_n (pc := 39) hX d_M_take_39 rfl rfl ?_
        refine g_M_62 (pc := 40) hX d_M_take_40 ?_
        refine jx_iload_n (pc := 43) hX d_M_take_43 rfl rfl ?_
        refine jx_iconst (pc := 44) hX (v := 1) d_M_take_44 rfl ?_
        refine jx_iadd (pc := 45) hX d_M_take_45 ?_
        refine jx_top (y := nI (k + 1)) (nI_1 k) ?_
        refine jx_iald (pc := 46) hX oM_17 _ rfl (show k + 1 < 60 by omega) d_M_take_46 ?_
        refine jx_top (y := σ.2 17 (k + 1)) (cp_at _ hik) ?_
        refine jx_iast (pc := 47) hX oM_17 _ rfl (show k < 60 by omega) d_M_take_47 ?_
        refine jx_aload_n (pc := 48) hX d_M_take_48 rfl rfl ?_
        refine g_M_65 (pc := 49) hX d_M_take_49 ?_
        refine jx_iload_n (pc := 52) hX d_M_take_52 rfl rfl ?_
        refine jx_aload_n (pc := 53) hX d_M_take_53 rfl rfl ?_
        refine g_M_65 (pc := 54) hX d_M_take_54 ?_
        refine jx_iload_n (pc := 57) hX d_M_take_57 rfl rfl ?_
        refine jx_iconst (pc := 58) hX (v := 1) d_M_take_58 rfl ?_
        refine jx_iadd (pc := 59) hX d_M_take_59 ?_
        refine jx_top (y := nI (k + 1)) (nI_1 k) ?_
        refine jx_iald (pc := 60) hX oM_18 _ rfl (show k + 1 < 60 by omega) d_M_take_60 ?_
        refine jx_top (y := σ.2 18 (k + 1)) (cp_at _ hik) ?_
        refine jx_iast (pc := 61) hX oM_18 _ rfl (show k < 60 by omega) d_M_take_61 ?_
        refine jx_iinc (pc := 62) hX (v := nI (k + 1)) d_M_take_62 rfl (nI_1 k) (by decide) (L' := [(0, _), (1, _), (2, _)]) rfl ?_
        refine jx_goto (pc := 65) hX 12 d_M_take_65 rfl ?_
        refine jx_to (ih _ (by omega) (k + 1) rfl (by omega) (by omega)) ?_ rfl rfl rfl
        rw [sR3, cp_s _ hik, cp_s _ hik, cp_s _ hik]
  refine jx_aload_n (pc := 0) hX d_M_take_0 rfl rfl ?_
  refine jx_dup (pc := 1) hX d_M_take_1 rfl ?_
  refine g_M_102 (pc := 2) hX d_M_take_2 ?_
  refine jx_iconst (pc := 5) hX (v := 1) d_M_take_5 rfl ?_
  refine jx_isub (pc := 6) hX d_M_take_6 ?_
  refine p_M_102 (pc := 7) hX d_M_take_7 ?_
  refine jx_iload_n (pc := 10) hX d_M_take_10 rfl rfl ?_
  refine jx_istore_n (pc := 11) hX d_M_take_11 rfl (by decide) (L' := [(0, _), (1, _), (2, _)]) rfl ?_
  exact jx_to (loop _ i rfl (Nat.le_refl _) (by omega)) (by rw [cp_0, cp_0, cp_0]; exact sR3_0 _) rfl rfl rfl
set_option maxRecDepth 100000 in
set_option maxHeartbeats 4000000 in
theorem t_M_hasLetter {l : Launch} {D : va_G} {ad : Nat → Nat} {ac : Nat → ClassId} (σ : St) (M : Ms) (hI : Inv M) (hM : repM σ M) (t : Nat) (ht : t < M.nt) : jMp l (yM D ad ac) mt_M_hasLetter TT (rmk 0) [.ref (ad 19), .int (nI t)] σ (fun r => r = eB (M.holds t)) := by
  obtain ⟨⟨⟨s0, s1, s2, s3⟩, h0, h1, h2, h3, h4, h5, h6, h7, h8, h9, h10, h11, h12, h13⟩, hpl⟩ := id hM
  obtain ⟨i1, i2, i3, i4, i5, i6, i7, i8⟩ := id hI
  obtain ⟨p1, p3, p4, p5, p6⟩ := id hpl
  have hw8 := i1.le
  have hw2 := i1.pos
  have hnb := nb_le M.w
  obtain ⟨j1, j2, j3, j4, j5, j6⟩ := i6 t ht
  have ht9 : t < 200 := by omega
  have jp : ∀ p, M.place t = some p → p < 2 ^ 31 := fun p hp => by have := j2 p hp; omega
  refine jMp_of (by decide) (Nat.le_of_ble_eq_true rfl) (List.forall_mem_cons.mpr ⟨rfl, List.forall_mem_cons.mpr ⟨rfl, fun _ h => absurd h List.not_mem_nil⟩⟩) ?_
  intro X A hX
  have hX : jX X (yM D ad ac) A b_M_hasLetter 4 RM (mt_M_hasLetter.w :: TT) (rmk 0) (some .boolean) := hX
  show jW l X (yM D ad ac) A 4 0 0 (k0 X) (jQp X (fun r => r = eB (M.holds t))) σ 0 [(0, .ref (ad 19)), (1, .int (nI t))] []
  have loop : ∀ (fu : Nat) (k : Nat), M.nl - k = fu → k ≤ M.nl → jW l X (yM D ad ac) A 4 0 0 (k0 X) (jQp X (fun r => r = eB (M.holds t))) σ 4 [(0, .ref (ad 19)), (1, .int (nI t)), (2, .int (eB (hasF M.la M.lw t (M.way t) k))), (3, .int (nI k))] [] := by
    intro fu
    induction fu using Nat.strongRecOn with
    | ind fu ih =>
      intro k hfu hkl
      refine jx_iload_n (pc := 4) hX d_M_hasLetter_4 rfl rfl ?_
      refine jx_aload_n (pc := 5) hX d_M_hasLetter_5 rfl rfl ?_
      refine g_M_102 (pc := 6) hX d_M_hasLetter_6 ?_
      refine jx_top (y := nI M.nl) (s3) ?_
      refine jx_icmp_ge (pc := 9) hX 53 d_M_hasLetter_9 rfl (fun q9 => ?_) (fun q9 => ?_)
      · have hge : k = M.nl := by have : M.nl ≤ k := (nI_leI (by omega) (by omega)).mp q9; omega
        refine jx_iload_n (pc := 53) hX d_M_hasLetter_53 rfl rfl ?_
        exact jx_zretp (pc := 54) hX d_M_hasLetter_54 (eB_zr _) (by rw [hge]; rfl)
      · have hlt : k < M.nl := Nat.lt_of_not_le (fun q => q9 (nI_le q (by omega)))
        have k9 := i7 k hlt
        refine jx_iload_n (pc := 12) hX d_M_hasLetter_12 rfl rfl ?_
        refine jx_if_ne (pc := 13) hX 41 d_M_hasLetter_13 rfl (fun q13 => ?_) (fun q13 => ?_)
        · refine jx_iconst (pc := 41) hX (v := 1) d_M_hasLetter_41 rfl ?_
          refine jx_goto (pc := 42) hX 46 d_M_hasLetter_42 rfl ?_
          refine jx_istore_n (pc := 46) hX d_M_hasLetter_46 rfl (by decide) (L' := [(0, _), (1, _), (2, _), (3, _)]) rfl ?_
          refine jx_iinc (pc := 47) hX (v := nI (k + 1)) d_M_hasLetter_47 rfl (nI_1 k) (by decide) (L' := [(0, _), (1, _), (2, _), (3, _)]) rfl ?_
          refine jx_goto (pc := 50) hX 4 d_M_hasLetter_50 rfl ?_
          exact jx_to (ih _ (by omega) (k + 1) rfl (by omega)) rfl rfl (by rw [hasF_s1 (Or.inl (eB_n0.mp q13))]; rfl) rfl
        · refine jx_aload_n (pc := 16) hX d_M_hasLetter_16 rfl rfl ?_
          refine g_M_59 (pc := 17) hX d_M_hasLetter_17 ?_
          refine jx_iload_n (pc := 20) hX d_M_hasLetter_20 rfl rfl ?_
          refine jx_iald (pc := 21) hX oM_16 _ rfl (show k < 60 by omega) d_M_hasLetter_21 ?_
          refine jx_top (y := nI (M.la k)) (h8 k hlt) ?_
          refine jx_iload_n (pc := 22) hX d_M_hasLetter_22 rfl rfl ?_
          refine jx_icmp_ne (pc := 23) hX 45 d_M_hasLetter_23 rfl (fun q23 => ?_) (fun q23 => ?_)
          · refine jx_iconst (pc := 45) hX (v := 0) d_M_hasLetter_45 rfl ?_
            refine jx_istore_n (pc := 46) hX d_M_hasLetter_46 rfl (by decide) (L' := [(0, _), (1, _), (2, _), (3, _)]) rfl ?_
            refine jx_iinc (pc := 47) hX (v := nI (k + 1)) d_M_hasLetter_47 rfl (nI_1 k) (by decide) (L' := [(0, _), (1, _), (2, _), (3, _)]) rfl ?_
            refine jx_goto (pc := 50) hX 4 d_M_hasLetter_50 rfl ?_
            exact jx_to (ih _ (by omega) (k + 1) rfl (by omega)) rfl rfl (by rw [hasF_s0 (eB_0.mp q13) (fun q => q23 (by rw [q.1]))]; rfl) rfl
          · refine jx_aload_n (pc := 26) hX d_M_hasLetter_26 rfl rfl ?_
            refine g_M_65 (pc := 27) hX d_M_hasLetter_27 ?_
            refine jx_iload_n (pc := 30) hX d_M_hasLetter_30 rfl rfl ?_
            refine jx_iald (pc := 31) hX oM_18 _ rfl (show k < 60 by omega) d_M_hasLetter_31 ?_
            refine jx_top (y := M.lw k) (h9 k hlt) ?_
            refine jx_aload_n (pc := 32) hX d_M_hasLetter_32 rfl rfl ?_
            refine g_M_53 (pc := 33) hX d_M_hasLetter_33 ?_
            refine jx_iload_n (pc := 36) hX d_M_hasLetter_36 rfl rfl ?_
            refine jx_iald (pc := 37) hX oM_14 _ rfl ht9 d_M_hasLetter_37 ?_
            refine jx_top (y := M.way t) (h5 t ht) ?_
            refine jx_icmp_ne (pc := 38) hX 45 d_M_hasLetter_38 rfl (fun q38 => ?_) (fun q38 => ?_)
            · refine jx_iconst (pc := 45) hX (v := 0) d_M_hasLetter_45 rfl ?_
              refine jx_istore_n (pc := 46) hX d_M_hasLetter_46 rfl (by decide) (L' := [(0, _), (1, _), (2, _), (3, _)]) rfl ?_
              refine jx_iinc (pc := 47) hX (v := nI (k + 1)) d_M_hasLetter_47 rfl (nI_1 k) (by decide) (L' := [(0, _), (1, _), (2, _), (3, _)]) rfl ?_
              refine jx_goto (pc := 50) hX 4 d_M_hasLetter_50 rfl ?_
              exact jx_to (ih _ (by omega) (k + 1) rfl (by omega)) rfl rfl (by rw [hasF_s0 (eB_0.mp q13) (fun q => q38 q.2)]; rfl) rfl
            · refine jx_iconst (pc := 41) hX (v := 1) d_M_hasLetter_41 rfl ?_
              refine jx_goto (pc := 42) hX 46 d_M_hasLetter_42 rfl ?_
              refine jx_istore_n (pc := 46) hX d_M_hasLetter_46 rfl (by decide) (L' := [(0, _), (1, _), (2, _), (3, _)]) rfl ?_
              refine jx_iinc (pc := 47) hX (v := nI (k + 1)) d_M_hasLetter_47 rfl (nI_1 k) (by decide) (L' := [(0, _), (1, _), (2, _), (3, _)]) rfl ?_
              refine jx_goto (pc := 50) hX 4 d_M_hasLetter_50 rfl ?_
              exact jx_to (ih _ (by omega) (k + 1) rfl (by omega)) rfl rfl (by rw [hasF_s1 (Or.inr ⟨(nI_eq (by omega) (by omega)).mp q23, q38⟩)]; rfl) rfl
  refine jx_iconst (pc := 0) hX (v := 0) d_M_hasLetter_0 rfl ?_
  refine jx_istore_n (pc := 1) hX d_M_hasLetter_1 rfl (by decide) (L' := [(0, _), (1, _), (2, _)]) rfl ?_
  refine jx_iconst (pc := 2) hX (v := 0) d_M_hasLetter_2 rfl ?_
  refine jx_istore_n (pc := 3) hX d_M_hasLetter_3 rfl (by decide) (L' := [(0, _), (1, _), (2, _), (3, _)]) rfl ?_
  exact loop _ 0 rfl (Nat.zero_le _)
set_option maxRecDepth 100000 in
set_option maxHeartbeats 4000000 in
theorem t_M_isHanded {l : Launch} {D : va_G} {ad : Nat → Nat} {ac : Nat → ClassId} (σ : St) (M : Ms) (hI : Inv M) (hM : repM σ M) (n : Nat) (hn : n < 2 ^ 31) : jMp l (yM D ad ac) mt_M_isHanded TT (rmk 0) [.ref (ad 19), .int (nI n)] σ (fun r => r = eB (isH M n)) := by
  obtain ⟨⟨⟨s0, s1, s2, s3⟩, h0, h1, h2, h3, h4, h5, h6, h7, h8, h9, h10, h11, h12, h13⟩, hpl⟩ := id hM
  obtain ⟨i1, i2, i3, i4, i5, i6, i7, i8⟩ := id hI
  obtain ⟨p1, p3, p4, p5, p6⟩ := id hpl
  have hw8 := i1.le
  have hw2 := i1.pos
  have hnb := nb_le M.w
  have hm : n % M.w < M.w := Nat.mod_lt _ (by omega)
  have hh := hI.hand hm
  have hd : n / M.w < 2 ^ 31 := Nat.lt_of_le_of_lt (Nat.div_le_self _ _) hn
  refine jMp_of (by decide) (Nat.le_of_ble_eq_true rfl) (List.forall_mem_cons.mpr ⟨rfl, List.forall_mem_cons.mpr ⟨rfl, fun _ h => absurd h List.not_mem_nil⟩⟩) ?_
  intro X A hX
  have hX : jX X (yM D ad ac) A b_M_isHanded 2 RM (mt_M_isHanded.w :: TT) (rmk 0) (some .boolean) := hX
  show jW l X (yM D ad ac) A 2 0 0 (k0 X) (jQp X (fun r => r = eB (isH M n))) σ 0 [(0, .ref (ad 19)), (1, .int (nI n))] []
  refine jx_aload_n (pc := 0) hX d_M_isHanded_0 rfl rfl ?_
  refine g_M_25 (pc := 1) hX d_M_isHanded_1 ?_
  refine jx_iload_n (pc := 4) hX d_M_isHanded_4 rfl rfl ?_
  refine jx_aload_n (pc := 5) hX d_M_isHanded_5 rfl rfl ?_
  refine g_M_93 (pc := 6) hX d_M_isHanded_6 ?_
  refine jx_top (y := nI M.w) (s0) ?_
  refine jx_irem (pc := 9) hX d_M_isHanded_9 (nI_ne0 (by omega) (by omega)) ?_
  refine jx_top (y := nI (n % M.w)) (pk_rem hn (by omega) (by omega)) ?_
  refine jx_iald (pc := 10) hX oM_5 _ rfl (show n % M.w < 8 by omega) d_M_isHanded_10 ?_
  refine jx_top (y := nI (M.handed (n % M.w))) (h13 _ hm) ?_
  refine jx_iload_n (pc := 11) hX d_M_isHanded_11 rfl rfl ?_
  refine jx_aload_n (pc := 12) hX d_M_isHanded_12 rfl rfl ?_
  refine g_M_93 (pc := 13) hX d_M_isHanded_13 ?_
  refine jx_top (y := nI M.w) (s0) ?_
  refine jx_idiv (pc := 16) hX d_M_isHanded_16 (nI_ne0 (by omega) (by omega)) ?_
  refine jx_top (y := nI (n / M.w)) (pk_div hn (by omega) (by omega)) ?_
  refine jx_icmp_le (pc := 17) hX 24 d_M_isHanded_17 rfl (fun q17 => ?_) (fun q17 => ?_)
  · refine jx_iconst (pc := 24) hX (v := 0) d_M_isHanded_24 rfl ?_
    exact jx_zretp (pc := 25) hX d_M_isHanded_25 rfl (eB_f (decide_eq_false (Nat.not_lt.mpr ((nI_leI (by omega) hd).mp q17))))
  · refine jx_iconst (pc := 20) hX (v := 1) d_M_isHanded_20 rfl ?_
    refine jx_goto (pc := 21) hX 25 d_M_isHanded_21 rfl ?_
    exact jx_zretp (pc := 25) hX d_M_isHanded_25 rfl (eB_t (decide_eq_true (Nat.lt_of_not_le (fun q => q17 ((nI_leI (by omega) hd).mpr q)))))
set_option maxRecDepth 100000 in
set_option maxHeartbeats 4000000 in
theorem t_M_shown0 {l : Launch} {D : va_G} {ad : Nat → Nat} {ac : Nat → ClassId} (σ : St) (M : Ms) (hI : Inv M) (hM : repM σ M) (t : Nat) (ht : t < M.nt) (hq : M.number t = none) : jMp l (yM D ad ac) mt_M_shown TT (rmk 1) [.ref (ad 19), .int (nI t)] σ (fun r => r = eO (M.shown t)) := by
  obtain ⟨⟨⟨s0, s1, s2, s3⟩, h0, h1, h2, h3, h4, h5, h6, h7, h8, h9, h10, h11, h12, h13⟩, hpl⟩ := id hM
  obtain ⟨i1, i2, i3, i4, i5, i6, i7, i8⟩ := id hI
  obtain ⟨p1, p3, p4, p5, p6⟩ := id hpl
  have hw8 := i1.le
  have hw2 := i1.pos
  have hnb := nb_le M.w
  obtain ⟨j1, j2, j3, j4, j5, j6⟩ := i6 t ht
  have ht9 : t < 200 := by omega
  have jp : ∀ p, M.place t = some p → p < 2 ^ 31 := fun p hp => by have := j2 p hp; omega
  refine jMp_of (by decide) (Nat.le_of_ble_eq_true rfl) (List.forall_mem_cons.mpr ⟨rfl, List.forall_mem_cons.mpr ⟨rfl, fun _ h => absurd h List.not_mem_nil⟩⟩) ?_
  intro X A hX
  have hX : jX X (yM D ad ac) A b_M_shown 4 RM (mt_M_shown.w :: TT) (rmk 1) (some .int) := hX
  show jW l X (yM D ad ac) A 4 0 0 (k0 X) (jQp X (fun r => r = eO (M.shown t))) σ 0 [(0, .ref (ad 19)), (1, .int (nI t))] []
  refine jx_iconst (pc := 0) hX (v := 1) d_M_shown_0 rfl ?_
  refine jx_istore_n (pc := 1) hX d_M_shown_1 rfl (by decide) (L' := [(0, _), (1, _), (2, _)]) rfl ?_
  refine jx_iconst (pc := 2) hX (v := 0) d_M_shown_2 rfl ?_
  refine jx_istore_n (pc := 3) hX d_M_shown_3 rfl (by decide) (L' := [(0, _), (1, _), (2, _), (3, _)]) rfl ?_
  refine jx_iload_n (pc := 4) hX d_M_shown_4 rfl rfl ?_
  refine jx_aload_n (pc := 5) hX d_M_shown_5 rfl rfl ?_
  refine g_M_50 (pc := 6) hX d_M_shown_6 ?_
  refine jx_iload_n (pc := 9) hX d_M_shown_9 rfl rfl ?_
  refine jx_iald (pc := 10) hX oM_13 _ rfl ht9 d_M_shown_10 ?_
  refine jx_top (y := -1) (by rw [h6 t ht, hq]; rfl) ?_
  refine jx_icmp_ge (pc := 11) hX 47 d_M_shown_11 rfl (fun _ => ?_) (fun hh => absurd (by decide) hh)
  refine jx_iload_n (pc := 47) hX d_M_shown_47 rfl rfl ?_
  refine jx_if_eq (pc := 48) hX 60 d_M_shown_48 rfl (fun hh => absurd hh (by decide)) (fun _ => ?_)
  refine jx_aload_n (pc := 51) hX d_M_shown_51 rfl rfl ?_
  refine g_M_50 (pc := 52) hX d_M_shown_52 ?_
  refine jx_iload_n (pc := 55) hX d_M_shown_55 rfl rfl ?_
  refine jx_iald (pc := 56) hX oM_13 _ rfl ht9 d_M_shown_56 ?_
  refine jx_top (y := -1) (by rw [h6 t ht, hq]; rfl) ?_
  refine jx_goto (pc := 57) hX 61 d_M_shown_57 rfl ?_
  exact jx_iretp (pc := 61) hX d_M_shown_61 (by rw [Ms.shown_none hq]; rfl)
set_option maxRecDepth 100000 in
set_option maxHeartbeats 4000000 in
theorem t_M_shown1 {l : Launch} {D : va_G} {ad : Nat → Nat} {ac : Nat → ClassId} (σ : St) (M : Ms) (hI : Inv M) (hM : repM σ M) (t : Nat) (ht : t < M.nt) (q : Nat) (hq : M.number t = some q) : jMp l (yM D ad ac) mt_M_shown TT (rmk 1) [.ref (ad 19), .int (nI t)] σ (fun r => r = eO (M.shown t)) := by
  obtain ⟨⟨⟨s0, s1, s2, s3⟩, h0, h1, h2, h3, h4, h5, h6, h7, h8, h9, h10, h11, h12, h13⟩, hpl⟩ := id hM
  obtain ⟨i1, i2, i3, i4, i5, i6, i7, i8⟩ := id hI
  obtain ⟨p1, p3, p4, p5, p6⟩ := id hpl
  have hw8 := i1.le
  have hw2 := i1.pos
  have hnb := nb_le M.w
  obtain ⟨j1, j2, j3, j4, j5, j6⟩ := i6 t ht
  have ht9 : t < 200 := by omega
  have jp : ∀ p, M.place t = some p → p < 2 ^ 31 := fun p hp => by have := j2 p hp; omega
  have hqb := hI.num ht hq
  refine jMp_of (by decide) (Nat.le_of_ble_eq_true rfl) (List.forall_mem_cons.mpr ⟨rfl, List.forall_mem_cons.mpr ⟨rfl, fun _ h => absurd h List.not_mem_nil⟩⟩) ?_
  intro X A hX
  have hX : jX X (yM D ad ac) A b_M_shown 4 RM (mt_M_shown.w :: TT) (rmk 1) (some .int) := hX
  show jW l X (yM D ad ac) A 4 0 0 (k0 X) (jQp X (fun r => r = eO (M.shown t))) σ 0 [(0, .ref (ad 19)), (1, .int (nI t))] []
  have loop : ∀ (fu : Nat) (n : Nat), q - n = fu → n ≤ q → (M.ordered t = false → n = 0) → jW l X (yM D ad ac) A 4 0 0 (k0 X) (jQp X (fun r => r = eO (M.shown t))) σ 4 [(0, .ref (ad 19)), (1, .int (nI t)), (2, .int (eB (alF M n))), (3, .int (nI n))] [] := by
    intro fu
    induction fu using Nat.strongRecOn with
    | ind fu ih =>
      intro n hfu hnq hod
      refine jx_iload_n (pc := 4) hX d_M_shown_4 rfl rfl ?_
      refine jx_aload_n (pc := 5) hX d_M_shown_5 rfl rfl ?_
      refine g_M_50 (pc := 6) hX d_M_shown_6 ?_
      refine jx_iload_n (pc := 9) hX d_M_shown_9 rfl rfl ?_
      refine jx_iald (pc := 10) hX oM_13 _ rfl ht9 d_M_shown_10 ?_
      refine jx_top (y := nI q) (by rw [h6 t ht, hq]; rfl) ?_
      refine jx_icmp_ge (pc := 11) hX 47 d_M_shown_11 rfl (fun q11 => ?_) (fun q11 => ?_)
      · have hge : n = q := by have : q ≤ n := (nI_leI (by omega) (by omega)).mp q11; omega
        have hend : M.shown t = if alF M n = true then some q else none := by
          rw [Ms.shown_some hq, hge]
          by_cases c : alF M q = true
          · rw [if_pos c, if_neg (fun a => a.2 ((alF_least hI q).mp c))]
          · rw [if_neg c]
            cases ho : M.ordered t with
            | true => rw [if_pos ⟨rfl, fun a => c ((alF_least hI q).mpr a)⟩]
            | false => have := hod ho; rw [hge] at this; rw [this] at c; exact absurd rfl c
        refine jx_iload_n (pc := 47) hX d_M_shown_47 rfl rfl ?_
        refine jx_if_eq (pc := 48) hX 60 d_M_shown_48 rfl (fun q48 => ?_) (fun q48 => ?_)
        · refine jx_iconst (pc := 60) hX (v := -1) d_M_shown_60 rfl ?_
          exact jx_iretp (pc := 61) hX d_M_shown_61 (by rw [hend, if_neg (by rw [eB_0.mp q48]; decide)]; rfl)
        · refine jx_aload_n (pc := 51) hX d_M_shown_51 rfl rfl ?_
          refine g_M_50 (pc := 52) hX d_M_shown_52 ?_
          refine jx_iload_n (pc := 55) hX d_M_shown_55 rfl rfl ?_
          refine jx_iald (pc := 56) hX oM_13 _ rfl ht9 d_M_shown_56 ?_
          refine jx_top (y := nI q) (by rw [h6 t ht, hq]; rfl) ?_
          refine jx_goto (pc := 57) hX 61 d_M_shown_57 rfl ?_
          exact jx_iretp (pc := 61) hX d_M_shown_61 (by rw [hend, if_pos (eB_n0.mp q48)]; rfl)
      · have hlt : n < q := Nat.lt_of_not_le (fun q => q11 (nI_le q (by omega)))
        refine jx_aload_n (pc := 14) hX d_M_shown_14 rfl rfl ?_
        refine g_M_56 (pc := 15) hX d_M_shown_15 ?_
        refine jx_iload_n (pc := 18) hX d_M_shown_18 rfl rfl ?_
        refine jx_zald (pc := 19) hX oM_15 _ rfl ht9 d_M_shown_19 ?_
        refine jx_top (y := eB (M.ordered t)) (h7 t ht) ?_
        refine jx_if_eq (pc := 20) hX 47 d_M_shown_20 rfl (fun q20 => ?_) (fun q20 => ?_)
        · have hend : M.shown t = if alF M n = true then some q else none := by
            have ho := eB_0.mp q20
            rw [Ms.shown_some hq, hod ho, if_neg (by rw [ho]; exact fun a => absurd a.1 (by decide))]
            rfl
          refine jx_iload_n (pc := 47) hX d_M_shown_47 rfl rfl ?_
          refine jx_if_eq (pc := 48) hX 60 d_M_shown_48 rfl (fun q48 => ?_) (fun q48 => ?_)
          · refine jx_iconst (pc := 60) hX (v := -1) d_M_shown_60 rfl ?_
            exact jx_iretp (pc := 61) hX d_M_shown_61 (by rw [hend, if_neg (by rw [eB_0.mp q48]; decide)]; rfl)
          · refine jx_aload_n (pc := 51) hX d_M_shown_51 rfl rfl ?_
            refine g_M_50 (pc := 52) hX d_M_shown_52 ?_
            refine jx_iload_n (pc := 55) hX d_M_shown_55 rfl rfl ?_
            refine jx_iald (pc := 56) hX oM_13 _ rfl ht9 d_M_shown_56 ?_
            refine jx_top (y := nI q) (by rw [h6 t ht, hq]; rfl) ?_
            refine jx_goto (pc := 57) hX 61 d_M_shown_57 rfl ?_
            exact jx_iretp (pc := 61) hX d_M_shown_61 (by rw [hend, if_pos (eB_n0.mp q48)]; rfl)
        · have ho : M.ordered t = true := eB_n0.mp q20
          refine jx_iload_n (pc := 23) hX d_M_shown_23 rfl rfl ?_
          refine jx_if_eq (pc := 24) hX 39 d_M_shown_24 rfl (fun q24 => ?_) (fun q24 => ?_)
          · refine jx_iconst (pc := 39) hX (v := 0) d_M_shown_39 rfl ?_
            refine jx_istore_n (pc := 40) hX d_M_shown_40 rfl (by decide) (L' := [(0, _), (1, _), (2, _), (3, _)]) rfl ?_
            refine jx_iinc (pc := 41) hX (v := nI (n + 1)) d_M_shown_41 rfl (nI_1 n) (by decide) (L' := [(0, _), (1, _), (2, _), (3, _)]) rfl ?_
            refine jx_goto (pc := 44) hX 4 d_M_shown_44 rfl ?_
            exact jx_to (ih _ (by omega) (n + 1) rfl (by omega) (fun a => by rw [ho] at a; cases a)) rfl rfl (by rw [alF_s0 (Or.inl (eB_0.mp q24))]; rfl) rfl
          · refine jx_aload_n (pc := 27) hX d_M_shown_27 rfl rfl ?_
            refine jx_iload_n (pc := 28) hX d_M_shown_28 rfl rfl ?_
            refine k_M_150 (pc := 29) hX (t_M_isHanded σ M hI hM n (by omega)) ⟨rfl, rfl, (Nat.le_of_ble_eq_true rfl), (Nat.le_of_ble_eq_true rfl)⟩ rfl rfl (Nat.le_of_ble_eq_true rfl) ⟨Nat.zero_le _, Nat.zero_le _⟩ d_M_shown_29 (fun r hr => ?_)
            subst hr
            refine jx_if_eq (pc := 32) hX 39 d_M_shown_32 rfl (fun q32 => ?_) (fun q32 => ?_)
            · refine jx_iconst (pc := 39) hX (v := 0) d_M_shown_39 rfl ?_
              refine jx_istore_n (pc := 40) hX d_M_shown_40 rfl (by decide) (L' := [(0, _), (1, _), (2, _), (3, _)]) rfl ?_
              refine jx_iinc (pc := 41) hX (v := nI (n + 1)) d_M_shown_41 rfl (nI_1 n) (by decide) (L' := [(0, _), (1, _), (2, _), (3, _)]) rfl ?_
              refine jx_goto (pc := 44) hX 4 d_M_shown_44 rfl ?_
              exact jx_to (ih _ (by omega) (n + 1) rfl (by omega) (fun a => by rw [ho] at a; cases a)) rfl rfl (by rw [alF_s0 (Or.inr (eB_0.mp q32))]; rfl) rfl
            · refine jx_iconst (pc := 35) hX (v := 1) d_M_shown_35 rfl ?_
              refine jx_goto (pc := 36) hX 40 d_M_shown_36 rfl ?_
              refine jx_istore_n (pc := 40) hX d_M_shown_40 rfl (by decide) (L' := [(0, _), (1, _), (2, _), (3, _)]) rfl ?_
              refine jx_iinc (pc := 41) hX (v := nI (n + 1)) d_M_shown_41 rfl (nI_1 n) (by decide) (L' := [(0, _), (1, _), (2, _), (3, _)]) rfl ?_
              refine jx_goto (pc := 44) hX 4 d_M_shown_44 rfl ?_
              exact jx_to (ih _ (by omega) (n + 1) rfl (by omega) (fun a => by rw [ho] at a; cases a)) rfl rfl (by rw [alF_s1 (eB_n0.mp q24) (eB_n0.mp q32)]; rfl) rfl
  refine jx_iconst (pc := 0) hX (v := 1) d_M_shown_0 rfl ?_
  refine jx_istore_n (pc := 1) hX d_M_shown_1 rfl (by decide) (L' := [(0, _), (1, _), (2, _)]) rfl ?_
  refine jx_iconst (pc := 2) hX (v := 0) d_M_shown_2 rfl ?_
  refine jx_istore_n (pc := 3) hX d_M_shown_3 rfl (by decide) (L' := [(0, _), (1, _), (2, _), (3, _)]) rfl ?_
  exact loop _ 0 rfl (Nat.zero_le _) (fun _ => rfl)
theorem t_M_shown {l : Launch} {D : va_G} {ad : Nat → Nat} {ac : Nat → ClassId} (σ : St) (M : Ms) (hI : Inv M) (hM : repM σ M) (t : Nat) (ht : t < M.nt) : jMp l (yM D ad ac) mt_M_shown TT (rmk 1) [.ref (ad 19), .int (nI t)] σ (fun r => r = eO (M.shown t)) := by
  cases hq : M.number t with
  | none => exact t_M_shown0 σ M hI hM t ht hq
  | some q => exact t_M_shown1 σ M hI hM t ht q hq
set_option maxRecDepth 100000 in
set_option maxHeartbeats 4000000 in
theorem t_M_highest {l : Launch} {D : va_G} {ad : Nat → Nat} {ac : Nat → ClassId} (σ : St) (M : Ms) (hI : Inv M) (hM : repM σ M) : jMp l (yM D ad ac) mt_M_highest TT (rmk 0) [.ref (ad 19)] σ (fun r => r = eP (hi1 M.handed M.w M.w)) := by
  obtain ⟨⟨⟨s0, s1, s2, s3⟩, h0, h1, h2, h3, h4, h5, h6, h7, h8, h9, h10, h11, h12, h13⟩, hpl⟩ := id hM
  obtain ⟨i1, i2, i3, i4, i5, i6, i7, i8⟩ := id hI
  obtain ⟨p1, p3, p4, p5, p6⟩ := id hpl
  have hw8 := i1.le
  have hw2 := i1.pos
  have hnb := nb_le M.w
  refine jMp_of (by decide) (Nat.le_of_ble_eq_true rfl) (List.forall_mem_cons.mpr ⟨rfl, fun _ h => absurd h List.not_mem_nil⟩) ?_
  intro X A hX
  have hX : jX X (yM D ad ac) A b_M_highest 4 RM (mt_M_highest.w :: TT) (rmk 0) (some .int) := hX
  show jW l X (yM D ad ac) A 4 0 0 (k0 X) (jQp X (fun r => r = eP (hi1 M.handed M.w M.w))) σ 0 [(0, .ref (ad 19))] []
  have loop : ∀ (fu : Nat) (i : Nat), M.w - i = fu → i ≤ M.w → jW l X (yM D ad ac) A 4 0 0 (k0 X) (jQp X (fun r => r = eP (hi1 M.handed M.w M.w))) σ 4 [(0, .ref (ad 19)), (1, .int (eP (hi1 M.handed M.w i))), (2, .int (nI i))] [] := by
    intro fu
    induction fu using Nat.strongRecOn with
    | ind fu ih =>
      intro i hfu hi
      have join : i < M.w → jW l X (yM D ad ac) A 4 0 0 (k0 X) (jQp X (fun r => r = eP (hi1 M.handed M.w M.w))) σ 41 [(0, .ref (ad 19)), (1, .int (eP (hi1 M.handed M.w i))), (2, .int (nI i)), (3, .int (eP (lst M i)))] [] := by
        intro hlt
        have b1 := hI.hi_le i hi
        have b2 := hI.hi_le (i + 1) (by omega)
        rw [hi1_lst] at b2
        refine jx_iload_n (pc := 41) hX d_M_highest_41 rfl rfl ?_
        refine jx_iload_n (pc := 42) hX d_M_highest_42 rfl rfl ?_
        refine jx_icmp_le (pc := 43) hX 50 d_M_highest_43 rfl (fun q43 => ?_) (fun q43 => ?_)
        · have a43 : lst M i ≤ hi1 M.handed M.w i := (eP_le (by omega) (by omega)).mp q43
          have e43 : hi1 M.handed M.w (i + 1) = hi1 M.handed M.w i := by rw [hi1_lst]; omega
          refine jx_iload_n (pc := 50) hX d_M_highest_50 rfl rfl ?_
          refine jx_istore_n (pc := 51) hX d_M_highest_51 rfl (by decide) (L' := [(0, _), (1, _), (2, _), (3, _)]) rfl ?_
          refine jx_iinc (pc := 52) hX (v := nI (i + 1)) d_M_highest_52 rfl (nI_1 i) (by decide) (L' := [(0, _), (1, _), (2, _), (3, _)]) rfl ?_
          refine jx_goto (pc := 55) hX 4 d_M_highest_55 rfl ?_
          refine jx_take 3 ?_
          rw [← e43]
          exact ih _ (by omega) (i + 1) rfl (by omega)
        · have a43 : hi1 M.handed M.w i < lst M i := Nat.lt_of_not_le (fun q => q43 ((eP_le (by omega) (by omega)).mpr q))
          have e43 : hi1 M.handed M.w (i + 1) = lst M i := by rw [hi1_lst]; omega
          refine jx_iload_n (pc := 46) hX d_M_highest_46 rfl rfl ?_
          refine jx_goto (pc := 47) hX 51 d_M_highest_47 rfl ?_
          refine jx_istore_n (pc := 51) hX d_M_highest_51 rfl (by decide) (L' := [(0, _), (1, _), (2, _), (3, _)]) rfl ?_
          refine jx_iinc (pc := 52) hX (v := nI (i + 1)) d_M_highest_52 rfl (nI_1 i) (by decide) (L' := [(0, _), (1, _), (2, _), (3, _)]) rfl ?_
          refine jx_goto (pc := 55) hX 4 d_M_highest_55 rfl ?_
          refine jx_take 3 ?_
          rw [← e43]
          exact ih _ (by omega) (i + 1) rfl (by omega)
      refine jx_iload_n (pc := 4) hX d_M_highest_4 rfl rfl ?_
      refine jx_aload_n (pc := 5) hX d_M_highest_5 rfl rfl ?_
      refine g_M_93 (pc := 6) hX d_M_highest_6 ?_
      refine jx_top (y := nI M.w) (s0) ?_
      refine jx_icmp_ge (pc := 9) hX 58 d_M_highest_9 rfl (fun q9 => ?_) (fun q9 => ?_)
      · have hge : i = M.w := by have : M.w ≤ i := (nI_leI (by omega) (by omega)).mp q9; omega
        refine jx_iload_n (pc := 58) hX d_M_highest_58 rfl rfl ?_
        exact jx_iretp (pc := 59) hX d_M_highest_59 (by rw [hge])
      · have hlt : i < M.w := Nat.lt_of_not_le (fun q => q9 (nI_le q (by omega)))
        have hh := hI.hand hlt
        refine jx_aload_n (pc := 12) hX d_M_highest_12 rfl rfl ?_
        refine g_M_25 (pc := 13) hX d_M_highest_13 ?_
        refine jx_iload_n (pc := 16) hX d_M_highest_16 rfl rfl ?_
        refine jx_iald (pc := 17) hX oM_5 _ rfl (show i < 8 by omega) d_M_highest_17 ?_
        refine jx_top (y := nI (M.handed i)) (h13 i hlt) ?_
        refine jx_if_ne (pc := 18) hX 25 d_M_highest_18 rfl (fun q18 => ?_) (fun q18 => ?_)
        · have a18 : ¬ M.handed i = 0 := fun q => q18 (by rw [q]; rfl)
          refine jx_iload_n (pc := 25) hX d_M_highest_25 rfl rfl ?_
          refine jx_aload_n (pc := 26) hX d_M_highest_26 rfl rfl ?_
          refine g_M_93 (pc := 27) hX d_M_highest_27 ?_
          refine jx_top (y := nI M.w) (s0) ?_
          refine jx_aload_n (pc := 30) hX d_M_highest_30 rfl rfl ?_
          refine g_M_25 (pc := 31) hX d_M_highest_31 ?_
          refine jx_iload_n (pc := 34) hX d_M_highest_34 rfl rfl ?_
          refine jx_iald (pc := 35) hX oM_5 _ rfl (show i < 8 by omega) d_M_highest_35 ?_
          refine jx_top (y := nI (M.handed i)) (h13 i hlt) ?_
          refine jx_iconst (pc := 36) hX (v := 1) d_M_highest_36 rfl ?_
          refine jx_isub (pc := 37) hX d_M_highest_37 ?_
          refine jx_top (y := nI (M.handed i - 1)) (by rw [nI_c1, pk_sub (by omega)]) ?_
          refine jx_imul (pc := 38) hX d_M_highest_38 ?_
          refine jx_top (y := nI (M.w * (M.handed i - 1))) (pk_mul _ _) ?_
          refine jx_iadd (pc := 39) hX d_M_highest_39 ?_
          refine jx_top (y := nI (i + M.w * (M.handed i - 1))) (nI_add _ _) ?_
          refine jx_istore_n (pc := 40) hX d_M_highest_40 rfl (by decide) (L' := [(0, _), (1, _), (2, _), (3, _)]) rfl ?_
          exact jx_to (join hlt) rfl rfl (by rw [show lst M i = i + M.w * (M.handed i - 1) + 1 from if_neg a18, eP_s]) rfl
        · have a18 : M.handed i = 0 := (nI_n0 (by omega)).mp q18
          refine jx_iconst (pc := 21) hX (v := -1) d_M_highest_21 rfl ?_
          refine jx_top (y := eP 0) (by decide) ?_
          refine jx_goto (pc := 22) hX 40 d_M_highest_22 rfl ?_
          refine jx_istore_n (pc := 40) hX d_M_highest_40 rfl (by decide) (L' := [(0, _), (1, _), (2, _), (3, _)]) rfl ?_
          exact jx_to (join hlt) rfl rfl (by rw [show lst M i = 0 from if_pos a18]) rfl
  refine jx_iconst (pc := 0) hX (v := -1) d_M_highest_0 rfl ?_
  refine jx_top (y := eP 0) (by decide) ?_
  refine jx_istore_n (pc := 1) hX d_M_highest_1 rfl (by decide) (L' := [(0, _), (1, _)]) rfl ?_
  refine jx_iconst (pc := 2) hX (v := 0) d_M_highest_2 rfl ?_
  refine jx_istore_n (pc := 3) hX d_M_highest_3 rfl (by decide) (L' := [(0, _), (1, _), (2, _)]) rfl ?_
  exact loop _ 0 rfl (Nat.zero_le _)
set_option maxRecDepth 100000 in
set_option maxHeartbeats 4000000 in
theorem t_M_gaps {l : Launch} {D : va_G} {ad : Nat → Nat} {ac : Nat → ClassId} (σ : St) (M : Ms) (hI : Inv M) (hM : repM σ M) : jMp l (yM D ad ac) mt_M_gaps TT (rmk 1) [.ref (ad 19)] σ (fun r => r = nI (gaF M.handed M.w (hi1 M.handed M.w M.w - 1))) := by
  obtain ⟨⟨⟨s0, s1, s2, s3⟩, h0, h1, h2, h3, h4, h5, h6, h7, h8, h9, h10, h11, h12, h13⟩, hpl⟩ := id hM
  obtain ⟨i1, i2, i3, i4, i5, i6, i7, i8⟩ := id hI
  obtain ⟨p1, p3, p4, p5, p6⟩ := id hpl
  have hw8 := i1.le
  have hw2 := i1.pos
  have hnb := nb_le M.w
  have hb := hI.hi_le M.w (Nat.le_refl _)
  refine jMp_of (by decide) (Nat.le_of_ble_eq_true rfl) (List.forall_mem_cons.mpr ⟨rfl, fun _ h => absurd h List.not_mem_nil⟩) ?_
  intro X A hX
  have hX : jX X (yM D ad ac) A b_M_gaps 3 RM (mt_M_gaps.w :: TT) (rmk 1) (some .int) := hX
  show jW l X (yM D ad ac) A 3 0 0 (k0 X) (jQp X (fun r => r = nI (gaF M.handed M.w (hi1 M.handed M.w M.w - 1)))) σ 0 [(0, .ref (ad 19))] []
  have loop : ∀ (fu : Nat) (k : Nat), hi1 M.handed M.w M.w - k = fu → k ≤ hi1 M.handed M.w M.w - 1 → jW l X (yM D ad ac) A 3 0 0 (k0 X) (jQp X (fun r => r = nI (gaF M.handed M.w (hi1 M.handed M.w M.w - 1)))) σ 4 [(0, .ref (ad 19)), (1, .int (nI (gaF M.handed M.w k))), (2, .int (nI k))] [] := by
    intro fu
    induction fu using Nat.strongRecOn with
    | ind fu ih =>
      intro k hfu hk
      refine jx_iload_n (pc := 4) hX d_M_gaps_4 rfl rfl ?_
      refine jx_aload_n (pc := 5) hX d_M_gaps_5 rfl rfl ?_
      refine k_M_156 (pc := 6) hX (t_M_highest σ M hI hM) ⟨rfl, rfl, (Nat.le_of_ble_eq_true rfl), (Nat.le_of_ble_eq_true rfl)⟩ rfl rfl (Nat.le_of_ble_eq_true rfl) ⟨Nat.zero_le _, Nat.zero_le _⟩ d_M_gaps_6 (fun r hr => ?_)
      subst hr
      rw [← eP_s k]
      refine jx_icmp_ge (pc := 9) hX 34 d_M_gaps_9 rfl (fun q9 => ?_) (fun q9 => ?_)
      · have hge : k = hi1 M.handed M.w M.w - 1 := by have : hi1 M.handed M.w M.w ≤ k + 1 := (eP_le (by omega) (by omega)).mp q9; omega
        refine jx_iload_n (pc := 34) hX d_M_gaps_34 rfl rfl ?_
        exact jx_iretp (pc := 35) hX d_M_gaps_35 (by rw [hge])
      · have hlt : k + 1 < hi1 M.handed M.w M.w := Nat.lt_of_not_le (fun q => q9 ((eP_le (by omega) (by omega)).mpr q))
        rw [eP_s k]
        refine jx_aload_n (pc := 12) hX d_M_gaps_12 rfl rfl ?_
        refine jx_iload_n (pc := 13) hX d_M_gaps_13 rfl rfl ?_
        refine k_M_150 (pc := 14) hX (t_M_isHanded σ M hI hM k (by omega)) ⟨rfl, rfl, (Nat.le_of_ble_eq_true rfl), (Nat.le_of_ble_eq_true rfl)⟩ rfl rfl (Nat.le_of_ble_eq_true rfl) ⟨Nat.zero_le _, Nat.zero_le _⟩ d_M_gaps_14 (fun r hr => ?_)
        subst hr
        refine jx_if_eq (pc := 17) hX 24 d_M_gaps_17 rfl (fun q17 => ?_) (fun q17 => ?_)
        · refine jx_iload_n (pc := 24) hX d_M_gaps_24 rfl rfl ?_
          refine jx_iconst (pc := 25) hX (v := 1) d_M_gaps_25 rfl ?_
          refine jx_iadd (pc := 26) hX d_M_gaps_26 ?_
          refine jx_top (y := nI (gaF M.handed M.w k + 1)) (nI_1 _) ?_
          refine jx_istore_n (pc := 27) hX d_M_gaps_27 rfl (by decide) (L' := [(0, _), (1, _), (2, _)]) rfl ?_
          refine jx_iinc (pc := 28) hX (v := nI (k + 1)) d_M_gaps_28 rfl (nI_1 k) (by decide) (L' := [(0, _), (1, _), (2, _)]) rfl ?_
          refine jx_goto (pc := 31) hX 4 d_M_gaps_31 rfl ?_
          rw [← gaF_s1 (eB_0.mp q17)]
          exact ih _ (by omega) (k + 1) rfl (by omega)
        · refine jx_iload_n (pc := 20) hX d_M_gaps_20 rfl rfl ?_
          refine jx_goto (pc := 21) hX 27 d_M_gaps_21 rfl ?_
          refine jx_istore_n (pc := 27) hX d_M_gaps_27 rfl (by decide) (L' := [(0, _), (1, _), (2, _)]) rfl ?_
          refine jx_iinc (pc := 28) hX (v := nI (k + 1)) d_M_gaps_28 rfl (nI_1 k) (by decide) (L' := [(0, _), (1, _), (2, _)]) rfl ?_
          refine jx_goto (pc := 31) hX 4 d_M_gaps_31 rfl ?_
          rw [← gaF_s0 (eB_n0.mp q17)]
          exact ih _ (by omega) (k + 1) rfl (by omega)
  refine jx_iconst (pc := 0) hX (v := 0) d_M_gaps_0 rfl ?_
  refine jx_istore_n (pc := 1) hX d_M_gaps_1 rfl (by decide) (L' := [(0, _), (1, _)]) rfl ?_
  refine jx_iconst (pc := 2) hX (v := 0) d_M_gaps_2 rfl ?_
  refine jx_istore_n (pc := 3) hX d_M_gaps_3 rfl (by decide) (L' := [(0, _), (1, _), (2, _)]) rfl ?_
  exact loop _ 0 rfl (Nat.zero_le _)
set_option maxRecDepth 100000 in
set_option maxHeartbeats 4000000 in
theorem t_M_resend {l : Launch} {D : va_G} {ad : Nat → Nat} {ac : Nat → ClassId} (σ : St) (M : Ms) (hI : Inv M) (hM : repM σ M) : jMi l (yM D ad ac) mt_M_resend TT (rmk 3) [.ref (ad 19)] σ (fun r u => r = nI (M.resend.nl - M.nl) ∧ repM u M.resend) := by
  have i3 : M.nt ≤ 200 := hI.2.2.1
  have i4 : M.nl ≤ 60 := hI.2.2.2.1
  refine jMi_of (by decide) (Nat.le_of_ble_eq_true rfl) (List.forall_mem_cons.mpr ⟨rfl, fun _ h => absurd h List.not_mem_nil⟩) ?_
  intro X A hX
  have hX : jX X (yM D ad ac) A b_M_resend 3 RM (mt_M_resend.w :: TT) (rmk 3) (some .int) := hX
  show jW l X (yM D ad ac) A 3 0 0 kT (jQi X (yM D ad ac) A (fun r u => r = nI (M.resend.nl - M.nl) ∧ repM u M.resend)) σ 0 [(0, .ref (ad 19))] []
  have loop : ∀ (fu : Nat) (t : Nat) (σ1 : St) (M1 : Ms), M.nt - t = fu → t ≤ M.nt → Inv M1 → repM σ1 M1 → M1.nt = M.nt → M.nl ≤ M1.nl → Ms.resF (M.nt - t) t M1 = M.resend → jW l X (yM D ad ac) A 3 0 0 kT (jQi X (yM D ad ac) A (fun r u => r = nI (M.resend.nl - M.nl) ∧ repM u M.resend)) σ1 9 [(0, .ref (ad 19)), (1, .int (nI (M1.nl - M.nl))), (2, .int (nI t))] [] := by
    intro fu
    induction fu using Nat.strongRecOn with
    | ind fu ih =>
      intro t σ1 M1 hfu htl hI1 hM1 e1 e3 e2
      have j4 : M1.nl ≤ 60 := hI1.2.2.2.1
      refine jx_iload_n (pc := 9) hX d_M_resend_9 rfl rfl ?_
      refine jx_aload_n (pc := 10) hX d_M_resend_10 rfl rfl ?_
      refine g_M_99 (pc := 11) hX d_M_resend_11 ?_
      refine jx_top (y := nI M.nt) (by rw [← e1]; exact hM1.1.1.2.2.1) ?_
      refine jx_icmp_ge (pc := 14) hX 58 d_M_resend_14 rfl (fun q18 => ?_) (fun q18 => ?_)
      · have hge : M.nt ≤ t := (nI_leI (by omega) (by omega)).mp q18
        have hend : M1 = M.resend := by rw [← e2, Nat.sub_eq_zero_of_le hge]; rfl
        refine jx_iload_n (pc := 58) hX d_M_resend_58 rfl rfl ?_
        exact jx_iret (pc := 59) hX d_M_resend_59 (by rw [← hend]; exact ⟨rfl, hM1⟩)
      · have hlt : t < M.nt := Nat.lt_of_not_le (fun q => q18 (nI_le q (by omega)))
        have hs9 := (hI1.2.2.2.2.2.1 t (by omega)).2.2.1
        refine jx_aload_n (pc := 17) hX d_M_resend_17 rfl rfl ?_
        refine g_M_102 (pc := 18) hX d_M_resend_18 ?_
        refine jx_top (y := nI M1.nl) (hM1.1.1.2.2.2) ?_
        refine jx_bipush (pc := 21) hX (v := 60) d_M_resend_21 rfl ?_
        refine jx_icmp_ge (pc := 23) hX 58 d_M_resend_23 rfl (fun q28 => ?_) (fun q28 => ?_)
        · have a28 : ¬ M1.nl < 60 := Nat.not_lt.mpr ((nI_leI (a := 60) (by decide) (by omega)).mp q28)
          have hend : M1 = M.resend := by rw [← e2, Ms.resF_f a28]
          refine jx_iload_n (pc := 58) hX d_M_resend_58 rfl rfl ?_
          exact jx_iret (pc := 59) hX d_M_resend_59 (by rw [← hend]; exact ⟨rfl, hM1⟩)
        · have a28 : M1.nl < 60 := Nat.lt_of_not_le (fun q => q28 (nI_le (a := 60) q (by omega)))
          refine jx_aload_n (pc := 26) hX d_M_resend_26 rfl rfl ?_
          refine g_M_41 (pc := 27) hX d_M_resend_27 ?_
          refine jx_iload_n (pc := 30) hX d_M_resend_30 rfl rfl ?_
          refine jx_iald (pc := 31) hX oM_10 _ rfl (show t < 200 by omega) d_M_resend_31 ?_
          refine jx_top (y := nI (M1.state t)) (hM1.1.2.2.2.1 t (by omega)) ?_
          refine jx_iconst (pc := 32) hX (v := 1) d_M_resend_32 rfl ?_
          refine jx_icmp_ne (pc := 33) hX 52 d_M_resend_33 rfl (fun q41 => ?_) (fun q41 => ?_)
          · have a41 : ¬ M1.state t = 1 := fun q => q41 ((nI_n1 (by omega)).mpr q)
            refine jx_iinc (pc := 52) hX (v := nI (t + 1)) d_M_resend_52 rfl (nI_1 t) (by decide) (L' := [(0, _), (1, _), (2, _)]) rfl ?_
            refine jx_goto (pc := 55) hX 9 d_M_resend_55 rfl ?_
            exact ih _ (by omega) (t + 1) σ1 M1 rfl (by omega) hI1 hM1 e1 e3 (by rw [← e2, Ms.resF_s hlt a28, Ms.res1_f (Or.inl a41)])
          · have a41 : M1.state t = 1 := (nI_n1 (by omega)).mp q41
            refine jx_aload_n (pc := 36) hX d_M_resend_36 rfl rfl ?_
            refine jx_iload_n (pc := 37) hX d_M_resend_37 rfl rfl ?_
            refine k_M_147 (pc := 38) hX (t_M_hasLetter σ1 M1 hI1 hM1 t (by omega)) ⟨rfl, rfl, (Nat.le_of_ble_eq_true rfl), (Nat.le_of_ble_eq_true rfl)⟩ rfl rfl (Nat.le_of_ble_eq_true rfl) ⟨Nat.zero_le _, Nat.zero_le _⟩ d_M_resend_38 (fun r hr => ?_)
            subst hr
            refine jx_if_ne (pc := 41) hX 52 d_M_resend_41 rfl (fun q61 => ?_) (fun q61 => ?_)
            · have a61 : M1.holds t = true := eB_n0.mp q61
              refine jx_iinc (pc := 52) hX (v := nI (t + 1)) d_M_resend_52 rfl (nI_1 t) (by decide) (L' := [(0, _), (1, _), (2, _)]) rfl ?_
              refine jx_goto (pc := 55) hX 9 d_M_resend_55 rfl ?_
              exact ih _ (by omega) (t + 1) σ1 M1 rfl (by omega) hI1 hM1 e1 e3 (by rw [← e2, Ms.resF_s hlt a28, Ms.res1_f (Or.inr a61)])
            · have a61 : M1.holds t = false := eB_0.mp q61
              refine jx_aload_n (pc := 44) hX d_M_resend_44 rfl rfl ?_
              refine jx_iload_n (pc := 45) hX d_M_resend_45 rfl rfl ?_
              refine k_M_133 (pc := 46) hX (t_M_post σ1 M1 hI1 hM1 t (by omega) a28) ⟨rfl, rfl, (Nat.le_of_ble_eq_true rfl), (Nat.le_of_ble_eq_true rfl)⟩ rfl rfl (Nat.le_of_ble_eq_true rfl) ⟨Nat.zero_le _, Nat.zero_le _⟩ d_M_resend_46 (fun u hu => ?_)
              refine jx_iinc (pc := 49) hX (v := nI ((M1.post t (M1.way t) (M1.stN t)).nl - M.nl)) d_M_resend_49 rfl (by show nI (M1.nl - M.nl) + 1 = nI (M1.nl + 1 - M.nl); rw [nI_1]; congr 1; omega) (by decide) (L' := [(0, _), (1, _), (2, _)]) rfl ?_
              refine jx_iinc (pc := 52) hX (v := nI (t + 1)) d_M_resend_52 rfl (nI_1 t) (by decide) (L' := [(0, _), (1, _), (2, _)]) rfl ?_
              refine jx_goto (pc := 55) hX 9 d_M_resend_55 rfl ?_
              exact ih _ (by omega) (t + 1) u (M1.post t (M1.way t) (M1.stN t)) rfl (by omega) (hI1.post (by omega) (Ms.stN_lt hI1.2.1.1 t) a28) hu.1 e1 (Nat.le_trans e3 (Nat.le_succ _)) (by rw [← e2, Ms.resF_s hlt a28, Ms.res1_t a41 a61])
  refine jx_aload_n (pc := 0) hX d_M_resend_0 rfl rfl ?_
  refine jx_iconst (pc := 1) hX (v := 0) d_M_resend_1 rfl ?_
  refine p_M_72 (pc := 2) hX d_M_resend_2 ?_
  refine jx_iconst (pc := 5) hX (v := 0) d_M_resend_5 rfl ?_
  refine jx_istore_n (pc := 6) hX d_M_resend_6 rfl (by decide) (L' := [(0, _), (1, _)]) rfl ?_
  refine jx_iconst (pc := 7) hX (v := 0) d_M_resend_7 rfl ?_
  refine jx_istore_n (pc := 8) hX d_M_resend_8 rfl (by decide) (L' := [(0, _), (1, _), (2, _)]) rfl ?_
  exact jx_to (loop _ 0 (sF σ 0 0) M rfl (Nat.zero_le _) hI hM rfl (Nat.le_refl _) rfl) rfl rfl (by rw [Nat.sub_self]; rfl) rfl
