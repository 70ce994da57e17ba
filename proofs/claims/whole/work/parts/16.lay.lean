theorem Pl.lay_len (P : Pl) (a b : Nat) : (P.lay a b).l.length = P.l.length + 1 := List.length_append
theorem jx_take {l : Launch} {X : Cx} {Y : Wx} {A : Nat → Prop} {nL cells slots : Nat} {K : Heap → List Loc → Prop} {Q : State → Prop} {σ : St} {pc : Nat} {L : Lv} {st : List Value} (n : Nat) (k : jW l X Y A nL cells slots K Q σ pc (L.take n) st) : jW l X Y A nL cells slots K Q σ pc L st :=
  fun H locs ls hk hP hD hS hl => k H locs ls hk hP hD hS ⟨⟨hl.1.1, hl.1.2.1, fun q hq => hl.1.2.2 q (List.mem_of_mem_take hq)⟩, fun q hq => hl.2 q (List.mem_of_mem_take hq)⟩
set_option maxRecDepth 100000 in
set_option maxHeartbeats 4000000 in
theorem t_P_lay {l : Launch} {D : va_G} {ad : Nat → Nat} {ac : Nat → ClassId} (σ : St) (w : Nat) (P : Pl) (hw8 : w ≤ 8) (hR : relP σ w P) (hl : P.l.length < 24) (a b : Nat) (ha : a < w) (hb : b < w) : jMv l (yC D ad ac) mt_P_lay TT (rmk 1) [.ref (ad 21), .int (nI a), .int (nI b)] σ (fun u => relP u w (P.lay a b) ∧ u.2 8 = σ.2 8) := by
  obtain ⟨po, r1, r2, r3, r4, r5, r6, r7, r8⟩ := id hR
  have ca := (po.1 a ha).2
  have cb := (po.1 b hb).2
  have ck := po.2
  refine jMv_of (by decide) (Nat.le_of_ble_eq_true rfl) (List.forall_mem_cons.mpr ⟨rfl, List.forall_mem_cons.mpr ⟨rfl, List.forall_mem_cons.mpr ⟨rfl, fun _ h => absurd h List.not_mem_nil⟩⟩⟩) ?_
  intro X A hX
  have hX : jX X (yC D ad ac) A b_P_lay 4 RP (mt_P_lay.w :: TT) (rmk 1) none := hX
  show jW l X (yC D ad ac) A 4 0 0 kT (jQv X (yC D ad ac) A (fun u => relP u w (P.lay a b) ∧ u.2 8 = σ.2 8)) σ 0 [(0, .ref (ad 21)), (1, .int (nI a)), (2, .int (nI b))] []
  refine jx_aload_n (pc := 0) hX d_P_lay_0 rfl rfl ?_
  refine g_P_24 (pc := 1) hX d_P_lay_1 ?_
  refine jx_iload_n (pc := 4) hX d_P_lay_4 rfl rfl ?_
  refine jx_iald (pc := 5) hX oC_7 _ rfl (show a < 8 by omega) d_P_lay_5 ?_
  refine jx_top (y := nI (P.c a)) (r8 a ha) ?_
  refine jx_aload_n (pc := 6) hX d_P_lay_6 rfl rfl ?_
  refine g_P_24 (pc := 7) hX d_P_lay_7 ?_
  refine jx_iload_n (pc := 10) hX d_P_lay_10 rfl rfl ?_
  refine jx_iald (pc := 11) hX oC_7 _ rfl (show b < 8 by omega) d_P_lay_11 ?_
  refine jx_top (y := nI (P.c b)) (r8 b hb) ?_
  refine jx_max (pc := 12) hX w_P_62 ⟨(Nat.le_of_ble_eq_true rfl), (Nat.le_of_ble_eq_true rfl), Nat.zero_le _, Nat.zero_le _⟩ d_P_lay_12 ?_
  refine jx_top (y := nI (max (P.c a) (P.c b))) (nI_max (by omega) (by omega)) ?_
  refine jx_istore_n (pc := 15) hX d_P_lay_15 rfl (by decide) (L' := [(0, _), (1, _), (2, _), (3, _)]) rfl ?_
  refine jx_aload_n (pc := 16) hX d_P_lay_16 rfl rfl ?_
  refine g_P_9 (pc := 17) hX d_P_lay_17 ?_
  refine jx_aload_n (pc := 20) hX d_P_lay_20 rfl rfl ?_
  refine g_P_34 (pc := 21) hX d_P_lay_21 ?_
  refine jx_iload_n (pc := 24) hX d_P_lay_24 rfl rfl ?_
  refine jx_iast (pc := 25) hX oC_3 _ r2 hl d_P_lay_25 ?_
  refine jx_aload_n (pc := 26) hX d_P_lay_26 rfl rfl ?_
  refine g_P_15 (pc := 27) hX d_P_lay_27 ?_
  refine jx_aload_n (pc := 30) hX d_P_lay_30 rfl rfl ?_
  refine g_P_34 (pc := 31) hX d_P_lay_31 ?_
  refine jx_iload_n (pc := 34) hX d_P_lay_34 rfl rfl ?_
  refine jx_iast (pc := 35) hX oC_4 _ r2 hl d_P_lay_35 ?_
  refine jx_aload_n (pc := 36) hX d_P_lay_36 rfl rfl ?_
  refine g_P_18 (pc := 37) hX d_P_lay_37 ?_
  refine jx_aload_n (pc := 40) hX d_P_lay_40 rfl rfl ?_
  refine g_P_34 (pc := 41) hX d_P_lay_41 ?_
  refine jx_iload_n (pc := 44) hX d_P_lay_44 rfl rfl ?_
  refine jx_iast (pc := 45) hX oC_5 _ r2 hl d_P_lay_45 ?_
  refine jx_aload_n (pc := 46) hX d_P_lay_46 rfl rfl ?_
  refine jx_dup (pc := 47) hX d_P_lay_47 rfl ?_
  refine g_P_34 (pc := 48) hX d_P_lay_48 ?_
  refine jx_iconst (pc := 51) hX (v := 1) d_P_lay_51 rfl ?_
  refine jx_iadd (pc := 52) hX d_P_lay_52 ?_
  refine p_P_34 (pc := 53) hX d_P_lay_53 ?_
  refine jx_aload_n (pc := 56) hX d_P_lay_56 rfl rfl ?_
  refine g_P_24 (pc := 57) hX d_P_lay_57 ?_
  refine jx_iload_n (pc := 60) hX d_P_lay_60 rfl rfl ?_
  refine jx_iload_n (pc := 61) hX d_P_lay_61 rfl rfl ?_
  refine jx_iconst (pc := 62) hX (v := 1) d_P_lay_62 rfl ?_
  refine jx_iadd (pc := 63) hX d_P_lay_63 ?_
  refine jx_top (y := nI (max (P.c a) (P.c b) + 1)) (nI_1 _) ?_
  refine jx_iast (pc := 64) hX oC_7 _ rfl (show a < 8 by omega) d_P_lay_64 ?_
  refine jx_aload_n (pc := 65) hX d_P_lay_65 rfl rfl ?_
  refine g_P_24 (pc := 66) hX d_P_lay_66 ?_
  refine jx_iload_n (pc := 69) hX d_P_lay_69 rfl rfl ?_
  refine jx_iload_n (pc := 70) hX d_P_lay_70 rfl rfl ?_
  refine jx_iconst (pc := 71) hX (v := 1) d_P_lay_71 rfl ?_
  refine jx_iadd (pc := 72) hX d_P_lay_72 ?_
  refine jx_top (y := nI (max (P.c a) (P.c b) + 1)) (nI_1 _) ?_
  refine jx_iast (pc := 73) hX oC_7 _ rfl (show b < 8 by omega) d_P_lay_73 ?_
  refine jx_aload_n (pc := 74) hX d_P_lay_74 rfl rfl ?_
  refine jx_aload_n (pc := 75) hX d_P_lay_75 rfl rfl ?_
  refine g_P_37 (pc := 76) hX d_P_lay_76 ?_
  refine jx_top (y := nI P.k) (r3) ?_
  refine jx_iload_n (pc := 79) hX d_P_lay_79 rfl rfl ?_
  refine jx_iconst (pc := 80) hX (v := 1) d_P_lay_80 rfl ?_
  refine jx_iadd (pc := 81) hX d_P_lay_81 ?_
  refine jx_top (y := nI (max (P.c a) (P.c b) + 1)) (nI_1 _) ?_
  refine jx_max (pc := 82) hX w_P_62 ⟨(Nat.le_of_ble_eq_true rfl), (Nat.le_of_ble_eq_true rfl), Nat.zero_le _, Nat.zero_le _⟩ d_P_lay_82 ?_
  refine jx_top (y := nI (max P.k (max (P.c a) (P.c b) + 1))) (nI_max (by omega) (by omega)) ?_
  refine p_P_37 (pc := 85) hX d_P_lay_85 ?_
  exact jx_vret (pc := 88) hX d_P_lay_88 (⟨⟨po.lay ha hb, r1, by show σ.1 2 + 1 = _; rw [r2, nI_1]; congr 1; exact (Pl.lay_len P a b).symm, rfl, AR_app (q := (a, b, max (P.c a) (P.c b))) (g := fun q => q.1) r4 rfl, AR_app (q := (a, b, max (P.c a) (P.c b))) (g := fun q => q.2.1) r5 rfl, AR_app (q := (a, b, max (P.c a) (P.c b))) (g := fun q => q.2.2) r6 rfl, r7, (r8.up a rfl).up b rfl⟩, rfl⟩)
set_option maxRecDepth 100000 in
set_option maxHeartbeats 4000000 in
theorem t_P_joinParts {l : Launch} {D : va_G} {ad : Nat → Nat} {ac : Nat → ClassId} (σ : St) (w : Nat) (P : Pl) (hw8 : w ≤ 8) (hR : relP σ w P) (fr hf : Nat) (hfr : fr + 2 * hf ≤ w) (hl : P.l.length + hf ≤ 24) : jMv l (yC D ad ac) mt_P_joinParts TT (rmk 2) [.ref (ad 21), .int (nI fr), .int (nI hf)] σ (fun u => relP u w (P.join fr hf)) := by
  refine jMv_of (by decide) (Nat.le_of_ble_eq_true rfl) (List.forall_mem_cons.mpr ⟨rfl, List.forall_mem_cons.mpr ⟨rfl, List.forall_mem_cons.mpr ⟨rfl, fun _ h => absurd h List.not_mem_nil⟩⟩⟩) ?_
  intro X A hX
  have hX : jX X (yC D ad ac) A b_P_joinParts 4 RP (mt_P_joinParts.w :: TT) (rmk 2) none := hX
  show jW l X (yC D ad ac) A 4 0 0 kT (jQv X (yC D ad ac) A (fun u => relP u w (P.join fr hf))) σ 0 [(0, .ref (ad 21)), (1, .int (nI fr)), (2, .int (nI hf))] []
  have loop : ∀ (fu : Nat) (i : Nat) (σ1 : St), hf - i = fu → i ≤ hf → relP σ1 w (Pl.jnL fr hf i P) → AR (2 * i) nI (σ1.2 8) (jr P.r fr hf) → jW l X (yC D ad ac) A 4 0 0 kT (jQv X (yC D ad ac) A (fun u => relP u w (P.join fr hf))) σ1 2 [(0, .ref (ad 21)), (1, .int (nI fr)), (2, .int (nI hf)), (3, .int (nI i))] [] := by
    intro fu
    induction fu using Nat.strongRecOn with
    | ind fu ih =>
      intro i σ1 hfu hi hR1 hS
      obtain ⟨po, r1, r2, r3, r4, r5, r6, r7, r8⟩ := id hR1
      rw [Pl.jnL_r] at r7
      have hlen := Pl.jnL_len fr hf i P
      refine jx_iload_n (pc := 2) hX d_P_joinParts_2 rfl rfl ?_
      refine jx_iload_n (pc := 3) hX d_P_joinParts_3 rfl rfl ?_
      refine jx_icmp_ge (pc := 4) hX 71 d_P_joinParts_4 rfl (fun q4 => ?_) (fun q4 => ?_)
      · have hge : i = hf := by have : hf ≤ i := (nI_leI (by omega) (by omega)).mp q4; omega
        refine jx_aload_n (pc := 71) hX d_P_joinParts_71 rfl rfl ?_
        refine g_P_27 (pc := 72) hX d_P_joinParts_72 ?_
        refine jx_iconst (pc := 75) hX (v := 0) d_P_joinParts_75 rfl ?_
        refine jx_aload_n (pc := 76) hX d_P_joinParts_76 rfl rfl ?_
        refine g_P_21 (pc := 77) hX d_P_joinParts_77 ?_
        refine jx_iload_n (pc := 80) hX d_P_joinParts_80 rfl rfl ?_
        refine jx_iconst (pc := 81) hX (v := 2) d_P_joinParts_81 rfl ?_
        refine jx_iload_n (pc := 82) hX d_P_joinParts_82 rfl rfl ?_
        refine jx_imul (pc := 83) hX d_P_joinParts_83 ?_
        refine jx_top (y := nI (2 * hf)) (pk_mul 2 hf) ?_
        refine jx_copy (pc := 84) hX w_P_56 oC_8 oC_6 0 fr (2 * hf) rfl rfl rfl (show 0 + 2 * hf ≤ 8 by omega) (show fr + 2 * hf ≤ 8 by omega) (Nat.le_of_ble_eq_true rfl) (Nat.le_of_ble_eq_true rfl) d_P_joinParts_84 ?_
        exact jx_vret (pc := 87) hX d_P_joinParts_87 (by subst hge; have po2 : Pok w P := hR.1; exact ⟨⟨fun j hj => ⟨((po2.back (fr := fr) (jr_lt po2 hfr)).1 j hj).1, (po.1 j hj).2⟩, po.2⟩, r1, r2, r3, r4, r5, r6, AR_bk r7 hS, r8⟩)
      · have hlt : i < hf := Nat.lt_of_not_le (fun q => q4 (nI_le q (by omega)))
        refine jx_aload_n (pc := 7) hX d_P_joinParts_7 rfl rfl ?_
        refine g_P_27 (pc := 8) hX d_P_joinParts_8 ?_
        refine jx_iconst (pc := 11) hX (v := 2) d_P_joinParts_11 rfl ?_
        refine jx_iload_n (pc := 12) hX d_P_joinParts_12 rfl rfl ?_
        refine jx_imul (pc := 13) hX d_P_joinParts_13 ?_
        refine jx_top (y := nI (2 * i)) (pk_mul 2 i) ?_
        refine jx_aload_n (pc := 14) hX d_P_joinParts_14 rfl rfl ?_
        refine g_P_21 (pc := 15) hX d_P_joinParts_15 ?_
        refine jx_iload_n (pc := 18) hX d_P_joinParts_18 rfl rfl ?_
        refine jx_iload_n (pc := 19) hX d_P_joinParts_19 rfl rfl ?_
        refine jx_iadd (pc := 20) hX d_P_joinParts_20 ?_
        refine jx_top (y := nI (fr + i)) (nI_add _ _) ?_
        refine jx_iald (pc := 21) hX oC_6 _ rfl (show fr + i < 8 by omega) d_P_joinParts_21 ?_
        refine jx_top (y := nI (P.r (fr + i))) (r7 _ (by omega)) ?_
        refine jx_iast (pc := 22) hX oC_8 _ rfl (show 2 * i < 8 by omega) d_P_joinParts_22 ?_
        refine jx_aload_n (pc := 23) hX d_P_joinParts_23 rfl rfl ?_
        refine g_P_27 (pc := 24) hX d_P_joinParts_24 ?_
        refine jx_iconst (pc := 27) hX (v := 2) d_P_joinParts_27 rfl ?_
        refine jx_iload_n (pc := 28) hX d_P_joinParts_28 rfl rfl ?_
        refine jx_imul (pc := 29) hX d_P_joinParts_29 ?_
        refine jx_top (y := nI (2 * i)) (pk_mul 2 i) ?_
        refine jx_iconst (pc := 30) hX (v := 1) d_P_joinParts_30 rfl ?_
        refine jx_iadd (pc := 31) hX d_P_joinParts_31 ?_
        refine jx_top (y := nI (2 * i + 1)) (nI_1 _) ?_
        refine jx_aload_n (pc := 32) hX d_P_joinParts_32 rfl rfl ?_
        refine g_P_21 (pc := 33) hX d_P_joinParts_33 ?_
        refine jx_iload_n (pc := 36) hX d_P_joinParts_36 rfl rfl ?_
        refine jx_iload_n (pc := 37) hX d_P_joinParts_37 rfl rfl ?_
        refine jx_iadd (pc := 38) hX d_P_joinParts_38 ?_
        refine jx_top (y := nI (fr + hf)) (nI_add _ _) ?_
        refine jx_iload_n (pc := 39) hX d_P_joinParts_39 rfl rfl ?_
        refine jx_iadd (pc := 40) hX d_P_joinParts_40 ?_
        refine jx_top (y := nI (fr + hf + i)) (nI_add _ _) ?_
        refine jx_iald (pc := 41) hX oC_6 _ rfl (show fr + hf + i < 8 by omega) d_P_joinParts_41 ?_
        refine jx_top (y := nI (P.r (fr + hf + i))) (r7 _ (by omega)) ?_
        refine jx_iast (pc := 42) hX oC_8 _ rfl (show 2 * i + 1 < 8 by omega) d_P_joinParts_42 ?_
        refine jx_aload_n (pc := 43) hX d_P_joinParts_43 rfl rfl ?_
        refine jx_aload_n (pc := 44) hX d_P_joinParts_44 rfl rfl ?_
        refine g_P_27 (pc := 45) hX d_P_joinParts_45 ?_
        refine jx_iconst (pc := 48) hX (v := 2) d_P_joinParts_48 rfl ?_
        refine jx_iload_n (pc := 49) hX d_P_joinParts_49 rfl rfl ?_
        refine jx_imul (pc := 50) hX d_P_joinParts_50 ?_
        refine jx_top (y := nI (2 * i)) (pk_mul 2 i) ?_
        refine jx_iald (pc := 51) hX oC_8 _ rfl (show 2 * i < 8 by omega) d_P_joinParts_51 ?_
        refine jx_top (y := nI (P.r (fr + i))) (by show upd (upd (σ1.2 8) (2 * i) (nI (P.r (fr + i)))) (2 * i + 1) (nI (P.r (fr + hf + i))) (2 * i) = _; rw [pk_un (by omega), pk_us]) ?_
        refine jx_aload_n (pc := 52) hX d_P_joinParts_52 rfl rfl ?_
        refine g_P_27 (pc := 53) hX d_P_joinParts_53 ?_
        refine jx_iconst (pc := 56) hX (v := 2) d_P_joinParts_56 rfl ?_
        refine jx_iload_n (pc := 57) hX d_P_joinParts_57 rfl rfl ?_
        refine jx_imul (pc := 58) hX d_P_joinParts_58 ?_
        refine jx_top (y := nI (2 * i)) (pk_mul 2 i) ?_
        refine jx_iconst (pc := 59) hX (v := 1) d_P_joinParts_59 rfl ?_
        refine jx_iadd (pc := 60) hX d_P_joinParts_60 ?_
        refine jx_top (y := nI (2 * i + 1)) (nI_1 _) ?_
        refine jx_iald (pc := 61) hX oC_8 _ rfl (show 2 * i + 1 < 8 by omega) d_P_joinParts_61 ?_
        refine jx_top (y := nI (P.r (fr + hf + i))) (by show upd (upd (σ1.2 8) (2 * i) (nI (P.r (fr + i)))) (2 * i + 1) (nI (P.r (fr + hf + i))) (2 * i + 1) = _; rw [pk_us]) ?_
        refine k_P_47 (pc := 62) hX (t_P_lay (sA (sA σ1 8 (2 * i) (nI (P.r (fr + i)))) 8 (2 * i + 1) (nI (P.r (fr + hf + i)))) w (Pl.jnL fr hf i P) hw8 ⟨po, r1, r2, r3, r4, r5, r6, by rw [Pl.jnL_r]; exact r7, r8⟩ (by omega) (P.r (fr + i)) (P.r (fr + hf + i)) (by have := po.1 (fr + i) (by omega); rw [Pl.jnL_r] at this; exact this.1) (by have := po.1 (fr + hf + i) (by omega); rw [Pl.jnL_r] at this; exact this.1)) ⟨rfl, rfl, (Nat.le_of_ble_eq_true rfl), (Nat.le_of_ble_eq_true rfl)⟩ rfl rfl (Nat.le_of_ble_eq_true rfl) ⟨Nat.zero_le _, Nat.zero_le _⟩ d_P_joinParts_62 (fun u hu => ?_)
        refine jx_iinc (pc := 65) hX (v := nI (i + 1)) d_P_joinParts_65 rfl (nI_1 i) (by decide) (L' := [(0, _), (1, _), (2, _), (3, _)]) rfl ?_
        refine jx_goto (pc := 68) hX 2 d_P_joinParts_68 rfl ?_
        exact ih _ (by omega) (i + 1) u rfl (by omega) hu.1 (by rw [hu.2]; exact jr_s hS rfl rfl)
  refine jx_iconst (pc := 0) hX (v := 0) d_P_joinParts_0 rfl ?_
  refine jx_istore_n (pc := 1) hX d_P_joinParts_1 rfl (by decide) (L' := [(0, _), (1, _), (2, _), (3, _)]) rfl ?_
  exact loop _ 0 σ rfl (Nat.zero_le _) hR (fun p hp => absurd hp (by omega))
set_option maxRecDepth 100000 in
set_option maxHeartbeats 4000000 in
theorem t_P_sortIntoParts {l : Launch} {D : va_G} {ad : Nat → Nat} {ac : Nat → ClassId} (σ : St) (w : Nat) (P : Pl) (hw8 : w ≤ 8) (hR : relP σ w P) (fr hf : Nat) (hfr : fr + 2 * hf ≤ w) (h2 : hf % 2 = 0) : jMv l (yC D ad ac) mt_P_sortIntoParts TT (rmk 1) [.ref (ad 21), .int (nI fr), .int (nI hf)] σ (fun u => relP u w (P.sort fr hf)) := by
  refine jMv_of (by decide) (Nat.le_of_ble_eq_true rfl) (List.forall_mem_cons.mpr ⟨rfl, List.forall_mem_cons.mpr ⟨rfl, List.forall_mem_cons.mpr ⟨rfl, fun _ h => absurd h List.not_mem_nil⟩⟩⟩) ?_
  intro X A hX
  have hX : jX X (yC D ad ac) A b_P_sortIntoParts 6 RP (mt_P_sortIntoParts.w :: TT) (rmk 1) none := hX
  show jW l X (yC D ad ac) A 6 0 0 kT (jQv X (yC D ad ac) A (fun u => relP u w (P.sort fr hf))) σ 0 [(0, .ref (ad 21)), (1, .int (nI fr)), (2, .int (nI hf))] []
  have loop : ∀ (fu : Nat) (i : Nat) (σ1 : St), hf - i = fu → i ≤ hf → relP σ1 w P → sOk P.r (σ1.2 8) fr hf i → jW l X (yC D ad ac) A 6 0 0 kT (jQv X (yC D ad ac) A (fun u => relP u w (P.sort fr hf))) σ1 7 [(0, .ref (ad 21)), (1, .int (nI fr)), (2, .int (nI hf)), (3, .int (nI (hf / 2))), (4, .int (nI i))] [] := by
    intro fu
    induction fu using Nat.strongRecOn with
    | ind fu ih =>
      intro i σ1 hfu hi hR1 hS
      obtain ⟨po, r1, r2, r3, r4, r5, r6, r7, r8⟩ := id hR1
      refine jx_iload (pc := 7) hX d_P_sortIntoParts_7 rfl ?_
      refine jx_iload_n (pc := 9) hX d_P_sortIntoParts_9 rfl rfl ?_
      refine jx_icmp_ge (pc := 10) hX 95 d_P_sortIntoParts_10 rfl (fun q10 => ?_) (fun q10 => ?_)
      · have hge : i = hf := by have : hf ≤ i := (nI_leI (by omega) (by omega)).mp q10; omega
        refine jx_aload_n (pc := 95) hX d_P_sortIntoParts_95 rfl rfl ?_
        refine g_P_27 (pc := 96) hX d_P_sortIntoParts_96 ?_
        refine jx_iconst (pc := 99) hX (v := 0) d_P_sortIntoParts_99 rfl ?_
        refine jx_aload_n (pc := 100) hX d_P_sortIntoParts_100 rfl rfl ?_
        refine g_P_21 (pc := 101) hX d_P_sortIntoParts_101 ?_
        refine jx_iload_n (pc := 104) hX d_P_sortIntoParts_104 rfl rfl ?_
        refine jx_iconst (pc := 105) hX (v := 2) d_P_sortIntoParts_105 rfl ?_
        refine jx_iload_n (pc := 106) hX d_P_sortIntoParts_106 rfl rfl ?_
        refine jx_imul (pc := 107) hX d_P_sortIntoParts_107 ?_
        refine jx_top (y := nI (2 * hf)) (pk_mul 2 hf) ?_
        refine jx_copy (pc := 108) hX w_P_56 oC_8 oC_6 0 fr (2 * hf) rfl rfl rfl (show 0 + 2 * hf ≤ 8 by omega) (show fr + 2 * hf ≤ 8 by omega) (Nat.le_of_ble_eq_true rfl) (Nat.le_of_ble_eq_true rfl) d_P_sortIntoParts_108 ?_
        exact jx_vret (pc := 111) hX d_P_sortIntoParts_111 (by subst hge; exact ⟨po.back (sor_lt po hfr h2), r1, r2, r3, r4, r5, r6, AR_bk r7 (sOk_all h2 hS), r8⟩)
      · have hlt : i < hf := Nat.lt_of_not_le (fun q => q10 (nI_le q (by omega)))
        refine jx_iload (pc := 13) hX d_P_sortIntoParts_13 rfl ?_
        refine jx_iconst (pc := 15) hX (v := 2) d_P_sortIntoParts_15 rfl ?_
        refine jx_irem (pc := 16) hX d_P_sortIntoParts_16 (by decide) ?_
        refine jx_top (y := nI (i % 2)) (pk_rem (by omega) (by decide) (by decide)) ?_
        refine jx_if_ne (pc := 17) hX 24 d_P_sortIntoParts_17 rfl (fun q17a => ?_) (fun q17a => ?_)
        · have q17 : ¬ i % 2 = 0 := fun q => q17a (by rw [q]; decide)
          refine jx_iconst (pc := 24) hX (v := 0) d_P_sortIntoParts_24 rfl ?_
          refine jx_istore (pc := 25) hX d_P_sortIntoParts_25 (by decide) (L' := [(0, _), (1, _), (2, _), (3, _), (4, _), (5, _)]) rfl ?_
          try rw [show (0 : Int32) = 0 from rfl]
          refine jx_aload_n (pc := 27) hX d_P_sortIntoParts_27 rfl rfl ?_
          refine g_P_27 (pc := 28) hX d_P_sortIntoParts_28 ?_
          refine jx_iload (pc := 31) hX d_P_sortIntoParts_31 rfl ?_
          refine jx_if_eq (pc := 33) hX 40 d_P_sortIntoParts_33 rfl (fun _ => ?_) (fun hh => absurd (rfl) hh)
          refine jx_iload_n (pc := 40) hX d_P_sortIntoParts_40 rfl rfl ?_
          refine jx_iload (pc := 41) hX d_P_sortIntoParts_41 rfl ?_
          refine jx_iconst (pc := 43) hX (v := 2) d_P_sortIntoParts_43 rfl ?_
          refine jx_idiv (pc := 44) hX d_P_sortIntoParts_44 (by decide) ?_
          refine jx_top (y := nI (i / 2)) (pk_div (by omega) (by decide) (by decide)) ?_
          refine jx_iadd (pc := 45) hX d_P_sortIntoParts_45 ?_
          refine jx_top (y := nI (hf + i / 2)) (nI_add _ _) ?_
          refine jx_aload_n (pc := 46) hX d_P_sortIntoParts_46 rfl rfl ?_
          refine g_P_21 (pc := 47) hX d_P_sortIntoParts_47 ?_
          refine jx_iload_n (pc := 50) hX d_P_sortIntoParts_50 rfl rfl ?_
          refine jx_iload (pc := 51) hX d_P_sortIntoParts_51 rfl ?_
          refine jx_iadd (pc := 53) hX d_P_sortIntoParts_53 ?_
          refine jx_top (y := nI (fr + i)) (nI_add _ _) ?_
          refine jx_iald (pc := 54) hX oC_6 _ rfl (show fr + i < 8 by omega) d_P_sortIntoParts_54 ?_
          refine jx_top (y := nI (P.r (fr + i))) (r7 _ (by omega)) ?_
          refine jx_iast (pc := 55) hX oC_8 _ rfl (show hf + i / 2 < 8 by omega) d_P_sortIntoParts_55 ?_
          refine jx_aload_n (pc := 56) hX d_P_sortIntoParts_56 rfl rfl ?_
          refine g_P_27 (pc := 57) hX d_P_sortIntoParts_57 ?_
          refine jx_iload (pc := 60) hX d_P_sortIntoParts_60 rfl ?_
          refine jx_if_eq (pc := 62) hX 69 d_P_sortIntoParts_62 rfl (fun _ => ?_) (fun hh => absurd (rfl) hh)
          refine jx_iconst (pc := 69) hX (v := 0) d_P_sortIntoParts_69 rfl ?_
          refine jx_iload_n (pc := 70) hX d_P_sortIntoParts_70 rfl rfl ?_
          refine jx_iadd (pc := 71) hX d_P_sortIntoParts_71 ?_
          refine jx_top (y := nI (0 + hf / 2)) (nI_add 0 _) ?_
          refine jx_iload (pc := 72) hX d_P_sortIntoParts_72 rfl ?_
          refine jx_iconst (pc := 74) hX (v := 2) d_P_sortIntoParts_74 rfl ?_
          refine jx_idiv (pc := 75) hX d_P_sortIntoParts_75 (by decide) ?_
          refine jx_top (y := nI (i / 2)) (pk_div (by omega) (by decide) (by decide)) ?_
          refine jx_iadd (pc := 76) hX d_P_sortIntoParts_76 ?_
          refine jx_top (y := nI (0 + hf / 2 + i / 2)) (nI_add _ _) ?_
          refine jx_aload_n (pc := 77) hX d_P_sortIntoParts_77 rfl rfl ?_
          refine g_P_21 (pc := 78) hX d_P_sortIntoParts_78 ?_
          refine jx_iload_n (pc := 81) hX d_P_sortIntoParts_81 rfl rfl ?_
          refine jx_iload_n (pc := 82) hX d_P_sortIntoParts_82 rfl rfl ?_
          refine jx_iadd (pc := 83) hX d_P_sortIntoParts_83 ?_
          refine jx_top (y := nI (fr + hf)) (nI_add _ _) ?_
          refine jx_iload (pc := 84) hX d_P_sortIntoParts_84 rfl ?_
          refine jx_iadd (pc := 86) hX d_P_sortIntoParts_86 ?_
          refine jx_top (y := nI (fr + hf + i)) (nI_add _ _) ?_
          refine jx_iald (pc := 87) hX oC_6 _ rfl (show fr + hf + i < 8 by omega) d_P_sortIntoParts_87 ?_
          refine jx_top (y := nI (P.r (fr + hf + i))) (r7 _ (by omega)) ?_
          refine jx_iast (pc := 88) hX oC_8 _ rfl (show 0 + hf / 2 + i / 2 < 8 by omega) d_P_sortIntoParts_88 ?_
          refine jx_iinc (pc := 89) hX (v := nI (i + 1)) d_P_sortIntoParts_89 rfl (nI_1 i) (by decide) (L' := [(0, _), (1, _), (2, _), (3, _), (4, _), (5, _)]) rfl ?_
          refine jx_goto (pc := 92) hX 7 d_P_sortIntoParts_92 rfl ?_
          refine jx_take 5 ?_
          exact ih _ (by omega) (i + 1) (sA (sA σ1 8 (hf + i / 2) (nI (P.r (fr + i)))) 8 (0 + hf / 2 + i / 2) (nI (P.r (fr + hf + i)))) rfl (by omega) ⟨po, r1, r2, r3, r4, r5, r6, r7, r8⟩ (sOk_s h2 hlt hS (by rw [if_neg q17]) (by rw [if_neg q17]) rfl rfl)
        · have q17 : i % 2 = 0 := (nI_n0 (by omega)).mp q17a
          refine jx_iconst (pc := 20) hX (v := 1) d_P_sortIntoParts_20 rfl ?_
          refine jx_goto (pc := 21) hX 25 d_P_sortIntoParts_21 rfl ?_
          refine jx_istore (pc := 25) hX d_P_sortIntoParts_25 (by decide) (L' := [(0, _), (1, _), (2, _), (3, _), (4, _), (5, _)]) rfl ?_
          try rw [show (0 : Int32) = 0 from rfl]
          refine jx_aload_n (pc := 27) hX d_P_sortIntoParts_27 rfl rfl ?_
          refine g_P_27 (pc := 28) hX d_P_sortIntoParts_28 ?_
          refine jx_iload (pc := 31) hX d_P_sortIntoParts_31 rfl ?_
          refine jx_if_eq (pc := 33) hX 40 d_P_sortIntoParts_33 rfl (fun hh => absurd hh (by decide)) (fun _ => ?_)
          refine jx_iconst (pc := 36) hX (v := 0) d_P_sortIntoParts_36 rfl ?_
          refine jx_goto (pc := 37) hX 41 d_P_sortIntoParts_37 rfl ?_
          refine jx_iload (pc := 41) hX d_P_sortIntoParts_41 rfl ?_
          refine jx_iconst (pc := 43) hX (v := 2) d_P_sortIntoParts_43 rfl ?_
          refine jx_idiv (pc := 44) hX d_P_sortIntoParts_44 (by decide) ?_
          refine jx_top (y := nI (i / 2)) (pk_div (by omega) (by decide) (by decide)) ?_
          refine jx_iadd (pc := 45) hX d_P_sortIntoParts_45 ?_
          refine jx_top (y := nI (0 + i / 2)) (nI_add 0 _) ?_
          refine jx_aload_n (pc := 46) hX d_P_sortIntoParts_46 rfl rfl ?_
          refine g_P_21 (pc := 47) hX d_P_sortIntoParts_47 ?_
          refine jx_iload_n (pc := 50) hX d_P_sortIntoParts_50 rfl rfl ?_
          refine jx_iload (pc := 51) hX d_P_sortIntoParts_51 rfl ?_
          refine jx_iadd (pc := 53) hX d_P_sortIntoParts_53 ?_
          refine jx_top (y := nI (fr + i)) (nI_add _ _) ?_
          refine jx_iald (pc := 54) hX oC_6 _ rfl (show fr + i < 8 by omega) d_P_sortIntoParts_54 ?_
          refine jx_top (y := nI (P.r (fr + i))) (r7 _ (by omega)) ?_
          refine jx_iast (pc := 55) hX oC_8 _ rfl (show 0 + i / 2 < 8 by omega) d_P_sortIntoParts_55 ?_
          refine jx_aload_n (pc := 56) hX d_P_sortIntoParts_56 rfl rfl ?_
          refine g_P_27 (pc := 57) hX d_P_sortIntoParts_57 ?_
          refine jx_iload (pc := 60) hX d_P_sortIntoParts_60 rfl ?_
          refine jx_if_eq (pc := 62) hX 69 d_P_sortIntoParts_62 rfl (fun hh => absurd hh (by decide)) (fun _ => ?_)
          refine jx_iload_n (pc := 65) hX d_P_sortIntoParts_65 rfl rfl ?_
          refine jx_goto (pc := 66) hX 70 d_P_sortIntoParts_66 rfl ?_
          refine jx_iload_n (pc := 70) hX d_P_sortIntoParts_70 rfl rfl ?_
          refine jx_iadd (pc := 71) hX d_P_sortIntoParts_71 ?_
          refine jx_top (y := nI (hf + hf / 2)) (nI_add _ _) ?_
          refine jx_iload (pc := 72) hX d_P_sortIntoParts_72 rfl ?_
          refine jx_iconst (pc := 74) hX (v := 2) d_P_sortIntoParts_74 rfl ?_
          refine jx_idiv (pc := 75) hX d_P_sortIntoParts_75 (by decide) ?_
          refine jx_top (y := nI (i / 2)) (pk_div (by omega) (by decide) (by decide)) ?_
          refine jx_iadd (pc := 76) hX d_P_sortIntoParts_76 ?_
          refine jx_top (y := nI (hf + hf / 2 + i / 2)) (nI_add _ _) ?_
          refine jx_aload_n (pc := 77) hX d_P_sortIntoParts_77 rfl rfl ?_
          refine g_P_21 (pc := 78) hX d_P_sortIntoParts_78 ?_
          refine jx_iload_n (pc := 81) hX d_P_sortIntoParts_81 rfl rfl ?_
          refine jx_iload_n (pc := 82) hX d_P_sortIntoParts_82 rfl rfl ?_
          refine jx_iadd (pc := 83) hX d_P_sortIntoParts_83 ?_
          refine jx_top (y := nI (fr + hf)) (nI_add _ _) ?_
          refine jx_iload (pc := 84) hX d_P_sortIntoParts_84 rfl ?_
          refine jx_iadd (pc := 86) hX d_P_sortIntoParts_86 ?_
          refine jx_top (y := nI (fr + hf + i)) (nI_add _ _) ?_
          refine jx_iald (pc := 87) hX oC_6 _ rfl (show fr + hf + i < 8 by omega) d_P_sortIntoParts_87 ?_
          refine jx_top (y := nI (P.r (fr + hf + i))) (r7 _ (by omega)) ?_
          refine jx_iast (pc := 88) hX oC_8 _ rfl (show hf + hf / 2 + i / 2 < 8 by omega) d_P_sortIntoParts_88 ?_
          refine jx_iinc (pc := 89) hX (v := nI (i + 1)) d_P_sortIntoParts_89 rfl (nI_1 i) (by decide) (L' := [(0, _), (1, _), (2, _), (3, _), (4, _), (5, _)]) rfl ?_
          refine jx_goto (pc := 92) hX 7 d_P_sortIntoParts_92 rfl ?_
          refine jx_take 5 ?_
          exact ih _ (by omega) (i + 1) (sA (sA σ1 8 (0 + i / 2) (nI (P.r (fr + i)))) 8 (hf + hf / 2 + i / 2) (nI (P.r (fr + hf + i)))) rfl (by omega) ⟨po, r1, r2, r3, r4, r5, r6, r7, r8⟩ (sOk_s h2 hlt hS (by rw [if_pos q17]) (by rw [if_pos q17]) rfl rfl)
  refine jx_iload_n (pc := 0) hX d_P_sortIntoParts_0 rfl rfl ?_
  refine jx_iconst (pc := 1) hX (v := 2) d_P_sortIntoParts_1 rfl ?_
  refine jx_idiv (pc := 2) hX d_P_sortIntoParts_2 (by decide) ?_
  refine jx_top (y := nI (hf / 2)) (pk_div (by omega) (by decide) (by decide)) ?_
  refine jx_istore_n (pc := 3) hX d_P_sortIntoParts_3 rfl (by decide) (L' := [(0, _), (1, _), (2, _), (3, _)]) rfl ?_
  refine jx_iconst (pc := 4) hX (v := 0) d_P_sortIntoParts_4 rfl ?_
  refine jx_istore (pc := 5) hX d_P_sortIntoParts_5 (by decide) (L' := [(0, _), (1, _), (2, _), (3, _), (4, _)]) rfl ?_
  exact loop _ 0 σ rfl (Nat.zero_le _) hR sOk_0
set_option maxRecDepth 100000 in
set_option maxHeartbeats 4000000 in
theorem t_P_merge0 {l : Launch} {D : va_G} {ad : Nat → Nat} {ac : Nat → ClassId} (σ : St) (w : Nat) (P : Pl) (hw8 : w ≤ 8) (hR : relP σ w P) (fr : Nat) (hfr : fr + 2 ≤ w) (hl : P.l.length + 1 ≤ 24) : jMv l (yC D ad ac) mt_P_merge TT (rmk 2) [.ref (ad 21), .int (nI fr), .int (nI 2)] σ (fun u => relP u w (P.m0 fr)) := by
  obtain ⟨po, r1, r2, r3, r4, r5, r6, r7, r8⟩ := id hR
  refine jMv_of (by decide) (Nat.le_of_ble_eq_true rfl) (List.forall_mem_cons.mpr ⟨rfl, List.forall_mem_cons.mpr ⟨rfl, List.forall_mem_cons.mpr ⟨rfl, fun _ h => absurd h List.not_mem_nil⟩⟩⟩) ?_
  intro X A hX
  have hX : jX X (yC D ad ac) A b_P_merge 4 RP (mt_P_merge.w :: TT) (rmk 2) none := hX
  show jW l X (yC D ad ac) A 4 0 0 kT (jQv X (yC D ad ac) A (fun u => relP u w (P.m0 fr))) σ 0 [(0, .ref (ad 21)), (1, .int (nI fr)), (2, .int (nI 2))] []
  refine jx_iload_n (pc := 0) hX d_P_merge_0 rfl rfl ?_
  refine jx_iconst (pc := 1) hX (v := 2) d_P_merge_1 rfl ?_
  refine jx_icmp_gt (pc := 2) hX 24 d_P_merge_2 rfl (fun hh => absurd hh (by decide)) (fun _ => ?_)
  refine jx_aload_n (pc := 5) hX d_P_merge_5 rfl rfl ?_
  refine jx_aload_n (pc := 6) hX d_P_merge_6 rfl rfl ?_
  refine g_P_21 (pc := 7) hX d_P_merge_7 ?_
  refine jx_iload_n (pc := 10) hX d_P_merge_10 rfl rfl ?_
  refine jx_iald (pc := 11) hX oC_6 _ rfl (show fr < 8 by omega) d_P_merge_11 ?_
  refine jx_top (y := nI (P.r fr)) (r7 _ (by omega)) ?_
  refine jx_aload_n (pc := 12) hX d_P_merge_12 rfl rfl ?_
  refine g_P_21 (pc := 13) hX d_P_merge_13 ?_
  refine jx_iload_n (pc := 16) hX d_P_merge_16 rfl rfl ?_
  refine jx_iconst (pc := 17) hX (v := 1) d_P_merge_17 rfl ?_
  refine jx_iadd (pc := 18) hX d_P_merge_18 ?_
  refine jx_top (y := nI (fr + 1)) (nI_1 _) ?_
  refine jx_iald (pc := 19) hX oC_6 _ rfl (show fr + 1 < 8 by omega) d_P_merge_19 ?_
  refine jx_top (y := nI (P.r (fr + 1))) (r7 _ (by omega)) ?_
  refine k_P_47 (pc := 20) hX (t_P_lay σ w P hw8 hR (by omega) (P.r fr) (P.r (fr + 1)) (po.1 _ (by omega)).1 (po.1 _ (by omega)).1) ⟨rfl, rfl, (Nat.le_of_ble_eq_true rfl), (Nat.le_of_ble_eq_true rfl)⟩ rfl rfl (Nat.le_of_ble_eq_true rfl) ⟨Nat.zero_le _, Nat.zero_le _⟩ d_P_merge_20 (fun u hu => ?_)
  exact jx_vret (pc := 23) hX d_P_merge_23 (hu.1)
set_option maxRecDepth 100000 in
set_option maxHeartbeats 4000000 in
theorem t_P_merge1 {l : Launch} {D : va_G} {ad : Nat → Nat} {ac : Nat → ClassId} (σ : St) (w : Nat) (P : Pl) (hw8 : w ≤ 8) (hR : relP σ w P) (fr : Nat) (hfr : fr + 4 ≤ w) (hl : P.l.length + 4 ≤ 24) : jMv l (yC D ad ac) mt_P_merge TT (rmk 4) [.ref (ad 21), .int (nI fr), .int (nI 4)] σ (fun u => relP u w (P.m1 fr)) := by
  refine jMv_of (by decide) (Nat.le_of_ble_eq_true rfl) (List.forall_mem_cons.mpr ⟨rfl, List.forall_mem_cons.mpr ⟨rfl, List.forall_mem_cons.mpr ⟨rfl, fun _ h => absurd h List.not_mem_nil⟩⟩⟩) ?_
  intro X A hX
  have hX : jX X (yC D ad ac) A b_P_merge 4 RP (mt_P_merge.w :: TT) (rmk 4) none := hX
  show jW l X (yC D ad ac) A 4 0 0 kT (jQv X (yC D ad ac) A (fun u => relP u w (P.m1 fr))) σ 0 [(0, .ref (ad 21)), (1, .int (nI fr)), (2, .int (nI 4))] []
  refine jx_iload_n (pc := 0) hX d_P_merge_0 rfl rfl ?_
  refine jx_iconst (pc := 1) hX (v := 2) d_P_merge_1 rfl ?_
  refine jx_icmp_gt (pc := 2) hX 24 d_P_merge_2 rfl (fun _ => ?_) (fun hh => absurd (by decide) hh)
  refine jx_iload_n (pc := 24) hX d_P_merge_24 rfl rfl ?_
  refine jx_iconst (pc := 25) hX (v := 2) d_P_merge_25 rfl ?_
  refine jx_idiv (pc := 26) hX d_P_merge_26 (by decide) ?_
  refine jx_top (y := nI 2) (by decide) ?_
  refine jx_istore_n (pc := 27) hX d_P_merge_27 rfl (by decide) (L' := [(0, _), (1, _), (2, _), (3, _)]) rfl ?_
  refine jx_aload_n (pc := 28) hX d_P_merge_28 rfl rfl ?_
  refine jx_iload_n (pc := 29) hX d_P_merge_29 rfl rfl ?_
  refine jx_iload_n (pc := 30) hX d_P_merge_30 rfl rfl ?_
  refine k_P_50 (pc := 31) hX (t_P_sortIntoParts σ w P hw8 hR fr 2 (by omega) (by decide)) ⟨rfl, rfl, (Nat.le_of_ble_eq_true rfl), (Nat.le_of_ble_eq_true rfl)⟩ rfl rfl (Nat.le_of_ble_eq_true rfl) ⟨Nat.zero_le _, Nat.zero_le _⟩ d_P_merge_31 (fun u1 hu1 => ?_)
  refine jx_aload_n (pc := 34) hX d_P_merge_34 rfl rfl ?_
  refine jx_iload_n (pc := 35) hX d_P_merge_35 rfl rfl ?_
  refine jx_iload_n (pc := 36) hX d_P_merge_36 rfl rfl ?_
  refine k_P_44 (pc := 37) hX (t_P_merge0 u1 w (P.sort fr 2) hw8 hu1 fr (by omega) (show P.l.length + 1 ≤ 24 by omega)) ⟨rfl, rfl, (Nat.le_of_ble_eq_true rfl), (Nat.le_of_ble_eq_true rfl)⟩ rfl rfl (Nat.le_of_ble_eq_true rfl) ⟨Nat.zero_le _, Nat.zero_le _⟩ d_P_merge_37 (fun u2 hu2 => ?_)
  refine jx_aload_n (pc := 40) hX d_P_merge_40 rfl rfl ?_
  refine jx_iload_n (pc := 41) hX d_P_merge_41 rfl rfl ?_
  refine jx_iload_n (pc := 42) hX d_P_merge_42 rfl rfl ?_
  refine jx_iadd (pc := 43) hX d_P_merge_43 ?_
  refine jx_top (y := nI (fr + 2)) (nI_add _ _) ?_
  refine jx_iload_n (pc := 44) hX d_P_merge_44 rfl rfl ?_
  refine k_P_44 (pc := 45) hX (t_P_merge0 u2 w ((P.sort fr 2).m0 fr) hw8 hu2 (fr + 2) (by omega) (by rw [Pl.m0_len]; show P.l.length + 1 + 1 ≤ 24; omega)) ⟨rfl, rfl, (Nat.le_of_ble_eq_true rfl), (Nat.le_of_ble_eq_true rfl)⟩ rfl rfl (Nat.le_of_ble_eq_true rfl) ⟨Nat.zero_le _, Nat.zero_le _⟩ d_P_merge_45 (fun u3 hu3 => ?_)
  refine jx_aload_n (pc := 48) hX d_P_merge_48 rfl rfl ?_
  refine jx_iload_n (pc := 49) hX d_P_merge_49 rfl rfl ?_
  refine jx_iload_n (pc := 50) hX d_P_merge_50 rfl rfl ?_
  refine k_P_53 (pc := 51) hX (t_P_joinParts u3 w (((P.sort fr 2).m0 fr).m0 (fr + 2)) hw8 hu3 fr 2 (by omega) (by rw [Pl.m0_len, Pl.m0_len]; show P.l.length + 1 + 1 + 2 ≤ 24; omega)) ⟨rfl, rfl, (Nat.le_of_ble_eq_true rfl), (Nat.le_of_ble_eq_true rfl)⟩ rfl rfl (Nat.le_of_ble_eq_true rfl) ⟨Nat.zero_le _, Nat.zero_le _⟩ d_P_merge_51 (fun u4 hu4 => ?_)
  exact jx_vret (pc := 54) hX d_P_merge_54 (hu4)
set_option maxRecDepth 100000 in
set_option maxHeartbeats 4000000 in
theorem t_P_merge2 {l : Launch} {D : va_G} {ad : Nat → Nat} {ac : Nat → ClassId} (σ : St) (w : Nat) (P : Pl) (hw8 : w ≤ 8) (hR : relP σ w P) (fr : Nat) (hfr : fr + 8 ≤ w) (hl : P.l.length + 12 ≤ 24) : jMv l (yC D ad ac) mt_P_merge TT (rmk 5) [.ref (ad 21), .int (nI fr), .int (nI 8)] σ (fun u => relP u w (P.m2 fr)) := by
  refine jMv_of (by decide) (Nat.le_of_ble_eq_true rfl) (List.forall_mem_cons.mpr ⟨rfl, List.forall_mem_cons.mpr ⟨rfl, List.forall_mem_cons.mpr ⟨rfl, fun _ h => absurd h List.not_mem_nil⟩⟩⟩) ?_
  intro X A hX
  have hX : jX X (yC D ad ac) A b_P_merge 4 RP (mt_P_merge.w :: TT) (rmk 5) none := hX
  show jW l X (yC D ad ac) A 4 0 0 kT (jQv X (yC D ad ac) A (fun u => relP u w (P.m2 fr))) σ 0 [(0, .ref (ad 21)), (1, .int (nI fr)), (2, .int (nI 8))] []
  refine jx_iload_n (pc := 0) hX d_P_merge_0 rfl rfl ?_
  refine jx_iconst (pc := 1) hX (v := 2) d_P_merge_1 rfl ?_
  refine jx_icmp_gt (pc := 2) hX 24 d_P_merge_2 rfl (fun _ => ?_) (fun hh => absurd (by decide) hh)
  refine jx_iload_n (pc := 24) hX d_P_merge_24 rfl rfl ?_
  refine jx_iconst (pc := 25) hX (v := 2) d_P_merge_25 rfl ?_
  refine jx_idiv (pc := 26) hX d_P_merge_26 (by decide) ?_
  refine jx_top (y := nI 4) (by decide) ?_
  refine jx_istore_n (pc := 27) hX d_P_merge_27 rfl (by decide) (L' := [(0, _), (1, _), (2, _), (3, _)]) rfl ?_
  refine jx_aload_n (pc := 28) hX d_P_merge_28 rfl rfl ?_
  refine jx_iload_n (pc := 29) hX d_P_merge_29 rfl rfl ?_
  refine jx_iload_n (pc := 30) hX d_P_merge_30 rfl rfl ?_
  refine k_P_50 (pc := 31) hX (t_P_sortIntoParts σ w P hw8 hR fr 4 (by omega) (by decide)) ⟨rfl, rfl, (Nat.le_of_ble_eq_true rfl), (Nat.le_of_ble_eq_true rfl)⟩ rfl rfl (Nat.le_of_ble_eq_true rfl) ⟨Nat.zero_le _, Nat.zero_le _⟩ d_P_merge_31 (fun u1 hu1 => ?_)
  refine jx_aload_n (pc := 34) hX d_P_merge_34 rfl rfl ?_
  refine jx_iload_n (pc := 35) hX d_P_merge_35 rfl rfl ?_
  refine jx_iload_n (pc := 36) hX d_P_merge_36 rfl rfl ?_
  refine k_P_44 (pc := 37) hX (t_P_merge1 u1 w (P.sort fr 4) hw8 hu1 fr (by omega) (show P.l.length + 4 ≤ 24 by omega)) ⟨rfl, rfl, (Nat.le_of_ble_eq_true rfl), (Nat.le_of_ble_eq_true rfl)⟩ rfl rfl (Nat.le_of_ble_eq_true rfl) ⟨Nat.zero_le _, Nat.zero_le _⟩ d_P_merge_37 (fun u2 hu2 => ?_)
  refine jx_aload_n (pc := 40) hX d_P_merge_40 rfl rfl ?_
  refine jx_iload_n (pc := 41) hX d_P_merge_41 rfl rfl ?_
  refine jx_iload_n (pc := 42) hX d_P_merge_42 rfl rfl ?_
  refine jx_iadd (pc := 43) hX d_P_merge_43 ?_
  refine jx_top (y := nI (fr + 4)) (nI_add _ _) ?_
  refine jx_iload_n (pc := 44) hX d_P_merge_44 rfl rfl ?_
  refine k_P_44 (pc := 45) hX (t_P_merge1 u2 w ((P.sort fr 4).m1 fr) hw8 hu2 (fr + 4) (by omega) (by rw [Pl.m1_len]; show P.l.length + 4 + 4 ≤ 24; omega)) ⟨rfl, rfl, (Nat.le_of_ble_eq_true rfl), (Nat.le_of_ble_eq_true rfl)⟩ rfl rfl (Nat.le_of_ble_eq_true rfl) ⟨Nat.zero_le _, Nat.zero_le _⟩ d_P_merge_45 (fun u3 hu3 => ?_)
  refine jx_aload_n (pc := 48) hX d_P_merge_48 rfl rfl ?_
  refine jx_iload_n (pc := 49) hX d_P_merge_49 rfl rfl ?_
  refine jx_iload_n (pc := 50) hX d_P_merge_50 rfl rfl ?_
  refine k_P_53 (pc := 51) hX (t_P_joinParts u3 w (((P.sort fr 4).m1 fr).m1 (fr + 4)) hw8 hu3 fr 4 (by omega) (by rw [Pl.m1_len, Pl.m1_len]; show P.l.length + 4 + 4 + 4 ≤ 24; omega)) ⟨rfl, rfl, (Nat.le_of_ble_eq_true rfl), (Nat.le_of_ble_eq_true rfl)⟩ rfl rfl (Nat.le_of_ble_eq_true rfl) ⟨Nat.zero_le _, Nat.zero_le _⟩ d_P_merge_51 (fun u4 hu4 => ?_)
  exact jx_vret (pc := 54) hX d_P_merge_54 (hu4)
set_option maxRecDepth 100000 in
set_option maxHeartbeats 4000000 in
theorem t_P_layOut0 {l : Launch} {D : va_G} {ad : Nat → Nat} {ac : Nat → ClassId} (σ : St) (w : Nat) (P : Pl) (hw8 : w ≤ 8) (hR : relP σ w P) (fr : Nat) : jMv l (yC D ad ac) mt_P_layOut TT (rmk 0) [.ref (ad 21), .int (nI fr), .int (nI 1)] σ (fun u => relP u w P) := by
  refine jMv_of (by decide) (Nat.le_of_ble_eq_true rfl) (List.forall_mem_cons.mpr ⟨rfl, List.forall_mem_cons.mpr ⟨rfl, List.forall_mem_cons.mpr ⟨rfl, fun _ h => absurd h List.not_mem_nil⟩⟩⟩) ?_
  intro X A hX
  have hX : jX X (yC D ad ac) A b_P_layOut 4 RP (mt_P_layOut.w :: TT) (rmk 0) none := hX
  show jW l X (yC D ad ac) A 4 0 0 kT (jQv X (yC D ad ac) A (fun u => relP u w P)) σ 0 [(0, .ref (ad 21)), (1, .int (nI fr)), (2, .int (nI 1))] []
  refine jx_iload_n (pc := 0) hX d_P_layOut_0 rfl rfl ?_
  refine jx_iconst (pc := 1) hX (v := 2) d_P_layOut_1 rfl ?_
  refine jx_icmp_ge (pc := 2) hX 6 d_P_layOut_2 rfl (fun hh => absurd hh (by decide)) (fun _ => ?_)
  exact jx_vret (pc := 5) hX d_P_layOut_5 (hR)
set_option maxRecDepth 100000 in
set_option maxHeartbeats 4000000 in
theorem t_P_layOut1 {l : Launch} {D : va_G} {ad : Nat → Nat} {ac : Nat → ClassId} (σ : St) (w : Nat) (P : Pl) (hw8 : w ≤ 8) (hR : relP σ w P) (fr : Nat) (hfr : fr + 2 ≤ w) (hl : P.l.length + 1 ≤ 24) : jMv l (yC D ad ac) mt_P_layOut TT (rmk 6) [.ref (ad 21), .int (nI fr), .int (nI 2)] σ (fun u => relP u w (P.m0 fr)) := by
  refine jMv_of (by decide) (Nat.le_of_ble_eq_true rfl) (List.forall_mem_cons.mpr ⟨rfl, List.forall_mem_cons.mpr ⟨rfl, List.forall_mem_cons.mpr ⟨rfl, fun _ h => absurd h List.not_mem_nil⟩⟩⟩) ?_
  intro X A hX
  have hX : jX X (yC D ad ac) A b_P_layOut 4 RP (mt_P_layOut.w :: TT) (rmk 6) none := hX
  show jW l X (yC D ad ac) A 4 0 0 kT (jQv X (yC D ad ac) A (fun u => relP u w (P.m0 fr))) σ 0 [(0, .ref (ad 21)), (1, .int (nI fr)), (2, .int (nI 2))] []
  refine jx_iload_n (pc := 0) hX d_P_layOut_0 rfl rfl ?_
  refine jx_iconst (pc := 1) hX (v := 2) d_P_layOut_1 rfl ?_
  refine jx_icmp_ge (pc := 2) hX 6 d_P_layOut_2 rfl (fun _ => ?_) (fun hh => absurd (by decide) hh)
  refine jx_iload_n (pc := 6) hX d_P_layOut_6 rfl rfl ?_
  refine jx_iconst (pc := 7) hX (v := 2) d_P_layOut_7 rfl ?_
  refine jx_idiv (pc := 8) hX d_P_layOut_8 (by decide) ?_
  refine jx_top (y := nI 1) (by decide) ?_
  refine jx_istore_n (pc := 9) hX d_P_layOut_9 rfl (by decide) (L' := [(0, _), (1, _), (2, _), (3, _)]) rfl ?_
  refine jx_aload_n (pc := 10) hX d_P_layOut_10 rfl rfl ?_
  refine jx_iload_n (pc := 11) hX d_P_layOut_11 rfl rfl ?_
  refine jx_iload_n (pc := 12) hX d_P_layOut_12 rfl rfl ?_
  refine k_P_40 (pc := 13) hX (t_P_layOut0 σ w P hw8 hR fr) ⟨rfl, rfl, (Nat.le_of_ble_eq_true rfl), (Nat.le_of_ble_eq_true rfl)⟩ rfl rfl (Nat.le_of_ble_eq_true rfl) ⟨Nat.zero_le _, Nat.zero_le _⟩ d_P_layOut_13 (fun u1 hu1 => ?_)
  refine jx_aload_n (pc := 16) hX d_P_layOut_16 rfl rfl ?_
  refine jx_iload_n (pc := 17) hX d_P_layOut_17 rfl rfl ?_
  refine jx_iload_n (pc := 18) hX d_P_layOut_18 rfl rfl ?_
  refine jx_iadd (pc := 19) hX d_P_layOut_19 ?_
  refine jx_top (y := nI (fr + 1)) (nI_add _ _) ?_
  refine jx_iload_n (pc := 20) hX d_P_layOut_20 rfl rfl ?_
  refine k_P_40 (pc := 21) hX (t_P_layOut0 u1 w P hw8 hu1 (fr + 1)) ⟨rfl, rfl, (Nat.le_of_ble_eq_true rfl), (Nat.le_of_ble_eq_true rfl)⟩ rfl rfl (Nat.le_of_ble_eq_true rfl) ⟨Nat.zero_le _, Nat.zero_le _⟩ d_P_layOut_21 (fun u2 hu2 => ?_)
  refine jx_aload_n (pc := 24) hX d_P_layOut_24 rfl rfl ?_
  refine jx_iload_n (pc := 25) hX d_P_layOut_25 rfl rfl ?_
  refine jx_iload_n (pc := 26) hX d_P_layOut_26 rfl rfl ?_
  refine k_P_44 (pc := 27) hX (t_P_merge0 u2 w P hw8 hu2 fr hfr hl) ⟨rfl, rfl, (Nat.le_of_ble_eq_true rfl), (Nat.le_of_ble_eq_true rfl)⟩ rfl rfl (Nat.le_of_ble_eq_true rfl) ⟨Nat.zero_le _, Nat.zero_le _⟩ d_P_layOut_27 (fun u3 hu3 => ?_)
  exact jx_vret (pc := 30) hX d_P_layOut_30 (hu3)
set_option maxRecDepth 100000 in
set_option maxHeartbeats 4000000 in
theorem t_P_layOut2 {l : Launch} {D : va_G} {ad : Nat → Nat} {ac : Nat → ClassId} (σ : St) (w : Nat) (P : Pl) (hw8 : w ≤ 8) (hR : relP σ w P) (fr : Nat) (hfr : fr + 4 ≤ w) (hl : P.l.length + 6 ≤ 24) : jMv l (yC D ad ac) mt_P_layOut TT (rmk 7) [.ref (ad 21), .int (nI fr), .int (nI 4)] σ (fun u => relP u w (P.l2 fr)) := by
  refine jMv_of (by decide) (Nat.le_of_ble_eq_true rfl) (List.forall_mem_cons.mpr ⟨rfl, List.forall_mem_cons.mpr ⟨rfl, List.forall_mem_cons.mpr ⟨rfl, fun _ h => absurd h List.not_mem_nil⟩⟩⟩) ?_
  intro X A hX
  have hX : jX X (yC D ad ac) A b_P_layOut 4 RP (mt_P_layOut.w :: TT) (rmk 7) none := hX
  show jW l X (yC D ad ac) A 4 0 0 kT (jQv X (yC D ad ac) A (fun u => relP u w (P.l2 fr))) σ 0 [(0, .ref (ad 21)), (1, .int (nI fr)), (2, .int (nI 4))] []
  refine jx_iload_n (pc := 0) hX d_P_layOut_0 rfl rfl ?_
  refine jx_iconst (pc := 1) hX (v := 2) d_P_layOut_1 rfl ?_
  refine jx_icmp_ge (pc := 2) hX 6 d_P_layOut_2 rfl (fun _ => ?_) (fun hh => absurd (by decide) hh)
  refine jx_iload_n (pc := 6) hX d_P_layOut_6 rfl rfl ?_
  refine jx_iconst (pc := 7) hX (v := 2) d_P_layOut_7 rfl ?_
  refine jx_idiv (pc := 8) hX d_P_layOut_8 (by decide) ?_
  refine jx_top (y := nI 2) (by decide) ?_
  refine jx_istore_n (pc := 9) hX d_P_layOut_9 rfl (by decide) (L' := [(0, _), (1, _), (2, _), (3, _)]) rfl ?_
  refine jx_aload_n (pc := 10) hX d_P_layOut_10 rfl rfl ?_
  refine jx_iload_n (pc := 11) hX d_P_layOut_11 rfl rfl ?_
  refine jx_iload_n (pc := 12) hX d_P_layOut_12 rfl rfl ?_
  refine k_P_40 (pc := 13) hX (t_P_layOut1 σ w P hw8 hR fr (by omega) (by omega)) ⟨rfl, rfl, (Nat.le_of_ble_eq_true rfl), (Nat.le_of_ble_eq_true rfl)⟩ rfl rfl (Nat.le_of_ble_eq_true rfl) ⟨Nat.zero_le _, Nat.zero_le _⟩ d_P_layOut_13 (fun u1 hu1 => ?_)
  refine jx_aload_n (pc := 16) hX d_P_layOut_16 rfl rfl ?_
  refine jx_iload_n (pc := 17) hX d_P_layOut_17 rfl rfl ?_
  refine jx_iload_n (pc := 18) hX d_P_layOut_18 rfl rfl ?_
  refine jx_iadd (pc := 19) hX d_P_layOut_19 ?_
  refine jx_top (y := nI (fr + 2)) (nI_add _ _) ?_
  refine jx_iload_n (pc := 20) hX d_P_layOut_20 rfl rfl ?_
  refine k_P_40 (pc := 21) hX (t_P_layOut1 u1 w (P.m0 fr) hw8 hu1 (fr + 2) (by omega) (by rw [Pl.m0_len]; omega)) ⟨rfl, rfl, (Nat.le_of_ble_eq_true rfl), (Nat.le_of_ble_eq_true rfl)⟩ rfl rfl (Nat.le_of_ble_eq_true rfl) ⟨Nat.zero_le _, Nat.zero_le _⟩ d_P_layOut_21 (fun u2 hu2 => ?_)
  refine jx_aload_n (pc := 24) hX d_P_layOut_24 rfl rfl ?_
  refine jx_iload_n (pc := 25) hX d_P_layOut_25 rfl rfl ?_
  refine jx_iload_n (pc := 26) hX d_P_layOut_26 rfl rfl ?_
  refine k_P_44 (pc := 27) hX (t_P_merge1 u2 w ((P.m0 fr).m0 (fr + 2)) hw8 hu2 fr (by omega) (by rw [Pl.m0_len, Pl.m0_len]; omega)) ⟨rfl, rfl, (Nat.le_of_ble_eq_true rfl), (Nat.le_of_ble_eq_true rfl)⟩ rfl rfl (Nat.le_of_ble_eq_true rfl) ⟨Nat.zero_le _, Nat.zero_le _⟩ d_P_layOut_27 (fun u3 hu3 => ?_)
  exact jx_vret (pc := 30) hX d_P_layOut_30 (hu3)
set_option maxRecDepth 100000 in
set_option maxHeartbeats 4000000 in
theorem t_P_layOut3 {l : Launch} {D : va_G} {ad : Nat → Nat} {ac : Nat → ClassId} (σ : St) (w : Nat) (P : Pl) (hw8 : w ≤ 8) (hR : relP σ w P) (hl : P.l.length + 24 ≤ 24) (hw9 : w = 8) : jMv l (yC D ad ac) mt_P_layOut TT (rmk 8) [.ref (ad 21), .int 0, .int (nI 8)] σ (fun u => relP u w (P.l3)) := by
  refine jMv_of (by decide) (Nat.le_of_ble_eq_true rfl) (List.forall_mem_cons.mpr ⟨rfl, List.forall_mem_cons.mpr ⟨rfl, List.forall_mem_cons.mpr ⟨rfl, fun _ h => absurd h List.not_mem_nil⟩⟩⟩) ?_
  intro X A hX
  have hX : jX X (yC D ad ac) A b_P_layOut 4 RP (mt_P_layOut.w :: TT) (rmk 8) none := hX
  show jW l X (yC D ad ac) A 4 0 0 kT (jQv X (yC D ad ac) A (fun u => relP u w (P.l3))) σ 0 [(0, .ref (ad 21)), (1, .int 0), (2, .int (nI 8))] []
  refine jx_iload_n (pc := 0) hX d_P_layOut_0 rfl rfl ?_
  refine jx_iconst (pc := 1) hX (v := 2) d_P_layOut_1 rfl ?_
  refine jx_icmp_ge (pc := 2) hX 6 d_P_layOut_2 rfl (fun _ => ?_) (fun hh => absurd (by decide) hh)
  refine jx_iload_n (pc := 6) hX d_P_layOut_6 rfl rfl ?_
  refine jx_iconst (pc := 7) hX (v := 2) d_P_layOut_7 rfl ?_
  refine jx_idiv (pc := 8) hX d_P_layOut_8 (by decide) ?_
  refine jx_top (y := nI 4) (by decide) ?_
  refine jx_istore_n (pc := 9) hX d_P_layOut_9 rfl (by decide) (L' := [(0, _), (1, _), (2, _), (3, _)]) rfl ?_
  refine jx_aload_n (pc := 10) hX d_P_layOut_10 rfl rfl ?_
  refine jx_iload_n (pc := 11) hX d_P_layOut_11 rfl rfl ?_
  refine jx_iload_n (pc := 12) hX d_P_layOut_12 rfl rfl ?_
  refine k_P_40 (pc := 13) hX (t_P_layOut2 σ w P hw8 hR 0 (by omega) (by omega)) ⟨rfl, rfl, (Nat.le_of_ble_eq_true rfl), (Nat.le_of_ble_eq_true rfl)⟩ rfl rfl (Nat.le_of_ble_eq_true rfl) ⟨Nat.zero_le _, Nat.zero_le _⟩ d_P_layOut_13 (fun u1 hu1 => ?_)
  refine jx_aload_n (pc := 16) hX d_P_layOut_16 rfl rfl ?_
  refine jx_iload_n (pc := 17) hX d_P_layOut_17 rfl rfl ?_
  refine jx_iload_n (pc := 18) hX d_P_layOut_18 rfl rfl ?_
  refine jx_iadd (pc := 19) hX d_P_layOut_19 ?_
  refine jx_top (y := nI 4) (by decide) ?_
  refine jx_iload_n (pc := 20) hX d_P_layOut_20 rfl rfl ?_
  refine k_P_40 (pc := 21) hX (t_P_layOut2 u1 w (P.l2 0) hw8 hu1 4 (by omega) (by rw [Pl.l2_len]; omega)) ⟨rfl, rfl, (Nat.le_of_ble_eq_true rfl), (Nat.le_of_ble_eq_true rfl)⟩ rfl rfl (Nat.le_of_ble_eq_true rfl) ⟨Nat.zero_le _, Nat.zero_le _⟩ d_P_layOut_21 (fun u2 hu2 => ?_)
  refine jx_aload_n (pc := 24) hX d_P_layOut_24 rfl rfl ?_
  refine jx_iload_n (pc := 25) hX d_P_layOut_25 rfl rfl ?_
  refine jx_iload_n (pc := 26) hX d_P_layOut_26 rfl rfl ?_
  refine k_P_44 (pc := 27) hX (t_P_merge2 u2 w ((P.l2 0).l2 4) hw8 hu2 0 (by omega) (by rw [Pl.l2_len, Pl.l2_len]; omega)) ⟨rfl, rfl, (Nat.le_of_ble_eq_true rfl), (Nat.le_of_ble_eq_true rfl)⟩ rfl rfl (Nat.le_of_ble_eq_true rfl) ⟨Nat.zero_le _, Nat.zero_le _⟩ d_P_layOut_27 (fun u3 hu3 => ?_)
  exact jx_vret (pc := 30) hX d_P_layOut_30 (hu3)
