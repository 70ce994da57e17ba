theorem AR.pushf {α : Type} {n : Nat} {enc : α → Int32} {f : Nat → Int32} {g : Nat → α} (h : AR n enc f g) {x : Int32} (e : x = enc (g n)) : AR (n + 1) enc (upd f n x) g := by
  intro t ht
  by_cases q : t = n
  · subst q; rw [pk_us]; exact e
  · rw [pk_un q]; exact h t (by omega)
theorem tab_len (w : Nat) : (tab w).length = nb w := by unfold tab; rw [List.length_map, List.length_range]
theorem tab_at {w b : Nat} (hb : b < nb w) : (tab w).getD b (0, 0, 0) = (uU w b, uL w b, uC w b) := by
  unfold tab
  rw [List.getD_eq_getElem?_getD, List.getElem?_map, List.getElem?_range hb]
  rfl
theorem plan_of_rel {u : St} {w : Nat} {P : Pl} (h : relP u w P) (h1 : P.l = tab w) (h2 : P.k = nc w) (h3 : ∀ i, i < w → P.r i = uE w i) : u.1 1 = nI w ∧ planC u w := by
  obtain ⟨-, r1, r2, r3, r4, r5, r6, r7, -⟩ := h
  rw [h1, tab_len] at r2 r4 r5 r6
  rw [h2] at r3
  refine ⟨r1, r2, r3, fun b hb => ?_, fun b hb => ?_, fun b hb => ?_, fun i hi => ?_⟩
  · have := r4 b hb; dsimp only at this; rw [tab_at hb] at this; exact this
  · have := r5 b hb; dsimp only at this; rw [tab_at hb] at this; exact this
  · have := r6 b hb; dsimp only at this; rw [tab_at hb] at this; exact this
  · rw [r7 i hi, h3 i hi]
theorem zero_s {f : Nat → Int32} {i : Nat} (hz : ∀ j, j < i → f j = 0) : ∀ j, j < i + 1 → upd f i 0 j = 0 := by
  intro j hj
  by_cases q : j = i
  · rw [q, pk_us]
  · rw [pk_un q]; exact hz j (by omega)
def stA (σ : St) (w ns : Nat) : Prop := σ.1 1 = nI w ∧ planC σ w ∧ σ.1 0 = nI ns ∧ σ.1 4 = 0 ∧ σ.1 5 = 0 ∧ σ.1 6 = 0
set_option maxRecDepth 100000 in
set_option maxHeartbeats 4000000 in
theorem t_P_layT1 {l : Launch} {D : va_G} {ad : Nat → Nat} {ac : Nat → ClassId} (σ : St) (w : Nat) (P : Pl) (hw8 : w ≤ 8) (hR : relP σ w P) (fr : Nat) (hfr : fr + 2 ≤ w) (hl : P.l.length + 1 ≤ 24) : jMv l (yC D ad ac) mt_P_layOut TT (rmk 8) [.ref (ad 21), .int (nI fr), .int (nI 2)] σ (fun u => relP u w (P.m0 fr)) := by
  refine jMv_of (by decide) (Nat.le_of_ble_eq_true rfl) (List.forall_mem_cons.mpr ⟨rfl, List.forall_mem_cons.mpr ⟨rfl, List.forall_mem_cons.mpr ⟨rfl, fun _ h => absurd h List.not_mem_nil⟩⟩⟩) ?_
  intro X A hX
  have hX : jX X (yC D ad ac) A b_P_layOut 4 RP (mt_P_layOut.w :: TT) (rmk 8) none := hX
  show jW l X (yC D ad ac) A 4 0 0 kT (jQv X (yC D ad ac) A (fun u => relP u w (P.m0 fr))) σ 0 [(0, .ref (ad 21)), (1, .int (nI fr)), (2, .int (nI 2))] []
  refine jx_iload_n (pc := 0) hX d_P_layOut_0 rfl rfl ?_
  refine jx_iconst (pc := 1) hX (v := 2) d_P_layOut_1 rfl ?_
  refine jx_icmp_ge (pc := 2) hX 6 d_P_layOut_2 rfl (fun _ => ?_) (fun hh => absurd (by decide) hh)
  refine jx_iload_n (pc := 6) hX d_P_layOut_6 rfl rfl ?_
  refine jx_iconst (pc := 7) hX (v := 2) d_P_layOut_7 rfl ?_
  refine jx_idiv (pc := 8) hX d_P_layOut_8 (by decide) ?_
  refine jx_top (y := nI 1) (by decide) ?_
  refine jx_istore_n (pc := 9) hX d_P_layOut_9 rfl (by decide) (L' := [(0, _), (1, _), (2, _), (3, _)]) rfl ?_
  refine jx_aload_n (pc := 10) hX d_P_layOut_10 rfl rfl ?_
  refine jx_iload_n (pc := 11) hX d_P_layOut_11 rfl rfl ?_
  refine jx_iload_n (pc := 12) hX d_P_layOut_12 rfl rfl ?_
  refine k_P_40 (pc := 13) hX (t_P_layOut0 σ w P hw8 hR fr) ⟨rfl, rfl, (Nat.le_of_ble_eq_true rfl), (Nat.le_of_ble_eq_true rfl)⟩ rfl rfl (Nat.le_of_ble_eq_true rfl) ⟨Nat.zero_le _, Nat.zero_le _⟩ d_P_layOut_13 (fun u1 hu1 => ?_)
  refine jx_aload_n (pc := 16) hX d_P_layOut_16 rfl rfl ?_
  refine jx_iload_n (pc := 17) hX d_P_layOut_17 rfl rfl ?_
  refine jx_iload_n (pc := 18) hX d_P_layOut_18 rfl rfl ?_
  refine jx_iadd (pc := 19) hX d_P_layOut_19 ?_
  refine jx_top (y := nI (fr + 1)) (nI_add _ _) ?_
  refine jx_iload_n (pc := 20) hX d_P_layOut_20 rfl rfl ?_
  refine k_P_40 (pc := 21) hX (t_P_layOut0 u1 w P hw8 hu1 (fr + 1)) ⟨rfl, rfl, (Nat.le_of_ble_eq_true rfl), (Nat.le_of_ble_eq_true rfl)⟩ rfl rfl (Nat.le_of_ble_eq_true rfl) ⟨Nat.zero_le _, Nat.zero_le _⟩ d_P_layOut_21 (fun u2 hu2 => ?_)
  refine jx_aload_n (pc := 24) hX d_P_layOut_24 rfl rfl ?_
  refine jx_iload_n (pc := 25) hX d_P_layOut_25 rfl rfl ?_
  refine jx_iload_n (pc := 26) hX d_P_layOut_26 rfl rfl ?_
  refine k_P_44 (pc := 27) hX (t_P_merge0 u2 w P hw8 hu2 fr hfr hl) ⟨rfl, rfl, (Nat.le_of_ble_eq_true rfl), (Nat.le_of_ble_eq_true rfl)⟩ rfl rfl (Nat.le_of_ble_eq_true rfl) ⟨Nat.zero_le _, Nat.zero_le _⟩ d_P_layOut_27 (fun u3 hu3 => ?_)
  exact jx_vret (pc := 30) hX d_P_layOut_30 (hu3)
set_option maxRecDepth 100000 in
set_option maxHeartbeats 4000000 in
theorem t_P_layT2 {l : Launch} {D : va_G} {ad : Nat → Nat} {ac : Nat → ClassId} (σ : St) (w : Nat) (P : Pl) (hw8 : w ≤ 8) (hR : relP σ w P) (fr : Nat) (hfr : fr + 4 ≤ w) (hl : P.l.length + 6 ≤ 24) : jMv l (yC D ad ac) mt_P_layOut TT (rmk 8) [.ref (ad 21), .int (nI fr), .int (nI 4)] σ (fun u => relP u w (P.l2 fr)) := by
  refine jMv_of (by decide) (Nat.le_of_ble_eq_true rfl) (List.forall_mem_cons.mpr ⟨rfl, List.forall_mem_cons.mpr ⟨rfl, List.forall_mem_cons.mpr ⟨rfl, fun _ h => absurd h List.not_mem_nil⟩⟩⟩) ?_
  intro X A hX
  have hX : jX X (yC D ad ac) A b_P_layOut 4 RP (mt_P_layOut.w :: TT) (rmk 8) none := hX
  show jW l X (yC D ad ac) A 4 0 0 kT (jQv X (yC D ad ac) A (fun u => relP u w (P.l2 fr))) σ 0 [(0, .ref (ad 21)), (1, .int (nI fr)), (2, .int (nI 4))] []
  refine jx_iload_n (pc := 0) hX d_P_layOut_0 rfl rfl ?_
  refine jx_iconst (pc := 1) hX (v := 2) d_P_layOut_1 rfl ?_
  refine jx_icmp_ge (pc := 2) hX 6 d_P_layOut_2 rfl (fun _ => ?_) (fun hh => absurd (by decide) hh)
  refine jx_iload_n (pc := 6) hX d_P_layOut_6 rfl rfl ?_
  refine jx_iconst (pc := 7) hX (v := 2) d_P_layOut_7 rfl ?_
  refine jx_idiv (pc := 8) hX d_P_layOut_8 (by decide) ?_
  refine jx_top (y := nI 2) (by decide) ?_
  refine jx_istore_n (pc := 9) hX d_P_layOut_9 rfl (by decide) (L' := [(0, _), (1, _), (2, _), (3, _)]) rfl ?_
  refine jx_aload_n (pc := 10) hX d_P_layOut_10 rfl rfl ?_
  refine jx_iload_n (pc := 11) hX d_P_layOut_11 rfl rfl ?_
  refine jx_iload_n (pc := 12) hX d_P_layOut_12 rfl rfl ?_
  refine k_P_40 (pc := 13) hX (t_P_layOut1 σ w P hw8 hR fr (by omega) (by omega)) ⟨rfl, rfl, (Nat.le_of_ble_eq_true rfl), (Nat.le_of_ble_eq_true rfl)⟩ rfl rfl (Nat.le_of_ble_eq_true rfl) ⟨Nat.zero_le _, Nat.zero_le _⟩ d_P_layOut_13 (fun u1 hu1 => ?_)
  refine jx_aload_n (pc := 16) hX d_P_layOut_16 rfl rfl ?_
  refine jx_iload_n (pc := 17) hX d_P_layOut_17 rfl rfl ?_
  refine jx_iload_n (pc := 18) hX d_P_layOut_18 rfl rfl ?_
  refine jx_iadd (pc := 19) hX d_P_layOut_19 ?_
  refine jx_top (y := nI (fr + 2)) (nI_add _ _) ?_
  refine jx_iload_n (pc := 20) hX d_P_layOut_20 rfl rfl ?_
  refine k_P_40 (pc := 21) hX (t_P_layOut1 u1 w (P.m0 fr) hw8 hu1 (fr + 2) (by omega) (by rw [Pl.m0_len]; omega)) ⟨rfl, rfl, (Nat.le_of_ble_eq_true rfl), (Nat.le_of_ble_eq_true rfl)⟩ rfl rfl (Nat.le_of_ble_eq_true rfl) ⟨Nat.zero_le _, Nat.zero_le _⟩ d_P_layOut_21 (fun u2 hu2 => ?_)
  refine jx_aload_n (pc := 24) hX d_P_layOut_24 rfl rfl ?_
  refine jx_iload_n (pc := 25) hX d_P_layOut_25 rfl rfl ?_
  refine jx_iload_n (pc := 26) hX d_P_layOut_26 rfl rfl ?_
  refine k_P_44 (pc := 27) hX (t_P_merge1 u2 w ((P.m0 fr).m0 (fr + 2)) hw8 hu2 fr (by omega) (by rw [Pl.m0_len, Pl.m0_len]; omega)) ⟨rfl, rfl, (Nat.le_of_ble_eq_true rfl), (Nat.le_of_ble_eq_true rfl)⟩ rfl rfl (Nat.le_of_ble_eq_true rfl) ⟨Nat.zero_le _, Nat.zero_le _⟩ d_P_layOut_27 (fun u3 hu3 => ?_)
  exact jx_vret (pc := 30) hX d_P_layOut_30 (hu3)
theorem t_P_layW {l : Launch} {D : va_G} {ad : Nat → Nat} {ac : Nat → ClassId} (σ : St) (w : Nat) (hw : Wok w) (hR : relP σ w Pl0) : jMv l (yC D ad ac) mt_P_layOut TT (rmk 8) [.ref (ad 21), .int 0, .int (nI w)] σ (fun u => u.1 1 = nI w ∧ planC u w) := by
  rcases hw with rfl | rfl | rfl
  · exact jMv.mono (t_P_layT1 σ 2 Pl0 (by decide) hR 0 (by decide) (by decide)) (fun u hu => plan_of_rel hu draw_1.1 draw_1.2.1 draw_1.2.2)
  · exact jMv.mono (t_P_layT2 σ 4 Pl0 (by decide) hR 0 (by decide) (by decide)) (fun u hu => plan_of_rel hu draw_2.1 draw_2.2.1 draw_2.2.2)
  · exact jMv.mono (t_P_layOut3 σ 8 Pl0 (by decide) hR (by decide) rfl) (fun u hu => plan_of_rel hu draw_3.1 draw_3.2.1 draw_3.2.2)
set_option maxRecDepth 100000 in
set_option maxHeartbeats 4000000 in
theorem t_P_drawFor {l : Launch} {D : va_G} {ad : Nat → Nat} {ac : Nat → ClassId} (σ : St) (w : Nat) (hw : Wok w) : jMv l (yC D ad ac) mt_P_drawFor TT (rmk 9) [.ref (ad 21), .int (nI w)] σ (fun u => u.1 1 = nI w ∧ planC u w) := by
  have hw8 := hw.le
  refine jMv_of (by decide) (Nat.le_of_ble_eq_true rfl) (List.forall_mem_cons.mpr ⟨rfl, List.forall_mem_cons.mpr ⟨rfl, fun _ h => absurd h List.not_mem_nil⟩⟩) ?_
  intro X A hX
  have hX : jX X (yC D ad ac) A b_P_drawFor 3 RP (mt_P_drawFor.w :: TT) (rmk 9) none := hX
  show jW l X (yC D ad ac) A 3 0 0 kT (jQv X (yC D ad ac) A (fun u => u.1 1 = nI w ∧ planC u w)) σ 0 [(0, .ref (ad 21)), (1, .int (nI w))] []
  have loop : ∀ (fu : Nat) (i : Nat) (σ1 : St), w - i = fu → i ≤ w → σ1.1 1 = nI w → σ1.1 2 = 0 → σ1.1 3 = 0 → AR i nI (σ1.2 6) (fun j => j) → AR i nI (σ1.2 7) (fun _ => 0) → jW l X (yC D ad ac) A 3 0 0 kT (jQv X (yC D ad ac) A (fun u => u.1 1 = nI w ∧ planC u w)) σ1 17 [(0, .ref (ad 21)), (1, .int (nI w)), (2, .int (nI i))] [] := by
    intro fu
    induction fu using Nat.strongRecOn with
    | ind fu ih =>
      intro i σ1 hfu hi a1 a2 a3 a6 a7
      refine jx_iload_n (pc := 17) hX d_P_drawFor_17 rfl rfl ?_
      refine jx_iload_n (pc := 18) hX d_P_drawFor_18 rfl rfl ?_
      refine jx_icmp_ge (pc := 19) hX 42 d_P_drawFor_19 rfl (fun q19 => ?_) (fun q19 => ?_)
      · have hge : i = w := by have : w ≤ i := (nI_leI (by omega) (by omega)).mp q19; omega
        subst hge
        refine jx_aload_n (pc := 42) hX d_P_drawFor_42 rfl rfl ?_
        refine jx_iconst (pc := 43) hX (v := 0) d_P_drawFor_43 rfl ?_
        refine jx_iload_n (pc := 44) hX d_P_drawFor_44 rfl rfl ?_
        refine k_P_40 (pc := 45) hX (t_P_layW σ1 i hw ⟨⟨fun j hj => ⟨hj, Nat.le_refl _⟩, Nat.le_refl _⟩, a1, a2, a3, fun b hb => absurd hb (Nat.not_lt_zero b), fun b hb => absurd hb (Nat.not_lt_zero b), fun b hb => absurd hb (Nat.not_lt_zero b), a6, a7⟩) ⟨rfl, rfl, (Nat.le_of_ble_eq_true rfl), (Nat.le_of_ble_eq_true rfl)⟩ rfl rfl (Nat.le_of_ble_eq_true rfl) ⟨Nat.zero_le _, Nat.zero_le _⟩ d_P_drawFor_45 (fun u hu => ?_)
        exact jx_vret (pc := 48) hX d_P_drawFor_48 (hu)
      · have hlt : i < w := Nat.lt_of_not_le (fun q => q19 (nI_le q (by omega)))
        refine jx_aload_n (pc := 22) hX d_P_drawFor_22 rfl rfl ?_
        refine g_P_21 (pc := 23) hX d_P_drawFor_23 ?_
        refine jx_iload_n (pc := 26) hX d_P_drawFor_26 rfl rfl ?_
        refine jx_iload_n (pc := 27) hX d_P_drawFor_27 rfl rfl ?_
        refine jx_iast (pc := 28) hX oC_6 _ rfl (show i < 8 by omega) d_P_drawFor_28 ?_
        refine jx_aload_n (pc := 29) hX d_P_drawFor_29 rfl rfl ?_
        refine g_P_24 (pc := 30) hX d_P_drawFor_30 ?_
        refine jx_iload_n (pc := 33) hX d_P_drawFor_33 rfl rfl ?_
        refine jx_iconst (pc := 34) hX (v := 0) d_P_drawFor_34 rfl ?_
        refine jx_iast (pc := 35) hX oC_7 _ rfl (show i < 8 by omega) d_P_drawFor_35 ?_
        refine jx_iinc (pc := 36) hX (v := nI (i + 1)) d_P_drawFor_36 rfl (nI_1 i) (by decide) (L' := [(0, _), (1, _), (2, _)]) rfl ?_
        refine jx_goto (pc := 39) hX 17 d_P_drawFor_39 rfl ?_
        exact ih _ (by omega) (i + 1) (sA (sA σ1 6 i (nI i)) 7 i 0) rfl (by omega) a1 a2 a3 (a6.pushf rfl) (a7.pushf rfl)
  refine jx_aload_n (pc := 0) hX d_P_drawFor_0 rfl rfl ?_
  refine jx_iload_n (pc := 1) hX d_P_drawFor_1 rfl rfl ?_
  refine p_P_30 (pc := 2) hX d_P_drawFor_2 ?_
  refine jx_aload_n (pc := 5) hX d_P_drawFor_5 rfl rfl ?_
  refine jx_iconst (pc := 6) hX (v := 0) d_P_drawFor_6 rfl ?_
  refine p_P_34 (pc := 7) hX d_P_drawFor_7 ?_
  refine jx_aload_n (pc := 10) hX d_P_drawFor_10 rfl rfl ?_
  refine jx_iconst (pc := 11) hX (v := 0) d_P_drawFor_11 rfl ?_
  refine p_P_37 (pc := 12) hX d_P_drawFor_12 ?_
  refine jx_iconst (pc := 15) hX (v := 0) d_P_drawFor_15 rfl ?_
  refine jx_istore_n (pc := 16) hX d_P_drawFor_16 rfl (by decide) (L' := [(0, _), (1, _), (2, _)]) rfl ?_
  exact loop _ 0 _ rfl (Nat.zero_le _) rfl rfl rfl (fun j hj => absurd hj (Nat.not_lt_zero j)) (fun j hj => absurd hj (Nat.not_lt_zero j))
set_option maxRecDepth 100000 in
set_option maxHeartbeats 4000000 in
theorem t_N_startAnew {l : Launch} {D : va_G} {ad : Nat → Nat} {ac : Nat → ClassId} (σ : St) (M : Ms) (w ns : Nat) (hw : Wok w) : jMv l (yC D ad ac) mt_N_startAnew TT (rmk 10) [.ref (ad 20), .int (nI w), .int (nI ns)] σ (fun u => repC u (M.build w ns)) := by
  have hw8 := hw.le
  have hnb := nb_le w
  refine jMv_of (by decide) (Nat.le_of_ble_eq_true rfl) (List.forall_mem_cons.mpr ⟨rfl, List.forall_mem_cons.mpr ⟨rfl, List.forall_mem_cons.mpr ⟨rfl, fun _ h => absurd h List.not_mem_nil⟩⟩⟩) ?_
  intro X A hX
  have hX : jX X (yC D ad ac) A b_N_startAnew 4 RN (mt_N_startAnew.w :: TT) (rmk 10) none := hX
  show jW l X (yC D ad ac) A 4 0 0 kT (jQv X (yC D ad ac) A (fun u => repC u (M.build w ns))) σ 0 [(0, .ref (ad 20)), (1, .int (nI w)), (2, .int (nI ns))] []
  have loop3 : ∀ (fu : Nat) (i : Nat) (σa : St) (f : Nat → Int32), 6 - i = fu → i ≤ 6 → stA σa w ns → (∀ j, j < 24 → σa.2 0 j = 0) → (∀ j, j < 8 → σa.2 1 j = 0) → (∀ j, j < i → f j = 0) → jW l X (yC D ad ac) A 4 0 0 kT (jQv X (yC D ad ac) A (fun u => repC u (M.build w ns))) (sR σa 2 f) 71 [(0, .ref (ad 20)), (1, .int (nI w)), (2, .int (nI ns)), (3, .int (nI i))] [] := by
    intro fu
    induction fu using Nat.strongRecOn with
    | ind fu ih =>
      intro i σa f hfu hi hst z0 z1 hz
      refine jx_iload_n (pc := 71) hX d_N_startAnew_71 rfl rfl ?_
      refine jx_bipush (pc := 72) hX (v := 6) d_N_startAnew_72 rfl ?_
      refine jx_icmp_ge (pc := 74) hX 90 d_N_startAnew_74 rfl (fun qb => ?_) (fun qb => ?_)
      · have hge : i = 6 := by have : 6 ≤ i := (nI_leI (a := 6) (by omega) (by omega)).mp qb; omega
        subst hge
        exact jx_vret (pc := 90) hX d_N_startAnew_90 (⟨rep.build hst.1 hst.2.2.1 hst.2.2.2.1 hst.2.2.2.2.2 hz (fun t ht => z0 t (by omega)) (fun t ht => z1 t (by omega)), hst.2.2.2.2.1.trans nI_0.symm, hst.2.1⟩)
      · have hlt : i < 6 := Nat.lt_of_not_le (fun q => qb (nI_le (a := 6) q (by omega)))
        refine jx_aload_n (pc := 77) hX d_N_startAnew_77 rfl rfl ?_
        refine g_N_37 (pc := 78) hX d_N_startAnew_78 ?_
        refine jx_iload_n (pc := 81) hX d_N_startAnew_81 rfl rfl ?_
        refine jx_iconst (pc := 82) hX (v := 0) d_N_startAnew_82 rfl ?_
        refine jx_zast (pc := 83) hX oC_2 _ rfl (show i < 6 by omega) rfl d_N_startAnew_83 ?_
        refine jx_iinc (pc := 84) hX (v := nI (i + 1)) d_N_startAnew_84 rfl (nI_1 i) (by decide) (L' := [(0, _), (1, _), (2, _), (3, _)]) rfl ?_
        refine jx_goto (pc := 87) hX 71 d_N_startAnew_87 rfl ?_
        rw [sA_sR]
        exact ih _ (by omega) (i + 1) σa (upd f i 0) rfl (by omega) hst z0 z1 (zero_s hz)
  have loop2 : ∀ (fu : Nat) (i : Nat) (σa : St) (f : Nat → Int32), 8 - i = fu → i ≤ 8 → stA σa w ns → (∀ j, j < 24 → σa.2 0 j = 0) → (∀ j, j < i → f j = 0) → jW l X (yC D ad ac) A 4 0 0 kT (jQv X (yC D ad ac) A (fun u => repC u (M.build w ns))) (sR σa 1 f) 50 [(0, .ref (ad 20)), (1, .int (nI w)), (2, .int (nI ns)), (3, .int (nI i))] [] := by
    intro fu
    induction fu using Nat.strongRecOn with
    | ind fu ih =>
      intro i σa f hfu hi hst z0 hz
      refine jx_iload_n (pc := 50) hX d_N_startAnew_50 rfl rfl ?_
      refine jx_bipush (pc := 51) hX (v := 8) d_N_startAnew_51 rfl ?_
      refine jx_icmp_ge (pc := 53) hX 69 d_N_startAnew_53 rfl (fun qb => ?_) (fun qb => ?_)
      · have hge : i = 8 := by have : 8 ≤ i := (nI_leI (a := 8) (by omega) (by omega)).mp qb; omega
        subst hge
        refine jx_iconst (pc := 69) hX (v := 0) d_N_startAnew_69 rfl ?_
        refine jx_istore_n (pc := 70) hX d_N_startAnew_70 rfl (by decide) (L' := [(0, _), (1, _), (2, _), (3, _)]) rfl ?_
        exact jx_to (loop3 _ 0 (sR σa 1 f) (σa.2 2) rfl (Nat.zero_le _) hst z0 hz (fun j hj => absurd hj (Nat.not_lt_zero j))) (sR_self (sR σa 1 f) 2).symm rfl rfl rfl
      · have hlt : i < 8 := Nat.lt_of_not_le (fun q => qb (nI_le (a := 8) q (by omega)))
        refine jx_aload_n (pc := 56) hX d_N_startAnew_56 rfl rfl ?_
        refine g_N_34 (pc := 57) hX d_N_startAnew_57 ?_
        refine jx_iload_n (pc := 60) hX d_N_startAnew_60 rfl rfl ?_
        refine jx_iconst (pc := 61) hX (v := 0) d_N_startAnew_61 rfl ?_
        refine jx_iast (pc := 62) hX oC_1 _ rfl (show i < 8 by omega) d_N_startAnew_62 ?_
        refine jx_iinc (pc := 63) hX (v := nI (i + 1)) d_N_startAnew_63 rfl (nI_1 i) (by decide) (L' := [(0, _), (1, _), (2, _), (3, _)]) rfl ?_
        refine jx_goto (pc := 66) hX 50 d_N_startAnew_66 rfl ?_
        rw [sA_sR]
        exact ih _ (by omega) (i + 1) σa (upd f i 0) rfl (by omega) hst z0 (zero_s hz)
  have loop1 : ∀ (fu : Nat) (i : Nat) (σa : St) (f : Nat → Int32), 24 - i = fu → i ≤ 24 → stA σa w ns → (∀ j, j < i → f j = 0) → jW l X (yC D ad ac) A 4 0 0 kT (jQv X (yC D ad ac) A (fun u => repC u (M.build w ns))) (sR σa 0 f) 29 [(0, .ref (ad 20)), (1, .int (nI w)), (2, .int (nI ns)), (3, .int (nI i))] [] := by
    intro fu
    induction fu using Nat.strongRecOn with
    | ind fu ih =>
      intro i σa f hfu hi hst  hz
      refine jx_iload_n (pc := 29) hX d_N_startAnew_29 rfl rfl ?_
      refine jx_bipush (pc := 30) hX (v := 24) d_N_startAnew_30 rfl ?_
      refine jx_icmp_ge (pc := 32) hX 48 d_N_startAnew_32 rfl (fun qb => ?_) (fun qb => ?_)
      · have hge : i = 24 := by have : 24 ≤ i := (nI_leI (a := 24) (by omega) (by omega)).mp qb; omega
        subst hge
        refine jx_iconst (pc := 48) hX (v := 0) d_N_startAnew_48 rfl ?_
        refine jx_istore_n (pc := 49) hX d_N_startAnew_49 rfl (by decide) (L' := [(0, _), (1, _), (2, _), (3, _)]) rfl ?_
        exact jx_to (loop2 _ 0 (sR σa 0 f) (σa.2 1) rfl (Nat.zero_le _) hst hz (fun j hj => absurd hj (Nat.not_lt_zero j))) (sR_self (sR σa 0 f) 1).symm rfl rfl rfl
      · have hlt : i < 24 := Nat.lt_of_not_le (fun q => qb (nI_le (a := 24) q (by omega)))
        refine jx_aload_n (pc := 35) hX d_N_startAnew_35 rfl rfl ?_
        refine g_N_30 (pc := 36) hX d_N_startAnew_36 ?_
        refine jx_iload_n (pc := 39) hX d_N_startAnew_39 rfl rfl ?_
        refine jx_iconst (pc := 40) hX (v := 0) d_N_startAnew_40 rfl ?_
        refine jx_iast (pc := 41) hX oC_0 _ rfl (show i < 24 by omega) d_N_startAnew_41 ?_
        refine jx_iinc (pc := 42) hX (v := nI (i + 1)) d_N_startAnew_42 rfl (nI_1 i) (by decide) (L' := [(0, _), (1, _), (2, _), (3, _)]) rfl ?_
        refine jx_goto (pc := 45) hX 29 d_N_startAnew_45 rfl ?_
        rw [sA_sR]
        exact ih _ (by omega) (i + 1) σa (upd f i 0) rfl (by omega) hst (zero_s hz)
  refine jx_aload_n (pc := 0) hX d_N_startAnew_0 rfl rfl ?_
  refine g_N_10 (pc := 1) hX d_N_startAnew_1 ?_
  refine jx_iload_n (pc := 4) hX d_N_startAnew_4 rfl rfl ?_
  refine k_N_195 (pc := 5) hX (t_P_drawFor σ w hw) ⟨rfl, rfl, (Nat.le_of_ble_eq_true rfl), (Nat.le_of_ble_eq_true rfl)⟩ rfl rfl (Nat.le_of_ble_eq_true rfl) ⟨Nat.zero_le _, Nat.zero_le _⟩ d_N_startAnew_5 (fun u1 hu1 => ?_)
  refine jx_aload_n (pc := 8) hX d_N_startAnew_8 rfl rfl ?_
  refine g_N_19 (pc := 9) hX d_N_startAnew_9 ?_
  refine k_N_198 (pc := 12) hX (t_T_clear u1) ⟨rfl, rfl, (Nat.le_of_ble_eq_true rfl), (Nat.le_of_ble_eq_true rfl)⟩ rfl rfl (Nat.le_of_ble_eq_true rfl) ⟨Nat.zero_le _, Nat.zero_le _⟩ d_N_startAnew_12 (fun u2 hu2 => ?_)
  subst hu2
  refine jx_aload_n (pc := 15) hX d_N_startAnew_15 rfl rfl ?_
  refine g_N_26 (pc := 16) hX d_N_startAnew_16 ?_
  refine k_N_201 (pc := 19) hX (t_B_clear _) ⟨rfl, rfl, (Nat.le_of_ble_eq_true rfl), (Nat.le_of_ble_eq_true rfl)⟩ rfl rfl (Nat.le_of_ble_eq_true rfl) ⟨Nat.zero_le _, Nat.zero_le _⟩ d_N_startAnew_19 (fun u3 hu3 => ?_)
  subst hu3
  refine jx_aload_n (pc := 22) hX d_N_startAnew_22 rfl rfl ?_
  refine jx_iload_n (pc := 23) hX d_N_startAnew_23 rfl rfl ?_
  refine p_N_162 (pc := 24) hX d_N_startAnew_24 ?_
  refine jx_iconst (pc := 27) hX (v := 0) d_N_startAnew_27 rfl ?_
  refine jx_istore_n (pc := 28) hX d_N_startAnew_28 rfl (by decide) (L' := [(0, _), (1, _), (2, _), (3, _)]) rfl ?_
  exact jx_to (loop1 _ 0 (sF (sF (sF (sF u1 4 0) 5 0) 6 0) 0 (nI ns)) (u1.2 0) rfl (Nat.zero_le _) ⟨hu1.1, hu1.2, rfl, rfl, rfl, rfl⟩ (fun j hj => absurd hj (Nat.not_lt_zero j))) (sR_self _ 0).symm rfl rfl rfl
