theorem o_build_bad {σ : St} {M : Ms} {x y : Int32} (hM : repM σ M) (h0 : σ.1 0 = 1) (hy : ∀ s, ¬ inR y 7 = some (s + 1)) : endM (o_build M x y) 0 σ := by
  have e : o_build M x y = (1, 0, M) := by
    unfold o_build
    cases widthOf x with
    | none => rfl
    | some w =>
      cases h : inR y 7 with
      | none => rfl
      | some s =>
        cases s with
        | zero => rfl
        | succ s => exact absurd h (hy s)
  rw [e]
  exact ⟨h0, fun h => absurd h (show ¬ (1 : Int32) = 0 by decide), hM⟩
theorem widthOf_nI {w : Nat} (h : Wok w) : widthOf (nI w) = some w := by rcases h with rfl | rfl | rfl <;> rfl
set_option maxRecDepth 100000 in
set_option maxHeartbeats 4000000 in
theorem t_M_settle_a {l : Launch} {D : va_G} {ad : Nat → Nat} {ac : Nat → ClassId} (σ : St) (M : Ms) (hI : Inv M) (hM : repM σ M) (y : Int32) (hy : inR y (100 + 1) = none) : jMi l (yM D ad ac) mt_M_settle TT (rmk 7) [.ref (ad 19), .int y] σ (endM (o_settle M y)) := by
  obtain ⟨⟨⟨s0, s1, s2, s3⟩, h0, h1, h2, h3, h4, h5, h6, h7, h8, h9, h10, h11, h12, h13⟩, hpl⟩ := id hM
  obtain ⟨i1, i2, i3, i4, i5, i6, i7, i8⟩ := id hI
  obtain ⟨p1, p3, p4, p5, p6⟩ := id hpl
  have hw8 := i1.le
  have hw2 := i1.pos
  have hnb := nb_le M.w
  have hlft : M.left ≤ 40 := i5
  refine jMi_of (by decide) (Nat.le_of_ble_eq_true rfl) (List.forall_mem_cons.mpr ⟨rfl, List.forall_mem_cons.mpr ⟨rfl, fun _ h => absurd h List.not_mem_nil⟩⟩) ?_
  intro X A hX
  have hX : jX X (yM D ad ac) A b_M_settle 4 RM (mt_M_settle.w :: TT) (rmk 7) (some .int) := hX
  show jW l X (yM D ad ac) A 4 0 0 kT (jQi X (yM D ad ac) A (endM (o_settle M y))) σ 0 [(0, .ref (ad 19)), (1, .int y)] []
  refine jx_aload_n (pc := 0) hX d_M_settle_0 rfl rfl ?_
  refine jx_iload_n (pc := 1) hX d_M_settle_1 rfl rfl ?_
  refine jx_iconst (pc := 2) hX (v := 0) d_M_settle_2 rfl ?_
  refine jx_bipush (pc := 3) hX (v := 100) d_M_settle_3 rfl ?_
  refine k_M_111 (pc := 5) hX (t_M_in σ y 0 (nI 100)) ⟨rfl, rfl, (Nat.le_of_ble_eq_true rfl), (Nat.le_of_ble_eq_true rfl)⟩ rfl rfl (Nat.le_of_ble_eq_true rfl) ⟨Nat.zero_le _, Nat.zero_le _⟩ d_M_settle_5 (fun r hr => ?_)
  rw [in_fc (by decide) hy] at hr
  subst hr
  refine jx_if_ne (pc := 8) hX 15 d_M_settle_8 rfl (fun hh => absurd (rfl) hh) (fun _ => ?_)
  refine jx_iconst (pc := 11) hX (v := 1) d_M_settle_11 rfl ?_
  refine jx_goto (pc := 12) hX 16 d_M_settle_12 rfl ?_
  refine jx_iconst (pc := 16) hX (v := 0) d_M_settle_16 rfl ?_
  refine k_M_115 (pc := 17) hX (t_M_refuse σ true false) ⟨rfl, rfl, (Nat.le_of_ble_eq_true rfl), (Nat.le_of_ble_eq_true rfl)⟩ rfl rfl (Nat.le_of_ble_eq_true rfl) ⟨Nat.zero_le _, Nat.zero_le _⟩ d_M_settle_17 (fun r u hru => ?_)
  obtain ⟨rfl, rfl⟩ := hru
  refine jx_if_eq (pc := 20) hX 25 d_M_settle_20 rfl (fun hh => absurd hh (by decide)) (fun _ => ?_)
  refine jx_iconst (pc := 23) hX (v := 0) d_M_settle_23 rfl ?_
  exact jx_iret (pc := 24) hX d_M_settle_24 (by unfold o_settle; rw [show inR y 101 = none from hy]; exact ⟨rfl, fun h => absurd h (show ¬ (1 : Int32) = 0 by decide), hM⟩)
set_option maxRecDepth 100000 in
set_option maxHeartbeats 4000000 in
theorem t_M_settle_c {l : Launch} {D : va_G} {ad : Nat → Nat} {ac : Nat → ClassId} (σ : St) (M : Ms) (hI : Inv M) (hM : repM σ M) (n : Nat) (hn : n < 101) : jMi l (yM D ad ac) mt_M_settle TT (rmk 7) [.ref (ad 19), .int (nI n)] σ (endM (o_settle M (nI n))) := by
  obtain ⟨⟨⟨s0, s1, s2, s3⟩, h0, h1, h2, h3, h4, h5, h6, h7, h8, h9, h10, h11, h12, h13⟩, hpl⟩ := id hM
  obtain ⟨i1, i2, i3, i4, i5, i6, i7, i8⟩ := id hI
  obtain ⟨p1, p3, p4, p5, p6⟩ := id hpl
  have hw8 := i1.le
  have hw2 := i1.pos
  have hnb := nb_le M.w
  have hlft : M.left ≤ 40 := i5
  refine jMi_of (by decide) (Nat.le_of_ble_eq_true rfl) (List.forall_mem_cons.mpr ⟨rfl, List.forall_mem_cons.mpr ⟨rfl, fun _ h => absurd h List.not_mem_nil⟩⟩) ?_
  intro X A hX
  have hX : jX X (yM D ad ac) A b_M_settle 4 RM (mt_M_settle.w :: TT) (rmk 7) (some .int) := hX
  show jW l X (yM D ad ac) A 4 0 0 kT (jQi X (yM D ad ac) A (endM (o_settle M (nI n)))) σ 0 [(0, .ref (ad 19)), (1, .int (nI n))] []
  have outer : ∀ (fu : Nat) (rd : Nat) (σ1 : St) (M1 : Ms), n - rd = fu → rd ≤ n → Inv M1 → repM σ1 M1 → σ1.1 0 = 0 → rd + (Ms.settle (n - rd) M1).1 = (Ms.settle n M).1 → (Ms.settle (n - rd) M1).2 = (Ms.settle n M).2 → jW l X (yM D ad ac) A 4 0 0 kT (jQi X (yM D ad ac) A (endM (o_settle M (nI n)))) σ1 27 [(0, .ref (ad 19)), (1, .int (nI n)), (2, .int (nI rd))] [] := by
    intro fu
    induction fu using Nat.strongRecOn with
    | ind fu ih =>
      intro rd σ1 M1 hfu hrd hI1 hM1 ez e1 e2
      have inner2 : rd < n → ¬ M1.left = 0 → ∀ (fu2 : Nat) (k : Nat) (σ2 : St) (M2 : Ms), k = fu2 → Inv M2 → repM σ2 M2 → σ2.1 0 = 0 → M2.nl = k → Ms.delAll k M2 = M1.round → jW l X (yM D ad ac) A 4 0 0 kT (jQi X (yM D ad ac) A (endM (o_settle M (nI n)))) σ2 74 [(0, .ref (ad 19)), (1, .int (nI n)), (2, .int (nI rd)), (3, .int (nI k))] [] := by
        intro hlt hne fu2
        induction fu2 using Nat.strongRecOn with
        | ind fu2 ih2 =>
          intro k σ2 M2 hfu2 hI2 hM2 ez2 enl ed
          have b60 := hI2.2.2.2.1
          refine jx_iload_n (pc := 74) hX d_M_settle_74 rfl rfl ?_
          refine jx_if_le (pc := 75) hX 90 d_M_settle_75 rfl (fun q75 => ?_) (fun q75 => ?_)
          · have hk : k = 0 := by have : k ≤ 0 := (nI_leI (b := 0) (by omega) (by decide)).mp q75; omega
            subst hk
            have hM9 : M2 = M1.round := ed
            refine jx_iinc (pc := 90) hX (v := nI (rd + 1)) d_M_settle_90 rfl (nI_1 rd) (by decide) (L' := [(0, _), (1, _), (2, _), (3, _)]) rfl ?_
            refine jx_goto (pc := 93) hX 27 d_M_settle_93 rfl ?_
            refine jx_take 3 ?_
            exact ih _ (by omega) (rd + 1) σ2 M2 rfl (by omega) hI2 hM2 ez2 (by rw [Ms.settle_s hne hlt] at e1; rw [hM9]; dsimp only at e1; omega) (by rw [Ms.settle_s hne hlt] at e2; rw [hM9]; exact e2)
          · have hk0 : 0 < k := Nat.pos_of_ne_zero (fun q => q75 (by rw [q]; decide))
            refine jx_aload_n (pc := 78) hX d_M_settle_78 rfl rfl ?_
            refine jx_iconst (pc := 79) hX (v := 0) d_M_settle_79 rfl ?_
            refine k_M_162 (pc := 80) hX (t_M_deliver_c σ2 M2 hI2 hM2 0 (by omega)) ⟨rfl, rfl, (Nat.le_of_ble_eq_true rfl), (Nat.le_of_ble_eq_true rfl)⟩ rfl rfl (Nat.le_of_ble_eq_true rfl) ⟨Nat.zero_le _, Nat.zero_le _⟩ d_M_settle_80 (fun r u hru => ?_)
            unfold o_deliver at hru
            rw [inR_nI (show 0 < M2.nl by omega) (by omega)] at hru
            obtain ⟨z1, z2, z3⟩ := hru
            refine jx_pop (pc := 83) hX d_M_settle_83 rfl ?_
            refine jx_iinc (pc := 84) hX (v := nI (k - 1)) d_M_settle_84 rfl (by rw [show Int32.ofInt (-1) = -1 by decide]; exact sb_m1 hk0) (by decide) (L' := [(0, _), (1, _), (2, _), (3, _)]) rfl ?_
            refine jx_goto (pc := 87) hX 74 d_M_settle_87 rfl ?_
            exact ih2 _ (by omega) (k - 1) u (M2.deliver 0) rfl (hI2.deliver (by omega)) z3 z1 (by rw [Ms.deliver_nl]; omega) (by rw [← ed, show k = (k - 1) + 1 by omega]; rfl)
      have inner1 : rd < n → ¬ M1.left = 0 → ∀ (fu2 : Nat) (t : Nat) (σ2 : St) (M2 : Ms), M1.nt - t = fu2 → t ≤ M1.nt → Inv M2 → repM σ2 M2 → σ2.1 0 = 0 → M2.nt = M1.nt → Ms.stepAll (M1.nt - t) t M2 = Ms.stepAll M1.nt 0 M1 → jW l X (yM D ad ac) A 4 0 0 kT (jQi X (yM D ad ac) A (endM (o_settle M (nI n)))) σ2 41 [(0, .ref (ad 19)), (1, .int (nI n)), (2, .int (nI rd)), (3, .int (nI t))] [] := by
        intro hlt hne fu2
        induction fu2 using Nat.strongRecOn with
        | ind fu2 ih2 =>
          intro t σ2 M2 hfu2 ht hI2 hM2 ez2 ent est
          have b200 := hI2.2.2.1
          refine jx_iload_n (pc := 41) hX d_M_settle_41 rfl rfl ?_
          refine jx_aload_n (pc := 42) hX d_M_settle_42 rfl rfl ?_
          refine g_M_99 (pc := 43) hX d_M_settle_43 ?_
          refine jx_top (y := nI M1.nt) (by rw [← ent]; exact hM2.1.1.2.2.1) ?_
          refine jx_icmp_ge (pc := 46) hX 69 d_M_settle_46 rfl (fun q46 => ?_) (fun q46 => ?_)
          · have hge : M1.nt ≤ t := (nI_leI (by omega) (by omega)).mp q46
            rw [Nat.sub_eq_zero_of_le hge] at est
            have est : M2 = Ms.stepAll M1.nt 0 M1 := est
            refine jx_aload_n (pc := 69) hX d_M_settle_69 rfl rfl ?_
            refine g_M_102 (pc := 70) hX d_M_settle_70 ?_
            refine jx_top (y := nI M2.nl) (hM2.1.1.2.2.2) ?_
            refine jx_istore_n (pc := 73) hX d_M_settle_73 rfl (by decide) (L' := [(0, _), (1, _), (2, _), (3, _)]) rfl ?_
            exact inner2 hlt hne _ M2.nl σ2 M2 rfl hI2 hM2 ez2 rfl (by rw [est]; rfl)
          · have hlt2 : t < M1.nt := Nat.lt_of_not_le (fun q => q46 (nI_le q (by omega)))
            refine jx_aload_n (pc := 49) hX d_M_settle_49 rfl rfl ?_
            refine jx_iload_n (pc := 50) hX d_M_settle_50 rfl rfl ?_
            refine k_M_137 (pc := 51) hX (t_M_isStuck σ2 M2 hI2 hM2 t (by omega)) ⟨rfl, rfl, (Nat.le_of_ble_eq_true rfl), (Nat.le_of_ble_eq_true rfl)⟩ rfl rfl (Nat.le_of_ble_eq_true rfl) ⟨Nat.zero_le _, Nat.zero_le _⟩ d_M_settle_51 (fun r hr => ?_)
            subst hr
            refine jx_if_ne (pc := 54) hX 63 d_M_settle_54 rfl (fun q54 => ?_) (fun q54 => ?_)
            · have hc : M2.can t = false := by have := eB_n0.mp q54; cases hq : M2.can t with | true => rw [hq] at this; cases this | false => rfl
              refine jx_iinc (pc := 63) hX (v := nI (t + 1)) d_M_settle_63 rfl (nI_1 t) (by decide) (L' := [(0, _), (1, _), (2, _), (3, _)]) rfl ?_
              refine jx_goto (pc := 66) hX 41 d_M_settle_66 rfl ?_
              exact ih2 _ (by omega) (t + 1) σ2 M2 rfl (by omega) hI2 hM2 ez2 ent (by rw [← est, Ms.stepAll_s hlt2, if_neg (by rw [hc]; decide)])
            · have hc : M2.can t = true := by have := eB_0.mp q54; cases hq : M2.can t with | true => rfl | false => rw [hq] at this; cases this
              refine jx_aload_n (pc := 57) hX d_M_settle_57 rfl rfl ?_
              refine jx_iload_n (pc := 58) hX d_M_settle_58 rfl rfl ?_
              refine k_M_141 (pc := 59) hX (t_M_step σ2 M2 hI2 hM2 t (by omega) hc) ⟨rfl, rfl, (Nat.le_of_ble_eq_true rfl), (Nat.le_of_ble_eq_true rfl)⟩ rfl rfl (Nat.le_of_ble_eq_true rfl) ⟨Nat.zero_le _, Nat.zero_le _⟩ d_M_settle_59 (fun r u hru => ?_)
              refine jx_pop (pc := 62) hX d_M_settle_62 rfl ?_
              refine jx_iinc (pc := 63) hX (v := nI (t + 1)) d_M_settle_63 rfl (nI_1 t) (by decide) (L' := [(0, _), (1, _), (2, _), (3, _)]) rfl ?_
              refine jx_goto (pc := 66) hX 41 d_M_settle_66 rfl ?_
              exact ih2 _ (by omega) (t + 1) u (M2.step t).2 rfl (by omega) (hI2.step (by omega) hc) hru.2.1 (hru.2.2.trans ez2) ((Ms.step_nt M2 t).trans ent) (by rw [← est, Ms.stepAll_s hlt2, if_pos hc])
      refine jx_iload_n (pc := 27) hX d_M_settle_27 rfl rfl ?_
      refine jx_iload_n (pc := 28) hX d_M_settle_28 rfl rfl ?_
      refine jx_icmp_ge (pc := 29) hX 96 d_M_settle_29 rfl (fun q29 => ?_) (fun q29 => ?_)
      · have hge : rd = n := by have : n ≤ rd := (nI_leI (by omega) (by omega)).mp q29; omega
        have hend : Ms.settle (n - rd) M1 = (0, M1) := by rw [hge, Nat.sub_self]; rfl
        refine jx_iload_n (pc := 96) hX d_M_settle_96 rfl rfl ?_
        exact jx_iret (pc := 97) hX d_M_settle_97 (by unfold o_settle; rw [inR_nI hn (by decide)]; rw [hend] at e1 e2; exact ⟨ez, fun _ => by show nI rd = nI (Ms.settle n M).1; rw [← e1]; rfl, by show repM σ1 (Ms.settle n M).2; rw [← e2]; exact hM1⟩)
      · have hlt : rd < n := Nat.lt_of_not_le (fun q => q29 (nI_le q (by omega)))
        refine jx_aload_n (pc := 32) hX d_M_settle_32 rfl rfl ?_
        refine k_M_119 (pc := 33) hX (t_M_left σ1 M1 hI1 hM1) ⟨rfl, rfl, (Nat.le_of_ble_eq_true rfl), (Nat.le_of_ble_eq_true rfl)⟩ rfl rfl (Nat.le_of_ble_eq_true rfl) ⟨Nat.zero_le _, Nat.zero_le _⟩ d_M_settle_33 (fun r hr => ?_)
        subst hr
        refine jx_if_le (pc := 36) hX 96 d_M_settle_36 rfl (fun q36 => ?_) (fun q36 => ?_)
        · have hz : M1.left = 0 := by have : M1.left ≤ 0 := (nI_leI (b := 0) (by have := hI1.2.2.2.2.1; omega) (by decide)).mp q36; omega
          have hend : Ms.settle (n - rd) M1 = (0, M1) := Ms.settle_0 hz
          refine jx_iload_n (pc := 96) hX d_M_settle_96 rfl rfl ?_
          exact jx_iret (pc := 97) hX d_M_settle_97 (by unfold o_settle; rw [inR_nI hn (by decide)]; rw [hend] at e1 e2; exact ⟨ez, fun _ => by show nI rd = nI (Ms.settle n M).1; rw [← e1]; rfl, by show repM σ1 (Ms.settle n M).2; rw [← e2]; exact hM1⟩)
        · have hne : ¬ M1.left = 0 := fun q => q36 (by rw [q]; decide)
          refine jx_iconst (pc := 39) hX (v := 0) d_M_settle_39 rfl ?_
          refine jx_istore_n (pc := 40) hX d_M_settle_40 rfl (by decide) (L' := [(0, _), (1, _), (2, _), (3, _)]) rfl ?_
          exact inner1 hlt hne _ 0 σ1 M1 rfl (Nat.zero_le _) hI1 hM1 ez rfl rfl
  refine jx_aload_n (pc := 0) hX d_M_settle_0 rfl rfl ?_
  refine jx_iload_n (pc := 1) hX d_M_settle_1 rfl rfl ?_
  refine jx_iconst (pc := 2) hX (v := 0) d_M_settle_2 rfl ?_
  refine jx_bipush (pc := 3) hX (v := 100) d_M_settle_3 rfl ?_
  refine k_M_111 (pc := 5) hX (t_M_in σ (nI n) 0 (nI 100)) ⟨rfl, rfl, (Nat.le_of_ble_eq_true rfl), (Nat.le_of_ble_eq_true rfl)⟩ rfl rfl (Nat.le_of_ble_eq_true rfl) ⟨Nat.zero_le _, Nat.zero_le _⟩ d_M_settle_5 (fun r hr => ?_)
  rw [in_tc (by decide) (inR_nI (show n < 100 + 1 from hn) (by decide))] at hr
  subst hr
  refine jx_if_ne (pc := 8) hX 15 d_M_settle_8 rfl (fun _ => ?_) (fun hh => absurd hh (by decide))
  refine jx_iconst (pc := 15) hX (v := 0) d_M_settle_15 rfl ?_
  refine jx_iconst (pc := 16) hX (v := 0) d_M_settle_16 rfl ?_
  refine k_M_115 (pc := 17) hX (t_M_refuse σ false false) ⟨rfl, rfl, (Nat.le_of_ble_eq_true rfl), (Nat.le_of_ble_eq_true rfl)⟩ rfl rfl (Nat.le_of_ble_eq_true rfl) ⟨Nat.zero_le _, Nat.zero_le _⟩ d_M_settle_17 (fun r u hru => ?_)
  obtain ⟨rfl, rfl⟩ := hru
  refine jx_if_eq (pc := 20) hX 25 d_M_settle_20 rfl (fun _ => ?_) (fun hh => absurd (rfl) hh)
  refine jx_iconst (pc := 25) hX (v := 0) d_M_settle_25 rfl ?_
  refine jx_istore_n (pc := 26) hX d_M_settle_26 rfl (by decide) (L' := [(0, _), (1, _), (2, _)]) rfl ?_
  exact outer _ 0 (sF σ 0 0) M rfl (Nat.zero_le _) hI hM rfl (Nat.zero_add _) rfl
set_option maxRecDepth 100000 in
set_option maxHeartbeats 4000000 in
theorem t_M_build_a {l : Launch} {D : va_G} {ad : Nat → Nat} {ac : Nat → ClassId} (σ : St) (M : Ms) (hI : Inv M) (hM : repM σ M) (x y : Int32) (hx : widthOf x = none) : jMi l (yM D ad ac) mt_M_build TT (rmk 6) [.ref (ad 19), .int x, .int y] σ (endM (o_build M x y)) := by
  obtain ⟨⟨⟨s0, s1, s2, s3⟩, h0, h1, h2, h3, h4, h5, h6, h7, h8, h9, h10, h11, h12, h13⟩, hpl⟩ := id hM
  obtain ⟨i1, i2, i3, i4, i5, i6, i7, i8⟩ := id hI
  obtain ⟨p1, p3, p4, p5, p6⟩ := id hpl
  have hw8 := i1.le
  have hw2 := i1.pos
  have hnb := nb_le M.w
  have hlft : M.left ≤ 40 := i5
  refine jMi_of (by decide) (Nat.le_of_ble_eq_true rfl) (List.forall_mem_cons.mpr ⟨rfl, List.forall_mem_cons.mpr ⟨rfl, List.forall_mem_cons.mpr ⟨rfl, fun _ h => absurd h List.not_mem_nil⟩⟩⟩) ?_
  intro X A hX
  have hX : jX X (yM D ad ac) A b_M_build 3 RM (mt_M_build.w :: TT) (rmk 6) (some .int) := hX
  show jW l X (yM D ad ac) A 3 0 0 kT (jQi X (yM D ad ac) A (endM (o_build M x y))) σ 0 [(0, .ref (ad 19)), (1, .int x), (2, .int y)] []
  refine jx_aload_n (pc := 0) hX d_M_build_0 rfl rfl ?_
  refine jx_iload_n (pc := 1) hX d_M_build_1 rfl rfl ?_
  refine jx_iconst (pc := 2) hX (v := 2) d_M_build_2 rfl ?_
  refine jx_icmp_eq (pc := 3) hX 17 d_M_build_3 rfl (fun hh => absurd hh ((widthOf_none hx).1)) (fun _ => ?_)
  refine jx_iload_n (pc := 6) hX d_M_build_6 rfl rfl ?_
  refine jx_iconst (pc := 7) hX (v := 4) d_M_build_7 rfl ?_
  refine jx_icmp_eq (pc := 8) hX 17 d_M_build_8 rfl (fun hh => absurd hh ((widthOf_none hx).2.1)) (fun _ => ?_)
  refine jx_iload_n (pc := 11) hX d_M_build_11 rfl rfl ?_
  refine jx_bipush (pc := 12) hX (v := 8) d_M_build_12 rfl ?_
  refine jx_icmp_ne (pc := 14) hX 27 d_M_build_14 rfl (fun _ => ?_) (fun hh => absurd hh ((widthOf_none hx).2.2))
  refine jx_iconst (pc := 27) hX (v := 1) d_M_build_27 rfl ?_
  refine jx_goto (pc := 28) hX 32 d_M_build_28 rfl ?_
  refine jx_iconst (pc := 32) hX (v := 0) d_M_build_32 rfl ?_
  refine k_M_115 (pc := 33) hX (t_M_refuse σ true false) ⟨rfl, rfl, (Nat.le_of_ble_eq_true rfl), (Nat.le_of_ble_eq_true rfl)⟩ rfl rfl (Nat.le_of_ble_eq_true rfl) ⟨Nat.zero_le _, Nat.zero_le _⟩ d_M_build_33 (fun r u hru => ?_)
  obtain ⟨rfl, rfl⟩ := hru
  refine jx_if_eq (pc := 36) hX 41 d_M_build_36 rfl (fun hh => absurd hh (by decide)) (fun _ => ?_)
  refine jx_iconst (pc := 39) hX (v := 0) d_M_build_39 rfl ?_
  exact jx_iret (pc := 40) hX d_M_build_40 (by unfold o_build; rw [hx]; exact ⟨rfl, fun h => absurd h (show ¬ (1 : Int32) = 0 by decide), hM⟩)
set_option maxRecDepth 100000 in
set_option maxHeartbeats 4000000 in
theorem t_M_build_b {l : Launch} {D : va_G} {ad : Nat → Nat} {ac : Nat → ClassId} (σ : St) (M : Ms) (hI : Inv M) (hM : repM σ M) (w : Nat) (hw : Wok w) (y : Int32) (hy : ∀ s, ¬ inR y 7 = some (s + 1)) : jMi l (yM D ad ac) mt_M_build TT (rmk 6) [.ref (ad 19), .int (nI w), .int y] σ (endM (o_build M (nI w) y)) := by
  obtain ⟨⟨⟨s0, s1, s2, s3⟩, h0, h1, h2, h3, h4, h5, h6, h7, h8, h9, h10, h11, h12, h13⟩, hpl⟩ := id hM
  obtain ⟨i1, i2, i3, i4, i5, i6, i7, i8⟩ := id hI
  obtain ⟨p1, p3, p4, p5, p6⟩ := id hpl
  have hw8 := i1.le
  have hw2 := i1.pos
  have hnb := nb_le M.w
  have hlft : M.left ≤ 40 := i5
  refine jMi_of (by decide) (Nat.le_of_ble_eq_true rfl) (List.forall_mem_cons.mpr ⟨rfl, List.forall_mem_cons.mpr ⟨rfl, List.forall_mem_cons.mpr ⟨rfl, fun _ h => absurd h List.not_mem_nil⟩⟩⟩) ?_
  intro X A hX
  have hX : jX X (yM D ad ac) A b_M_build 3 RM (mt_M_build.w :: TT) (rmk 6) (some .int) := hX
  show jW l X (yM D ad ac) A 3 0 0 kT (jQi X (yM D ad ac) A (endM (o_build M (nI w) y))) σ 0 [(0, .ref (ad 19)), (1, .int (nI w)), (2, .int y)] []
  refine jx_aload_n (pc := 0) hX d_M_build_0 rfl rfl ?_
  refine jx_iload_n (pc := 1) hX d_M_build_1 rfl rfl ?_
  refine jx_iconst (pc := 2) hX (v := 2) d_M_build_2 rfl ?_
  refine jx_icmp_eq (pc := 3) hX 17 d_M_build_3 rfl (fun q3 => ?_) (fun q3 => ?_)
  · refine jx_iload_n (pc := 17) hX d_M_build_17 rfl rfl ?_
    refine jx_iconst (pc := 18) hX (v := 1) d_M_build_18 rfl ?_
    refine jx_bipush (pc := 19) hX (v := 6) d_M_build_19 rfl ?_
    refine k_M_111 (pc := 21) hX (t_M_in σ y 1 6) ⟨rfl, rfl, (Nat.le_of_ble_eq_true rfl), (Nat.le_of_ble_eq_true rfl)⟩ rfl rfl (Nat.le_of_ble_eq_true rfl) ⟨Nat.zero_le _, Nat.zero_le _⟩ d_M_build_21 (fun r hr => ?_)
    rw [in1_f hy] at hr
    subst hr
    refine jx_if_ne (pc := 24) hX 31 d_M_build_24 rfl (fun hh => absurd (rfl) hh) (fun _ => ?_)
    refine jx_iconst (pc := 27) hX (v := 1) d_M_build_27 rfl ?_
    refine jx_goto (pc := 28) hX 32 d_M_build_28 rfl ?_
    refine jx_iconst (pc := 32) hX (v := 0) d_M_build_32 rfl ?_
    refine k_M_115 (pc := 33) hX (t_M_refuse σ true false) ⟨rfl, rfl, (Nat.le_of_ble_eq_true rfl), (Nat.le_of_ble_eq_true rfl)⟩ rfl rfl (Nat.le_of_ble_eq_true rfl) ⟨Nat.zero_le _, Nat.zero_le _⟩ d_M_build_33 (fun r u hru => ?_)
    obtain ⟨rfl, rfl⟩ := hru
    refine jx_if_eq (pc := 36) hX 41 d_M_build_36 rfl (fun hh => absurd hh (by decide)) (fun _ => ?_)
    refine jx_iconst (pc := 39) hX (v := 0) d_M_build_39 rfl ?_
    exact jx_iret (pc := 40) hX d_M_build_40 (o_build_bad (σ := sF σ 0 1) hM rfl hy)
  · refine jx_iload_n (pc := 6) hX d_M_build_6 rfl rfl ?_
    refine jx_iconst (pc := 7) hX (v := 4) d_M_build_7 rfl ?_
    refine jx_icmp_eq (pc := 8) hX 17 d_M_build_8 rfl (fun q8 => ?_) (fun q8 => ?_)
    · refine jx_iload_n (pc := 17) hX d_M_build_17 rfl rfl ?_
      refine jx_iconst (pc := 18) hX (v := 1) d_M_build_18 rfl ?_
      refine jx_bipush (pc := 19) hX (v := 6) d_M_build_19 rfl ?_
      refine k_M_111 (pc := 21) hX (t_M_in σ y 1 6) ⟨rfl, rfl, (Nat.le_of_ble_eq_true rfl), (Nat.le_of_ble_eq_true rfl)⟩ rfl rfl (Nat.le_of_ble_eq_true rfl) ⟨Nat.zero_le _, Nat.zero_le _⟩ d_M_build_21 (fun r hr => ?_)
      rw [in1_f hy] at hr
      subst hr
      refine jx_if_ne (pc := 24) hX 31 d_M_build_24 rfl (fun hh => absurd (rfl) hh) (fun _ => ?_)
      refine jx_iconst (pc := 27) hX (v := 1) d_M_build_27 rfl ?_
      refine jx_goto (pc := 28) hX 32 d_M_build_28 rfl ?_
      refine jx_iconst (pc := 32) hX (v := 0) d_M_build_32 rfl ?_
      refine k_M_115 (pc := 33) hX (t_M_refuse σ true false) ⟨rfl, rfl, (Nat.le_of_ble_eq_true rfl), (Nat.le_of_ble_eq_true rfl)⟩ rfl rfl (Nat.le_of_ble_eq_true rfl) ⟨Nat.zero_le _, Nat.zero_le _⟩ d_M_build_33 (fun r u hru => ?_)
      obtain ⟨rfl, rfl⟩ := hru
      refine jx_if_eq (pc := 36) hX 41 d_M_build_36 rfl (fun hh => absurd hh (by decide)) (fun _ => ?_)
      refine jx_iconst (pc := 39) hX (v := 0) d_M_build_39 rfl ?_
      exact jx_iret (pc := 40) hX d_M_build_40 (o_build_bad (σ := sF σ 0 1) hM rfl hy)
    · refine jx_iload_n (pc := 11) hX d_M_build_11 rfl rfl ?_
      refine jx_bipush (pc := 12) hX (v := 8) d_M_build_12 rfl ?_
      refine jx_icmp_ne (pc := 14) hX 27 d_M_build_14 rfl (fun hh => absurd (hw.elim (fun q => absurd (by rw [q]; rfl) q3) (fun q => q.elim (fun q => absurd (by rw [q]; rfl) q8) (fun q => by rw [q]; rfl))) hh) (fun _ => ?_)
      refine jx_iload_n (pc := 17) hX d_M_build_17 rfl rfl ?_
      refine jx_iconst (pc := 18) hX (v := 1) d_M_build_18 rfl ?_
      refine jx_bipush (pc := 19) hX (v := 6) d_M_build_19 rfl ?_
      refine k_M_111 (pc := 21) hX (t_M_in σ y 1 6) ⟨rfl, rfl, (Nat.le_of_ble_eq_true rfl), (Nat.le_of_ble_eq_true rfl)⟩ rfl rfl (Nat.le_of_ble_eq_true rfl) ⟨Nat.zero_le _, Nat.zero_le _⟩ d_M_build_21 (fun r hr => ?_)
      rw [in1_f hy] at hr
      subst hr
      refine jx_if_ne (pc := 24) hX 31 d_M_build_24 rfl (fun hh => absurd (rfl) hh) (fun _ => ?_)
      refine jx_iconst (pc := 27) hX (v := 1) d_M_build_27 rfl ?_
      refine jx_goto (pc := 28) hX 32 d_M_build_28 rfl ?_
      refine jx_iconst (pc := 32) hX (v := 0) d_M_build_32 rfl ?_
      refine k_M_115 (pc := 33) hX (t_M_refuse σ true false) ⟨rfl, rfl, (Nat.le_of_ble_eq_true rfl), (Nat.le_of_ble_eq_true rfl)⟩ rfl rfl (Nat.le_of_ble_eq_true rfl) ⟨Nat.zero_le _, Nat.zero_le _⟩ d_M_build_33 (fun r u hru => ?_)
      obtain ⟨rfl, rfl⟩ := hru
      refine jx_if_eq (pc := 36) hX 41 d_M_build_36 rfl (fun hh => absurd hh (by decide)) (fun _ => ?_)
      refine jx_iconst (pc := 39) hX (v := 0) d_M_build_39 rfl ?_
      exact jx_iret (pc := 40) hX d_M_build_40 (o_build_bad (σ := sF σ 0 1) hM rfl hy)
set_option maxRecDepth 100000 in
set_option maxHeartbeats 4000000 in
theorem t_M_build_c {l : Launch} {D : va_G} {ad : Nat → Nat} {ac : Nat → ClassId} (σ : St) (M : Ms) (hI : Inv M) (hM : repM σ M) (w s : Nat) (hw : Wok w) (hs : s + 1 < 7) : jMi l (yM D ad ac) mt_M_build TT (rmk 6) [.ref (ad 19), .int (nI w), .int (nI (s + 1))] σ (endM (o_build M (nI w) (nI (s + 1)))) := by
  obtain ⟨⟨⟨s0, s1, s2, s3⟩, h0, h1, h2, h3, h4, h5, h6, h7, h8, h9, h10, h11, h12, h13⟩, hpl⟩ := id hM
  obtain ⟨i1, i2, i3, i4, i5, i6, i7, i8⟩ := id hI
  obtain ⟨p1, p3, p4, p5, p6⟩ := id hpl
  have hw8 := i1.le
  have hw2 := i1.pos
  have hnb := nb_le M.w
  have hlft : M.left ≤ 40 := i5
  refine jMi_of (by decide) (Nat.le_of_ble_eq_true rfl) (List.forall_mem_cons.mpr ⟨rfl, List.forall_mem_cons.mpr ⟨rfl, List.forall_mem_cons.mpr ⟨rfl, fun _ h => absurd h List.not_mem_nil⟩⟩⟩) ?_
  intro X A hX
  have hX : jX X (yM D ad ac) A b_M_build 3 RM (mt_M_build.w :: TT) (rmk 6) (some .int) := hX
  show jW l X (yM D ad ac) A 3 0 0 kT (jQi X (yM D ad ac) A (endM (o_build M (nI w) (nI (s + 1))))) σ 0 [(0, .ref (ad 19)), (1, .int (nI w)), (2, .int (nI (s + 1)))] []
  refine jx_aload_n (pc := 0) hX d_M_build_0 rfl rfl ?_
  refine jx_iload_n (pc := 1) hX d_M_build_1 rfl rfl ?_
  refine jx_iconst (pc := 2) hX (v := 2) d_M_build_2 rfl ?_
  refine jx_icmp_eq (pc := 3) hX 17 d_M_build_3 rfl (fun q3 => ?_) (fun q3 => ?_)
  · refine jx_iload_n (pc := 17) hX d_M_build_17 rfl rfl ?_
    refine jx_iconst (pc := 18) hX (v := 1) d_M_build_18 rfl ?_
    refine jx_bipush (pc := 19) hX (v := 6) d_M_build_19 rfl ?_
    refine k_M_111 (pc := 21) hX (t_M_in σ (nI (s + 1)) 1 6) ⟨rfl, rfl, (Nat.le_of_ble_eq_true rfl), (Nat.le_of_ble_eq_true rfl)⟩ rfl rfl (Nat.le_of_ble_eq_true rfl) ⟨Nat.zero_le _, Nat.zero_le _⟩ d_M_build_21 (fun r hr => ?_)
    rw [in1_t (inR_nI hs (by decide))] at hr
    subst hr
    refine jx_if_ne (pc := 24) hX 31 d_M_build_24 rfl (fun _ => ?_) (fun hh => absurd hh (by decide))
    refine jx_iconst (pc := 31) hX (v := 0) d_M_build_31 rfl ?_
    refine jx_iconst (pc := 32) hX (v := 0) d_M_build_32 rfl ?_
    refine k_M_115 (pc := 33) hX (t_M_refuse σ false false) ⟨rfl, rfl, (Nat.le_of_ble_eq_true rfl), (Nat.le_of_ble_eq_true rfl)⟩ rfl rfl (Nat.le_of_ble_eq_true rfl) ⟨Nat.zero_le _, Nat.zero_le _⟩ d_M_build_33 (fun r u hru => ?_)
    obtain ⟨rfl, rfl⟩ := hru
    refine jx_if_eq (pc := 36) hX 41 d_M_build_36 rfl (fun _ => ?_) (fun hh => absurd (rfl) hh)
    refine jx_aload_n (pc := 41) hX d_M_build_41 rfl rfl ?_
    refine jx_iload_n (pc := 42) hX d_M_build_42 rfl rfl ?_
    refine jx_iload_n (pc := 43) hX d_M_build_43 rfl rfl ?_
    refine k_M_68 (pc := 44) hX (t_M_make (sF σ 0 0) M w (s + 1) hw) ⟨rfl, rfl, (Nat.le_of_ble_eq_true rfl), (Nat.le_of_ble_eq_true rfl)⟩ rfl rfl (Nat.le_of_ble_eq_true rfl) ⟨Nat.zero_le _, Nat.zero_le _⟩ d_M_build_44 (fun u hu => ?_)
    refine jx_aload_n (pc := 47) hX d_M_build_47 rfl rfl ?_
    refine g_M_76 (pc := 48) hX d_M_build_48 ?_
    exact jx_iret (pc := 51) hX d_M_build_51 (by unfold o_build; rw [widthOf_nI hw, inR_nI hs (by decide)]; exact ⟨hu.2, fun _ => hu.1.2.1, hu.1⟩)
  · refine jx_iload_n (pc := 6) hX d_M_build_6 rfl rfl ?_
    refine jx_iconst (pc := 7) hX (v := 4) d_M_build_7 rfl ?_
    refine jx_icmp_eq (pc := 8) hX 17 d_M_build_8 rfl (fun q8 => ?_) (fun q8 => ?_)
    · refine jx_iload_n (pc := 17) hX d_M_build_17 rfl rfl ?_
      refine jx_iconst (pc := 18) hX (v := 1) d_M_build_18 rfl ?_
      refine jx_bipush (pc := 19) hX (v := 6) d_M_build_19 rfl ?_
      refine k_M_111 (pc := 21) hX (t_M_in σ (nI (s + 1)) 1 6) ⟨rfl, rfl, (Nat.le_of_ble_eq_true rfl), (Nat.le_of_ble_eq_true rfl)⟩ rfl rfl (Nat.le_of_ble_eq_true rfl) ⟨Nat.zero_le _, Nat.zero_le _⟩ d_M_build_21 (fun r hr => ?_)
      rw [in1_t (inR_nI hs (by decide))] at hr
      subst hr
      refine jx_if_ne (pc := 24) hX 31 d_M_build_24 rfl (fun _ => ?_) (fun hh => absurd hh (by decide))
      refine jx_iconst (pc := 31) hX (v := 0) d_M_build_31 rfl ?_
      refine jx_iconst (pc := 32) hX (v := 0) d_M_build_32 rfl ?_
      refine k_M_115 (pc := 33) hX (t_M_refuse σ false false) ⟨rfl, rfl, (Nat.le_of_ble_eq_true rfl), (Nat.le_of_ble_eq_true rfl)⟩ rfl rfl (Nat.le_of_ble_eq_true rfl) ⟨Nat.zero_le _, Nat.zero_le _⟩ d_M_build_33 (fun r u hru => ?_)
      obtain ⟨rfl, rfl⟩ := hru
      refine jx_if_eq (pc := 36) hX 41 d_M_build_36 rfl (fun _ => ?_) (fun hh => absurd (rfl) hh)
      refine jx_aload_n (pc := 41) hX d_M_build_41 rfl rfl ?_
      refine jx_iload_n (pc := 42) hX d_M_build_42 rfl rfl ?_
      refine jx_iload_n (pc := 43) hX d_M_build_43 rfl rfl ?_
      refine k_M_68 (pc := 44) hX (t_M_make (sF σ 0 0) M w (s + 1) hw) ⟨rfl, rfl, (Nat.le_of_ble_eq_true rfl), (Nat.le_of_ble_eq_true rfl)⟩ rfl rfl (Nat.le_of_ble_eq_true rfl) ⟨Nat.zero_le _, Nat.zero_le _⟩ d_M_build_44 (fun u hu => ?_)
      refine jx_aload_n (pc := 47) hX d_M_build_47 rfl rfl ?_
      refine g_M_76 (pc := 48) hX d_M_build_48 ?_
      exact jx_iret (pc := 51) hX d_M_build_51 (by unfold o_build; rw [widthOf_nI hw, inR_nI hs (by decide)]; exact ⟨hu.2, fun _ => hu.1.2.1, hu.1⟩)
    · refine jx_iload_n (pc := 11) hX d_M_build_11 rfl rfl ?_
      refine jx_bipush (pc := 12) hX (v := 8) d_M_build_12 rfl ?_
      refine jx_icmp_ne (pc := 14) hX 27 d_M_build_14 rfl (fun hh => absurd (hw.elim (fun q => absurd (by rw [q]; rfl) q3) (fun q => q.elim (fun q => absurd (by rw [q]; rfl) q8) (fun q => by rw [q]; rfl))) hh) (fun _ => ?_)
      refine jx_iload_n (pc := 17) hX d_M_build_17 rfl rfl ?_
      refine jx_iconst (pc := 18) hX (v := 1) d_M_build_18 rfl ?_
      refine jx_bipush (pc := 19) hX (v := 6) d_M_build_19 rfl ?_
      refine k_M_111 (pc := 21) hX (t_M_in σ (nI (s + 1)) 1 6) ⟨rfl, rfl, (Nat.le_of_ble_eq_true rfl), (Nat.le_of_ble_eq_true rfl)⟩ rfl rfl (Nat.le_of_ble_eq_true rfl) ⟨Nat.zero_le _, Nat.zero_le _⟩ d_M_build_21 (fun r hr => ?_)
      rw [in1_t (inR_nI hs (by decide))] at hr
      subst hr
      refine jx_if_ne (pc := 24) hX 31 d_M_build_24 rfl (fun _ => ?_) (fun hh => absurd hh (by decide))
      refine jx_iconst (pc := 31) hX (v := 0) d_M_build_31 rfl ?_
      refine jx_iconst (pc := 32) hX (v := 0) d_M_build_32 rfl ?_
      refine k_M_115 (pc := 33) hX (t_M_refuse σ false false) ⟨rfl, rfl, (Nat.le_of_ble_eq_true rfl), (Nat.le_of_ble_eq_true rfl)⟩ rfl rfl (Nat.le_of_ble_eq_true rfl) ⟨Nat.zero_le _, Nat.zero_le _⟩ d_M_build_33 (fun r u hru => ?_)
      obtain ⟨rfl, rfl⟩ := hru
      refine jx_if_eq (pc := 36) hX 41 d_M_build_36 rfl (fun _ => ?_) (fun hh => absurd (rfl) hh)
      refine jx_aload_n (pc := 41) hX d_M_build_41 rfl rfl ?_
      refine jx_iload_n (pc := 42) hX d_M_build_42 rfl rfl ?_
      refine jx_iload_n (pc := 43) hX d_M_build_43 rfl rfl ?_
      refine k_M_68 (pc := 44) hX (t_M_make (sF σ 0 0) M w (s + 1) hw) ⟨rfl, rfl, (Nat.le_of_ble_eq_true rfl), (Nat.le_of_ble_eq_true rfl)⟩ rfl rfl (Nat.le_of_ble_eq_true rfl) ⟨Nat.zero_le _, Nat.zero_le _⟩ d_M_build_44 (fun u hu => ?_)
      refine jx_aload_n (pc := 47) hX d_M_build_47 rfl rfl ?_
      refine g_M_76 (pc := 48) hX d_M_build_48 ?_
      exact jx_iret (pc := 51) hX d_M_build_51 (by unfold o_build; rw [widthOf_nI hw, inR_nI hs (by decide)]; exact ⟨hu.2, fun _ => hu.1.2.1, hu.1⟩)
theorem t_M_balancer {l : Launch} {D : va_G} {ad : Nat → Nat} {ac : Nat → ClassId} (σ : St) (M : Ms) (hI : Inv M) (hM : repM σ M) (x y : Int32) : jMi l (yM D ad ac) mt_M_balancer TT (rmk 6) [.ref (ad 19), .int x, .int y] σ (endM (o_balancer M x y)) := by
  have i1 := hI.1
  have i2 := hI.2.1
  have i3 := hI.2.2.1
  have i4 := hI.2.2.2.1
  have hnb := nb_le M.w
  have hw8 := i1.le
  cases hx : inR x (nb M.w) with
  | none => exact t_M_balancer_a σ M hI hM x y hx
  | some j =>
    cases hy : inR y 5 with
    | none => exact t_M_balancer_b σ M hI hM x y j hx hy
    | some k =>
      obtain ⟨hj, rfl⟩ := inR_some (by omega) hx
      obtain ⟨hk, rfl⟩ := inR_some (by decide) hy
      rcases (show k = 0 ∨ k = 1 ∨ k = 2 ∨ k = 3 ∨ k = 4 by omega) with rfl | rfl | rfl | rfl | rfl
      · exact t_M_balancer_c0 σ M hI hM j hj
      · exact t_M_balancer_c1 σ M hI hM j hj
      · exact t_M_balancer_c2 σ M hI hM j hj
      · exact t_M_balancer_c3 σ M hI hM j hj
      · exact t_M_balancer_c4 σ M hI hM j hj
theorem t_M_exit {l : Launch} {D : va_G} {ad : Nat → Nat} {ac : Nat → ClassId} (σ : St) (M : Ms) (hI : Inv M) (hM : repM σ M) (x y : Int32) : jMi l (yM D ad ac) mt_M_exit TT (rmk 6) [.ref (ad 19), .int x, .int y] σ (endM (o_exit M x y)) := by
  have i1 := hI.1
  have i2 := hI.2.1
  have i3 := hI.2.2.1
  have i4 := hI.2.2.2.1
  have hnb := nb_le M.w
  have hw8 := i1.le
  cases hx : inR x (M.w) with
  | none => exact t_M_exit_a σ M hI hM x y hx
  | some j =>
    cases hy : inR y 3 with
    | none => exact t_M_exit_b σ M hI hM x y j hx hy
    | some k =>
      obtain ⟨hj, rfl⟩ := inR_some (by omega) hx
      obtain ⟨hk, rfl⟩ := inR_some (by decide) hy
      rcases (show k = 0 ∨ k = 1 ∨ k = 2 by omega) with rfl | rfl | rfl
      · exact t_M_exit_c0 σ M hI hM j hj
      · exact t_M_exit_c1 σ M hI hM j hj
      · exact t_M_exit_c2 σ M hI hM j hj
theorem t_M_enter {l : Launch} {D : va_G} {ad : Nat → Nat} {ac : Nat → ClassId} (σ : St) (M : Ms) (hI : Inv M) (hM : repM σ M) (x : Int32) (ob : Bool) : jMi l (yM D ad ac) mt_M_enter TT (rmk 6) [.ref (ad 19), .int x, .int (eB ob)] σ (endM (o_enter M x ob)) := by
  have i1 := hI.1
  have i2 := hI.2.1
  have i3 := hI.2.2.1
  have i4 := hI.2.2.2.1
  have hnb := nb_le M.w
  have hw8 := i1.le
  cases hx : inR x M.w with
  | none => exact t_M_enter_a σ M hI hM x ob hx
  | some j =>
    by_cases hf : M.nt = 200
    · exact t_M_enter_b σ M hI hM x ob j hx hf
    · by_cases hg : M.left = 40
      · exact t_M_enter_d σ M hI hM x ob j hx hf hg
      · obtain ⟨hj, rfl⟩ := inR_some (by omega) hx
        exact t_M_enter_c σ M hI hM ob j hj hf hg
theorem t_M_move {l : Launch} {D : va_G} {ad : Nat → Nat} {ac : Nat → ClassId} (σ : St) (M : Ms) (hI : Inv M) (hM : repM σ M) (x : Int32) : jMi l (yM D ad ac) mt_M_move TT (rmk 6) [.ref (ad 19), .int x] σ (endM (o_move M x)) := by
  have i1 := hI.1
  have i2 := hI.2.1
  have i3 := hI.2.2.1
  have i4 := hI.2.2.2.1
  have hnb := nb_le M.w
  have hw8 := i1.le
  cases hx : inR x M.nt with
  | none => exact t_M_move_a σ M hI hM x hx
  | some j =>
    obtain ⟨hj, rfl⟩ := inR_some (by omega) hx
    cases hc : M.can j with
    | false => exact t_M_move_b σ M hI hM j hj hc
    | true => exact t_M_move_c σ M hI hM j hj hc
theorem t_M_deliver {l : Launch} {D : va_G} {ad : Nat → Nat} {ac : Nat → ClassId} (σ : St) (M : Ms) (hI : Inv M) (hM : repM σ M) (x : Int32) : jMi l (yM D ad ac) mt_M_deliver TT (rmk 6) [.ref (ad 19), .int x] σ (endM (o_deliver M x)) := by
  have i1 := hI.1
  have i2 := hI.2.1
  have i3 := hI.2.2.1
  have i4 := hI.2.2.2.1
  have hnb := nb_le M.w
  have hw8 := i1.le
  cases hx : inR x M.nl with
  | none => exact t_M_deliver_a σ M hI hM x hx
  | some j =>
    obtain ⟨hj, rfl⟩ := inR_some (by omega) hx
    exact t_M_deliver_c σ M hI hM j hj
theorem t_M_lose {l : Launch} {D : va_G} {ad : Nat → Nat} {ac : Nat → ClassId} (σ : St) (M : Ms) (hI : Inv M) (hM : repM σ M) (x : Int32) : jMv l (yM D ad ac) mt_M_lose TT (rmk 6) [.ref (ad 19), .int x] σ (endMv (o_lose M x)) := by
  have i1 := hI.1
  have i2 := hI.2.1
  have i3 := hI.2.2.1
  have i4 := hI.2.2.2.1
  have hnb := nb_le M.w
  have hw8 := i1.le
  cases hx : inR x M.nl with
  | none => exact t_M_lose_a σ M hI hM x hx
  | some j =>
    obtain ⟨hj, rfl⟩ := inR_some (by omega) hx
    exact t_M_lose_c σ M hI hM j hj
theorem t_M_twin {l : Launch} {D : va_G} {ad : Nat → Nat} {ac : Nat → ClassId} (σ : St) (M : Ms) (hI : Inv M) (hM : repM σ M) (x : Int32) : jMv l (yM D ad ac) mt_M_twin TT (rmk 6) [.ref (ad 19), .int x] σ (endMv (o_twin M x)) := by
  have i1 := hI.1
  have i2 := hI.2.1
  have i3 := hI.2.2.1
  have i4 := hI.2.2.2.1
  have hnb := nb_le M.w
  have hw8 := i1.le
  cases hx : inR x M.nl with
  | none => exact t_M_twin_a σ M hI hM x hx
  | some j =>
    obtain ⟨hj, rfl⟩ := inR_some (by omega) hx
    by_cases hf : M.nl = 60
    · exact t_M_twin_b σ M hI hM j hj hf
    · exact t_M_twin_c σ M hI hM j hj hf
theorem t_M_letter {l : Launch} {D : va_G} {ad : Nat → Nat} {ac : Nat → ClassId} (σ : St) (M : Ms) (hI : Inv M) (hM : repM σ M) (x y : Int32) : jMi l (yM D ad ac) mt_M_letter TT (rmk 6) [.ref (ad 19), .int x, .int y] σ (endM (o_letter M x y)) := by
  have i1 := hI.1
  have i2 := hI.2.1
  have i3 := hI.2.2.1
  have i4 := hI.2.2.2.1
  have hnb := nb_le M.w
  have hw8 := i1.le
  by_cases h1 : x = -1
  · subst h1; exact t_M_letter_m σ M hI hM y
  · cases hx : inR x M.nl with
    | none => exact t_M_letter_a σ M hI hM x y h1 hx
    | some j =>
      obtain ⟨hj, rfl⟩ := inR_some (by omega) hx
      cases hy : inR y 2 with
      | none => exact t_M_letter_b σ M hI hM j hj y hy
      | some k =>
        obtain ⟨hk, rfl⟩ := inR_some (by decide) hy
        rcases (show k = 0 ∨ k = 1 by omega) with rfl | rfl
        · exact t_M_letter_c0 σ M hI hM j hj
        · exact t_M_letter_c1 σ M hI hM j hj
theorem t_M_station {l : Launch} {D : va_G} {ad : Nat → Nat} {ac : Nat → ClassId} (σ : St) (M : Ms) (hI : Inv M) (hM : repM σ M) (x : Int32) (ob : Bool) : jMv l (yM D ad ac) mt_M_station TT (rmk 6) [.ref (ad 19), .int x, .int (eB ob)] σ (endMv (o_station M x ob)) := by
  have i1 := hI.1
  have i2 := hI.2.1
  have i3 := hI.2.2.1
  have i4 := hI.2.2.2.1
  have hnb := nb_le M.w
  have hw8 := i1.le
  cases hx : inR x M.ns with
  | none => exact t_M_station_a σ M hI hM x ob hx
  | some j =>
    obtain ⟨hj, rfl⟩ := inR_some (by omega) hx
    exact t_M_station_c σ M hI hM j ob hj
theorem t_M_token {l : Launch} {D : va_G} {ad : Nat → Nat} {ac : Nat → ClassId} (σ : St) (M : Ms) (hI : Inv M) (hM : repM σ M) (x y : Int32) : jMi l (yM D ad ac) mt_M_token TT (rmk 6) [.ref (ad 19), .int x, .int y] σ (endM (o_token M x y)) := by
  have i1 := hI.1
  have i2 := hI.2.1
  have i3 := hI.2.2.1
  have i4 := hI.2.2.2.1
  have hnb := nb_le M.w
  have hw8 := i1.le
  cases hx : inR x M.nt with
  | none => exact t_M_token_a σ M hI hM x y hx
  | some j =>
    obtain ⟨hj, rfl⟩ := inR_some (by omega) hx
    cases hy : inR y 5 with
    | none => exact t_M_token_b σ M hI hM j hj y hy
    | some k =>
      obtain ⟨hk, rfl⟩ := inR_some (by decide) hy
      rcases (show k = 0 ∨ k = 1 ∨ k = 2 ∨ k = 3 ∨ k = 4 by omega) with rfl | rfl | rfl | rfl | rfl
      · exact t_M_token_c0 σ M hI hM j hj
      · exact t_M_token_c1 σ M hI hM j hj
      · exact t_M_token_c2 σ M hI hM j hj
      · exact t_M_token_c3 σ M hI hM j hj
      · exact t_M_token_c4 σ M hI hM j hj
theorem t_M_about {l : Launch} {D : va_G} {ad : Nat → Nat} {ac : Nat → ClassId} (σ : St) (M : Ms) (hI : Inv M) (hM : repM σ M) (y : Int32) : jMi l (yM D ad ac) mt_M_about TT (rmk 6) [.ref (ad 19), .int y] σ (endM (o_about M y)) := by
  have i1 := hI.1
  have i2 := hI.2.1
  have i3 := hI.2.2.1
  have i4 := hI.2.2.2.1
  have hnb := nb_le M.w
  have hw8 := i1.le
  cases hy : inR y 6 with
  | none => exact t_M_about_a σ M hI hM y hy
  | some k =>
    obtain ⟨hk, rfl⟩ := inR_some (by decide) hy
    rcases (show k = 0 ∨ k = 1 ∨ k = 2 ∨ k = 3 ∨ k = 4 ∨ k = 5 by omega) with rfl | rfl | rfl | rfl | rfl | rfl
    · exact t_M_about_c0 σ M hI hM
    · exact t_M_about_c1 σ M hI hM
    · exact t_M_about_c2 σ M hI hM
    · exact t_M_about_c3 σ M hI hM
    · exact t_M_about_c4 σ M hI hM
    · exact t_M_about_c5 σ M hI hM
theorem t_M_settle {l : Launch} {D : va_G} {ad : Nat → Nat} {ac : Nat → ClassId} (σ : St) (M : Ms) (hI : Inv M) (hM : repM σ M) (y : Int32) : jMi l (yM D ad ac) mt_M_settle TT (rmk 7) [.ref (ad 19), .int y] σ (endM (o_settle M y)) := by
  have i1 := hI.1
  have i2 := hI.2.1
  have i3 := hI.2.2.1
  have i4 := hI.2.2.2.1
  have hnb := nb_le M.w
  have hw8 := i1.le
  cases hy : inR y 101 with
  | none => exact t_M_settle_a σ M hI hM y hy
  | some k =>
    obtain ⟨hk, rfl⟩ := inR_some (by decide) hy
    exact t_M_settle_c σ M hI hM k hk
theorem t_M_build {l : Launch} {D : va_G} {ad : Nat → Nat} {ac : Nat → ClassId} (σ : St) (M : Ms) (hI : Inv M) (hM : repM σ M) (x y : Int32) : jMi l (yM D ad ac) mt_M_build TT (rmk 6) [.ref (ad 19), .int x, .int y] σ (endM (o_build M x y)) := by
  have i1 := hI.1
  have i2 := hI.2.1
  have i3 := hI.2.2.1
  have i4 := hI.2.2.2.1
  have hnb := nb_le M.w
  have hw8 := i1.le
  cases hx : widthOf x with
  | none => exact t_M_build_a σ M hI hM x y hx
  | some w =>
    obtain ⟨hw, rfl⟩ := widthOf_some hx
    by_cases hy : ∃ s, inR y 7 = some (s + 1)
    · obtain ⟨s, hs⟩ := hy
      obtain ⟨h1, rfl⟩ := inR_some (by decide) hs
      exact t_M_build_c σ M hI hM w s hw h1
    · exact t_M_build_b σ M hI hM w hw y (fun s hs => hy ⟨s, hs⟩)
