set_option maxRecDepth 100000 in
set_option maxHeartbeats 4000000 in
theorem t_M_lay {l : Launch} {D : va_G} {ad : Nat → Nat} {ac : Nat → ClassId} (σ : St) (th : Int32) (w ns : Nat) (Q : Ql) (hR : relQ σ th w ns Q) (hl : Q.2.length < 24) (a b : Nat) (ha : a < 8) (hb : b < 8) : jMv l (yM D ad ac) mt_M_lay TT (rmk 0) [.ref (ad 19), .int (nI a), .int (nI b)] σ (fun u => relQ u th w ns (Q.lay a b)) := by
  obtain ⟨q0, q1, q2, q3, q4, q5, q6, q7⟩ := id hR
  refine jMv_of (by decide) (Nat.le_of_ble_eq_true rfl) (List.forall_mem_cons.mpr ⟨rfl, List.forall_mem_cons.mpr ⟨rfl, List.forall_mem_cons.mpr ⟨rfl, fun _ h => absurd h List.not_mem_nil⟩⟩⟩) ?_
  intro X A hX
  have hX : jX X (yM D ad ac) A b_M_lay 6 RM (mt_M_lay.w :: TT) (rmk 0) none := hX
  show jW l X (yM D ad ac) A 6 0 0 kT (jQv X (yM D ad ac) A (fun u => relQ u th w ns (Q.lay a b))) σ 0 [(0, .ref (ad 19)), (1, .int (nI a)), (2, .int (nI b))] []
  have loop : ∀ (fu : Nat) (n : Nat), Q.2.length - n = fu → n ≤ Q.2.length → jW l X (yM D ad ac) A 6 0 0 kT (jQv X (yM D ad ac) A (fun u => relQ u th w ns (Q.lay a b))) σ 5 [(0, .ref (ad 19)), (1, .int (nI a)), (2, .int (nI b)), (3, .int (nI (coF Q.2 a b n))), (4, .int (nI n))] [] := by
    intro fu
    induction fu using Nat.strongRecOn with
    | ind fu ih =>
      intro n hfu hn
      have hcl := coF_le (a := a) (b := b) (fun n hn => (q2 n hn).2.2) n hn
      have join : ∀ z : Int32, n < Q.2.length → z = eB (meet (Q.2.getD n (0, 0, 0)) a b) → jW l X (yM D ad ac) A 6 0 0 kT (jQv X (yM D ad ac) A (fun u => relQ u th w ns (Q.lay a b))) σ 65 [(0, .ref (ad 19)), (1, .int (nI a)), (2, .int (nI b)), (3, .int (nI (coF Q.2 a b n))), (4, .int (nI n)), (5, .int z)] [] := by
        intro z hlt hz
        subst hz
        have k9 := q2 n hlt
        refine jx_iload (pc := 65) hX d_M_lay_65 rfl ?_
        refine jx_if_eq (pc := 67) hX 95 d_M_lay_67 rfl (fun q67 => ?_) (fun q67 => ?_)
        · have e9 := coF_s0 (l := Q.2) (a := a) (b := b) (n := n) (fun q => by rw [eB_0.mp q67] at q; exact absurd q.1 (by decide))
          refine jx_iload_n (pc := 95) hX d_M_lay_95 rfl rfl ?_
          refine jx_istore_n (pc := 96) hX d_M_lay_96 rfl (by decide) (L' := [(0, _), (1, _), (2, _), (3, _), (4, _), (5, _)]) rfl ?_
          refine jx_iinc (pc := 97) hX (v := nI (n + 1)) d_M_lay_97 rfl (nI_1 n) (by decide) (L' := [(0, _), (1, _), (2, _), (3, _), (4, _), (5, _)]) rfl ?_
          refine jx_goto (pc := 100) hX 5 d_M_lay_100 rfl ?_
          refine jx_take 5 ?_
          rw [← e9]
          exact ih _ (by omega) (n + 1) rfl (by omega)
        · refine jx_aload_n (pc := 70) hX d_M_lay_70 rfl rfl ?_
          refine g_M_16 (pc := 71) hX d_M_lay_71 ?_
          refine jx_iload (pc := 74) hX d_M_lay_74 rfl ?_
          refine jx_iald (pc := 76) hX oM_2 _ rfl (show n < 24 by omega) d_M_lay_76 ?_
          refine jx_top (y := nI (Q.2.getD n (0, 0, 0)).2.2) (q5 n hlt) ?_
          refine jx_iconst (pc := 77) hX (v := 1) d_M_lay_77 rfl ?_
          refine jx_iadd (pc := 78) hX d_M_lay_78 ?_
          refine jx_top (y := nI ((Q.2.getD n (0, 0, 0)).2.2 + 1)) (nI_1 _) ?_
          refine jx_iload_n (pc := 79) hX d_M_lay_79 rfl rfl ?_
          refine jx_icmp_le (pc := 80) hX 95 d_M_lay_80 rfl (fun q80 => ?_) (fun q80 => ?_)
          · have e9 := coF_s0 (l := Q.2) (a := a) (b := b) (n := n) (fun q => absurd ((nI_leI (by omega) (by omega)).mp q80) (by omega))
            refine jx_iload_n (pc := 95) hX d_M_lay_95 rfl rfl ?_
            refine jx_istore_n (pc := 96) hX d_M_lay_96 rfl (by decide) (L' := [(0, _), (1, _), (2, _), (3, _), (4, _), (5, _)]) rfl ?_
            refine jx_iinc (pc := 97) hX (v := nI (n + 1)) d_M_lay_97 rfl (nI_1 n) (by decide) (L' := [(0, _), (1, _), (2, _), (3, _), (4, _), (5, _)]) rfl ?_
            refine jx_goto (pc := 100) hX 5 d_M_lay_100 rfl ?_
            refine jx_take 5 ?_
            rw [← e9]
            exact ih _ (by omega) (n + 1) rfl (by omega)
          · have e9 := coF_s1 (l := Q.2) (a := a) (b := b) (n := n) ⟨eB_n0.mp q67, Nat.lt_of_not_le (fun q => q80 ((nI_leI (by omega) (by omega)).mpr q))⟩
            refine jx_aload_n (pc := 83) hX d_M_lay_83 rfl rfl ?_
            refine g_M_16 (pc := 84) hX d_M_lay_84 ?_
            refine jx_iload (pc := 87) hX d_M_lay_87 rfl ?_
            refine jx_iald (pc := 89) hX oM_2 _ rfl (show n < 24 by omega) d_M_lay_89 ?_
            refine jx_top (y := nI (Q.2.getD n (0, 0, 0)).2.2) (q5 n hlt) ?_
            refine jx_iconst (pc := 90) hX (v := 1) d_M_lay_90 rfl ?_
            refine jx_iadd (pc := 91) hX d_M_lay_91 ?_
            refine jx_top (y := nI ((Q.2.getD n (0, 0, 0)).2.2 + 1)) (nI_1 _) ?_
            refine jx_goto (pc := 92) hX 96 d_M_lay_92 rfl ?_
            refine jx_istore_n (pc := 96) hX d_M_lay_96 rfl (by decide) (L' := [(0, _), (1, _), (2, _), (3, _), (4, _), (5, _)]) rfl ?_
            refine jx_iinc (pc := 97) hX (v := nI (n + 1)) d_M_lay_97 rfl (nI_1 n) (by decide) (L' := [(0, _), (1, _), (2, _), (3, _), (4, _), (5, _)]) rfl ?_
            refine jx_goto (pc := 100) hX 5 d_M_lay_100 rfl ?_
            refine jx_take 5 ?_
            rw [← e9]
            exact ih _ (by omega) (n + 1) rfl (by omega)
      refine jx_iload (pc := 5) hX d_M_lay_5 rfl ?_
      refine jx_aload_n (pc := 7) hX d_M_lay_7 rfl rfl ?_
      refine g_M_76 (pc := 8) hX d_M_lay_8 ?_
      refine jx_top (y := nI Q.2.length) (q1) ?_
      refine jx_icmp_ge (pc := 11) hX 103 d_M_lay_11 rfl (fun q11 => ?_) (fun q11 => ?_)
      · have hge : n = Q.2.length := by have : Q.2.length ≤ n := (nI_leI (by omega) (by omega)).mp q11; omega
        subst hge
        refine jx_aload_n (pc := 103) hX d_M_lay_103 rfl rfl ?_
        refine g_M_7 (pc := 104) hX d_M_lay_104 ?_
        refine jx_aload_n (pc := 107) hX d_M_lay_107 rfl rfl ?_
        refine g_M_76 (pc := 108) hX d_M_lay_108 ?_
        refine jx_iload_n (pc := 111) hX d_M_lay_111 rfl rfl ?_
        refine jx_iast (pc := 112) hX oM_0 _ q1 hl d_M_lay_112 ?_
        refine jx_aload_n (pc := 113) hX d_M_lay_113 rfl rfl ?_
        refine g_M_13 (pc := 114) hX d_M_lay_114 ?_
        refine jx_aload_n (pc := 117) hX d_M_lay_117 rfl rfl ?_
        refine g_M_76 (pc := 118) hX d_M_lay_118 ?_
        refine jx_iload_n (pc := 121) hX d_M_lay_121 rfl rfl ?_
        refine jx_iast (pc := 122) hX oM_1 _ q1 hl d_M_lay_122 ?_
        refine jx_aload_n (pc := 123) hX d_M_lay_123 rfl rfl ?_
        refine g_M_16 (pc := 124) hX d_M_lay_124 ?_
        refine jx_aload_n (pc := 127) hX d_M_lay_127 rfl rfl ?_
        refine g_M_76 (pc := 128) hX d_M_lay_128 ?_
        refine jx_iload_n (pc := 131) hX d_M_lay_131 rfl rfl ?_
        refine jx_iast (pc := 132) hX oM_2 _ q1 hl d_M_lay_132 ?_
        refine jx_aload_n (pc := 133) hX d_M_lay_133 rfl rfl ?_
        refine g_M_19 (pc := 134) hX d_M_lay_134 ?_
        refine jx_aload_n (pc := 137) hX d_M_lay_137 rfl rfl ?_
        refine g_M_76 (pc := 138) hX d_M_lay_138 ?_
        refine jx_iconst (pc := 141) hX (v := 0) d_M_lay_141 rfl ?_
        refine jx_iast (pc := 142) hX oM_3 _ q1 hl d_M_lay_142 ?_
        refine jx_aload_n (pc := 143) hX d_M_lay_143 rfl rfl ?_
        refine jx_dup (pc := 144) hX d_M_lay_144 rfl ?_
        refine g_M_76 (pc := 145) hX d_M_lay_145 ?_
        refine jx_iconst (pc := 148) hX (v := 1) d_M_lay_148 rfl ?_
        refine jx_iadd (pc := 149) hX d_M_lay_149 ?_
        refine p_M_76 (pc := 150) hX d_M_lay_150 ?_
        exact jx_vret (pc := 153) hX d_M_lay_153 (⟨q0, by show σ.1 3 + 1 = _; rw [q1, nI_1, Ql.lay_len], lay_ok ha hb q2, AR_app (q := (a, b, coF Q.2 a b Q.2.length)) (g := fun q => q.1) q3 rfl, AR_app (q := (a, b, coF Q.2 a b Q.2.length)) (g := fun q => q.2.1) q4 rfl, AR_app (q := (a, b, coF Q.2 a b Q.2.length)) (g := fun q => q.2.2) q5 rfl, by rw [Ql.lay_len]; exact zero_at q6, q7⟩)
      · have hlt : n < Q.2.length := Nat.lt_of_not_le (fun q => q11 (nI_le q (by omega)))
        have k9 := q2 n hlt
        refine jx_aload_n (pc := 14) hX d_M_lay_14 rfl rfl ?_
        refine g_M_7 (pc := 15) hX d_M_lay_15 ?_
        refine jx_iload (pc := 18) hX d_M_lay_18 rfl ?_
        refine jx_iald (pc := 20) hX oM_0 _ rfl (show n < 24 by omega) d_M_lay_20 ?_
        refine jx_top (y := nI (Q.2.getD n (0, 0, 0)).1) (q3 n hlt) ?_
        refine jx_iload_n (pc := 21) hX d_M_lay_21 rfl rfl ?_
        refine jx_icmp_eq (pc := 22) hX 58 d_M_lay_22 rfl (fun e22 => ?_) (fun e22 => ?_)
        · refine jx_iconst (pc := 58) hX (v := 1) d_M_lay_58 rfl ?_
          refine jx_goto (pc := 59) hX 63 d_M_lay_59 rfl ?_
          refine jx_istore (pc := 63) hX d_M_lay_63 (by decide) (L' := [(0, _), (1, _), (2, _), (3, _), (4, _), (5, _)]) rfl ?_
          exact join 1 hlt (eB_t (meet_t (Or.inl ((nI_eq (by omega) (by omega)).mp e22))))
        · refine jx_aload_n (pc := 25) hX d_M_lay_25 rfl rfl ?_
          refine g_M_13 (pc := 26) hX d_M_lay_26 ?_
          refine jx_iload (pc := 29) hX d_M_lay_29 rfl ?_
          refine jx_iald (pc := 31) hX oM_1 _ rfl (show n < 24 by omega) d_M_lay_31 ?_
          refine jx_top (y := nI (Q.2.getD n (0, 0, 0)).2.1) (q4 n hlt) ?_
          refine jx_iload_n (pc := 32) hX d_M_lay_32 rfl rfl ?_
          refine jx_icmp_eq (pc := 33) hX 58 d_M_lay_33 rfl (fun e33 => ?_) (fun e33 => ?_)
          · refine jx_iconst (pc := 58) hX (v := 1) d_M_lay_58 rfl ?_
            refine jx_goto (pc := 59) hX 63 d_M_lay_59 rfl ?_
            refine jx_istore (pc := 63) hX d_M_lay_63 (by decide) (L' := [(0, _), (1, _), (2, _), (3, _), (4, _), (5, _)]) rfl ?_
            exact join 1 hlt (eB_t (meet_t (Or.inr (Or.inl ((nI_eq (by omega) (by omega)).mp e33)))))
          · refine jx_aload_n (pc := 36) hX d_M_lay_36 rfl rfl ?_
            refine g_M_7 (pc := 37) hX d_M_lay_37 ?_
            refine jx_iload (pc := 40) hX d_M_lay_40 rfl ?_
            refine jx_iald (pc := 42) hX oM_0 _ rfl (show n < 24 by omega) d_M_lay_42 ?_
            refine jx_top (y := nI (Q.2.getD n (0, 0, 0)).1) (q3 n hlt) ?_
            refine jx_iload_n (pc := 43) hX d_M_lay_43 rfl rfl ?_
            refine jx_icmp_eq (pc := 44) hX 58 d_M_lay_44 rfl (fun e44 => ?_) (fun e44 => ?_)
            · refine jx_iconst (pc := 58) hX (v := 1) d_M_lay_58 rfl ?_
              refine jx_goto (pc := 59) hX 63 d_M_lay_59 rfl ?_
              refine jx_istore (pc := 63) hX d_M_lay_63 (by decide) (L' := [(0, _), (1, _), (2, _), (3, _), (4, _), (5, _)]) rfl ?_
              exact join 1 hlt (eB_t (meet_t (Or.inr (Or.inr (Or.inl ((nI_eq (by omega) (by omega)).mp e44))))))
            · refine jx_aload_n (pc := 47) hX d_M_lay_47 rfl rfl ?_
              refine g_M_13 (pc := 48) hX d_M_lay_48 ?_
              refine jx_iload (pc := 51) hX d_M_lay_51 rfl ?_
              refine jx_iald (pc := 53) hX oM_1 _ rfl (show n < 24 by omega) d_M_lay_53 ?_
              refine jx_top (y := nI (Q.2.getD n (0, 0, 0)).2.1) (q4 n hlt) ?_
              refine jx_iload_n (pc := 54) hX d_M_lay_54 rfl rfl ?_
              refine jx_icmp_ne (pc := 55) hX 62 d_M_lay_55 rfl (fun e55 => ?_) (fun e55 => ?_)
              · refine jx_iconst (pc := 62) hX (v := 0) d_M_lay_62 rfl ?_
                refine jx_istore (pc := 63) hX d_M_lay_63 (by decide) (L' := [(0, _), (1, _), (2, _), (3, _), (4, _), (5, _)]) rfl ?_
                exact join 0 hlt (eB_f (meet_f (fun q => e22 (by rw [q])) (fun q => e33 (by rw [q])) (fun q => e44 (by rw [q])) (fun q => e55 (by rw [q]))))
              · refine jx_iconst (pc := 58) hX (v := 1) d_M_lay_58 rfl ?_
                refine jx_goto (pc := 59) hX 63 d_M_lay_59 rfl ?_
                refine jx_istore (pc := 63) hX d_M_lay_63 (by decide) (L' := [(0, _), (1, _), (2, _), (3, _), (4, _), (5, _)]) rfl ?_
                exact join 1 hlt (eB_t (meet_t (Or.inr (Or.inr (Or.inr ((nI_eq (by omega) (by omega)).mp e55))))))
  refine jx_iconst (pc := 0) hX (v := 0) d_M_lay_0 rfl ?_
  refine jx_istore_n (pc := 1) hX d_M_lay_1 rfl (by decide) (L' := [(0, _), (1, _), (2, _), (3, _)]) rfl ?_
  refine jx_iconst (pc := 2) hX (v := 0) d_M_lay_2 rfl ?_
  refine jx_istore (pc := 3) hX d_M_lay_3 (by decide) (L' := [(0, _), (1, _), (2, _), (3, _), (4, _)]) rfl ?_
  exact loop _ 0 rfl (Nat.zero_le _)
set_option maxRecDepth 100000 in
set_option maxHeartbeats 4000000 in
theorem t_M_mergeOnes {l : Launch} {D : va_G} {ad : Nat → Nat} {ac : Nat → ClassId} (σ : St) (th : Int32) (w ns : Nat) (Q : Ql) (hR : relQ σ th w ns Q) (hl : Q.2.length < 24) (a b to : Nat) (ha : a < 8) (hb : b < 8) (hto : to + 2 ≤ 80) : jMv l (yM D ad ac) mt_M_mergeOnes TT (rmk 1) [.ref (ad 19), .int (nI a), .int (nI b), .int (nI to)] σ (fun u => relQ u th w ns (Q.ones a b to)) := by
  refine jMv_of (by decide) (Nat.le_of_ble_eq_true rfl) (List.forall_mem_cons.mpr ⟨rfl, List.forall_mem_cons.mpr ⟨rfl, List.forall_mem_cons.mpr ⟨rfl, List.forall_mem_cons.mpr ⟨rfl, fun _ h => absurd h List.not_mem_nil⟩⟩⟩⟩) ?_
  intro X A hX
  have hX : jX X (yM D ad ac) A b_M_mergeOnes 4 RM (mt_M_mergeOnes.w :: TT) (rmk 1) none := hX
  show jW l X (yM D ad ac) A 4 0 0 kT (jQv X (yM D ad ac) A (fun u => relQ u th w ns (Q.ones a b to))) σ 0 [(0, .ref (ad 19)), (1, .int (nI a)), (2, .int (nI b)), (3, .int (nI to))] []
  refine jx_aload_n (pc := 0) hX d_M_mergeOnes_0 rfl rfl ?_
  refine jx_iload_n (pc := 1) hX d_M_mergeOnes_1 rfl rfl ?_
  refine jx_iload_n (pc := 2) hX d_M_mergeOnes_2 rfl rfl ?_
  refine k_M_79 (pc := 3) hX (t_M_lay σ th w ns Q hR hl a b ha hb) ⟨rfl, rfl, (Nat.le_of_ble_eq_true rfl), (Nat.le_of_ble_eq_true rfl)⟩ rfl rfl (Nat.le_of_ble_eq_true rfl) ⟨Nat.zero_le _, Nat.zero_le _⟩ d_M_mergeOnes_3 (fun u hu => ?_)
  obtain ⟨q0, q1, q2, q3, q4, q5, q6, q7⟩ := id hu
  refine jx_aload_n (pc := 6) hX d_M_mergeOnes_6 rfl rfl ?_
  refine g_M_32 (pc := 7) hX d_M_mergeOnes_7 ?_
  refine jx_iload_n (pc := 10) hX d_M_mergeOnes_10 rfl rfl ?_
  refine jx_iload_n (pc := 11) hX d_M_mergeOnes_11 rfl rfl ?_
  refine jx_iast (pc := 12) hX oM_7 _ rfl (show to < 80 by omega) d_M_mergeOnes_12 ?_
  refine jx_aload_n (pc := 13) hX d_M_mergeOnes_13 rfl rfl ?_
  refine g_M_32 (pc := 14) hX d_M_mergeOnes_14 ?_
  refine jx_iload_n (pc := 17) hX d_M_mergeOnes_17 rfl rfl ?_
  refine jx_iconst (pc := 18) hX (v := 1) d_M_mergeOnes_18 rfl ?_
  refine jx_iadd (pc := 19) hX d_M_mergeOnes_19 ?_
  refine jx_top (y := nI (to + 1)) (nI_1 _) ?_
  refine jx_iload_n (pc := 20) hX d_M_mergeOnes_20 rfl rfl ?_
  refine jx_iast (pc := 21) hX oM_7 _ rfl (show to + 1 < 80 by omega) d_M_mergeOnes_21 ?_
  exact jx_vret (pc := 22) hX d_M_mergeOnes_22 (⟨q0, q1, q2, q3, q4, q5, q6, rowUp (rowUp q7 ha rfl) hb rfl⟩)
set_option maxRecDepth 100000 in
set_option maxHeartbeats 4000000 in
theorem t_M_join {l : Launch} {D : va_G} {ad : Nat → Nat} {ac : Nat → ClassId} (σ : St) (th : Int32) (w ns : Nat) (Q : Ql) (hR : relQ σ th w ns Q) (p q n to : Nat) (hk : Q.join_ok p q n to = true) : jMv l (yM D ad ac) mt_M_join TT (rmk 1) [.ref (ad 19), .int (nI p), .int (nI q), .int (nI n), .int (nI to)] σ (fun u => relQ u th w ns (Q.join p q n to)) := by
  simp only [Ql.join_ok, Bool.and_eq_true, decide_eq_true_eq, List.all_eq_true, List.mem_range] at hk
  obtain ⟨⟨⟨⟨⟨k1, k2⟩, k3⟩, k4⟩, k5⟩, k6⟩ := hk
  refine jMv_of (by decide) (Nat.le_of_ble_eq_true rfl) (List.forall_mem_cons.mpr ⟨rfl, List.forall_mem_cons.mpr ⟨rfl, List.forall_mem_cons.mpr ⟨rfl, List.forall_mem_cons.mpr ⟨rfl, List.forall_mem_cons.mpr ⟨rfl, fun _ h => absurd h List.not_mem_nil⟩⟩⟩⟩⟩) ?_
  intro X A hX
  have hX : jX X (yM D ad ac) A b_M_join 6 RM (mt_M_join.w :: TT) (rmk 1) none := hX
  show jW l X (yM D ad ac) A 6 0 0 kT (jQv X (yM D ad ac) A (fun u => relQ u th w ns (Q.join p q n to))) σ 0 [(0, .ref (ad 19)), (1, .int (nI p)), (2, .int (nI q)), (3, .int (nI n)), (4, .int (nI to))] []
  have loop2 : ∀ (fu : Nat) (i : Nat) (σ1 : St), n - i = fu → i ≤ n → relQ σ1 th w ns (rwB Q.1 p q to i, (Ql.jnA p q n Q).2) → jW l X (yM D ad ac) A 6 0 0 kT (jQv X (yM D ad ac) A (fun u => relQ u th w ns (Q.join p q n to))) σ1 40 [(0, .ref (ad 19)), (1, .int (nI p)), (2, .int (nI q)), (3, .int (nI n)), (4, .int (nI to)), (5, .int (nI i))] [] := by
    intro fu
    induction fu using Nat.strongRecOn with
    | ind fu ih =>
      intro i σ1 hfu hi hR1
      obtain ⟨q0, q1, q2, q3, q4, q5, q6, q7⟩ := id hR1
      refine jx_iload (pc := 40) hX d_M_join_40 rfl ?_
      refine jx_iload_n (pc := 42) hX d_M_join_42 rfl rfl ?_
      refine jx_icmp_ge (pc := 43) hX 96 d_M_join_43 rfl (fun q43 => ?_) (fun q43 => ?_)
      · have hge : i = n := by have : n ≤ i := (nI_leI (by omega) (by omega)).mp q43; omega
        subst hge
        exact jx_vret (pc := 96) hX d_M_join_96 (hR1)
      · have hlt : i < n := Nat.lt_of_not_le (fun q => q43 (nI_le q (by omega)))
        obtain ⟨ka, kb⟩ := k6 i hlt
        have ca := q7 (p + i) (Q.g (p + i)) ((rwB_off (by omega)).trans (Ql.g_of ka))
        have cb := q7 (q + i) (Q.g (q + i)) ((rwB_off (by omega)).trans (Ql.g_of kb))
        refine jx_aload_n (pc := 46) hX d_M_join_46 rfl rfl ?_
        refine g_M_32 (pc := 47) hX d_M_join_47 ?_
        refine jx_iload (pc := 50) hX d_M_join_50 rfl ?_
        refine jx_iconst (pc := 52) hX (v := 2) d_M_join_52 rfl ?_
        refine jx_iload (pc := 53) hX d_M_join_53 rfl ?_
        refine jx_imul (pc := 55) hX d_M_join_55 ?_
        refine jx_top (y := nI (2 * i)) (pk_mul 2 i) ?_
        refine jx_iadd (pc := 56) hX d_M_join_56 ?_
        refine jx_top (y := nI (to + 2 * i)) (nI_add _ _) ?_
        refine jx_aload_n (pc := 57) hX d_M_join_57 rfl rfl ?_
        refine g_M_32 (pc := 58) hX d_M_join_58 ?_
        refine jx_iload_n (pc := 61) hX d_M_join_61 rfl rfl ?_
        refine jx_iload (pc := 62) hX d_M_join_62 rfl ?_
        refine jx_iadd (pc := 64) hX d_M_join_64 ?_
        refine jx_top (y := nI (p + i)) (nI_add _ _) ?_
        refine jx_iald (pc := 65) hX oM_7 _ rfl (show p + i < 80 by omega) d_M_join_65 ?_
        refine jx_top (y := nI (Q.g (p + i))) (ca.2) ?_
        refine jx_iast (pc := 66) hX oM_7 _ rfl (show to + 2 * i < 80 by omega) d_M_join_66 ?_
        refine jx_aload_n (pc := 67) hX d_M_join_67 rfl rfl ?_
        refine g_M_32 (pc := 68) hX d_M_join_68 ?_
        refine jx_iload (pc := 71) hX d_M_join_71 rfl ?_
        refine jx_iconst (pc := 73) hX (v := 2) d_M_join_73 rfl ?_
        refine jx_iload (pc := 74) hX d_M_join_74 rfl ?_
        refine jx_imul (pc := 76) hX d_M_join_76 ?_
        refine jx_top (y := nI (2 * i)) (pk_mul 2 i) ?_
        refine jx_iadd (pc := 77) hX d_M_join_77 ?_
        refine jx_top (y := nI (to + 2 * i)) (nI_add _ _) ?_
        refine jx_iconst (pc := 78) hX (v := 1) d_M_join_78 rfl ?_
        refine jx_iadd (pc := 79) hX d_M_join_79 ?_
        refine jx_top (y := nI (to + 2 * i + 1)) (nI_1 _) ?_
        refine jx_aload_n (pc := 80) hX d_M_join_80 rfl rfl ?_
        refine g_M_32 (pc := 81) hX d_M_join_81 ?_
        refine jx_iload_n (pc := 84) hX d_M_join_84 rfl rfl ?_
        refine jx_iload (pc := 85) hX d_M_join_85 rfl ?_
        refine jx_iadd (pc := 87) hX d_M_join_87 ?_
        refine jx_top (y := nI (q + i)) (nI_add _ _) ?_
        refine jx_iald (pc := 88) hX oM_7 _ rfl (show q + i < 80 by omega) d_M_join_88 ?_
        refine jx_top (y := nI (Q.g (q + i))) (by show upd (σ1.2 7) (to + 2 * i) (nI (Q.g (p + i))) (q + i) = _; rw [pk_un (by omega)]; exact cb.2) ?_
        refine jx_iast (pc := 89) hX oM_7 _ rfl (show to + 2 * i + 1 < 80 by omega) d_M_join_89 ?_
        refine jx_iinc (pc := 90) hX (v := nI (i + 1)) d_M_join_90 rfl (nI_1 i) (by decide) (L' := [(0, _), (1, _), (2, _), (3, _), (4, _), (5, _)]) rfl ?_
        refine jx_goto (pc := 93) hX 40 d_M_join_93 rfl ?_
        exact ih _ (by omega) (i + 1) (sA (sA σ1 7 (to + 2 * i) (nI (Q.g (p + i)))) 7 (to + 2 * i + 1) (nI (Q.g (q + i)))) rfl (by omega) ⟨q0, q1, q2, q3, q4, q5, q6, by rw [← rwB_s, Ql.g_of ka, Ql.g_of kb]; exact rowUp (rowUp q7 ca.1 rfl) cb.1 rfl⟩
  have loop1 : ∀ (fu : Nat) (i : Nat) (σ1 : St), n - i = fu → i ≤ n → relQ σ1 th w ns (Ql.jnA p q i Q) → jW l X (yM D ad ac) A 6 0 0 kT (jQv X (yM D ad ac) A (fun u => relQ u th w ns (Q.join p q n to))) σ1 3 [(0, .ref (ad 19)), (1, .int (nI p)), (2, .int (nI q)), (3, .int (nI n)), (4, .int (nI to)), (5, .int (nI i))] [] := by
    intro fu
    induction fu using Nat.strongRecOn with
    | ind fu ih =>
      intro i σ1 hfu hi hR1
      obtain ⟨q0, q1, q2, q3, q4, q5, q6, q7⟩ := id hR1
      rw [Ql.jnA_r] at q7
      have hlen := Ql.jnA_len p q i Q
      refine jx_iload (pc := 3) hX d_M_join_3 rfl ?_
      refine jx_iload_n (pc := 5) hX d_M_join_5 rfl rfl ?_
      refine jx_icmp_ge (pc := 6) hX 37 d_M_join_6 rfl (fun q6a => ?_) (fun q6a => ?_)
      · have hge : i = n := by have : n ≤ i := (nI_leI (by omega) (by omega)).mp q6a; omega
        subst hge
        refine jx_iconst (pc := 37) hX (v := 0) d_M_join_37 rfl ?_
        refine jx_istore (pc := 38) hX d_M_join_38 (by decide) (L' := [(0, _), (1, _), (2, _), (3, _), (4, _), (5, _)]) rfl ?_
        exact loop2 _ 0 σ1 rfl (Nat.zero_le _) (by rw [rwB_0]; have := hR1; rw [show Ql.jnA p q i Q = (Q.1, (Ql.jnA p q i Q).2) by rw [← Ql.jnA_r p q i Q]] at this; exact this)
      · have hlt : i < n := Nat.lt_of_not_le (fun q => q6a (nI_le q (by omega)))
        obtain ⟨ka, kb⟩ := k6 i hlt
        have ca := q7 (p + i) (Q.g (p + i)) (Ql.g_of ka)
        have cb := q7 (q + i) (Q.g (q + i)) (Ql.g_of kb)
        refine jx_aload_n (pc := 9) hX d_M_join_9 rfl rfl ?_
        refine jx_aload_n (pc := 10) hX d_M_join_10 rfl rfl ?_
        refine g_M_32 (pc := 11) hX d_M_join_11 ?_
        refine jx_iload_n (pc := 14) hX d_M_join_14 rfl rfl ?_
        refine jx_iload (pc := 15) hX d_M_join_15 rfl ?_
        refine jx_iadd (pc := 17) hX d_M_join_17 ?_
        refine jx_top (y := nI (p + i)) (nI_add _ _) ?_
        refine jx_iald (pc := 18) hX oM_7 _ rfl (show p + i < 80 by omega) d_M_join_18 ?_
        refine jx_top (y := nI (Q.g (p + i))) (ca.2) ?_
        refine jx_aload_n (pc := 19) hX d_M_join_19 rfl rfl ?_
        refine g_M_32 (pc := 20) hX d_M_join_20 ?_
        refine jx_iload_n (pc := 23) hX d_M_join_23 rfl rfl ?_
        refine jx_iload (pc := 24) hX d_M_join_24 rfl ?_
        refine jx_iadd (pc := 26) hX d_M_join_26 ?_
        refine jx_top (y := nI (q + i)) (nI_add _ _) ?_
        refine jx_iald (pc := 27) hX oM_7 _ rfl (show q + i < 80 by omega) d_M_join_27 ?_
        refine jx_top (y := nI (Q.g (q + i))) (cb.2) ?_
        refine k_M_79 (pc := 28) hX (t_M_lay σ1 th w ns (Ql.jnA p q i Q) hR1 (by omega) (Q.g (p + i)) (Q.g (q + i)) ca.1 cb.1) ⟨rfl, rfl, (Nat.le_of_ble_eq_true rfl), (Nat.le_of_ble_eq_true rfl)⟩ rfl rfl (Nat.le_of_ble_eq_true rfl) ⟨Nat.zero_le _, Nat.zero_le _⟩ d_M_join_28 (fun u hu => ?_)
        refine jx_iinc (pc := 31) hX (v := nI (i + 1)) d_M_join_31 rfl (nI_1 i) (by decide) (L' := [(0, _), (1, _), (2, _), (3, _), (4, _), (5, _)]) rfl ?_
        refine jx_goto (pc := 34) hX 3 d_M_join_34 rfl ?_
        exact ih _ (by omega) (i + 1) u rfl (by omega) hu
  refine jx_iconst (pc := 0) hX (v := 0) d_M_join_0 rfl ?_
  refine jx_istore (pc := 1) hX d_M_join_1 (by decide) (L' := [(0, _), (1, _), (2, _), (3, _), (4, _), (5, _)]) rfl ?_
  exact loop1 _ 0 σ rfl (Nat.zero_le _) hR
set_option maxRecDepth 100000 in
set_option maxHeartbeats 4000000 in
theorem t_M_mergeTwos {l : Launch} {D : va_G} {ad : Nat → Nat} {ac : Nat → ClassId} (σ : St) (th : Int32) (w ns : Nat) (Q : Ql) (hR : relQ σ th w ns Q) (x y to : Nat) (hk : Q.twos_ok x y to = true) : jMv l (yM D ad ac) mt_M_mergeTwos TT (rmk 2) [.ref (ad 19), .int (nI x), .int (nI y), .int (nI to)] σ (fun u => relQ u th w ns (Q.twos x y to)) := by
  simp only [Ql.twos_ok, Bool.and_eq_true, decide_eq_true_eq] at hk
  obtain ⟨⟨⟨⟨⟨⟨⟨⟨k1, k2⟩, k3⟩, k4⟩, k5⟩, k6⟩, k7⟩, k8⟩, k9⟩ := hk
  have c1 := hR.2.2.2.2.2.2.2 x _ (Ql.g_of k5)
  have c2 := hR.2.2.2.2.2.2.2 (y + 1) _ (Ql.g_of k6)
  refine jMv_of (by decide) (Nat.le_of_ble_eq_true rfl) (List.forall_mem_cons.mpr ⟨rfl, List.forall_mem_cons.mpr ⟨rfl, List.forall_mem_cons.mpr ⟨rfl, List.forall_mem_cons.mpr ⟨rfl, fun _ h => absurd h List.not_mem_nil⟩⟩⟩⟩) ?_
  intro X A hX
  have hX : jX X (yM D ad ac) A b_M_mergeTwos 4 RM (mt_M_mergeTwos.w :: TT) (rmk 2) none := hX
  show jW l X (yM D ad ac) A 4 0 0 kT (jQv X (yM D ad ac) A (fun u => relQ u th w ns (Q.twos x y to))) σ 0 [(0, .ref (ad 19)), (1, .int (nI x)), (2, .int (nI y)), (3, .int (nI to))] []
  refine jx_aload_n (pc := 0) hX d_M_mergeTwos_0 rfl rfl ?_
  refine jx_aload_n (pc := 1) hX d_M_mergeTwos_1 rfl rfl ?_
  refine g_M_32 (pc := 2) hX d_M_mergeTwos_2 ?_
  refine jx_iload_n (pc := 5) hX d_M_mergeTwos_5 rfl rfl ?_
  refine jx_iald (pc := 6) hX oM_7 _ rfl (show x < 80 by omega) d_M_mergeTwos_6 ?_
  refine jx_top (y := nI (Q.g x)) (c1.2) ?_
  refine jx_aload_n (pc := 7) hX d_M_mergeTwos_7 rfl rfl ?_
  refine g_M_32 (pc := 8) hX d_M_mergeTwos_8 ?_
  refine jx_iload_n (pc := 11) hX d_M_mergeTwos_11 rfl rfl ?_
  refine jx_iconst (pc := 12) hX (v := 1) d_M_mergeTwos_12 rfl ?_
  refine jx_iadd (pc := 13) hX d_M_mergeTwos_13 ?_
  refine jx_top (y := nI (y + 1)) (nI_1 _) ?_
  refine jx_iald (pc := 14) hX oM_7 _ rfl (show y + 1 < 80 by omega) d_M_mergeTwos_14 ?_
  refine jx_top (y := nI (Q.g (y + 1))) (c2.2) ?_
  refine jx_iload_n (pc := 15) hX d_M_mergeTwos_15 rfl rfl ?_
  refine jx_iconst (pc := 16) hX (v := 4) d_M_mergeTwos_16 rfl ?_
  refine jx_iadd (pc := 17) hX d_M_mergeTwos_17 ?_
  refine jx_top (y := nI (to + 4)) (nI_add to 4) ?_
  refine k_M_82 (pc := 18) hX (t_M_mergeOnes σ th w ns Q hR (by omega) (Q.g x) (Q.g (y + 1)) (to + 4) c1.1 c2.1 (by omega)) ⟨rfl, rfl, (Nat.le_of_ble_eq_true rfl), (Nat.le_of_ble_eq_true rfl)⟩ rfl rfl (Nat.le_of_ble_eq_true rfl) ⟨Nat.zero_le _, Nat.zero_le _⟩ d_M_mergeTwos_18 (fun u hu => ?_)
  have c3 := hu.2.2.2.2.2.2.2 (x + 1) _ (Ql.g_of (Q := Q.t1 x y to) k7)
  have c4 := hu.2.2.2.2.2.2.2 y _ (Ql.g_of (Q := Q.t1 x y to) k8)
  refine jx_aload_n (pc := 21) hX d_M_mergeTwos_21 rfl rfl ?_
  refine jx_aload_n (pc := 22) hX d_M_mergeTwos_22 rfl rfl ?_
  refine g_M_32 (pc := 23) hX d_M_mergeTwos_23 ?_
  refine jx_iload_n (pc := 26) hX d_M_mergeTwos_26 rfl rfl ?_
  refine jx_iconst (pc := 27) hX (v := 1) d_M_mergeTwos_27 rfl ?_
  refine jx_iadd (pc := 28) hX d_M_mergeTwos_28 ?_
  refine jx_top (y := nI (x + 1)) (nI_1 _) ?_
  refine jx_iald (pc := 29) hX oM_7 _ rfl (show x + 1 < 80 by omega) d_M_mergeTwos_29 ?_
  refine jx_top (y := nI ((Q.t1 x y to).g (x + 1))) (c3.2) ?_
  refine jx_aload_n (pc := 30) hX d_M_mergeTwos_30 rfl rfl ?_
  refine g_M_32 (pc := 31) hX d_M_mergeTwos_31 ?_
  refine jx_iload_n (pc := 34) hX d_M_mergeTwos_34 rfl rfl ?_
  refine jx_iald (pc := 35) hX oM_7 _ rfl (show y < 80 by omega) d_M_mergeTwos_35 ?_
  refine jx_top (y := nI ((Q.t1 x y to).g y)) (c4.2) ?_
  refine jx_iload_n (pc := 36) hX d_M_mergeTwos_36 rfl rfl ?_
  refine jx_bipush (pc := 37) hX (v := 6) d_M_mergeTwos_37 rfl ?_
  refine jx_iadd (pc := 39) hX d_M_mergeTwos_39 ?_
  refine jx_top (y := nI (to + 6)) (nI_add to 6) ?_
  refine k_M_82 (pc := 40) hX (t_M_mergeOnes u th w ns (Q.t1 x y to) hu (by have := Ql.lay_len Q (Q.g x) (Q.g (y + 1)); show (Q.lay (Q.g x) (Q.g (y + 1))).2.length < 24; omega) ((Q.t1 x y to).g (x + 1)) ((Q.t1 x y to).g y) (to + 6) c3.1 c4.1 (by omega)) ⟨rfl, rfl, (Nat.le_of_ble_eq_true rfl), (Nat.le_of_ble_eq_true rfl)⟩ rfl rfl (Nat.le_of_ble_eq_true rfl) ⟨Nat.zero_le _, Nat.zero_le _⟩ d_M_mergeTwos_40 (fun u2 hu2 => ?_)
  refine jx_aload_n (pc := 43) hX d_M_mergeTwos_43 rfl rfl ?_
  refine jx_iload_n (pc := 44) hX d_M_mergeTwos_44 rfl rfl ?_
  refine jx_iconst (pc := 45) hX (v := 4) d_M_mergeTwos_45 rfl ?_
  refine jx_iadd (pc := 46) hX d_M_mergeTwos_46 ?_
  refine jx_top (y := nI (to + 4)) (nI_add to 4) ?_
  refine jx_iload_n (pc := 47) hX d_M_mergeTwos_47 rfl rfl ?_
  refine jx_bipush (pc := 48) hX (v := 6) d_M_mergeTwos_48 rfl ?_
  refine jx_iadd (pc := 50) hX d_M_mergeTwos_50 ?_
  refine jx_top (y := nI (to + 6)) (nI_add to 6) ?_
  refine jx_iconst (pc := 51) hX (v := 2) d_M_mergeTwos_51 rfl ?_
  refine jx_iload_n (pc := 52) hX d_M_mergeTwos_52 rfl rfl ?_
  refine k_M_86 (pc := 53) hX (t_M_join u2 th w ns (Q.t2 x y to) hu2 (to + 4) (to + 6) 2 to k9) ⟨rfl, rfl, (Nat.le_of_ble_eq_true rfl), (Nat.le_of_ble_eq_true rfl)⟩ rfl rfl (Nat.le_of_ble_eq_true rfl) ⟨Nat.zero_le _, Nat.zero_le _⟩ d_M_mergeTwos_53 (fun u3 hu3 => ?_)
  exact jx_vret (pc := 56) hX d_M_mergeTwos_56 (hu3)
set_option maxRecDepth 100000 in
set_option maxHeartbeats 4000000 in
theorem t_M_layFour {l : Launch} {D : va_G} {ad : Nat → Nat} {ac : Nat → ClassId} (σ : St) (th : Int32) (w ns : Nat) (Q : Ql) (hR : relQ σ th w ns Q) (f to : Nat) (hk : Q.four_ok f to = true) : jMv l (yM D ad ac) mt_M_layFour TT (rmk 3) [.ref (ad 19), .int (nI f), .int (nI to)] σ (fun u => relQ u th w ns (Q.four f to)) := by
  simp only [Ql.four_ok, Bool.and_eq_true, decide_eq_true_eq] at hk
  obtain ⟨⟨⟨k1, k2⟩, k3⟩, k4⟩ := hk
  refine jMv_of (by decide) (Nat.le_of_ble_eq_true rfl) (List.forall_mem_cons.mpr ⟨rfl, List.forall_mem_cons.mpr ⟨rfl, List.forall_mem_cons.mpr ⟨rfl, fun _ h => absurd h List.not_mem_nil⟩⟩⟩) ?_
  intro X A hX
  have hX : jX X (yM D ad ac) A b_M_layFour 3 RM (mt_M_layFour.w :: TT) (rmk 3) none := hX
  show jW l X (yM D ad ac) A 3 0 0 kT (jQv X (yM D ad ac) A (fun u => relQ u th w ns (Q.four f to))) σ 0 [(0, .ref (ad 19)), (1, .int (nI f)), (2, .int (nI to))] []
  refine jx_aload_n (pc := 0) hX d_M_layFour_0 rfl rfl ?_
  refine jx_iload_n (pc := 1) hX d_M_layFour_1 rfl rfl ?_
  refine jx_iload_n (pc := 2) hX d_M_layFour_2 rfl rfl ?_
  refine jx_iconst (pc := 3) hX (v := 1) d_M_layFour_3 rfl ?_
  refine jx_iadd (pc := 4) hX d_M_layFour_4 ?_
  refine jx_top (y := nI (f + 1)) (nI_1 _) ?_
  refine jx_iload_n (pc := 5) hX d_M_layFour_5 rfl rfl ?_
  refine jx_bipush (pc := 6) hX (v := 16) d_M_layFour_6 rfl ?_
  refine jx_iadd (pc := 8) hX d_M_layFour_8 ?_
  refine jx_top (y := nI (to + 16)) (nI_add to 16) ?_
  refine k_M_82 (pc := 9) hX (t_M_mergeOnes σ th w ns Q hR (by omega) f (f + 1) (to + 16) (by omega) (by omega) (by omega)) ⟨rfl, rfl, (Nat.le_of_ble_eq_true rfl), (Nat.le_of_ble_eq_true rfl)⟩ rfl rfl (Nat.le_of_ble_eq_true rfl) ⟨Nat.zero_le _, Nat.zero_le _⟩ d_M_layFour_9 (fun u hu => ?_)
  refine jx_aload_n (pc := 12) hX d_M_layFour_12 rfl rfl ?_
  refine jx_iload_n (pc := 13) hX d_M_layFour_13 rfl rfl ?_
  refine jx_iconst (pc := 14) hX (v := 2) d_M_layFour_14 rfl ?_
  refine jx_iadd (pc := 15) hX d_M_layFour_15 ?_
  refine jx_top (y := nI (f + 2)) (nI_add f 2) ?_
  refine jx_iload_n (pc := 16) hX d_M_layFour_16 rfl rfl ?_
  refine jx_iconst (pc := 17) hX (v := 3) d_M_layFour_17 rfl ?_
  refine jx_iadd (pc := 18) hX d_M_layFour_18 ?_
  refine jx_top (y := nI (f + 3)) (nI_add f 3) ?_
  refine jx_iload_n (pc := 19) hX d_M_layFour_19 rfl rfl ?_
  refine jx_bipush (pc := 20) hX (v := 18) d_M_layFour_20 rfl ?_
  refine jx_iadd (pc := 22) hX d_M_layFour_22 ?_
  refine jx_top (y := nI (to + 18)) (nI_add to 18) ?_
  refine k_M_82 (pc := 23) hX (t_M_mergeOnes u th w ns (Q.ones f (f + 1) (to + 16)) hu (by have := Ql.lay_len Q f (f + 1); show (Q.lay f (f + 1)).2.length < 24; omega) (f + 2) (f + 3) (to + 18) (by omega) (by omega) (by omega)) ⟨rfl, rfl, (Nat.le_of_ble_eq_true rfl), (Nat.le_of_ble_eq_true rfl)⟩ rfl rfl (Nat.le_of_ble_eq_true rfl) ⟨Nat.zero_le _, Nat.zero_le _⟩ d_M_layFour_23 (fun u2 hu2 => ?_)
  refine jx_aload_n (pc := 26) hX d_M_layFour_26 rfl rfl ?_
  refine jx_iload_n (pc := 27) hX d_M_layFour_27 rfl rfl ?_
  refine jx_bipush (pc := 28) hX (v := 16) d_M_layFour_28 rfl ?_
  refine jx_iadd (pc := 30) hX d_M_layFour_30 ?_
  refine jx_top (y := nI (to + 16)) (nI_add to 16) ?_
  refine jx_iload_n (pc := 31) hX d_M_layFour_31 rfl rfl ?_
  refine jx_bipush (pc := 32) hX (v := 18) d_M_layFour_32 rfl ?_
  refine jx_iadd (pc := 34) hX d_M_layFour_34 ?_
  refine jx_top (y := nI (to + 18)) (nI_add to 18) ?_
  refine jx_iload_n (pc := 35) hX d_M_layFour_35 rfl rfl ?_
  refine k_M_90 (pc := 36) hX (t_M_mergeTwos u2 th w ns (Q.h2 f to) hu2 (to + 16) (to + 18) to k4) ⟨rfl, rfl, (Nat.le_of_ble_eq_true rfl), (Nat.le_of_ble_eq_true rfl)⟩ rfl rfl (Nat.le_of_ble_eq_true rfl) ⟨Nat.zero_le _, Nat.zero_le _⟩ d_M_layFour_36 (fun u3 hu3 => ?_)
  exact jx_vret (pc := 39) hX d_M_layFour_39 (hu3)
def Ql.fk (Q : Ql) (x y to : Nat) : Nat → Ql
  | 0 => Q
  | k + 1 => (Ql.fk Q x y to k).f1 x y to k
def Ql.fours_ok (Q : Ql) (x y to : Nat) : Prop := x + 4 ≤ 80 ∧ y + 4 ≤ 80 ∧ to + 32 ≤ 80 ∧ Q.f1_ok x y to 0 = true ∧ (Q.f1 x y to 0).f1_ok x y to 1 = true ∧ ((Q.f1 x y to 0).f1 x y to 1).join_ok (to + 16) (to + 24) 4 to = true
theorem pk_rel {σ : St} {th : Int32} {w ns : Nat} {Q : Ql} {x y to k i : Nat} (hR : relQ σ th w ns Q) (hk : Q.pk_ok x y to k i = true) :
    σ.2 7 (x + 2 * i + k) = nI (Q.g (x + 2 * i + k)) ∧ ∃ v, upd (σ.2 7) (to + 8 + i) (nI (Q.g (x + 2 * i + k))) (y + 2 * i + 1 - k) = nI v ∧ relQ (sA (sA σ 7 (to + 8 + i) (nI (Q.g (x + 2 * i + k)))) 7 (to + 10 + i) (nI v)) th w ns (Q.pk1 x y to k i) := by
  unfold Ql.pk_ok at hk
  rw [Bool.and_eq_true] at hk
  obtain ⟨k1, k2⟩ := hk
  obtain ⟨q0, q1, q2, q3, q4, q5, q6, q7⟩ := id hR
  have c1 := q7 _ _ (Ql.g_of k1)
  obtain ⟨v, hv⟩ := Option.isSome_iff_exists.mp k2
  rw [Ql.g_of k1] at hv
  have r1 := rowUp (i := to + 8 + i) q7 c1.1 rfl
  have c2 := r1 _ _ hv
  refine ⟨c1.2, v, c2.2, q0, q1, q2, q3, q4, q5, q6, ?_⟩
  unfold Ql.pk1
  rw [Ql.g_of k1, hv]
  exact rowUp r1 c2.1 rfl
set_option maxRecDepth 100000 in
set_option maxHeartbeats 4000000 in
theorem t_M_mergeFours {l : Launch} {D : va_G} {ad : Nat → Nat} {ac : Nat → ClassId} (σ : St) (th : Int32) (w ns : Nat) (Q : Ql) (hR : relQ σ th w ns Q) (x y to : Nat) (hk : Q.fours_ok x y to) : jMv l (yM D ad ac) mt_M_mergeFours TT (rmk 4) [.ref (ad 19), .int (nI x), .int (nI y), .int (nI to)] σ (fun u => relQ u th w ns (Q.fours x y to)) := by
  obtain ⟨b1, b2, b3, f0, f1, fj⟩ := hk
  have fok : ∀ k, k < 2 → (Q.fk x y to k).f1_ok x y to k = true := by
    intro k hk2
    rcases (show k = 0 ∨ k = 1 by omega) with rfl | rfl
    · exact f0
    · exact f1
  refine jMv_of (by decide) (Nat.le_of_ble_eq_true rfl) (List.forall_mem_cons.mpr ⟨rfl, List.forall_mem_cons.mpr ⟨rfl, List.forall_mem_cons.mpr ⟨rfl, List.forall_mem_cons.mpr ⟨rfl, fun _ h => absurd h List.not_mem_nil⟩⟩⟩⟩) ?_
  intro X A hX
  have hX : jX X (yM D ad ac) A b_M_mergeFours 6 RM (mt_M_mergeFours.w :: TT) (rmk 4) none := hX
  show jW l X (yM D ad ac) A 6 0 0 kT (jQv X (yM D ad ac) A (fun u => relQ u th w ns (Q.fours x y to))) σ 0 [(0, .ref (ad 19)), (1, .int (nI x)), (2, .int (nI y)), (3, .int (nI to))] []
  have outer : ∀ (fu : Nat) (k : Nat) (σ1 : St), 2 - k = fu → k ≤ 2 → relQ σ1 th w ns (Q.fk x y to k) → jW l X (yM D ad ac) A 6 0 0 kT (jQv X (yM D ad ac) A (fun u => relQ u th w ns (Q.fours x y to))) σ1 3 [(0, .ref (ad 19)), (1, .int (nI x)), (2, .int (nI y)), (3, .int (nI to)), (4, .int (nI k))] [] := by
    intro fu
    induction fu using Nat.strongRecOn with
    | ind fu ih =>
      intro k σ1 hfu hk2 hR1
      have inner : k < 2 → ∀ (fu2 : Nat) (i : Nat) (σ2 : St), 2 - i = fu2 → i ≤ 2 → relQ σ2 th w ns (Ql.pick x y to k i (Q.fk x y to k)) → jW l X (yM D ad ac) A 6 0 0 kT (jQv X (yM D ad ac) A (fun u => relQ u th w ns (Q.fours x y to))) σ2 12 [(0, .ref (ad 19)), (1, .int (nI x)), (2, .int (nI y)), (3, .int (nI to)), (4, .int (nI k)), (5, .int (nI i))] [] := by
        intro hklt
        have fk := fok k hklt
        unfold Ql.f1_ok at fk
        simp only [Bool.and_eq_true] at fk
        obtain ⟨⟨g0, g1⟩, g2⟩ := fk
        have gi : ∀ i, i < 2 → (Ql.pick x y to k i (Q.fk x y to k)).pk_ok x y to k i = true := by
          intro i hi2
          rcases (show i = 0 ∨ i = 1 by omega) with rfl | rfl
          · exact g0
          · exact g1
        intro fu2
        induction fu2 using Nat.strongRecOn with
        | ind fu2 ih2 =>
          intro i σ2 hfu2 hi2 hR2
          refine jx_iload (pc := 12) hX d_M_mergeFours_12 rfl ?_
          refine jx_iconst (pc := 14) hX (v := 2) d_M_mergeFours_14 rfl ?_
          refine jx_icmp_ge (pc := 15) hX 78 d_M_mergeFours_15 rfl (fun q15 => ?_) (fun q15 => ?_)
          · have hge : i = 2 := by have : 2 ≤ i := (nI_leI (a := 2) (by decide) (by omega)).mp q15; omega
            subst hge
            refine jx_aload_n (pc := 78) hX d_M_mergeFours_78 rfl rfl ?_
            refine jx_iload_n (pc := 79) hX d_M_mergeFours_79 rfl rfl ?_
            refine jx_bipush (pc := 80) hX (v := 8) d_M_mergeFours_80 rfl ?_
            refine jx_iadd (pc := 82) hX d_M_mergeFours_82 ?_
            refine jx_top (y := nI (to + 8)) (nI_add to 8) ?_
            refine jx_iload_n (pc := 83) hX d_M_mergeFours_83 rfl rfl ?_
            refine jx_bipush (pc := 84) hX (v := 10) d_M_mergeFours_84 rfl ?_
            refine jx_iadd (pc := 86) hX d_M_mergeFours_86 ?_
            refine jx_top (y := nI (to + 10)) (nI_add to 10) ?_
            refine jx_iload_n (pc := 87) hX d_M_mergeFours_87 rfl rfl ?_
            refine jx_bipush (pc := 88) hX (v := 16) d_M_mergeFours_88 rfl ?_
            refine jx_iadd (pc := 90) hX d_M_mergeFours_90 ?_
            refine jx_top (y := nI (to + 16)) (nI_add to 16) ?_
            refine jx_bipush (pc := 91) hX (v := 8) d_M_mergeFours_91 rfl ?_
            refine jx_iload (pc := 93) hX d_M_mergeFours_93 rfl ?_
            refine jx_imul (pc := 95) hX d_M_mergeFours_95 ?_
            refine jx_top (y := nI (8 * k)) (pk_mul 8 k) ?_
            refine jx_iadd (pc := 96) hX d_M_mergeFours_96 ?_
            refine jx_top (y := nI (to + 16 + 8 * k)) (nI_add _ _) ?_
            refine k_M_90 (pc := 97) hX (t_M_mergeTwos σ2 th w ns (Ql.pick x y to k 2 (Q.fk x y to k)) hR2 (to + 8) (to + 10) (to + 16 + 8 * k) g2) ⟨rfl, rfl, (Nat.le_of_ble_eq_true rfl), (Nat.le_of_ble_eq_true rfl)⟩ rfl rfl (Nat.le_of_ble_eq_true rfl) ⟨Nat.zero_le _, Nat.zero_le _⟩ d_M_mergeFours_97 (fun u hu => ?_)
            refine jx_iinc (pc := 100) hX (v := nI (k + 1)) d_M_mergeFours_100 rfl (nI_1 k) (by decide) (L' := [(0, _), (1, _), (2, _), (3, _), (4, _), (5, _)]) rfl ?_
            refine jx_goto (pc := 103) hX 3 d_M_mergeFours_103 rfl ?_
            refine jx_take 5 ?_
            exact ih _ (by omega) (k + 1) u rfl (by omega) hu
          · have hlt : i < 2 := Nat.lt_of_not_le (fun q => q15 (nI_le (a := 2) q (by omega)))
            obtain ⟨v1, v, v2, hR3⟩ := pk_rel hR2 (gi i hlt)
            refine jx_aload_n (pc := 18) hX d_M_mergeFours_18 rfl rfl ?_
            refine g_M_32 (pc := 19) hX d_M_mergeFours_19 ?_
            refine jx_iload_n (pc := 22) hX d_M_mergeFours_22 rfl rfl ?_
            refine jx_bipush (pc := 23) hX (v := 8) d_M_mergeFours_23 rfl ?_
            refine jx_iadd (pc := 25) hX d_M_mergeFours_25 ?_
            refine jx_top (y := nI (to + 8)) (nI_add to 8) ?_
            refine jx_iload (pc := 26) hX d_M_mergeFours_26 rfl ?_
            refine jx_iadd (pc := 28) hX d_M_mergeFours_28 ?_
            refine jx_top (y := nI (to + 8 + i)) (nI_add _ _) ?_
            refine jx_aload_n (pc := 29) hX d_M_mergeFours_29 rfl rfl ?_
            refine g_M_32 (pc := 30) hX d_M_mergeFours_30 ?_
            refine jx_iload_n (pc := 33) hX d_M_mergeFours_33 rfl rfl ?_
            refine jx_iconst (pc := 34) hX (v := 2) d_M_mergeFours_34 rfl ?_
            refine jx_iload (pc := 35) hX d_M_mergeFours_35 rfl ?_
            refine jx_imul (pc := 37) hX d_M_mergeFours_37 ?_
            refine jx_top (y := nI (2 * i)) (pk_mul 2 i) ?_
            refine jx_iadd (pc := 38) hX d_M_mergeFours_38 ?_
            refine jx_top (y := nI (x + 2 * i)) (nI_add _ _) ?_
            refine jx_iload (pc := 39) hX d_M_mergeFours_39 rfl ?_
            refine jx_iadd (pc := 41) hX d_M_mergeFours_41 ?_
            refine jx_top (y := nI (x + 2 * i + k)) (nI_add _ _) ?_
            refine jx_iald (pc := 42) hX oM_7 _ rfl (show x + 2 * i + k < 80 by omega) d_M_mergeFours_42 ?_
            refine jx_top (y := nI ((Ql.pick x y to k i (Q.fk x y to k)).g (x + 2 * i + k))) (v1) ?_
            refine jx_iast (pc := 43) hX oM_7 _ rfl (show to + 8 + i < 80 by omega) d_M_mergeFours_43 ?_
            refine jx_aload_n (pc := 44) hX d_M_mergeFours_44 rfl rfl ?_
            refine g_M_32 (pc := 45) hX d_M_mergeFours_45 ?_
            refine jx_iload_n (pc := 48) hX d_M_mergeFours_48 rfl rfl ?_
            refine jx_bipush (pc := 49) hX (v := 10) d_M_mergeFours_49 rfl ?_
            refine jx_iadd (pc := 51) hX d_M_mergeFours_51 ?_
            refine jx_top (y := nI (to + 10)) (nI_add to 10) ?_
            refine jx_iload (pc := 52) hX d_M_mergeFours_52 rfl ?_
            refine jx_iadd (pc := 54) hX d_M_mergeFours_54 ?_
            refine jx_top (y := nI (to + 10 + i)) (nI_add _ _) ?_
            refine jx_aload_n (pc := 55) hX d_M_mergeFours_55 rfl rfl ?_
            refine g_M_32 (pc := 56) hX d_M_mergeFours_56 ?_
            refine jx_iload_n (pc := 59) hX d_M_mergeFours_59 rfl rfl ?_
            refine jx_iconst (pc := 60) hX (v := 2) d_M_mergeFours_60 rfl ?_
            refine jx_iload (pc := 61) hX d_M_mergeFours_61 rfl ?_
            refine jx_imul (pc := 63) hX d_M_mergeFours_63 ?_
            refine jx_top (y := nI (2 * i)) (pk_mul 2 i) ?_
            refine jx_iadd (pc := 64) hX d_M_mergeFours_64 ?_
            refine jx_top (y := nI (y + 2 * i)) (nI_add _ _) ?_
            refine jx_iconst (pc := 65) hX (v := 1) d_M_mergeFours_65 rfl ?_
            refine jx_iadd (pc := 66) hX d_M_mergeFours_66 ?_
            refine jx_top (y := nI (y + 2 * i + 1)) (nI_1 _) ?_
            refine jx_iload (pc := 67) hX d_M_mergeFours_67 rfl ?_
            refine jx_isub (pc := 69) hX d_M_mergeFours_69 ?_
            refine jx_top (y := nI (y + 2 * i + 1 - k)) (pk_sub (by omega)) ?_
            refine jx_iald (pc := 70) hX oM_7 _ rfl (show y + 2 * i + 1 - k < 80 by omega) d_M_mergeFours_70 ?_
            refine jx_top (y := nI v) (v2) ?_
            refine jx_iast (pc := 71) hX oM_7 _ rfl (show to + 10 + i < 80 by omega) d_M_mergeFours_71 ?_
            refine jx_iinc (pc := 72) hX (v := nI (i + 1)) d_M_mergeFours_72 rfl (nI_1 i) (by decide) (L' := [(0, _), (1, _), (2, _), (3, _), (4, _), (5, _)]) rfl ?_
            refine jx_goto (pc := 75) hX 12 d_M_mergeFours_75 rfl ?_
            exact ih2 _ (by omega) (i + 1) (sA (sA σ2 7 (to + 8 + i) (nI ((Ql.pick x y to k i (Q.fk x y to k)).g (x + 2 * i + k)))) 7 (to + 10 + i) (nI v)) rfl (by omega) hR3
      refine jx_iload (pc := 3) hX d_M_mergeFours_3 rfl ?_
      refine jx_iconst (pc := 5) hX (v := 2) d_M_mergeFours_5 rfl ?_
      refine jx_icmp_ge (pc := 6) hX 106 d_M_mergeFours_6 rfl (fun q6 => ?_) (fun q6 => ?_)
      · have hge : k = 2 := by have : 2 ≤ k := (nI_leI (a := 2) (by decide) (by omega)).mp q6; omega
        subst hge
        refine jx_aload_n (pc := 106) hX d_M_mergeFours_106 rfl rfl ?_
        refine jx_iload_n (pc := 107) hX d_M_mergeFours_107 rfl rfl ?_
        refine jx_bipush (pc := 108) hX (v := 16) d_M_mergeFours_108 rfl ?_
        refine jx_iadd (pc := 110) hX d_M_mergeFours_110 ?_
        refine jx_top (y := nI (to + 16)) (nI_add to 16) ?_
        refine jx_iload_n (pc := 111) hX d_M_mergeFours_111 rfl rfl ?_
        refine jx_bipush (pc := 112) hX (v := 24) d_M_mergeFours_112 rfl ?_
        refine jx_iadd (pc := 114) hX d_M_mergeFours_114 ?_
        refine jx_top (y := nI (to + 24)) (nI_add to 24) ?_
        refine jx_iconst (pc := 115) hX (v := 4) d_M_mergeFours_115 rfl ?_
        refine jx_iload_n (pc := 116) hX d_M_mergeFours_116 rfl rfl ?_
        refine k_M_86 (pc := 117) hX (t_M_join σ1 th w ns (Q.fk x y to 2) hR1 (to + 16) (to + 24) 4 to fj) ⟨rfl, rfl, (Nat.le_of_ble_eq_true rfl), (Nat.le_of_ble_eq_true rfl)⟩ rfl rfl (Nat.le_of_ble_eq_true rfl) ⟨Nat.zero_le _, Nat.zero_le _⟩ d_M_mergeFours_117 (fun u hu => ?_)
        exact jx_vret (pc := 120) hX d_M_mergeFours_120 (hu)
      · have hlt : k < 2 := Nat.lt_of_not_le (fun q => q6 (nI_le (a := 2) q (by omega)))
        refine jx_iconst (pc := 9) hX (v := 0) d_M_mergeFours_9 rfl ?_
        refine jx_istore (pc := 10) hX d_M_mergeFours_10 (by decide) (L' := [(0, _), (1, _), (2, _), (3, _), (4, _), (5, _)]) rfl ?_
        exact inner hlt _ 0 σ1 rfl (Nat.zero_le _) hR1
  refine jx_iconst (pc := 0) hX (v := 0) d_M_mergeFours_0 rfl ?_
  refine jx_istore (pc := 1) hX d_M_mergeFours_1 (by decide) (L' := [(0, _), (1, _), (2, _), (3, _), (4, _)]) rfl ?_
  exact outer _ 0 σ rfl (Nat.zero_le _) hR
theorem planM_of {u : St} {th : Int32} {w ns : Nat} {Q : Ql} (h : relQ u th w ns Q) (h1 : Q.2 = tab w) (h3 : AR w nI (u.2 4) (uE w)) : planM u w := by
  obtain ⟨-, r2, -, r4, r5, r6, -, -⟩ := h
  rw [h1, tab_len] at r2 r4 r5 r6
  refine ⟨r2, fun b hb => ?_, fun b hb => ?_, fun b hb => ?_, h3⟩
  · have := r4 b hb; dsimp only at this; rw [tab_at hb] at this; exact this
  · have := r5 b hb; dsimp only at this; rw [tab_at hb] at this; exact this
  · have := r6 b hb; dsimp only at this; rw [tab_at hb] at this; exact this
theorem relQ_0 (σ : St) (th : Int32) (w ns : Nat) (h0 : σ.1 0 = th) : relQ (sF (sF (sF (sF (sF σ 1 (nI w)) 2 (nI ns)) 3 0) 4 0) 5 0) th w ns Ql0 :=
  ⟨⟨h0, rfl, rfl, rfl, rfl⟩, rfl, fun n hn => absurd hn (Nat.not_lt_zero n), fun n hn => absurd hn (Nat.not_lt_zero n), fun n hn => absurd hn (Nat.not_lt_zero n), fun n hn => absurd hn (Nat.not_lt_zero n), fun n hn => absurd hn (Nat.not_lt_zero n), fun j v h => by cases h⟩
set_option maxRecDepth 100000 in
set_option maxHeartbeats 4000000 in
theorem t_M_make2 {l : Launch} {D : va_G} {ad : Nat → Nat} {ac : Nat → ClassId} (σ : St) (M : Ms) (ns : Nat) : jMv l (yM D ad ac) mt_M_make TT (rmk 5) [.ref (ad 19), .int (nI 2), .int (nI ns)] σ (fun u => repM u (M.build 2 ns) ∧ u.1 0 = σ.1 0) := by
  refine jMv_of (by decide) (Nat.le_of_ble_eq_true rfl) (List.forall_mem_cons.mpr ⟨rfl, List.forall_mem_cons.mpr ⟨rfl, List.forall_mem_cons.mpr ⟨rfl, fun _ h => absurd h List.not_mem_nil⟩⟩⟩) ?_
  intro X A hX
  have hX : jX X (yM D ad ac) A b_M_make 4 RM (mt_M_make.w :: TT) (rmk 5) none := hX
  show jW l X (yM D ad ac) A 4 0 0 kT (jQv X (yM D ad ac) A (fun u => repM u (M.build 2 ns) ∧ u.1 0 = σ.1 0)) σ 0 [(0, .ref (ad 19)), (1, .int (nI 2)), (2, .int (nI ns))] []
  have loopC : ∀ (fu : Nat) (i : Nat) (σa : St) (f : Nat → Int32), 6 - i = fu → i ≤ 6 → relQ σa (σ.1 0) 2 ns (Ql.mk 2) → AR 2 nI (σa.2 4) (uE 2) → (∀ j, j < 2 → σa.2 5 j = 0) → (∀ j, j < i → f j = 0) → jW l X (yM D ad ac) A 4 0 0 kT (jQv X (yM D ad ac) A (fun u => repM u (M.build 2 ns) ∧ u.1 0 = σ.1 0)) (sR σa 6 f) 111 [(0, .ref (ad 19)), (1, .int (nI 2)), (2, .int (nI ns)), (3, .int (nI i))] [] := by
    intro fu
    induction fu using Nat.strongRecOn with
    | ind fu ih =>
      intro i σa f hfu hi hR ha hz5 hz
      refine jx_iload_n (pc := 111) hX d_M_make_111 rfl rfl ?_
      refine jx_bipush (pc := 112) hX (v := 6) d_M_make_112 rfl ?_
      refine jx_icmp_ge (pc := 114) hX 130 d_M_make_114 rfl (fun qb => ?_) (fun qb => ?_)
      · have hge : i = 6 := by have : 6 ≤ i := (nI_leI (a := 6) (by omega) (by omega)).mp qb; omega
        subst hge
        exact jx_vret (pc := 130) hX d_M_make_130 (⟨⟨rep.build hR.1.2.1 hR.1.2.2.1 hR.1.2.2.2.1 hR.1.2.2.2.2 hz (fun b hb => hR.2.2.2.2.2.2.1 b (by rw [mk_2.1, tab_len]; exact hb)) hz5, planM_of (u := sR σa 6 f) hR mk_2.1 ha⟩, hR.1.1⟩)
      · have hlt : i < 6 := Nat.lt_of_not_le (fun q => qb (nI_le (a := 6) q (by omega)))
        refine jx_aload_n (pc := 117) hX d_M_make_117 rfl rfl ?_
        refine g_M_28 (pc := 118) hX d_M_make_118 ?_
        refine jx_iload_n (pc := 121) hX d_M_make_121 rfl rfl ?_
        refine jx_iconst (pc := 122) hX (v := 0) d_M_make_122 rfl ?_
        refine jx_zast (pc := 123) hX oM_6 _ rfl (show i < 6 by omega) rfl d_M_make_123 ?_
        refine jx_iinc (pc := 124) hX (v := nI (i + 1)) d_M_make_124 rfl (nI_1 i) (by decide) (L' := [(0, _), (1, _), (2, _), (3, _)]) rfl ?_
        refine jx_goto (pc := 127) hX 111 d_M_make_127 rfl ?_
        rw [sA_sR]
        exact ih _ (by omega) (i + 1) σa (upd f i 0) rfl (by omega) hR ha hz5 (zero_s hz)
  have loopB : ∀ (fu : Nat) (i : Nat) (σa : St), 2 - i = fu → i ≤ 2 → relQ σa (σ.1 0) 2 ns (Ql.mk 2) → AR i nI (σa.2 4) (uE 2) → (∀ j, j < i → σa.2 5 j = 0) → jW l X (yM D ad ac) A 4 0 0 kT (jQv X (yM D ad ac) A (fun u => repM u (M.build 2 ns) ∧ u.1 0 = σ.1 0)) σa 79 [(0, .ref (ad 19)), (1, .int (nI 2)), (2, .int (nI ns)), (3, .int (nI i))] [] := by
    intro fu
    induction fu using Nat.strongRecOn with
    | ind fu ih =>
      intro i σa hfu hi hR ha hz5
      refine jx_iload_n (pc := 79) hX d_M_make_79 rfl rfl ?_
      refine jx_iload_n (pc := 80) hX d_M_make_80 rfl rfl ?_
      refine jx_icmp_ge (pc := 81) hX 109 d_M_make_81 rfl (fun qb => ?_) (fun qb => ?_)
      · have hge : i = 2 := by have : 2 ≤ i := (nI_leI (by omega) (by omega)).mp qb; omega
        subst hge
        refine jx_iconst (pc := 109) hX (v := 0) d_M_make_109 rfl ?_
        refine jx_istore_n (pc := 110) hX d_M_make_110 rfl (by decide) (L' := [(0, _), (1, _), (2, _), (3, _)]) rfl ?_
        exact jx_to (loopC _ 0 σa (σa.2 6) rfl (Nat.zero_le _) hR ha hz5 (fun j hj => absurd hj (Nat.not_lt_zero j))) (sR_self σa 6).symm rfl rfl rfl
      · have hlt : i < 2 := Nat.lt_of_not_le (fun q => qb (nI_le q (by omega)))
        refine jx_aload_n (pc := 84) hX d_M_make_84 rfl rfl ?_
        refine g_M_22 (pc := 85) hX d_M_make_85 ?_
        refine jx_iload_n (pc := 88) hX d_M_make_88 rfl rfl ?_
        refine jx_aload_n (pc := 89) hX d_M_make_89 rfl rfl ?_
        refine g_M_32 (pc := 90) hX d_M_make_90 ?_
        refine jx_iload_n (pc := 93) hX d_M_make_93 rfl rfl ?_
        refine jx_iald (pc := 94) hX oM_7 _ rfl (show i < 80 by omega) d_M_make_94 ?_
        refine jx_top (y := nI (uE 2 i)) ((hR.2.2.2.2.2.2.2 i _ (mk_2.2 i hlt)).2) ?_
        refine jx_iast (pc := 95) hX oM_4 _ rfl (show i < 8 by omega) d_M_make_95 ?_
        refine jx_aload_n (pc := 96) hX d_M_make_96 rfl rfl ?_
        refine g_M_25 (pc := 97) hX d_M_make_97 ?_
        refine jx_iload_n (pc := 100) hX d_M_make_100 rfl rfl ?_
        refine jx_iconst (pc := 101) hX (v := 0) d_M_make_101 rfl ?_
        refine jx_iast (pc := 102) hX oM_5 _ rfl (show i < 8 by omega) d_M_make_102 ?_
        refine jx_iinc (pc := 103) hX (v := nI (i + 1)) d_M_make_103 rfl (nI_1 i) (by decide) (L' := [(0, _), (1, _), (2, _), (3, _)]) rfl ?_
        refine jx_goto (pc := 106) hX 79 d_M_make_106 rfl ?_
        exact ih _ (by omega) (i + 1) (sA (sA σa 4 i (nI (uE 2 i))) 5 i 0) rfl (by omega) hR (ha.pushf rfl) (zero_s hz5)
  refine jx_aload_n (pc := 0) hX d_M_make_0 rfl rfl ?_
  refine jx_iload_n (pc := 1) hX d_M_make_1 rfl rfl ?_
  refine p_M_93 (pc := 2) hX d_M_make_2 ?_
  refine jx_aload_n (pc := 5) hX d_M_make_5 rfl rfl ?_
  refine jx_iload_n (pc := 6) hX d_M_make_6 rfl rfl ?_
  refine p_M_96 (pc := 7) hX d_M_make_7 ?_
  refine jx_aload_n (pc := 10) hX d_M_make_10 rfl rfl ?_
  refine jx_iconst (pc := 11) hX (v := 0) d_M_make_11 rfl ?_
  refine p_M_76 (pc := 12) hX d_M_make_12 ?_
  refine jx_aload_n (pc := 15) hX d_M_make_15 rfl rfl ?_
  refine jx_iconst (pc := 16) hX (v := 0) d_M_make_16 rfl ?_
  refine p_M_99 (pc := 17) hX d_M_make_17 ?_
  refine jx_aload_n (pc := 20) hX d_M_make_20 rfl rfl ?_
  refine jx_iconst (pc := 21) hX (v := 0) d_M_make_21 rfl ?_
  refine p_M_102 (pc := 22) hX d_M_make_22 ?_
  refine jx_iload_n (pc := 25) hX d_M_make_25 rfl rfl ?_
  refine jx_iconst (pc := 26) hX (v := 2) d_M_make_26 rfl ?_
  refine jx_icmp_ne (pc := 27) hX 40 d_M_make_27 rfl (fun hh => absurd (rfl) hh) (fun _ => ?_)
  refine jx_aload_n (pc := 30) hX d_M_make_30 rfl rfl ?_
  refine jx_iconst (pc := 31) hX (v := 0) d_M_make_31 rfl ?_
  refine jx_iconst (pc := 32) hX (v := 1) d_M_make_32 rfl ?_
  refine jx_iconst (pc := 33) hX (v := 0) d_M_make_33 rfl ?_
  refine k_M_82 (pc := 34) hX (t_M_mergeOnes (sF (sF (sF (sF (sF σ 1 (nI 2)) 2 (nI ns)) 3 0) 4 0) 5 0) (σ.1 0) 2 ns Ql0 (relQ_0 σ (σ.1 0) 2 ns rfl) (by decide) 0 1 0 (by decide) (by decide) (by decide)) ⟨rfl, rfl, (Nat.le_of_ble_eq_true rfl), (Nat.le_of_ble_eq_true rfl)⟩ rfl rfl (Nat.le_of_ble_eq_true rfl) ⟨Nat.zero_le _, Nat.zero_le _⟩ d_M_make_34 (fun u hu => ?_)
  refine jx_goto (pc := 37) hX 77 d_M_make_37 rfl ?_
  refine jx_iconst (pc := 77) hX (v := 0) d_M_make_77 rfl ?_
  refine jx_istore_n (pc := 78) hX d_M_make_78 rfl (by decide) (L' := [(0, _), (1, _), (2, _), (3, _)]) rfl ?_
  exact loopB _ 0 u rfl (Nat.zero_le _) hu (fun j hj => absurd hj (Nat.not_lt_zero j)) (fun j hj => absurd hj (Nat.not_lt_zero j))
set_option maxRecDepth 100000 in
set_option maxHeartbeats 4000000 in
theorem t_M_make4 {l : Launch} {D : va_G} {ad : Nat → Nat} {ac : Nat → ClassId} (σ : St) (M : Ms) (ns : Nat) : jMv l (yM D ad ac) mt_M_make TT (rmk 5) [.ref (ad 19), .int (nI 4), .int (nI ns)] σ (fun u => repM u (M.build 4 ns) ∧ u.1 0 = σ.1 0) := by
  refine jMv_of (by decide) (Nat.le_of_ble_eq_true rfl) (List.forall_mem_cons.mpr ⟨rfl, List.forall_mem_cons.mpr ⟨rfl, List.forall_mem_cons.mpr ⟨rfl, fun _ h => absurd h List.not_mem_nil⟩⟩⟩) ?_
  intro X A hX
  have hX : jX X (yM D ad ac) A b_M_make 4 RM (mt_M_make.w :: TT) (rmk 5) none := hX
  show jW l X (yM D ad ac) A 4 0 0 kT (jQv X (yM D ad ac) A (fun u => repM u (M.build 4 ns) ∧ u.1 0 = σ.1 0)) σ 0 [(0, .ref (ad 19)), (1, .int (nI 4)), (2, .int (nI ns))] []
  have loopC : ∀ (fu : Nat) (i : Nat) (σa : St) (f : Nat → Int32), 6 - i = fu → i ≤ 6 → relQ σa (σ.1 0) 4 ns (Ql.mk 4) → AR 4 nI (σa.2 4) (uE 4) → (∀ j, j < 4 → σa.2 5 j = 0) → (∀ j, j < i → f j = 0) → jW l X (yM D ad ac) A 4 0 0 kT (jQv X (yM D ad ac) A (fun u => repM u (M.build 4 ns) ∧ u.1 0 = σ.1 0)) (sR σa 6 f) 111 [(0, .ref (ad 19)), (1, .int (nI 4)), (2, .int (nI ns)), (3, .int (nI i))] [] := by
    intro fu
    induction fu using Nat.strongRecOn with
    | ind fu ih =>
      intro i σa f hfu hi hR ha hz5 hz
      refine jx_iload_n (pc := 111) hX d_M_make_111 rfl rfl ?_
      refine jx_bipush (pc := 112) hX (v := 6) d_M_make_112 rfl ?_
      refine jx_icmp_ge (pc := 114) hX 130 d_M_make_114 rfl (fun qb => ?_) (fun qb => ?_)
      · have hge : i = 6 := by have : 6 ≤ i := (nI_leI (a := 6) (by omega) (by omega)).mp qb; omega
        subst hge
        exact jx_vret (pc := 130) hX d_M_make_130 (⟨⟨rep.build hR.1.2.1 hR.1.2.2.1 hR.1.2.2.2.1 hR.1.2.2.2.2 hz (fun b hb => hR.2.2.2.2.2.2.1 b (by rw [mk_4.1, tab_len]; exact hb)) hz5, planM_of (u := sR σa 6 f) hR mk_4.1 ha⟩, hR.1.1⟩)
      · have hlt : i < 6 := Nat.lt_of_not_le (fun q => qb (nI_le (a := 6) q (by omega)))
        refine jx_aload_n (pc := 117) hX d_M_make_117 rfl rfl ?_
        refine g_M_28 (pc := 118) hX d_M_make_118 ?_
        refine jx_iload_n (pc := 121) hX d_M_make_121 rfl rfl ?_
        refine jx_iconst (pc := 122) hX (v := 0) d_M_make_122 rfl ?_
        refine jx_zast (pc := 123) hX oM_6 _ rfl (show i < 6 by omega) rfl d_M_make_123 ?_
        refine jx_iinc (pc := 124) hX (v := nI (i + 1)) d_M_make_124 rfl (nI_1 i) (by decide) (L' := [(0, _), (1, _), (2, _), (3, _)]) rfl ?_
        refine jx_goto (pc := 127) hX 111 d_M_make_127 rfl ?_
        rw [sA_sR]
        exact ih _ (by omega) (i + 1) σa (upd f i 0) rfl (by omega) hR ha hz5 (zero_s hz)
  have loopB : ∀ (fu : Nat) (i : Nat) (σa : St), 4 - i = fu → i ≤ 4 → relQ σa (σ.1 0) 4 ns (Ql.mk 4) → AR i nI (σa.2 4) (uE 4) → (∀ j, j < i → σa.2 5 j = 0) → jW l X (yM D ad ac) A 4 0 0 kT (jQv X (yM D ad ac) A (fun u => repM u (M.build 4 ns) ∧ u.1 0 = σ.1 0)) σa 79 [(0, .ref (ad 19)), (1, .int (nI 4)), (2, .int (nI ns)), (3, .int (nI i))] [] := by
    intro fu
    induction fu using Nat.strongRecOn with
    | ind fu ih =>
      intro i σa hfu hi hR ha hz5
      refine jx_iload_n (pc := 79) hX d_M_make_79 rfl rfl ?_
      refine jx_iload_n (pc := 80) hX d_M_make_80 rfl rfl ?_
      refine jx_icmp_ge (pc := 81) hX 109 d_M_make_81 rfl (fun qb => ?_) (fun qb => ?_)
      · have hge : i = 4 := by have : 4 ≤ i := (nI_leI (by omega) (by omega)).mp qb; omega
        subst hge
        refine jx_iconst (pc := 109) hX (v := 0) d_M_make_109 rfl ?_
        refine jx_istore_n (pc := 110) hX d_M_make_110 rfl (by decide) (L' := [(0, _), (1, _), (2, _), (3, _)]) rfl ?_
        exact jx_to (loopC _ 0 σa (σa.2 6) rfl (Nat.zero_le _) hR ha hz5 (fun j hj => absurd hj (Nat.not_lt_zero j))) (sR_self σa 6).symm rfl rfl rfl
      · have hlt : i < 4 := Nat.lt_of_not_le (fun q => qb (nI_le q (by omega)))
        refine jx_aload_n (pc := 84) hX d_M_make_84 rfl rfl ?_
        refine g_M_22 (pc := 85) hX d_M_make_85 ?_
        refine jx_iload_n (pc := 88) hX d_M_make_88 rfl rfl ?_
        refine jx_aload_n (pc := 89) hX d_M_make_89 rfl rfl ?_
        refine g_M_32 (pc := 90) hX d_M_make_90 ?_
        refine jx_iload_n (pc := 93) hX d_M_make_93 rfl rfl ?_
        refine jx_iald (pc := 94) hX oM_7 _ rfl (show i < 80 by omega) d_M_make_94 ?_
        refine jx_top (y := nI (uE 4 i)) ((hR.2.2.2.2.2.2.2 i _ (mk_4.2 i hlt)).2) ?_
        refine jx_iast (pc := 95) hX oM_4 _ rfl (show i < 8 by omega) d_M_make_95 ?_
        refine jx_aload_n (pc := 96) hX d_M_make_96 rfl rfl ?_
        refine g_M_25 (pc := 97) hX d_M_make_97 ?_
        refine jx_iload_n (pc := 100) hX d_M_make_100 rfl rfl ?_
        refine jx_iconst (pc := 101) hX (v := 0) d_M_make_101 rfl ?_
        refine jx_iast (pc := 102) hX oM_5 _ rfl (show i < 8 by omega) d_M_make_102 ?_
        refine jx_iinc (pc := 103) hX (v := nI (i + 1)) d_M_make_103 rfl (nI_1 i) (by decide) (L' := [(0, _), (1, _), (2, _), (3, _)]) rfl ?_
        refine jx_goto (pc := 106) hX 79 d_M_make_106 rfl ?_
        exact ih _ (by omega) (i + 1) (sA (sA σa 4 i (nI (uE 4 i))) 5 i 0) rfl (by omega) hR (ha.pushf rfl) (zero_s hz5)
  refine jx_aload_n (pc := 0) hX d_M_make_0 rfl rfl ?_
  refine jx_iload_n (pc := 1) hX d_M_make_1 rfl rfl ?_
  refine p_M_93 (pc := 2) hX d_M_make_2 ?_
  refine jx_aload_n (pc := 5) hX d_M_make_5 rfl rfl ?_
  refine jx_iload_n (pc := 6) hX d_M_make_6 rfl rfl ?_
  refine p_M_96 (pc := 7) hX d_M_make_7 ?_
  refine jx_aload_n (pc := 10) hX d_M_make_10 rfl rfl ?_
  refine jx_iconst (pc := 11) hX (v := 0) d_M_make_11 rfl ?_
  refine p_M_76 (pc := 12) hX d_M_make_12 ?_
  refine jx_aload_n (pc := 15) hX d_M_make_15 rfl rfl ?_
  refine jx_iconst (pc := 16) hX (v := 0) d_M_make_16 rfl ?_
  refine p_M_99 (pc := 17) hX d_M_make_17 ?_
  refine jx_aload_n (pc := 20) hX d_M_make_20 rfl rfl ?_
  refine jx_iconst (pc := 21) hX (v := 0) d_M_make_21 rfl ?_
  refine p_M_102 (pc := 22) hX d_M_make_22 ?_
  refine jx_iload_n (pc := 25) hX d_M_make_25 rfl rfl ?_
  refine jx_iconst (pc := 26) hX (v := 2) d_M_make_26 rfl ?_
  refine jx_icmp_ne (pc := 27) hX 40 d_M_make_27 rfl (fun _ => ?_) (fun hh => absurd hh (by decide))
  refine jx_iload_n (pc := 40) hX d_M_make_40 rfl rfl ?_
  refine jx_iconst (pc := 41) hX (v := 4) d_M_make_41 rfl ?_
  refine jx_icmp_ne (pc := 42) hX 54 d_M_make_42 rfl (fun hh => absurd (rfl) hh) (fun _ => ?_)
  refine jx_aload_n (pc := 45) hX d_M_make_45 rfl rfl ?_
  refine jx_iconst (pc := 46) hX (v := 0) d_M_make_46 rfl ?_
  refine jx_iconst (pc := 47) hX (v := 0) d_M_make_47 rfl ?_
  refine k_M_105 (pc := 48) hX (t_M_layFour (sF (sF (sF (sF (sF σ 1 (nI 4)) 2 (nI ns)) 3 0) 4 0) 5 0) (σ.1 0) 4 ns Ql0 (relQ_0 σ (σ.1 0) 4 ns rfl) 0 0 mk4_ok) ⟨rfl, rfl, (Nat.le_of_ble_eq_true rfl), (Nat.le_of_ble_eq_true rfl)⟩ rfl rfl (Nat.le_of_ble_eq_true rfl) ⟨Nat.zero_le _, Nat.zero_le _⟩ d_M_make_48 (fun u hu => ?_)
  refine jx_goto (pc := 51) hX 77 d_M_make_51 rfl ?_
  refine jx_iconst (pc := 77) hX (v := 0) d_M_make_77 rfl ?_
  refine jx_istore_n (pc := 78) hX d_M_make_78 rfl (by decide) (L' := [(0, _), (1, _), (2, _), (3, _)]) rfl ?_
  exact loopB _ 0 u rfl (Nat.zero_le _) hu (fun j hj => absurd hj (Nat.not_lt_zero j)) (fun j hj => absurd hj (Nat.not_lt_zero j))
set_option maxRecDepth 100000 in
set_option maxHeartbeats 4000000 in
theorem t_M_make8 {l : Launch} {D : va_G} {ad : Nat → Nat} {ac : Nat → ClassId} (σ : St) (M : Ms) (ns : Nat) : jMv l (yM D ad ac) mt_M_make TT (rmk 5) [.ref (ad 19), .int (nI 8), .int (nI ns)] σ (fun u => repM u (M.build 8 ns) ∧ u.1 0 = σ.1 0) := by
  refine jMv_of (by decide) (Nat.le_of_ble_eq_true rfl) (List.forall_mem_cons.mpr ⟨rfl, List.forall_mem_cons.mpr ⟨rfl, List.forall_mem_cons.mpr ⟨rfl, fun _ h => absurd h List.not_mem_nil⟩⟩⟩) ?_
  intro X A hX
  have hX : jX X (yM D ad ac) A b_M_make 4 RM (mt_M_make.w :: TT) (rmk 5) none := hX
  show jW l X (yM D ad ac) A 4 0 0 kT (jQv X (yM D ad ac) A (fun u => repM u (M.build 8 ns) ∧ u.1 0 = σ.1 0)) σ 0 [(0, .ref (ad 19)), (1, .int (nI 8)), (2, .int (nI ns))] []
  have loopC : ∀ (fu : Nat) (i : Nat) (σa : St) (f : Nat → Int32), 6 - i = fu → i ≤ 6 → relQ σa (σ.1 0) 8 ns (Ql.mk 8) → AR 8 nI (σa.2 4) (uE 8) → (∀ j, j < 8 → σa.2 5 j = 0) → (∀ j, j < i → f j = 0) → jW l X (yM D ad ac) A 4 0 0 kT (jQv X (yM D ad ac) A (fun u => repM u (M.build 8 ns) ∧ u.1 0 = σ.1 0)) (sR σa 6 f) 111 [(0, .ref (ad 19)), (1, .int (nI 8)), (2, .int (nI ns)), (3, .int (nI i))] [] := by
    intro fu
    induction fu using Nat.strongRecOn with
    | ind fu ih =>
      intro i σa f hfu hi hR ha hz5 hz
      refine jx_iload_n (pc := 111) hX d_M_make_111 rfl rfl ?_
      refine jx_bipush (pc := 112) hX (v := 6) d_M_make_112 rfl ?_
      refine jx_icmp_ge (pc := 114) hX 130 d_M_make_114 rfl (fun qb => ?_) (fun qb => ?_)
      · have hge : i = 6 := by have : 6 ≤ i := (nI_leI (a := 6) (by omega) (by omega)).mp qb; omega
        subst hge
        exact jx_vret (pc := 130) hX d_M_make_130 (⟨⟨rep.build hR.1.2.1 hR.1.2.2.1 hR.1.2.2.2.1 hR.1.2.2.2.2 hz (fun b hb => hR.2.2.2.2.2.2.1 b (by rw [mk_8.1, tab_len]; exact hb)) hz5, planM_of (u := sR σa 6 f) hR mk_8.1 ha⟩, hR.1.1⟩)
      · have hlt : i < 6 := Nat.lt_of_not_le (fun q => qb (nI_le (a := 6) q (by omega)))
        refine jx_aload_n (pc := 117) hX d_M_make_117 rfl rfl ?_
        refine g_M_28 (pc := 118) hX d_M_make_118 ?_
        refine jx_iload_n (pc := 121) hX d_M_make_121 rfl rfl ?_
        refine jx_iconst (pc := 122) hX (v := 0) d_M_make_122 rfl ?_
        refine jx_zast (pc := 123) hX oM_6 _ rfl (show i < 6 by omega) rfl d_M_make_123 ?_
        refine jx_iinc (pc := 124) hX (v := nI (i + 1)) d_M_make_124 rfl (nI_1 i) (by decide) (L' := [(0, _), (1, _), (2, _), (3, _)]) rfl ?_
        refine jx_goto (pc := 127) hX 111 d_M_make_127 rfl ?_
        rw [sA_sR]
        exact ih _ (by omega) (i + 1) σa (upd f i 0) rfl (by omega) hR ha hz5 (zero_s hz)
  have loopB : ∀ (fu : Nat) (i : Nat) (σa : St), 8 - i = fu → i ≤ 8 → relQ σa (σ.1 0) 8 ns (Ql.mk 8) → AR i nI (σa.2 4) (uE 8) → (∀ j, j < i → σa.2 5 j = 0) → jW l X (yM D ad ac) A 4 0 0 kT (jQv X (yM D ad ac) A (fun u => repM u (M.build 8 ns) ∧ u.1 0 = σ.1 0)) σa 79 [(0, .ref (ad 19)), (1, .int (nI 8)), (2, .int (nI ns)), (3, .int (nI i))] [] := by
    intro fu
    induction fu using Nat.strongRecOn with
    | ind fu ih =>
      intro i σa hfu hi hR ha hz5
      refine jx_iload_n (pc := 79) hX d_M_make_79 rfl rfl ?_
      refine jx_iload_n (pc := 80) hX d_M_make_80 rfl rfl ?_
      refine jx_icmp_ge (pc := 81) hX 109 d_M_make_81 rfl (fun qb => ?_) (fun qb => ?_)
      · have hge : i = 8 := by have : 8 ≤ i := (nI_leI (by omega) (by omega)).mp qb; omega
        subst hge
        refine jx_iconst (pc := 109) hX (v := 0) d_M_make_109 rfl ?_
        refine jx_istore_n (pc := 110) hX d_M_make_110 rfl (by decide) (L' := [(0, _), (1, _), (2, _), (3, _)]) rfl ?_
        exact jx_to (loopC _ 0 σa (σa.2 6) rfl (Nat.zero_le _) hR ha hz5 (fun j hj => absurd hj (Nat.not_lt_zero j))) (sR_self σa 6).symm rfl rfl rfl
      · have hlt : i < 8 := Nat.lt_of_not_le (fun q => qb (nI_le q (by omega)))
        refine jx_aload_n (pc := 84) hX d_M_make_84 rfl rfl ?_
        refine g_M_22 (pc := 85) hX d_M_make_85 ?_
        refine jx_iload_n (pc := 88) hX d_M_make_88 rfl rfl ?_
        refine jx_aload_n (pc := 89) hX d_M_make_89 rfl rfl ?_
        refine g_M_32 (pc := 90) hX d_M_make_90 ?_
        refine jx_iload_n (pc := 93) hX d_M_make_93 rfl rfl ?_
        refine jx_iald (pc := 94) hX oM_7 _ rfl (show i < 80 by omega) d_M_make_94 ?_
        refine jx_top (y := nI (uE 8 i)) ((hR.2.2.2.2.2.2.2 i _ (mk_8.2 i hlt)).2) ?_
        refine jx_iast (pc := 95) hX oM_4 _ rfl (show i < 8 by omega) d_M_make_95 ?_
        refine jx_aload_n (pc := 96) hX d_M_make_96 rfl rfl ?_
        refine g_M_25 (pc := 97) hX d_M_make_97 ?_
        refine jx_iload_n (pc := 100) hX d_M_make_100 rfl rfl ?_
        refine jx_iconst (pc := 101) hX (v := 0) d_M_make_101 rfl ?_
        refine jx_iast (pc := 102) hX oM_5 _ rfl (show i < 8 by omega) d_M_make_102 ?_
        refine jx_iinc (pc := 103) hX (v := nI (i + 1)) d_M_make_103 rfl (nI_1 i) (by decide) (L' := [(0, _), (1, _), (2, _), (3, _)]) rfl ?_
        refine jx_goto (pc := 106) hX 79 d_M_make_106 rfl ?_
        exact ih _ (by omega) (i + 1) (sA (sA σa 4 i (nI (uE 8 i))) 5 i 0) rfl (by omega) hR (ha.pushf rfl) (zero_s hz5)
  refine jx_aload_n (pc := 0) hX d_M_make_0 rfl rfl ?_
  refine jx_iload_n (pc := 1) hX d_M_make_1 rfl rfl ?_
  refine p_M_93 (pc := 2) hX d_M_make_2 ?_
  refine jx_aload_n (pc := 5) hX d_M_make_5 rfl rfl ?_
  refine jx_iload_n (pc := 6) hX d_M_make_6 rfl rfl ?_
  refine p_M_96 (pc := 7) hX d_M_make_7 ?_
  refine jx_aload_n (pc := 10) hX d_M_make_10 rfl rfl ?_
  refine jx_iconst (pc := 11) hX (v := 0) d_M_make_11 rfl ?_
  refine p_M_76 (pc := 12) hX d_M_make_12 ?_
  refine jx_aload_n (pc := 15) hX d_M_make_15 rfl rfl ?_
  refine jx_iconst (pc := 16) hX (v := 0) d_M_make_16 rfl ?_
  refine p_M_99 (pc := 17) hX d_M_make_17 ?_
  refine jx_aload_n (pc := 20) hX d_M_make_20 rfl rfl ?_
  refine jx_iconst (pc := 21) hX (v := 0) d_M_make_21 rfl ?_
  refine p_M_102 (pc := 22) hX d_M_make_22 ?_
  refine jx_iload_n (pc := 25) hX d_M_make_25 rfl rfl ?_
  refine jx_iconst (pc := 26) hX (v := 2) d_M_make_26 rfl ?_
  refine jx_icmp_ne (pc := 27) hX 40 d_M_make_27 rfl (fun _ => ?_) (fun hh => absurd hh (by decide))
  refine jx_iload_n (pc := 40) hX d_M_make_40 rfl rfl ?_
  refine jx_iconst (pc := 41) hX (v := 4) d_M_make_41 rfl ?_
  refine jx_icmp_ne (pc := 42) hX 54 d_M_make_42 rfl (fun _ => ?_) (fun hh => absurd hh (by decide))
  refine jx_aload_n (pc := 54) hX d_M_make_54 rfl rfl ?_
  refine jx_iconst (pc := 55) hX (v := 0) d_M_make_55 rfl ?_
  refine jx_bipush (pc := 56) hX (v := 40) d_M_make_56 rfl ?_
  refine k_M_105 (pc := 58) hX (t_M_layFour (sF (sF (sF (sF (sF σ 1 (nI 8)) 2 (nI ns)) 3 0) 4 0) 5 0) (σ.1 0) 8 ns Ql0 (relQ_0 σ (σ.1 0) 8 ns rfl) 0 40 mk8_ok.1) ⟨rfl, rfl, (Nat.le_of_ble_eq_true rfl), (Nat.le_of_ble_eq_true rfl)⟩ rfl rfl (Nat.le_of_ble_eq_true rfl) ⟨Nat.zero_le _, Nat.zero_le _⟩ d_M_make_58 (fun u1 hu1 => ?_)
  refine jx_aload_n (pc := 61) hX d_M_make_61 rfl rfl ?_
  refine jx_iconst (pc := 62) hX (v := 4) d_M_make_62 rfl ?_
  refine jx_bipush (pc := 63) hX (v := 48) d_M_make_63 rfl ?_
  refine k_M_105 (pc := 65) hX (t_M_layFour u1 (σ.1 0) 8 ns (Ql0.four 0 40) hu1 4 48 mk8_ok.2.1) ⟨rfl, rfl, (Nat.le_of_ble_eq_true rfl), (Nat.le_of_ble_eq_true rfl)⟩ rfl rfl (Nat.le_of_ble_eq_true rfl) ⟨Nat.zero_le _, Nat.zero_le _⟩ d_M_make_65 (fun u2 hu2 => ?_)
  refine jx_aload_n (pc := 68) hX d_M_make_68 rfl rfl ?_
  refine jx_bipush (pc := 69) hX (v := 40) d_M_make_69 rfl ?_
  refine jx_bipush (pc := 71) hX (v := 48) d_M_make_71 rfl ?_
  refine jx_iconst (pc := 73) hX (v := 0) d_M_make_73 rfl ?_
  refine k_M_108 (pc := 74) hX (t_M_mergeFours u2 (σ.1 0) 8 ns ((Ql0.four 0 40).four 4 48) hu2 40 48 0 ⟨by decide, by decide, by decide, mk8_ok.2.2.1, mk8_ok.2.2.2.1, mk8_ok.2.2.2.2⟩) ⟨rfl, rfl, (Nat.le_of_ble_eq_true rfl), (Nat.le_of_ble_eq_true rfl)⟩ rfl rfl (Nat.le_of_ble_eq_true rfl) ⟨Nat.zero_le _, Nat.zero_le _⟩ d_M_make_74 (fun u hu => ?_)
  refine jx_iconst (pc := 77) hX (v := 0) d_M_make_77 rfl ?_
  refine jx_istore_n (pc := 78) hX d_M_make_78 rfl (by decide) (L' := [(0, _), (1, _), (2, _), (3, _)]) rfl ?_
  exact loopB _ 0 u rfl (Nat.zero_le _) hu (fun j hj => absurd hj (Nat.not_lt_zero j)) (fun j hj => absurd hj (Nat.not_lt_zero j))
theorem t_M_make {l : Launch} {D : va_G} {ad : Nat → Nat} {ac : Nat → ClassId} (σ : St) (M : Ms) (w ns : Nat) (hw : Wok w) : jMv l (yM D ad ac) mt_M_make TT (rmk 5) [.ref (ad 19), .int (nI w), .int (nI ns)] σ (fun u => repM u (M.build w ns) ∧ u.1 0 = σ.1 0) := by
  rcases hw with rfl | rfl | rfl
  · exact t_M_make2 σ M ns
  · exact t_M_make4 σ M ns
  · exact t_M_make8 σ M ns
