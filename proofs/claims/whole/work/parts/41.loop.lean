/-! the law: its loop, its start -/
theorem gt3_t {k LL : Nat} (hk : k < 2 ^ 29) (hL : LL < 2 ^ 29) (h : ¬ nI LL - 3 < nI k) : k + 3 ≤ LL := by
  have e : (nI LL - 3).toInt = (LL : Int) - 3 := by rw [show (3 : Int32) = nI 3 from rfl, pk_sub_toInt (by omega) (by decide)]; rfl
  rw [Int32.lt_iff_toInt_lt, e, nI_toInt (by omega)] at h
  omega
theorem jW_conv {l : Launch} {X : Cx} {Y Y' : Wx} {A : Nat → Prop} {nL cells slots : Nat} {K : Heap → List Loc → Prop} {Q : State → Prop} {σ σ' : St} {pc : Nat} {L : Lv} {st : List Value} (eD : Y.D = Y'.D) (eC : Y.cl = Y'.cl) (eS : Y.sh σ = Y'.sh σ') (k : jW l X Y' A nL cells slots K Q σ' pc L st) : jW l X Y A nL cells slots K Q σ pc L st := by
  intro H locs ls hk hP hD hS hl
  rw [eD, eC, eS] at hP
  rw [eS] at hD
  exact k H locs ls hk hP hD hS hl
set_option maxRecDepth 100000 in
set_option maxHeartbeats 4000000 in
theorem law_loop {l : Launch} (htr : l.stackTraces = false) {X : Cx} {D : va_G} {ad bd : Nat → Nat} {ac bc : Nat → ClassId} {o : Nat} {cO : ClassId} {A : Nat → Prop} {w0 : Cond} {Q : State → Prop} {b LL : Nat} {xs : Nat → Int32} (hX0 : jX X (yL D ad ac bd bc o cO (fun _ => 0, fun _ _ => 0) (fun _ => 0)) A code 7 RL (w0 :: TT) room_1 (some .boolean)) (C : lawC X A b LL xs)
    (hend : ∀ (c s k : Nat) (σ τ : St) (gg : Nat → Int64), c ≤ 601024 → s ≤ 7293034 → jW l X (yL D ad ac bd bc o cO τ gg) A 7 c s kT Q σ 911 [(0, .ref b), (1, .ref (ad 20)), (2, .ref (bd 19)), (3, .ref o), (4, .int (nI k))] []) :
    ∀ (fu k cells slots : Nat) (σ τ : St) (gg : Nat → Int64) (M : Ms), LL - k = fu → k ≤ LL + 3 → cells ≤ 100 + k → slots ≤ 20000 + 6 * k → Inv M → repC σ M → repM τ M → jW l X (yL D ad ac bd bc o cO τ gg) A 7 cells slots kT Q σ 23 [(0, .ref b), (1, .ref (ad 20)), (2, .ref (bd 19)), (3, .ref o), (4, .int (nI k))] [] := by
  intro fu
  induction fu using Nat.strongRecOn with
  | ind fu ih =>
    intro k cells slots σ τ gg M hfu hkL hcl hsl hI hC hM
    have hLL : LL ≤ 1536 := C.2.2.2.2.2
    have hX : jX X (yL D ad ac bd bc o cO τ gg) A code 7 RL (w0 :: TT) room_1 (some .boolean) := hX0
    refine jx_iload (pc := 23) hX d_L_law_23 rfl ?_
    refine jx_aload_n (pc := 25) hX d_L_law_25 rfl rfl ?_
    refine jx_slen (pc := 26) hX C.2.2.2.1 C.2.2.2.2.1 (C.2.2.1 b C.2.2.2.2.1) d_L_law_26 ?_
    refine jx_iconst (pc := 27) hX (v := 3) d_L_law_27 rfl ?_
    refine jx_isub (pc := 28) hX d_L_law_28 ?_
    refine jx_icmp_gt (pc := 29) hX 911 d_L_law_29 rfl (fun _ => ?_) (fun h29 => ?_)
    · exact hend _ _ k σ τ gg (by omega) (by omega)
    have hk : k + 3 ≤ LL := gt3_t (by omega) (by omega) h29
    have next : ∀ (c2 s2 : Nat) (σ2 τ2 : St) (g2 : Nat → Int64) (M2 : Ms), c2 ≤ 100 + (k + 3) → s2 ≤ 20000 + 6 * (k + 3) → Inv M2 → repC σ2 M2 → repM τ2 M2 → jW l X (yL D ad ac bd bc o cO τ2 g2) A 7 c2 s2 kT Q σ2 905 [(0, .ref b), (1, .ref (ad 20)), (2, .ref (bd 19)), (3, .ref o), (4, .int (nI k))] [] := by
      intro c2 s2 σ2 τ2 g2 M2 h1 h2 h3 h4 h5
      have hX : jX X (yL D ad ac bd bc o cO τ2 g2) A code 7 RL (w0 :: TT) room_1 (some .boolean) := hX0
      refine jx_iinc (pc := 905) hX (v := nI (k + 3)) d_L_law_905 rfl (nI_3 k) (by decide) (L' := [(0, _), (1, _), (2, _), (3, _), (4, _)]) rfl ?_
      refine jx_goto (pc := 908) hX 23 d_L_law_908 rfl ?_
      exact ih (LL - (k + 3)) (by omega) (k + 3) c2 s2 σ2 τ2 g2 M2 rfl (by omega) h1 h2 h3 h4 h5
    refine jx_aload_n (pc := 32) hX d_L_law_32 rfl rfl ?_
    refine jx_iload (pc := 33) hX d_L_law_33 rfl ?_
    refine jx_sld (pc := 35) hX C.2.2.2.1 C.2.2.2.2.1 (C.2.2.1 b C.2.2.2.2.1) (by omega) k rfl (by omega) d_L_law_35 ?_
    refine jx_bipush (pc := 36) hX (v := 15) d_L_law_36 rfl ?_
    refine jx_iand (pc := 38) hX d_L_law_38 ?_
    cases hz : inR (xs k &&& 15) (13 + 1) with
    | none =>
      refine jx_tsOut (pc := 39) hX 905 d_L_law_39 (inR_lo (by decide) hz) rfl ?_
      exact next _ _ σ τ gg M (by omega) (by omega) hI hC hM
    | some j =>
      obtain ⟨hj, hv⟩ := inR_some (by decide) hz
      refine jx_top hv ?_
      rcases (show j = 0 ∨ j = 1 ∨ j = 2 ∨ j = 3 ∨ j = 4 ∨ j = 5 ∨ j = 6 ∨ j = 7 ∨ j = 8 ∨ j = 9 ∨ j = 10 ∨ j = 11 ∨ j = 12 ∨ j = 13 by omega) with rfl | rfl | rfl | rfl | rfl | rfl | rfl | rfl | rfl | rfl | rfl | rfl | rfl | rfl
      · refine jx_tsIn (pc := 39) hX 108 d_L_law_39 (by decide) (by decide) rfl rfl ?_
        exact lawc_build htr hX C hI hC hM hk hcl hsl next
      · refine jx_tsIn (pc := 39) hX 176 d_L_law_39 (by decide) (by decide) rfl rfl ?_
        exact lawc_balancer htr hX C hI hC hM hk hcl hsl next
      · refine jx_tsIn (pc := 39) hX 244 d_L_law_39 (by decide) (by decide) rfl rfl ?_
        exact lawc_exit htr hX C hI hC hM hk hcl hsl next
      · refine jx_tsIn (pc := 39) hX 312 d_L_law_39 (by decide) (by decide) rfl rfl ?_
        by_cases hb : xs (k + 2) = 0
        · exact lawc_enterz htr hX C hI hC hM hk hcl hsl hb next
        · exact lawc_entern htr hX C hI hC hM hk hcl hsl hb next
      · refine jx_tsIn (pc := 39) hX 396 d_L_law_39 (by decide) (by decide) rfl rfl ?_
        exact lawc_move htr hX C hI hC hM hk hcl hsl next
      · refine jx_tsIn (pc := 39) hX 452 d_L_law_39 (by decide) (by decide) rfl rfl ?_
        exact lawc_deliver htr hX C hI hC hM hk hcl hsl next
      · refine jx_tsIn (pc := 39) hX 508 d_L_law_39 (by decide) (by decide) rfl rfl ?_
        exact lawc_lose htr hX C hI hC hM hk hcl hsl next
      · refine jx_tsIn (pc := 39) hX 544 d_L_law_39 (by decide) (by decide) rfl rfl ?_
        exact lawc_twin htr hX C hI hC hM hk hcl hsl next
      · refine jx_tsIn (pc := 39) hX 580 d_L_law_39 (by decide) (by decide) rfl rfl ?_
        exact lawc_letter htr hX C hI hC hM hk hcl hsl next
      · refine jx_tsIn (pc := 39) hX 648 d_L_law_39 (by decide) (by decide) rfl rfl ?_
        exact lawc_resend htr hX C hI hC hM hk hcl hsl next
      · refine jx_tsIn (pc := 39) hX 661 d_L_law_39 (by decide) (by decide) rfl rfl ?_
        by_cases hb : xs (k + 2) = 0
        · exact lawc_stationz htr hX C hI hC hM hk hcl hsl hb next
        · exact lawc_stationn htr hX C hI hC hM hk hcl hsl hb next
      · refine jx_tsIn (pc := 39) hX 725 d_L_law_39 (by decide) (by decide) rfl rfl ?_
        exact lawc_token htr hX C hI hC hM hk hcl hsl next
      · refine jx_tsIn (pc := 39) hX 793 d_L_law_39 (by decide) (by decide) rfl rfl ?_
        exact lawc_about htr hX C hI hC hM hk hcl hsl next
      · refine jx_tsIn (pc := 39) hX 849 d_L_law_39 (by decide) (by decide) rfl rfl ?_
        exact lawc_settle htr hX C hI hC hM hk hcl hsl next
