set_option maxRecDepth 100000 in
set_option maxHeartbeats 4000000 in
theorem t_B_has {l : Launch} {D : va_G} {ad : Nat → Nat} {ac : Nat → ClassId} (σ : St) (i : Int32) : jMp l (yC D ad ac) mt_B_has TT (rmk 0) [.ref (ad 23), .int i] σ (fun r => r = if 0 ≤ i ∧ i < σ.1 6 then 1 else 0) := by
  refine jMp_of (by decide) (Nat.le_of_ble_eq_true rfl) (List.forall_mem_cons.mpr ⟨rfl, List.forall_mem_cons.mpr ⟨rfl, fun _ h => absurd h List.not_mem_nil⟩⟩) ?_
  intro X A hX
  have hX : jX X (yC D ad ac) A b_B_has 2 RB (mt_B_has.w :: TT) (rmk 0) (some .boolean) := hX
  show jW l X (yC D ad ac) A 2 0 0 (k0 X) (jQp X (fun r => r = if 0 ≤ i ∧ i < σ.1 6 then 1 else 0)) σ 0 [(0, .ref (ad 23)), (1, .int i)] []
  refine jx_iload_n (pc := 0) hX d_B_has_0 rfl rfl ?_
  refine jx_if_lt (pc := 1) hX 16 d_B_has_1 rfl (fun h1 => ?_) (fun h1 => ?_)
  · refine jx_iconst (pc := 16) hX (v := 0) d_B_has_16 rfl ?_
    exact jx_zretp (pc := 17) hX d_B_has_17 rfl ((if_neg (fun q => absurd q.1 (Int32.not_le.mpr h1))).symm)
  · refine jx_iload_n (pc := 4) hX d_B_has_4 rfl rfl ?_
    refine jx_aload_n (pc := 5) hX d_B_has_5 rfl rfl ?_
    refine g_B_21 (pc := 6) hX d_B_has_6 ?_
    refine jx_icmp_ge (pc := 9) hX 16 d_B_has_9 rfl (fun h9 => ?_) (fun h9 => ?_)
    · refine jx_iconst (pc := 16) hX (v := 0) d_B_has_16 rfl ?_
      exact jx_zretp (pc := 17) hX d_B_has_17 rfl ((if_neg (fun q => absurd q.2 (Int32.not_lt.mpr h9))).symm)
    · refine jx_iconst (pc := 12) hX (v := 1) d_B_has_12 rfl ?_
      refine jx_goto (pc := 13) hX 17 d_B_has_13 rfl ?_
      exact jx_zretp (pc := 17) hX d_B_has_17 rfl ((if_pos ⟨Int32.not_lt.mp h1, Int32.not_le.mp h9⟩).symm)
set_option maxRecDepth 100000 in
set_option maxHeartbeats 4000000 in
theorem t_B_hasRoom {l : Launch} {D : va_G} {ad : Nat → Nat} {ac : Nat → ClassId} (σ : St) (n : Nat) (hn : n < 2 ^ 31) (hs : σ.1 6 = nI n) : jMp l (yC D ad ac) mt_B_hasRoom TT (rmk 0) [.ref (ad 23)] σ (fun r => r = eB (decide (n < 60))) := by
  refine jMp_of (by decide) (Nat.le_of_ble_eq_true rfl) (List.forall_mem_cons.mpr ⟨rfl, fun _ h => absurd h List.not_mem_nil⟩) ?_
  intro X A hX
  have hX : jX X (yC D ad ac) A b_B_hasRoom 1 RB (mt_B_hasRoom.w :: TT) (rmk 0) (some .boolean) := hX
  show jW l X (yC D ad ac) A 1 0 0 (k0 X) (jQp X (fun r => r = eB (decide (n < 60)))) σ 0 [(0, .ref (ad 23))] []
  refine jx_aload_n (pc := 0) hX d_B_hasRoom_0 rfl rfl ?_
  refine g_B_21 (pc := 1) hX d_B_hasRoom_1 ?_
  refine jx_top (y := nI n) (hs) ?_
  refine jx_bipush (pc := 4) hX (v := 60) d_B_hasRoom_4 rfl ?_
  refine jx_icmp_ge (pc := 6) hX 13 d_B_hasRoom_6 rfl (fun h6 => ?_) (fun h6 => ?_)
  · refine jx_iconst (pc := 13) hX (v := 0) d_B_hasRoom_13 rfl ?_
    exact jx_zretp (pc := 14) hX d_B_hasRoom_14 rfl (by rw [decide_eq_false (Nat.not_lt.mpr ((nI_leI (by decide) hn).mp h6))]; rfl)
  · refine jx_iconst (pc := 9) hX (v := 1) d_B_hasRoom_9 rfl ?_
    refine jx_goto (pc := 10) hX 14 d_B_hasRoom_10 rfl ?_
    exact jx_zretp (pc := 14) hX d_B_hasRoom_14 rfl (by rw [decide_eq_true (Nat.lt_of_not_le (fun q => h6 (nI_le q hn)))]; rfl)
set_option maxRecDepth 100000 in
set_option maxHeartbeats 4000000 in
theorem t_T_has {l : Launch} {D : va_G} {ad : Nat → Nat} {ac : Nat → ClassId} (σ : St) (i : Int32) : jMp l (yC D ad ac) mt_T_has TT (rmk 0) [.ref (ad 22), .int i] σ (fun r => r = if 0 ≤ i ∧ i < σ.1 4 then 1 else 0) := by
  refine jMp_of (by decide) (Nat.le_of_ble_eq_true rfl) (List.forall_mem_cons.mpr ⟨rfl, List.forall_mem_cons.mpr ⟨rfl, fun _ h => absurd h List.not_mem_nil⟩⟩) ?_
  intro X A hX
  have hX : jX X (yC D ad ac) A b_T_has 2 RT (mt_T_has.w :: TT) (rmk 0) (some .boolean) := hX
  show jW l X (yC D ad ac) A 2 0 0 (k0 X) (jQp X (fun r => r = if 0 ≤ i ∧ i < σ.1 4 then 1 else 0)) σ 0 [(0, .ref (ad 22)), (1, .int i)] []
  refine jx_iload_n (pc := 0) hX d_T_has_0 rfl rfl ?_
  refine jx_if_lt (pc := 1) hX 16 d_T_has_1 rfl (fun h1 => ?_) (fun h1 => ?_)
  · refine jx_iconst (pc := 16) hX (v := 0) d_T_has_16 rfl ?_
    exact jx_zretp (pc := 17) hX d_T_has_17 rfl ((if_neg (fun q => absurd q.1 (Int32.not_le.mpr h1))).symm)
  · refine jx_iload_n (pc := 4) hX d_T_has_4 rfl rfl ?_
    refine jx_aload_n (pc := 5) hX d_T_has_5 rfl rfl ?_
    refine g_T_37 (pc := 6) hX d_T_has_6 ?_
    refine jx_icmp_ge (pc := 9) hX 16 d_T_has_9 rfl (fun h9 => ?_) (fun h9 => ?_)
    · refine jx_iconst (pc := 16) hX (v := 0) d_T_has_16 rfl ?_
      exact jx_zretp (pc := 17) hX d_T_has_17 rfl ((if_neg (fun q => absurd q.2 (Int32.not_lt.mpr h9))).symm)
    · refine jx_iconst (pc := 12) hX (v := 1) d_T_has_12 rfl ?_
      refine jx_goto (pc := 13) hX 17 d_T_has_13 rfl ?_
      exact jx_zretp (pc := 17) hX d_T_has_17 rfl ((if_pos ⟨Int32.not_lt.mp h1, Int32.not_le.mp h9⟩).symm)
set_option maxRecDepth 100000 in
set_option maxHeartbeats 4000000 in
theorem t_B_clear {l : Launch} {D : va_G} {ad : Nat → Nat} {ac : Nat → ClassId} (σ : St) : jMv l (yC D ad ac) mt_B_clear TT (rmk 0) [.ref (ad 23)] σ (fun u => u = sF σ 6 0) := by
  refine jMv_of (by decide) (Nat.le_of_ble_eq_true rfl) (List.forall_mem_cons.mpr ⟨rfl, fun _ h => absurd h List.not_mem_nil⟩) ?_
  intro X A hX
  have hX : jX X (yC D ad ac) A b_B_clear 1 RB (mt_B_clear.w :: TT) (rmk 0) none := hX
  show jW l X (yC D ad ac) A 1 0 0 kT (jQv X (yC D ad ac) A (fun u => u = sF σ 6 0)) σ 0 [(0, .ref (ad 23))] []
  refine jx_aload_n (pc := 0) hX d_B_clear_0 rfl rfl ?_
  refine jx_iconst (pc := 1) hX (v := 0) d_B_clear_1 rfl ?_
  refine p_B_21 (pc := 2) hX d_B_clear_2 ?_
  exact jx_vret (pc := 5) hX d_B_clear_5 (rfl)
set_option maxRecDepth 100000 in
set_option maxHeartbeats 4000000 in
theorem t_T_clear {l : Launch} {D : va_G} {ad : Nat → Nat} {ac : Nat → ClassId} (σ : St) : jMv l (yC D ad ac) mt_T_clear TT (rmk 0) [.ref (ad 22)] σ (fun u => u = sF (sF σ 4 0) 5 0) := by
  refine jMv_of (by decide) (Nat.le_of_ble_eq_true rfl) (List.forall_mem_cons.mpr ⟨rfl, fun _ h => absurd h List.not_mem_nil⟩) ?_
  intro X A hX
  have hX : jX X (yC D ad ac) A b_T_clear 1 RT (mt_T_clear.w :: TT) (rmk 0) none := hX
  show jW l X (yC D ad ac) A 1 0 0 kT (jQv X (yC D ad ac) A (fun u => u = sF (sF σ 4 0) 5 0)) σ 0 [(0, .ref (ad 22))] []
  refine jx_aload_n (pc := 0) hX d_T_clear_0 rfl rfl ?_
  refine jx_iconst (pc := 1) hX (v := 0) d_T_clear_1 rfl ?_
  refine p_T_37 (pc := 2) hX d_T_clear_2 ?_
  refine jx_aload_n (pc := 5) hX d_T_clear_5 rfl rfl ?_
  refine jx_iconst (pc := 6) hX (v := 0) d_T_clear_6 rfl ?_
  refine p_T_41 (pc := 7) hX d_T_clear_7 ?_
  exact jx_vret (pc := 10) hX d_T_clear_10 (rfl)
set_option maxRecDepth 100000 in
set_option maxHeartbeats 4000000 in
theorem t_T_setOut {l : Launch} {D : va_G} {ad : Nat → Nat} {ac : Nat → ClassId} (σ : St) (t : Nat) (ht : t < 200) : jMv l (yC D ad ac) mt_T_setOut TT (rmk 0) [.ref (ad 22), .int (nI t)] σ (fun u => u = sA (sA σ 14 t (σ.2 14 t + 1)) 11 t 1) := by
  refine jMv_of (by decide) (Nat.le_of_ble_eq_true rfl) (List.forall_mem_cons.mpr ⟨rfl, List.forall_mem_cons.mpr ⟨rfl, fun _ h => absurd h List.not_mem_nil⟩⟩) ?_
  intro X A hX
  have hX : jX X (yC D ad ac) A b_T_setOut 2 RT (mt_T_setOut.w :: TT) (rmk 0) none := hX
  show jW l X (yC D ad ac) A 2 0 0 kT (jQv X (yC D ad ac) A (fun u => u = sA (sA σ 14 t (σ.2 14 t + 1)) 11 t 1)) σ 0 [(0, .ref (ad 22)), (1, .int (nI t))] []
  refine jx_aload_n (pc := 0) hX d_T_setOut_0 rfl rfl ?_
  refine g_T_27 (pc := 1) hX d_T_setOut_1 ?_
  refine jx_iload_n (pc := 4) hX d_T_setOut_4 rfl rfl ?_
  refine jx_dup2 (pc := 5) hX d_T_setOut_5 rfl rfl ?_
  refine jx_iald (pc := 6) hX oC_14 _ rfl ht d_T_setOut_6 ?_
  refine jx_iconst (pc := 7) hX (v := 1) d_T_setOut_7 rfl ?_
  refine jx_iadd (pc := 8) hX d_T_setOut_8 ?_
  refine jx_iast (pc := 9) hX oC_14 _ rfl ht d_T_setOut_9 ?_
  refine jx_aload_n (pc := 10) hX d_T_setOut_10 rfl rfl ?_
  refine g_T_18 (pc := 11) hX d_T_setOut_11 ?_
  refine jx_iload_n (pc := 14) hX d_T_setOut_14 rfl rfl ?_
  refine jx_iconst (pc := 15) hX (v := 1) d_T_setOut_15 rfl ?_
  refine jx_iast (pc := 16) hX oC_11 _ rfl ht d_T_setOut_16 ?_
  exact jx_vret (pc := 17) hX d_T_setOut_17 (rfl)
set_option maxRecDepth 100000 in
set_option maxHeartbeats 4000000 in
theorem t_T_arrive {l : Launch} {D : va_G} {ad : Nat → Nat} {ac : Nat → ClassId} (σ : St) (t : Nat) (ht : t < 200) (x : Int32) : jMv l (yC D ad ac) mt_T_arrive TT (rmk 0) [.ref (ad 22), .int (nI t), .int x] σ (fun u => u = sA (sA σ 10 t x) 11 t 0) := by
  refine jMv_of (by decide) (Nat.le_of_ble_eq_true rfl) (List.forall_mem_cons.mpr ⟨rfl, List.forall_mem_cons.mpr ⟨rfl, List.forall_mem_cons.mpr ⟨rfl, fun _ h => absurd h List.not_mem_nil⟩⟩⟩) ?_
  intro X A hX
  have hX : jX X (yC D ad ac) A b_T_arrive 3 RT (mt_T_arrive.w :: TT) (rmk 0) none := hX
  show jW l X (yC D ad ac) A 3 0 0 kT (jQv X (yC D ad ac) A (fun u => u = sA (sA σ 10 t x) 11 t 0)) σ 0 [(0, .ref (ad 22)), (1, .int (nI t)), (2, .int x)] []
  refine jx_aload_n (pc := 0) hX d_T_arrive_0 rfl rfl ?_
  refine g_T_15 (pc := 1) hX d_T_arrive_1 ?_
  refine jx_iload_n (pc := 4) hX d_T_arrive_4 rfl rfl ?_
  refine jx_iload_n (pc := 5) hX d_T_arrive_5 rfl rfl ?_
  refine jx_iast (pc := 6) hX oC_10 _ rfl ht d_T_arrive_6 ?_
  refine jx_aload_n (pc := 7) hX d_T_arrive_7 rfl rfl ?_
  refine g_T_18 (pc := 8) hX d_T_arrive_8 ?_
  refine jx_iload_n (pc := 11) hX d_T_arrive_11 rfl rfl ?_
  refine jx_iconst (pc := 12) hX (v := 0) d_T_arrive_12 rfl ?_
  refine jx_iast (pc := 13) hX oC_11 _ rfl ht d_T_arrive_13 ?_
  exact jx_vret (pc := 14) hX d_T_arrive_14 (rfl)
set_option maxRecDepth 100000 in
set_option maxHeartbeats 4000000 in
theorem t_T_pass {l : Launch} {D : va_G} {ad : Nat → Nat} {ac : Nat → ClassId} (σ : St) (t : Nat) (ht : t < 200) (x y : Int32) : jMv l (yC D ad ac) mt_T_pass TT (rmk 0) [.ref (ad 22), .int (nI t), .int x, .int y] σ (fun u => u = sA (sA (sA σ 12 t (σ.2 12 t + 1)) 13 t x) 9 t y) := by
  refine jMv_of (by decide) (Nat.le_of_ble_eq_true rfl) (List.forall_mem_cons.mpr ⟨rfl, List.forall_mem_cons.mpr ⟨rfl, List.forall_mem_cons.mpr ⟨rfl, List.forall_mem_cons.mpr ⟨rfl, fun _ h => absurd h List.not_mem_nil⟩⟩⟩⟩) ?_
  intro X A hX
  have hX : jX X (yC D ad ac) A b_T_pass 4 RT (mt_T_pass.w :: TT) (rmk 0) none := hX
  show jW l X (yC D ad ac) A 4 0 0 kT (jQv X (yC D ad ac) A (fun u => u = sA (sA (sA σ 12 t (σ.2 12 t + 1)) 13 t x) 9 t y)) σ 0 [(0, .ref (ad 22)), (1, .int (nI t)), (2, .int x), (3, .int y)] []
  refine jx_aload_n (pc := 0) hX d_T_pass_0 rfl rfl ?_
  refine g_T_21 (pc := 1) hX d_T_pass_1 ?_
  refine jx_iload_n (pc := 4) hX d_T_pass_4 rfl rfl ?_
  refine jx_dup2 (pc := 5) hX d_T_pass_5 rfl rfl ?_
  refine jx_iald (pc := 6) hX oC_12 _ rfl ht d_T_pass_6 ?_
  refine jx_iconst (pc := 7) hX (v := 1) d_T_pass_7 rfl ?_
  refine jx_iadd (pc := 8) hX d_T_pass_8 ?_
  refine jx_iast (pc := 9) hX oC_12 _ rfl ht d_T_pass_9 ?_
  refine jx_aload_n (pc := 10) hX d_T_pass_10 rfl rfl ?_
  refine g_T_24 (pc := 11) hX d_T_pass_11 ?_
  refine jx_iload_n (pc := 14) hX d_T_pass_14 rfl rfl ?_
  refine jx_iload_n (pc := 15) hX d_T_pass_15 rfl rfl ?_
  refine jx_iast (pc := 16) hX oC_13 _ rfl ht d_T_pass_16 ?_
  refine jx_aload_n (pc := 17) hX d_T_pass_17 rfl rfl ?_
  refine g_T_9 (pc := 18) hX d_T_pass_18 ?_
  refine jx_iload_n (pc := 21) hX d_T_pass_21 rfl rfl ?_
  refine jx_iload_n (pc := 22) hX d_T_pass_22 rfl rfl ?_
  refine jx_iast (pc := 23) hX oC_9 _ rfl ht d_T_pass_23 ?_
  exact jx_vret (pc := 24) hX d_T_pass_24 (rfl)
set_option maxRecDepth 100000 in
set_option maxHeartbeats 4000000 in
theorem t_T_finish {l : Launch} {D : va_G} {ad : Nat → Nat} {ac : Nat → ClassId} (σ : St) (t : Nat) (ht : t < 200) (x : Int32) : jMv l (yC D ad ac) mt_T_finish TT (rmk 0) [.ref (ad 22), .int (nI t), .int x] σ (fun u => u = sF (sA (sA σ 15 t x) 11 t 2) 5 (σ.1 5 - 1)) := by
  refine jMv_of (by decide) (Nat.le_of_ble_eq_true rfl) (List.forall_mem_cons.mpr ⟨rfl, List.forall_mem_cons.mpr ⟨rfl, List.forall_mem_cons.mpr ⟨rfl, fun _ h => absurd h List.not_mem_nil⟩⟩⟩) ?_
  intro X A hX
  have hX : jX X (yC D ad ac) A b_T_finish 3 RT (mt_T_finish.w :: TT) (rmk 0) none := hX
  show jW l X (yC D ad ac) A 3 0 0 kT (jQv X (yC D ad ac) A (fun u => u = sF (sA (sA σ 15 t x) 11 t 2) 5 (σ.1 5 - 1))) σ 0 [(0, .ref (ad 22)), (1, .int (nI t)), (2, .int x)] []
  refine jx_aload_n (pc := 0) hX d_T_finish_0 rfl rfl ?_
  refine g_T_30 (pc := 1) hX d_T_finish_1 ?_
  refine jx_iload_n (pc := 4) hX d_T_finish_4 rfl rfl ?_
  refine jx_iload_n (pc := 5) hX d_T_finish_5 rfl rfl ?_
  refine jx_iast (pc := 6) hX oC_15 _ rfl ht d_T_finish_6 ?_
  refine jx_aload_n (pc := 7) hX d_T_finish_7 rfl rfl ?_
  refine g_T_18 (pc := 8) hX d_T_finish_8 ?_
  refine jx_iload_n (pc := 11) hX d_T_finish_11 rfl rfl ?_
  refine jx_iconst (pc := 12) hX (v := 2) d_T_finish_12 rfl ?_
  refine jx_iast (pc := 13) hX oC_11 _ rfl ht d_T_finish_13 ?_
  refine jx_aload_n (pc := 14) hX d_T_finish_14 rfl rfl ?_
  refine jx_dup (pc := 15) hX d_T_finish_15 rfl ?_
  refine g_T_41 (pc := 16) hX d_T_finish_16 ?_
  refine jx_iconst (pc := 19) hX (v := 1) d_T_finish_19 rfl ?_
  refine jx_isub (pc := 20) hX d_T_finish_20 ?_
  refine p_T_41 (pc := 21) hX d_T_finish_21 ?_
  exact jx_vret (pc := 24) hX d_T_finish_24 (rfl)
set_option maxRecDepth 100000 in
set_option maxHeartbeats 4000000 in
theorem t_B_post {l : Launch} {D : va_G} {ad : Nat → Nat} {ac : Nat → ClassId} (σ : St) (n : Nat) (hn : n < 60) (hs : σ.1 6 = nI n) (x y z : Int32) : jMv l (yC D ad ac) mt_B_post TT (rmk 0) [.ref (ad 23), .int x, .int y, .int z] σ (fun u => u = sF (sA (sA (sA σ 17 n x) 18 n y) 19 n z) 6 (σ.1 6 + 1)) := by
  refine jMv_of (by decide) (Nat.le_of_ble_eq_true rfl) (List.forall_mem_cons.mpr ⟨rfl, List.forall_mem_cons.mpr ⟨rfl, List.forall_mem_cons.mpr ⟨rfl, List.forall_mem_cons.mpr ⟨rfl, fun _ h => absurd h List.not_mem_nil⟩⟩⟩⟩) ?_
  intro X A hX
  have hX : jX X (yC D ad ac) A b_B_post 4 RB (mt_B_post.w :: TT) (rmk 0) none := hX
  show jW l X (yC D ad ac) A 4 0 0 kT (jQv X (yC D ad ac) A (fun u => u = sF (sA (sA (sA σ 17 n x) 18 n y) 19 n z) 6 (σ.1 6 + 1))) σ 0 [(0, .ref (ad 23)), (1, .int x), (2, .int y), (3, .int z)] []
  refine jx_aload_n (pc := 0) hX d_B_post_0 rfl rfl ?_
  refine g_B_9 (pc := 1) hX d_B_post_1 ?_
  refine jx_aload_n (pc := 4) hX d_B_post_4 rfl rfl ?_
  refine g_B_21 (pc := 5) hX d_B_post_5 ?_
  refine jx_iload_n (pc := 8) hX d_B_post_8 rfl rfl ?_
  refine jx_iast (pc := 9) hX oC_17 _ hs hn d_B_post_9 ?_
  refine jx_aload_n (pc := 10) hX d_B_post_10 rfl rfl ?_
  refine g_B_15 (pc := 11) hX d_B_post_11 ?_
  refine jx_aload_n (pc := 14) hX d_B_post_14 rfl rfl ?_
  refine g_B_21 (pc := 15) hX d_B_post_15 ?_
  refine jx_iload_n (pc := 18) hX d_B_post_18 rfl rfl ?_
  refine jx_iast (pc := 19) hX oC_18 _ hs hn d_B_post_19 ?_
  refine jx_aload_n (pc := 20) hX d_B_post_20 rfl rfl ?_
  refine g_B_18 (pc := 21) hX d_B_post_21 ?_
  refine jx_aload_n (pc := 24) hX d_B_post_24 rfl rfl ?_
  refine g_B_21 (pc := 25) hX d_B_post_25 ?_
  refine jx_iload_n (pc := 28) hX d_B_post_28 rfl rfl ?_
  refine jx_iast (pc := 29) hX oC_19 _ hs hn d_B_post_29 ?_
  refine jx_aload_n (pc := 30) hX d_B_post_30 rfl rfl ?_
  refine jx_dup (pc := 31) hX d_B_post_31 rfl ?_
  refine g_B_21 (pc := 32) hX d_B_post_32 ?_
  refine jx_iconst (pc := 35) hX (v := 1) d_B_post_35 rfl ?_
  refine jx_iadd (pc := 36) hX d_B_post_36 ?_
  refine p_B_21 (pc := 37) hX d_B_post_37 ?_
  exact jx_vret (pc := 40) hX d_B_post_40 (rfl)
set_option maxRecDepth 100000 in
set_option maxHeartbeats 4000000 in
theorem t_T_add {l : Launch} {D : va_G} {ad : Nat → Nat} {ac : Nat → ClassId} (σ : St) (n : Nat) (hn : n < 200) (hs : σ.1 4 = nI n) (x z : Int32) (hz : vp_nar .boolean z = z) : jMi l (yC D ad ac) mt_T_add TT (rmk 0) [.ref (ad 22), .int x, .int z] σ (fun r u => r = nI n ∧ u = sA (sA (sA (sA (sA (sA (sA (sA (sF (sF σ 4 (nI n + 1)) 5 (σ.1 5 + 1)) 9 n x) 10 n (-1)) 11 n 0) 12 n 0) 13 n (-1)) 14 n 0) 15 n (-1)) 16 n z) := by
  refine jMi_of (by decide) (Nat.le_of_ble_eq_true rfl) (List.forall_mem_cons.mpr ⟨rfl, List.forall_mem_cons.mpr ⟨rfl, List.forall_mem_cons.mpr ⟨rfl, fun _ h => absurd h List.not_mem_nil⟩⟩⟩) ?_
  intro X A hX
  have hX : jX X (yC D ad ac) A b_T_add 4 RT (mt_T_add.w :: TT) (rmk 0) (some .int) := hX
  show jW l X (yC D ad ac) A 4 0 0 kT (jQi X (yC D ad ac) A (fun r u => r = nI n ∧ u = sA (sA (sA (sA (sA (sA (sA (sA (sF (sF σ 4 (nI n + 1)) 5 (σ.1 5 + 1)) 9 n x) 10 n (-1)) 11 n 0) 12 n 0) 13 n (-1)) 14 n 0) 15 n (-1)) 16 n z)) σ 0 [(0, .ref (ad 22)), (1, .int x), (2, .int z)] []
  refine jx_aload_n (pc := 0) hX d_T_add_0 rfl rfl ?_
  refine g_T_37 (pc := 1) hX d_T_add_1 ?_
  refine jx_top (y := nI n) (hs) ?_
  refine jx_istore_n (pc := 4) hX d_T_add_4 rfl (by decide) (L' := [(0, _), (1, _), (2, _), (3, _)]) rfl ?_
  refine jx_aload_n (pc := 5) hX d_T_add_5 rfl rfl ?_
  refine jx_dup (pc := 6) hX d_T_add_6 rfl ?_
  refine g_T_37 (pc := 7) hX d_T_add_7 ?_
  refine jx_top (y := nI n) (hs) ?_
  refine jx_iconst (pc := 10) hX (v := 1) d_T_add_10 rfl ?_
  refine jx_iadd (pc := 11) hX d_T_add_11 ?_
  refine p_T_37 (pc := 12) hX d_T_add_12 ?_
  refine jx_aload_n (pc := 15) hX d_T_add_15 rfl rfl ?_
  refine jx_dup (pc := 16) hX d_T_add_16 rfl ?_
  refine g_T_41 (pc := 17) hX d_T_add_17 ?_
  refine jx_iconst (pc := 20) hX (v := 1) d_T_add_20 rfl ?_
  refine jx_iadd (pc := 21) hX d_T_add_21 ?_
  refine p_T_41 (pc := 22) hX d_T_add_22 ?_
  refine jx_aload_n (pc := 25) hX d_T_add_25 rfl rfl ?_
  refine g_T_9 (pc := 26) hX d_T_add_26 ?_
  refine jx_iload_n (pc := 29) hX d_T_add_29 rfl rfl ?_
  refine jx_iload_n (pc := 30) hX d_T_add_30 rfl rfl ?_
  refine jx_iast (pc := 31) hX oC_9 _ rfl hn d_T_add_31 ?_
  refine jx_aload_n (pc := 32) hX d_T_add_32 rfl rfl ?_
  refine g_T_15 (pc := 33) hX d_T_add_33 ?_
  refine jx_iload_n (pc := 36) hX d_T_add_36 rfl rfl ?_
  refine jx_iconst (pc := 37) hX (v := -1) d_T_add_37 rfl ?_
  refine jx_iast (pc := 38) hX oC_10 _ rfl hn d_T_add_38 ?_
  refine jx_aload_n (pc := 39) hX d_T_add_39 rfl rfl ?_
  refine g_T_18 (pc := 40) hX d_T_add_40 ?_
  refine jx_iload_n (pc := 43) hX d_T_add_43 rfl rfl ?_
  refine jx_iconst (pc := 44) hX (v := 0) d_T_add_44 rfl ?_
  refine jx_iast (pc := 45) hX oC_11 _ rfl hn d_T_add_45 ?_
  refine jx_aload_n (pc := 46) hX d_T_add_46 rfl rfl ?_
  refine g_T_21 (pc := 47) hX d_T_add_47 ?_
  refine jx_iload_n (pc := 50) hX d_T_add_50 rfl rfl ?_
  refine jx_iconst (pc := 51) hX (v := 0) d_T_add_51 rfl ?_
  refine jx_iast (pc := 52) hX oC_12 _ rfl hn d_T_add_52 ?_
  refine jx_aload_n (pc := 53) hX d_T_add_53 rfl rfl ?_
  refine g_T_24 (pc := 54) hX d_T_add_54 ?_
  refine jx_iload_n (pc := 57) hX d_T_add_57 rfl rfl ?_
  refine jx_iconst (pc := 58) hX (v := -1) d_T_add_58 rfl ?_
  refine jx_iast (pc := 59) hX oC_13 _ rfl hn d_T_add_59 ?_
  refine jx_aload_n (pc := 60) hX d_T_add_60 rfl rfl ?_
  refine g_T_27 (pc := 61) hX d_T_add_61 ?_
  refine jx_iload_n (pc := 64) hX d_T_add_64 rfl rfl ?_
  refine jx_iconst (pc := 65) hX (v := 0) d_T_add_65 rfl ?_
  refine jx_iast (pc := 66) hX oC_14 _ rfl hn d_T_add_66 ?_
  refine jx_aload_n (pc := 67) hX d_T_add_67 rfl rfl ?_
  refine g_T_30 (pc := 68) hX d_T_add_68 ?_
  refine jx_iload_n (pc := 71) hX d_T_add_71 rfl rfl ?_
  refine jx_iconst (pc := 72) hX (v := -1) d_T_add_72 rfl ?_
  refine jx_iast (pc := 73) hX oC_15 _ rfl hn d_T_add_73 ?_
  refine jx_aload_n (pc := 74) hX d_T_add_74 rfl rfl ?_
  refine g_T_33 (pc := 75) hX d_T_add_75 ?_
  refine jx_iload_n (pc := 78) hX d_T_add_78 rfl rfl ?_
  refine jx_iload_n (pc := 79) hX d_T_add_79 rfl rfl ?_
  refine jx_zast (pc := 80) hX oC_16 _ rfl hn hz d_T_add_80 ?_
  refine jx_iload_n (pc := 81) hX d_T_add_81 rfl rfl ?_
  exact jx_iret (pc := 82) hX d_T_add_82 (⟨rfl, rfl⟩)
set_option maxRecDepth 100000 in
set_option maxHeartbeats 4000000 in
theorem t_B_takeOut {l : Launch} {D : va_G} {ad : Nat → Nat} {ac : Nat → ClassId} (σ : St) (n i : Nat) (hi : i < n) (hn : n ≤ 60) (hs : σ.1 6 = nI n) : jMv l (yC D ad ac) mt_B_takeOut TT (rmk 1) [.ref (ad 23), .int (nI i)] σ (fun u => u = sF (sR (sR (sR σ 17 (va_cpy (σ.2 17) (σ.2 17) (i + 1) i (n - i - 1))) 18 (va_cpy (σ.2 18) (σ.2 18) (i + 1) i (n - i - 1))) 19 (va_cpy (σ.2 19) (σ.2 19) (i + 1) i (n - i - 1))) 6 (σ.1 6 - 1)) := by
  have hb : nI n - nI i - 1 = nI (n - i - 1) := by rw [pk_sub (by omega), nI_c1, pk_sub (by omega)]
  refine jMv_of (by decide) (Nat.le_of_ble_eq_true rfl) (List.forall_mem_cons.mpr ⟨rfl, List.forall_mem_cons.mpr ⟨rfl, fun _ h => absurd h List.not_mem_nil⟩⟩) ?_
  intro X A hX
  have hX : jX X (yC D ad ac) A b_B_takeOut 3 RB (mt_B_takeOut.w :: TT) (rmk 1) none := hX
  show jW l X (yC D ad ac) A 3 0 0 kT (jQv X (yC D ad ac) A (fun u => u = sF (sR (sR (sR σ 17 (va_cpy (σ.2 17) (σ.2 17) (i + 1) i (n - i - 1))) 18 (va_cpy (σ.2 18) (σ.2 18) (i + 1) i (n - i - 1))) 19 (va_cpy (σ.2 19) (σ.2 19) (i + 1) i (n - i - 1))) 6 (σ.1 6 - 1))) σ 0 [(0, .ref (ad 23)), (1, .int (nI i))] []
  refine jx_aload_n (pc := 0) hX d_B_takeOut_0 rfl rfl ?_
  refine g_B_21 (pc := 1) hX d_B_takeOut_1 ?_
  refine jx_top (y := nI n) (hs) ?_
  refine jx_iload_n (pc := 4) hX d_B_takeOut_4 rfl rfl ?_
  refine jx_isub (pc := 5) hX d_B_takeOut_5 ?_
  refine jx_iconst (pc := 6) hX (v := 1) d_B_takeOut_6 rfl ?_
  refine jx_isub (pc := 7) hX d_B_takeOut_7 ?_
  refine jx_istore_n (pc := 8) hX d_B_takeOut_8 rfl (by decide) (L' := [(0, _), (1, _), (2, _)]) rfl ?_
  refine jx_aload_n (pc := 9) hX d_B_takeOut_9 rfl rfl ?_
  refine g_B_9 (pc := 10) hX d_B_takeOut_10 ?_
  refine jx_iload_n (pc := 13) hX d_B_takeOut_13 rfl rfl ?_
  refine jx_iconst (pc := 14) hX (v := 1) d_B_takeOut_14 rfl ?_
  refine jx_iadd (pc := 15) hX d_B_takeOut_15 ?_
  refine jx_aload_n (pc := 16) hX d_B_takeOut_16 rfl rfl ?_
  refine g_B_9 (pc := 17) hX d_B_takeOut_17 ?_
  refine jx_iload_n (pc := 20) hX d_B_takeOut_20 rfl rfl ?_
  refine jx_iload_n (pc := 21) hX d_B_takeOut_21 rfl rfl ?_
  refine jx_copy (pc := 22) hX w_B_25 oC_17 oC_17 (i + 1) i (n - i - 1) (nI_1 i) rfl hb (show i + 1 + (n - i - 1) ≤ 60 by omega) (show i + (n - i - 1) ≤ 60 by omega) (Nat.le_of_ble_eq_true rfl) (Nat.le_of_ble_eq_true rfl) d_B_takeOut_22 ?_
  refine jx_aload_n (pc := 25) hX d_B_takeOut_25 rfl rfl ?_
  refine g_B_15 (pc := 26) hX d_B_takeOut_26 ?_
  refine jx_iload_n (pc := 29) hX d_B_takeOut_29 rfl rfl ?_
  refine jx_iconst (pc := 30) hX (v := 1) d_B_takeOut_30 rfl ?_
  refine jx_iadd (pc := 31) hX d_B_takeOut_31 ?_
  refine jx_aload_n (pc := 32) hX d_B_takeOut_32 rfl rfl ?_
  refine g_B_15 (pc := 33) hX d_B_takeOut_33 ?_
  refine jx_iload_n (pc := 36) hX d_B_takeOut_36 rfl rfl ?_
  refine jx_iload_n (pc := 37) hX d_B_takeOut_37 rfl rfl ?_
  refine jx_copy (pc := 38) hX w_B_25 oC_18 oC_18 (i + 1) i (n - i - 1) (nI_1 i) rfl hb (show i + 1 + (n - i - 1) ≤ 60 by omega) (show i + (n - i - 1) ≤ 60 by omega) (Nat.le_of_ble_eq_true rfl) (Nat.le_of_ble_eq_true rfl) d_B_takeOut_38 ?_
  refine jx_aload_n (pc := 41) hX d_B_takeOut_41 rfl rfl ?_
  refine g_B_18 (pc := 42) hX d_B_takeOut_42 ?_
  refine jx_iload_n (pc := 45) hX d_B_takeOut_45 rfl rfl ?_
  refine jx_iconst (pc := 46) hX (v := 1) d_B_takeOut_46 rfl ?_
  refine jx_iadd (pc := 47) hX d_B_takeOut_47 ?_
  refine jx_aload_n (pc := 48) hX d_B_takeOut_48 rfl rfl ?_
  refine g_B_18 (pc := 49) hX d_B_takeOut_49 ?_
  refine jx_iload_n (pc := 52) hX d_B_takeOut_52 rfl rfl ?_
  refine jx_iload_n (pc := 53) hX d_B_takeOut_53 rfl rfl ?_
  refine jx_copy (pc := 54) hX w_B_25 oC_19 oC_19 (i + 1) i (n - i - 1) (nI_1 i) rfl hb (show i + 1 + (n - i - 1) ≤ 60 by omega) (show i + (n - i - 1) ≤ 60 by omega) (Nat.le_of_ble_eq_true rfl) (Nat.le_of_ble_eq_true rfl) d_B_takeOut_54 ?_
  refine jx_aload_n (pc := 57) hX d_B_takeOut_57 rfl rfl ?_
  refine jx_dup (pc := 58) hX d_B_takeOut_58 rfl ?_
  refine g_B_21 (pc := 59) hX d_B_takeOut_59 ?_
  refine jx_iconst (pc := 62) hX (v := 1) d_B_takeOut_62 rfl ?_
  refine jx_isub (pc := 63) hX d_B_takeOut_63 ?_
  refine p_B_21 (pc := 64) hX d_B_takeOut_64 ?_
  exact jx_vret (pc := 67) hX d_B_takeOut_67 (rfl)
set_option maxRecDepth 100000 in
set_option maxHeartbeats 4000000 in
theorem t_B_holds {l : Launch} {D : va_G} {ad : Nat → Nat} {ac : Nat → ClassId} (σ : St) (M : Ms) (hI : Inv M) (hM : repC σ M) (t : Nat) (ht : t < 2 ^ 31) (wy : Int32) : jMp l (yC D ad ac) mt_B_holds TT (rmk 0) [.ref (ad 23), .int (nI t), .int wy] σ (fun r => r = eB (hasF M.la M.lw t wy M.nl)) := by
  obtain ⟨⟨⟨s0, s1, s2, s3⟩, h0, h1, h2, h3, h4, h5, h6, h7, h8, h9, h10, h11, h12, h13⟩, hlf, hpl⟩ := hM
  obtain ⟨i1, i2, i3, i4, i5, i6, i7, i8⟩ := hI
  refine jMp_of (by decide) (Nat.le_of_ble_eq_true rfl) (List.forall_mem_cons.mpr ⟨rfl, List.forall_mem_cons.mpr ⟨rfl, List.forall_mem_cons.mpr ⟨rfl, fun _ h => absurd h List.not_mem_nil⟩⟩⟩) ?_
  intro X A hX
  have hX : jX X (yC D ad ac) A b_B_holds 4 RB (mt_B_holds.w :: TT) (rmk 0) (some .boolean) := hX
  show jW l X (yC D ad ac) A 4 0 0 (k0 X) (jQp X (fun r => r = eB (hasF M.la M.lw t wy M.nl))) σ 0 [(0, .ref (ad 23)), (1, .int (nI t)), (2, .int wy)] []
  have loop : ∀ (fu : Nat) (k : Nat), M.nl - k = fu → k ≤ M.nl → (∀ j, j < k → ¬ (M.la j = t ∧ M.lw j = wy)) → jW l X (yC D ad ac) A 4 0 0 (k0 X) (jQp X (fun r => r = eB (hasF M.la M.lw t wy M.nl))) σ 2 [(0, .ref (ad 23)), (1, .int (nI t)), (2, .int wy), (3, .int (nI k))] [] := by
    intro fu
    induction fu using Nat.strongRecOn with
    | ind fu ih =>
      intro k hn hk hv
      refine jx_iload_n (pc := 2) hX d_B_holds_2 rfl rfl ?_
      refine jx_aload_n (pc := 3) hX d_B_holds_3 rfl rfl ?_
      refine g_B_21 (pc := 4) hX d_B_holds_4 ?_
      refine jx_top (y := nI M.nl) (s3) ?_
      refine jx_icmp_ge (pc := 7) hX 38 d_B_holds_7 rfl (fun h7a => ?_) (fun h7a => ?_)
      · have hkl : ¬ k < M.nl := Nat.not_lt.mpr ((nI_leI (by omega) (by omega)).mp h7a)
        refine jx_iconst (pc := 38) hX (v := 0) d_B_holds_38 rfl ?_
        exact jx_zretp (pc := 39) hX d_B_holds_39 rfl (by rw [hasF_false M.nl (fun j hj => hv j (by omega))]; rfl)
      · have hkl : k < M.nl := Nat.lt_of_not_le (fun q => h7a ((nI_leI (by omega) (by omega)).mpr q))
        have i9 := i7 k hkl
        refine jx_aload_n (pc := 10) hX d_B_holds_10 rfl rfl ?_
        refine g_B_9 (pc := 11) hX d_B_holds_11 ?_
        refine jx_iload_n (pc := 14) hX d_B_holds_14 rfl rfl ?_
        refine jx_iald (pc := 15) hX oC_17 _ rfl (show k < 60 by omega) d_B_holds_15 ?_
        refine jx_top (y := nI (M.la k)) (h8 k hkl) ?_
        refine jx_iload_n (pc := 16) hX d_B_holds_16 rfl rfl ?_
        refine jx_icmp_ne (pc := 17) hX 32 d_B_holds_17 rfl (fun e17 => ?_) (fun e17 => ?_)
        · have hno : ¬ (M.la k = t ∧ M.lw k = wy) := fun q => e17 (by rw [q.1])
          refine jx_iinc (pc := 32) hX (v := nI (k + 1)) d_B_holds_32 rfl (nI_1 k) (by decide) (L' := [(0, _), (1, _), (2, _), (3, _)]) rfl ?_
          refine jx_goto (pc := 35) hX 2 d_B_holds_35 rfl ?_
          exact ih _ (by omega) (k + 1) rfl (by omega) (fun j hj => (Nat.lt_or_ge j k).elim (hv j) (fun q => (show j = k by omega) ▸ hno))
        · refine jx_aload_n (pc := 20) hX d_B_holds_20 rfl rfl ?_
          refine g_B_15 (pc := 21) hX d_B_holds_21 ?_
          refine jx_iload_n (pc := 24) hX d_B_holds_24 rfl rfl ?_
          refine jx_iald (pc := 25) hX oC_18 _ rfl (show k < 60 by omega) d_B_holds_25 ?_
          refine jx_top (y := M.lw k) (h9 k hkl) ?_
          refine jx_iload_n (pc := 26) hX d_B_holds_26 rfl rfl ?_
          refine jx_icmp_ne (pc := 27) hX 32 d_B_holds_27 rfl (fun e27 => ?_) (fun e27 => ?_)
          · have hno : ¬ (M.la k = t ∧ M.lw k = wy) := fun q => e27 q.2
            refine jx_iinc (pc := 32) hX (v := nI (k + 1)) d_B_holds_32 rfl (nI_1 k) (by decide) (L' := [(0, _), (1, _), (2, _), (3, _)]) rfl ?_
            refine jx_goto (pc := 35) hX 2 d_B_holds_35 rfl ?_
            exact ih _ (by omega) (k + 1) rfl (by omega) (fun j hj => (Nat.lt_or_ge j k).elim (hv j) (fun q => (show j = k by omega) ▸ hno))
          · refine jx_iconst (pc := 30) hX (v := 1) d_B_holds_30 rfl ?_
            exact jx_zretp (pc := 31) hX d_B_holds_31 rfl (by rw [hasF_true M.nl k hkl ((nI_eq (by omega) ht).mp e17) e27]; rfl)
  refine jx_iconst (pc := 0) hX (v := 0) d_B_holds_0 rfl ?_
  refine jx_istore_n (pc := 1) hX d_B_holds_1 rfl (by decide) (L' := [(0, _), (1, _), (2, _), (3, _)]) rfl ?_
  exact loop _ 0 rfl (Nat.zero_le _) (fun k hk => absurd hk (Nat.not_lt_zero k))
set_option maxRecDepth 100000 in
set_option maxHeartbeats 4000000 in
theorem t_P_balancerBehind {l : Launch} {D : va_G} {ad : Nat → Nat} {ac : Nat → ClassId} (σ : St) (w wi n : Nat) (hw : Wok w) (hwi : wi < w) (hn9 : n ≤ nb w) (hpl : planC σ w) : jMp l (yC D ad ac) mt_P_balancerBehind TT (rmk 0) [.ref (ad 21), .int (nI wi), .int (eP n)] σ (fun r => r = eO (nxB w wi n)) := by
  obtain ⟨p1, p2, p3, p4, p5, p6⟩ := hpl
  have hnb := nb_le w
  have hw8 := hw.le
  refine jMp_of (by decide) (Nat.le_of_ble_eq_true rfl) (List.forall_mem_cons.mpr ⟨rfl, List.forall_mem_cons.mpr ⟨rfl, List.forall_mem_cons.mpr ⟨rfl, fun _ h => absurd h List.not_mem_nil⟩⟩⟩) ?_
  intro X A hX
  have hX : jX X (yC D ad ac) A b_P_balancerBehind 4 RP (mt_P_balancerBehind.w :: TT) (rmk 0) (some .int) := hX
  show jW l X (yC D ad ac) A 4 0 0 (k0 X) (jQp X (fun r => r = eO (nxB w wi n))) σ 0 [(0, .ref (ad 21)), (1, .int (nI wi)), (2, .int (eP n))] []
  have loop : ∀ (fu : Nat) (b : Nat), nb w - b = fu → b ≤ nb w → nxF w wi (nb w - b) b = nxB w wi n → jW l X (yC D ad ac) A 4 0 0 (k0 X) (jQp X (fun r => r = eO (nxB w wi n))) σ 4 [(0, .ref (ad 21)), (1, .int (nI wi)), (2, .int (eP n)), (3, .int (nI b))] [] := by
    intro fu
    induction fu using Nat.strongRecOn with
    | ind fu ih =>
      intro b hn hbl hq
      refine jx_iload_n (pc := 4) hX d_P_balancerBehind_4 rfl rfl ?_
      refine jx_aload_n (pc := 5) hX d_P_balancerBehind_5 rfl rfl ?_
      refine g_P_34 (pc := 6) hX d_P_balancerBehind_6 ?_
      refine jx_top (y := nI (nb w)) (p1) ?_
      refine jx_icmp_ge (pc := 9) hX 40 d_P_balancerBehind_9 rfl (fun h9 => ?_) (fun h9 => ?_)
      · have hb : nb w ≤ b := by
          rcases Nat.lt_or_ge b (nb w) with q | q
          · exact absurd h9 (nI_ge q (by omega))
          · exact q
        refine jx_iconst (pc := 40) hX (v := -1) d_P_balancerBehind_40 rfl ?_
        exact jx_iretp (pc := 41) hX d_P_balancerBehind_41 (by rw [nxB_none hb hq]; rfl)
      · have hb : b < nb w := Nat.lt_of_not_le (fun q => h9 (nI_le q (by omega)))
        have hu := uU_lt hw hb
        have hv := uL_lt hw hb
        refine jx_aload_n (pc := 12) hX d_P_balancerBehind_12 rfl rfl ?_
        refine g_P_9 (pc := 13) hX d_P_balancerBehind_13 ?_
        refine jx_iload_n (pc := 16) hX d_P_balancerBehind_16 rfl rfl ?_
        refine jx_iald (pc := 17) hX oC_3 _ rfl (show b < 24 by omega) d_P_balancerBehind_17 ?_
        refine jx_top (y := nI (uU w b)) (p3 b hb) ?_
        refine jx_iload_n (pc := 18) hX d_P_balancerBehind_18 rfl rfl ?_
        refine jx_icmp_eq (pc := 19) hX 32 d_P_balancerBehind_19 rfl (fun e19 => ?_) (fun e19 => ?_)
        · refine jx_iload_n (pc := 32) hX d_P_balancerBehind_32 rfl rfl ?_
          exact jx_iretp (pc := 33) hX d_P_balancerBehind_33 (by rw [nxB_hit hb hq (Or.inl ((nI_eq (by omega) (by omega)).mp e19))]; rfl)
        · refine jx_aload_n (pc := 22) hX d_P_balancerBehind_22 rfl rfl ?_
          refine g_P_15 (pc := 23) hX d_P_balancerBehind_23 ?_
          refine jx_iload_n (pc := 26) hX d_P_balancerBehind_26 rfl rfl ?_
          refine jx_iald (pc := 27) hX oC_4 _ rfl (show b < 24 by omega) d_P_balancerBehind_27 ?_
          refine jx_top (y := nI (uL w b)) (p4 b hb) ?_
          refine jx_iload_n (pc := 28) hX d_P_balancerBehind_28 rfl rfl ?_
          refine jx_icmp_ne (pc := 29) hX 34 d_P_balancerBehind_29 rfl (fun e29 => ?_) (fun e29 => ?_)
          · have hno : ¬ (uU w b = wi ∨ uL w b = wi) := fun q => q.elim (fun a => e19 (by rw [a])) (fun a => e29 (by rw [a]))
            refine jx_iinc (pc := 34) hX (v := nI (b + 1)) d_P_balancerBehind_34 rfl (nI_1 b) (by decide) (L' := [(0, _), (1, _), (2, _), (3, _)]) rfl ?_
            refine jx_goto (pc := 37) hX 4 d_P_balancerBehind_37 rfl ?_
            exact ih _ (by omega) (b + 1) rfl (by omega) (nxB_step hb hq hno)
          · refine jx_iload_n (pc := 32) hX d_P_balancerBehind_32 rfl rfl ?_
            exact jx_iretp (pc := 33) hX d_P_balancerBehind_33 (by rw [nxB_hit hb hq (Or.inr ((nI_eq (by omega) (by omega)).mp e29))]; rfl)
  refine jx_iload_n (pc := 0) hX d_P_balancerBehind_0 rfl rfl ?_
  refine jx_iconst (pc := 1) hX (v := 1) d_P_balancerBehind_1 rfl ?_
  refine jx_iadd (pc := 2) hX d_P_balancerBehind_2 ?_
  refine jx_top (y := nI n) (eP_1 n) ?_
  refine jx_istore_n (pc := 3) hX d_P_balancerBehind_3 rfl (by decide) (L' := [(0, _), (1, _), (2, _), (3, _)]) rfl ?_
  exact loop _ n rfl hn9 rfl
