def l_X12_partDays_5 (t_s : Nat → Int32) (x2 : Int32) : Nat → Int32 → Int32 → Option (Int32)
  | 0, _, _ => none
  | n + 1, i3_1, i4_2 => (if x2 ≤ i4_2 then some i3_1 else l_X12_partDays_5 t_s x2 n (i3_1 + 1) (i4_2 + (t_s 5)))
def f_X12_partDays (t_s : Nat → Int32) (x1 : Int32) (x2 : Int32) : Option (Int32) := bd1 (l_X12_partDays_5 t_s x2 1000 0 x1) (fun (o3_3 : Int32) => some o3_3)
theorem k_X12_partDays : KV yX12_partDays cX12_partDays 5 (some .int) 2 := ⟨qc_yX12_partDays, q9, ⟨by decide +kernel, by decide +kernel, by decide +kernel⟩, qi_yX12_partDays, qs_yX12_partDays⟩
abbrev RM_X12_partDays : Room := { frames := 0, cells := 0, slots := 0, locals := 0 }
set_option maxHeartbeats 4000000 in
set_option maxRecDepth 100000 in
theorem c_X12_partDays (l : Launch) (G : GP) (a_t : Nat) (t_thrown : Int32) (a_t_states : Nat) (t_stateMany : Int32) (a_t_snapshot : Nat) (t_hasSnapshot : Int32) (a_t_text : Nat) (t_length : Int32) (t_at : Int32) (t_isWell : Int32) (a_t_read : Nat) (t_readMany : Int32) (a_t_prices : Nat) (t_priceMany : Int32) (t_pieceMany : Int32) (t_coins : Int64) (a_t_s : Nat) (t_s : Nat → Int32) (x1 : Int32) (x2 : Int32) (rr : Int32) (hf : f_X12_partDays t_s x1 x2 = some rr) : RM l yX12_partDays cX12_partDays 5 (some .int) 0 0 G [.ref a_t, .int x1, .int x2] [(a_t, .inr (8, [.int t_thrown, .ref a_t_s, .ref a_t_states, .int t_stateMany, .ref a_t_snapshot, .int t_hasSnapshot, .ref a_t_text, .int t_length, .int t_at, .int t_isWell, .ref a_t_read, .int t_readMany, .ref a_t_prices, .int t_priceMany, .int t_pieceMany, .long t_coins])), (a_t_s, .inl (G.2.1, 68, .inl t_s))] (some (.int rr)) := by
  refine RM.ofW (C := RX12) (by decide) rfl (Nat.le_of_ble_eq_true rfl) ?_
  intro p e s m below meth c hF hr hlk hG hP ls hl
  have hl : lv_has ls 5 [(0, .ref a_t), (1, .int x1), (2, .int x2)] := hl
  have hx := hF.1
  have hb := hF.2.1
  have hml := hF.2.2.1
  have hown := hF.2.2.2.1
  have hts := hF.2.2.2.2
  unfold f_X12_partDays at hf
  refine lv_iconst (v := 0) hx hb dX12_partDays_0 (by decide) ?_
  refine lv_istore_n (lv' := [(3, .int 0), (0, .ref a_t), (1, .int x1), (2, .int x2)]) hx hb dX12_partDays_1 rfl hl (by decide) rfl (fun ls hl => ?_)
  refine lv_iload_n hx hb dX12_partDays_2 rfl (lv_at hl 2 rfl) ?_
  refine lv_istore (lv' := [(4, .int x1), (3, .int 0), (0, .ref a_t), (1, .int x1), (2, .int x2)]) hx hb dX12_partDays_3 hl (by decide) rfl (fun ls hl => ?_)
  obtain ⟨o3_3, hq, hf⟩ := bd1_some hf
  have K5 : ∀ ls : Array Slot, lv_has ls 5 [(3, .int o3_3)] → W p l e RM_X12_partDays s m [.ref a_t, .int x1, .int x2].toArray below meth c s.heap [] 0 0 (MQ below (rdQ (some (.int rr))) [.ref a_t, .int x1, .int x2].toArray s 0 0 (fun _ => False)) (F0 m 28 ls []) := by
    intro ls hl
    refine lv_iload_n hx hb dX12_partDays_28 rfl (lv_at hl 0 rfl) ?_
    have hf : (some o3_3 : Option (Int32)) = some rr := hf
    cases hf
    exact re_i hF hr hlk dX12_partDays_29 rfl
  clear hf
  have L5 : ∀ (n : Nat) (i3_1 : Int32) (i4_2 : Int32), l_X12_partDays_5 t_s x2 n i3_1 i4_2 = some o3_3 → ∀ ls : Array Slot, lv_has ls 5 [(0, .ref a_t), (2, .int x2), (3, .int i3_1), (4, .int i4_2)] → W p l e RM_X12_partDays s m [.ref a_t, .int x1, .int x2].toArray below meth c s.heap [] 0 0 (MQ below (rdQ (some (.int rr))) [.ref a_t, .int x1, .int x2].toArray s 0 0 (fun _ => False)) (F0 m 5 ls []) := by
    intro n
    induction n with
    | zero =>
      intro i3_1 i4_2 hf
      exact nomatch (show none = some o3_3 from hf)
    | succ n ih =>
      intro i3_1 i4_2 hf ls hl
      rw [l_X12_partDays_5] at hf
      refine lv_iload hx hb dX12_partDays_5 (lv_at hl 3 rfl) ?_
      refine lv_iload_n hx hb dX12_partDays_7 rfl (lv_at hl 1 rfl) ?_
      refine lv_icmp_ge (tgt := 28) hx hb dX12_partDays_8 (by decide) (fun c0 => ?_) (fun c0 => ?_)
      · have hf := (if_pos c0).symm.trans hf
        have hf : (some i3_1 : Option (Int32)) = some o3_3 := hf
        cases hf
        exact K5 ls (lv_sub hl [2] rfl)
      · have hf := (if_neg c0).symm.trans hf
        refine lv_iinc (v := (i3_1 + 1)) (lv' := [(3, .int (i3_1 + 1)), (0, .ref a_t), (2, .int x2), (4, .int i4_2)]) hx hb dX12_partDays_11 hl (k := 2) rfl rfl (by decide) rfl (fun ls hl => ?_)
        refine lv_iload hx hb dX12_partDays_14 (lv_at hl 3 rfl) ?_
        refine lv_aload_n hx hb dX12_partDays_16 rfl (lv_at hl 1 rfl) ?_
        refine gf (C := RX12) (T := TX12) (N := 16) (ci := 8) (v := .ref a_t_s) hF hG hP inX12 0 rfl rfl 1 (by decide) q1021 rfl rfl dX12_partDays_17 ?_
        refine lv_iconst (v := 5) hx hb dX12_partDays_20 (by decide) ?_
        refine ald_i (k := 5) hF hG hP 1 rfl (by decide) (by decide) dX12_partDays_21 ?_
        refine lv_iadd hx hb dX12_partDays_22 ?_
        refine lv_istore (lv' := [(4, .int (i4_2 + (t_s 5))), (3, .int (i3_1 + 1)), (0, .ref a_t), (2, .int x2)]) hx hb dX12_partDays_23 hl (by decide) rfl (fun ls hl => ?_)
        refine lv_goto (tgt := 5) hx hb dX12_partDays_25 (by decide) ?_
        exact ih (i3_1 + 1) (i4_2 + (t_s 5)) hf ls (lv_sub hl [2, 3, 1, 0] rfl)
  exact L5 1000 0 x1 hq ls (lv_sub hl [2, 4, 1, 0] rfl)
def l_X12_allSum_4 (t_s : Nat → Int32) : Nat → Int64 → Int32 → Option (Int64)
  | 0, _, _ => none
  | n + 1, i1_1, i3_2 => (if (t_s 0) ≤ i3_2 then some i1_1 else bd1 (f_X12_of t_s i3_2) (fun (r_4 : Int32) => l_X12_allSum_4 t_s n (i1_1 + (Int32.toInt64 r_4)) (i3_2 + 1)))
def f_X12_allSum (t_s : Nat → Int32) : Option (Int64) := bd1 (l_X12_allSum_4 t_s 1000 0 0) (fun (o1_3 : Int64) => some o1_3)
theorem k_X12_allSum : KV yX12_allSum cX12_allSum 4 (some .long) 0 := ⟨qc_yX12_allSum, q9, ⟨by decide +kernel, by decide +kernel, by decide +kernel⟩, qi_yX12_allSum, qs_yX12_allSum⟩
abbrev RM_X12_allSum : Room := { frames := 1, cells := 0, slots := 0, locals := 21 }
set_option maxHeartbeats 4000000 in
set_option maxRecDepth 100000 in
theorem c_X12_allSum (l : Launch) (G : GP) (a_t : Nat) (t_thrown : Int32) (a_t_states : Nat) (t_stateMany : Int32) (a_t_snapshot : Nat) (t_hasSnapshot : Int32) (a_t_text : Nat) (t_length : Int32) (t_at : Int32) (t_isWell : Int32) (a_t_read : Nat) (t_readMany : Int32) (a_t_prices : Nat) (t_priceMany : Int32) (t_pieceMany : Int32) (t_coins : Int64) (a_t_s : Nat) (t_s : Nat → Int32) (rr : Int64) (hf : f_X12_allSum t_s = some rr) : RM l yX12_allSum cX12_allSum 4 (some .long) 1 21 G [.ref a_t] [(a_t, .inr (8, [.int t_thrown, .ref a_t_s, .ref a_t_states, .int t_stateMany, .ref a_t_snapshot, .int t_hasSnapshot, .ref a_t_text, .int t_length, .int t_at, .int t_isWell, .ref a_t_read, .int t_readMany, .ref a_t_prices, .int t_priceMany, .int t_pieceMany, .long t_coins])), (a_t_s, .inl (G.2.1, 68, .inl t_s))] (some (.long rr)) := by
  refine RM.ofW (C := RX12) (by decide) rfl (Nat.le_of_ble_eq_true rfl) ?_
  intro p e s m below meth c hF hr hlk hG hP ls hl
  have hl : lv_has ls 4 [(0, .ref a_t)] := hl
  have hx := hF.1
  have hb := hF.2.1
  have hml := hF.2.2.1
  have hown := hF.2.2.2.1
  have hts := hF.2.2.2.2
  unfold f_X12_allSum at hf
  refine lv_lconst (v := 0) hx hb dX12_allSum_0 (by decide) ?_
  refine lv_lstore_n (lv' := [(1, .long 0), (0, .ref a_t)]) hx hb dX12_allSum_1 rfl hl (by decide) rfl (fun ls hl => ?_)
  refine lv_iconst (v := 0) hx hb dX12_allSum_2 (by decide) ?_
  refine lv_istore_n (lv' := [(3, .int 0), (1, .long 0), (0, .ref a_t)]) hx hb dX12_allSum_3 rfl hl (by decide) rfl (fun ls hl => ?_)
  obtain ⟨o1_3, hq, hf⟩ := bd1_some hf
  have K4 : ∀ ls : Array Slot, lv_has ls 4 [(1, .long o1_3)] → W p l e RM_X12_allSum s m [.ref a_t].toArray below meth c s.heap [] 0 0 (MQ below (rdQ (some (.long rr))) [.ref a_t].toArray s 0 0 (fun _ => False)) (F0 m 29 ls []) := by
    intro ls hl
    refine lv_lload_n hx hb dX12_allSum_29 rfl (lv_at hl 0 rfl) ?_
    have hf : (some o1_3 : Option (Int64)) = some rr := hf
    cases hf
    exact re_l hF hr hlk dX12_allSum_30 rfl
  clear hf
  have L4 : ∀ (n : Nat) (i1_1 : Int64) (i3_2 : Int32), l_X12_allSum_4 t_s n i1_1 i3_2 = some o1_3 → ∀ ls : Array Slot, lv_has ls 4 [(0, .ref a_t), (1, .long i1_1), (3, .int i3_2)] → W p l e RM_X12_allSum s m [.ref a_t].toArray below meth c s.heap [] 0 0 (MQ below (rdQ (some (.long rr))) [.ref a_t].toArray s 0 0 (fun _ => False)) (F0 m 4 ls []) := by
    intro n
    induction n with
    | zero =>
      intro i1_1 i3_2 hf
      exact nomatch (show none = some o1_3 from hf)
    | succ n ih =>
      intro i1_1 i3_2 hf ls hl
      rw [l_X12_allSum_4] at hf
      refine lv_iload_n hx hb dX12_allSum_4 rfl (lv_at hl 2 rfl) ?_
      refine lv_aload_n hx hb dX12_allSum_5 rfl (lv_at hl 0 rfl) ?_
      refine gf (C := RX12) (T := TX12) (N := 16) (ci := 8) (v := .ref a_t_s) hF hG hP inX12 0 rfl rfl 1 (by decide) q1021 rfl rfl dX12_allSum_6 ?_
      refine lv_iconst (v := 0) hx hb dX12_allSum_9 (by decide) ?_
      refine ald_i (k := 0) hF hG hP 1 rfl (by decide) (by decide) dX12_allSum_10 ?_
      refine lv_icmp_ge (tgt := 29) hx hb dX12_allSum_11 (by decide) (fun c0 => ?_) (fun c0 => ?_)
      · have hf := (if_pos c0).symm.trans hf
        have hf : (some i1_1 : Option (Int64)) = some o1_3 := hf
        cases hf
        exact K4 ls (lv_sub hl [1] rfl)
      · have hf := (if_neg c0).symm.trans hf
        refine lv_lload_n hx hb dX12_allSum_14 rfl (lv_at hl 1 rfl) ?_
        refine lv_aload_n hx hb dX12_allSum_15 rfl (lv_at hl 0 rfl) ?_
        refine lv_iload_n hx hb dX12_allSum_16 rfl (lv_at hl 2 rfl) ?_
        obtain ⟨r_4, hq, hf⟩ := bd1_some hf
        refine rdV (As := [.int i3_2]) (rest := [.long i1_1]) hF hG hP hl.1 (c_X12_of l G a_t t_thrown a_t_states t_stateMany a_t_snapshot t_hasSnapshot a_t_text t_length t_at t_isWell a_t_read t_readMany a_t_prices t_priceMany t_pieceMany t_coins a_t_s t_s i3_2 r_4 hq) k_X12_of q1111 [0, 1] rfl ⟨0, 8, _, _, rfl, rfl, rfl⟩ rfl rfl (Nat.le_of_ble_eq_true rfl) ⟨(Nat.le_of_ble_eq_true rfl), (Nat.le_of_ble_eq_true rfl)⟩ ⟨(Nat.zero_le _), (Nat.zero_le _)⟩ dX12_allSum_17 ?_
        refine lv_i2l (v := (Int32.toInt64 r_4)) hx hb dX12_allSum_20 rfl ?_
        refine lv_ladd hx hb dX12_allSum_21 ?_
        refine lv_lstore_n (lv' := [(1, .long (i1_1 + (Int32.toInt64 r_4))), (0, .ref a_t), (3, .int i3_2)]) hx hb dX12_allSum_22 rfl hl (by decide) rfl (fun ls hl => ?_)
        refine lv_iinc (v := (i3_2 + 1)) (lv' := [(3, .int (i3_2 + 1)), (1, .long (i1_1 + (Int32.toInt64 r_4))), (0, .ref a_t)]) hx hb dX12_allSum_23 hl (k := 2) rfl rfl (by decide) rfl (fun ls hl => ?_)
        refine lv_goto (tgt := 4) hx hb dX12_allSum_26 (by decide) ?_
        exact ih (i1_1 + (Int32.toInt64 r_4)) (i3_2 + 1) hf ls (lv_sub hl [2, 1, 0] rfl)
  exact L4 1000 0 0 hq ls (lv_sub hl [2, 1, 0] rfl)
def f_X12_index (t_s : Nat → Int32) (x1 : Int32) : Option (Int32) := bd1 (f_X12_partSum t_s x1 (t_s 0)) (fun (r_1 : Int64) => bd1 (f_X12_partDays t_s x1 (t_s 0)) (fun (r_2 : Int32) => bd1 (f_X12_allSum t_s) (fun (r_3 : Int64) => gd (¬ ((Int32.toInt64 r_2) * r_3) = 0) (some (Int64.toInt32 (((1000 * r_1) * (Int32.toInt64 (t_s 0))) / ((Int32.toInt64 r_2) * r_3)))))))
theorem k_X12_index : KV yX12_index cX12_index 2 (some .int) 1 := ⟨qc_yX12_index, q9, ⟨by decide +kernel, by decide +kernel, by decide +kernel⟩, qi_yX12_index, qs_yX12_index⟩
abbrev RM_X12_index : Room := { frames := 2, cells := 0, slots := 0, locals := 46 }
set_option maxHeartbeats 4000000 in
set_option maxRecDepth 100000 in
theorem c_X12_index (l : Launch) (G : GP) (a_t : Nat) (t_thrown : Int32) (a_t_states : Nat) (t_stateMany : Int32) (a_t_snapshot : Nat) (t_hasSnapshot : Int32) (a_t_text : Nat) (t_length : Int32) (t_at : Int32) (t_isWell : Int32) (a_t_read : Nat) (t_readMany : Int32) (a_t_prices : Nat) (t_priceMany : Int32) (t_pieceMany : Int32) (t_coins : Int64) (a_t_s : Nat) (t_s : Nat → Int32) (x1 : Int32) (rr : Int32) (hf : f_X12_index t_s x1 = some rr) : RM l yX12_index cX12_index 2 (some .int) 2 46 G [.ref a_t, .int x1] [(a_t, .inr (8, [.int t_thrown, .ref a_t_s, .ref a_t_states, .int t_stateMany, .ref a_t_snapshot, .int t_hasSnapshot, .ref a_t_text, .int t_length, .int t_at, .int t_isWell, .ref a_t_read, .int t_readMany, .ref a_t_prices, .int t_priceMany, .int t_pieceMany, .long t_coins])), (a_t_s, .inl (G.2.1, 68, .inl t_s))] (some (.int rr)) := by
  refine RM.ofW (C := RX12) (by decide) rfl (Nat.le_of_ble_eq_true rfl) ?_
  intro p e s m below meth c hF hr hlk hG hP ls hl
  have hl : lv_has ls 2 [(0, .ref a_t), (1, .int x1)] := hl
  have hx := hF.1
  have hb := hF.2.1
  have hml := hF.2.2.1
  have hown := hF.2.2.2.1
  have hts := hF.2.2.2.2
  unfold f_X12_index at hf
  refine lv_ldc2 (v := 1000) hx hb hown (hts _ (List.mem_cons_of_mem _ q1274)) dX12_index_0 ?_
  refine lv_aload_n hx hb dX12_index_3 rfl (lv_at hl 0 rfl) ?_
  refine lv_iload_n hx hb dX12_index_4 rfl (lv_at hl 1 rfl) ?_
  refine lv_aload_n hx hb dX12_index_5 rfl (lv_at hl 0 rfl) ?_
  refine gf (C := RX12) (T := TX12) (N := 16) (ci := 8) (v := .ref a_t_s) hF hG hP inX12 0 rfl rfl 1 (by decide) q1021 rfl rfl dX12_index_6 ?_
  refine lv_iconst (v := 0) hx hb dX12_index_9 (by decide) ?_
  refine ald_i (k := 0) hF hG hP 1 rfl (by decide) (by decide) dX12_index_10 ?_
  obtain ⟨r_1, hq, hf⟩ := bd1_some hf
  refine rdV (As := [.int x1, .int (t_s 0)]) (rest := [.long 1000]) hF hG hP hl.1 (c_X12_partSum l G a_t t_thrown a_t_states t_stateMany a_t_snapshot t_hasSnapshot a_t_text t_length t_at t_isWell a_t_read t_readMany a_t_prices t_priceMany t_pieceMany t_coins a_t_s t_s x1 (t_s 0) r_1 hq) k_X12_partSum q1397 [0, 1] rfl ⟨0, 8, _, _, rfl, rfl, rfl⟩ rfl rfl (Nat.le_of_ble_eq_true rfl) ⟨(Nat.le_of_ble_eq_true rfl), (Nat.le_of_ble_eq_true rfl)⟩ ⟨(Nat.zero_le _), (Nat.zero_le _)⟩ dX12_index_11 ?_
  refine lv_lmul hx hb dX12_index_14 ?_
  refine lv_aload_n hx hb dX12_index_15 rfl (lv_at hl 0 rfl) ?_
  refine gf (C := RX12) (T := TX12) (N := 16) (ci := 8) (v := .ref a_t_s) hF hG hP inX12 0 rfl rfl 1 (by decide) q1021 rfl rfl dX12_index_16 ?_
  refine lv_iconst (v := 0) hx hb dX12_index_19 (by decide) ?_
  refine ald_i (k := 0) hF hG hP 1 rfl (by decide) (by decide) dX12_index_20 ?_
  refine lv_i2l (v := (Int32.toInt64 (t_s 0))) hx hb dX12_index_21 rfl ?_
  refine lv_lmul hx hb dX12_index_22 ?_
  refine lv_aload_n hx hb dX12_index_23 rfl (lv_at hl 0 rfl) ?_
  refine lv_iload_n hx hb dX12_index_24 rfl (lv_at hl 1 rfl) ?_
  refine lv_aload_n hx hb dX12_index_25 rfl (lv_at hl 0 rfl) ?_
  refine gf (C := RX12) (T := TX12) (N := 16) (ci := 8) (v := .ref a_t_s) hF hG hP inX12 0 rfl rfl 1 (by decide) q1021 rfl rfl dX12_index_26 ?_
  refine lv_iconst (v := 0) hx hb dX12_index_29 (by decide) ?_
  refine ald_i (k := 0) hF hG hP 1 rfl (by decide) (by decide) dX12_index_30 ?_
  obtain ⟨r_2, hq, hf⟩ := bd1_some hf
  refine rdV (As := [.int x1, .int (t_s 0)]) (rest := [.long ((1000 * r_1) * (Int32.toInt64 (t_s 0)))]) hF hG hP hl.1 (c_X12_partDays l G a_t t_thrown a_t_states t_stateMany a_t_snapshot t_hasSnapshot a_t_text t_length t_at t_isWell a_t_read t_readMany a_t_prices t_priceMany t_pieceMany t_coins a_t_s t_s x1 (t_s 0) r_2 hq) k_X12_partDays q1401 [0, 1] rfl ⟨0, 8, _, _, rfl, rfl, rfl⟩ rfl rfl (Nat.le_of_ble_eq_true rfl) ⟨(Nat.le_of_ble_eq_true rfl), (Nat.le_of_ble_eq_true rfl)⟩ ⟨(Nat.zero_le _), (Nat.zero_le _)⟩ dX12_index_31 ?_
  refine lv_i2l (v := (Int32.toInt64 r_2)) hx hb dX12_index_34 rfl ?_
  refine lv_aload_n hx hb dX12_index_35 rfl (lv_at hl 0 rfl) ?_
  obtain ⟨r_3, hq, hf⟩ := bd1_some hf
  refine rdV (As := []) (rest := [.long (Int32.toInt64 r_2), .long ((1000 * r_1) * (Int32.toInt64 (t_s 0)))]) hF hG hP hl.1 (c_X12_allSum l G a_t t_thrown a_t_states t_stateMany a_t_snapshot t_hasSnapshot a_t_text t_length t_at t_isWell a_t_read t_readMany a_t_prices t_priceMany t_pieceMany t_coins a_t_s t_s r_3 hq) k_X12_allSum q1405 [0, 1] rfl ⟨0, 8, _, _, rfl, rfl, rfl⟩ rfl rfl (Nat.le_of_ble_eq_true rfl) ⟨(Nat.le_of_ble_eq_true rfl), (Nat.le_of_ble_eq_true rfl)⟩ ⟨(Nat.zero_le _), (Nat.zero_le _)⟩ dX12_index_36 ?_
  refine lv_lmul hx hb dX12_index_39 ?_
  obtain ⟨hg, hf⟩ := gd_some hf
  refine lv_ldiv hx hb dX12_index_40 hg ?_
  refine lv_l2i (v := (Int64.toInt32 (((1000 * r_1) * (Int32.toInt64 (t_s 0))) / ((Int32.toInt64 r_2) * r_3)))) hx hb dX12_index_41 rfl ?_
  have hf : (some (Int64.toInt32 (((1000 * r_1) * (Int32.toInt64 (t_s 0))) / ((Int32.toInt64 r_2) * r_3))) : Option (Int32)) = some rr := hf
  cases hf
  exact re_i hF hr hlk dX12_index_42 rfl
def f_X12_seasonIndex (t_thrown : Int32) (t_s : Nat → Int32) (x1 : Int32) : Option (Int32 × Int32) := bd1 (f_X12_in x1 0 ((t_s 5) - 1)) (fun (r_1 : Int32) => (if r_1 = 0 then bd2 (f_X12_fails 0 1) (fun (r_5 : Int32) (t_thrown_6 : Int32) => some (r_5, t_thrown_6)) else (if (t_s 0) ≤ x1 then bd2 (f_X12_fails 0 2) (fun (r_2 : Int32) (t_thrown_3 : Int32) => some (r_2, t_thrown_3)) else bd1 (f_X12_index t_s x1) (fun (r_4 : Int32) => some (r_4, 0)))))
theorem k_X12_seasonIndex : KV yX12_seasonIndex cX12_seasonIndex 2 (some .int) 1 := ⟨qc_yX12_seasonIndex, q9, ⟨by decide +kernel, by decide +kernel, by decide +kernel⟩, qi_yX12_seasonIndex, qs_yX12_seasonIndex⟩
abbrev RM_X12_seasonIndex : Room := { frames := 3, cells := 0, slots := 0, locals := 67 }
set_option maxHeartbeats 4000000 in
set_option maxRecDepth 100000 in
theorem c_X12_seasonIndex (l : Launch) (G : GP) (a_t : Nat) (t_thrown : Int32) (a_t_states : Nat) (t_stateMany : Int32) (a_t_snapshot : Nat) (t_hasSnapshot : Int32) (a_t_text : Nat) (t_length : Int32) (t_at : Int32) (t_isWell : Int32) (a_t_read : Nat) (t_readMany : Int32) (a_t_prices : Nat) (t_priceMany : Int32) (t_pieceMany : Int32) (t_coins : Int64) (a_t_s : Nat) (t_s : Nat → Int32) (x1 : Int32) (rr : Int32) (w_t_thrown : Int32) (hf : f_X12_seasonIndex t_thrown t_s x1 = some (rr, w_t_thrown)) : WM l yX12_seasonIndex cX12_seasonIndex 2 (some .int) 3 67 G [.ref a_t, .int x1] [(a_t, .inr (8, [.int t_thrown, .ref a_t_s, .ref a_t_states, .int t_stateMany, .ref a_t_snapshot, .int t_hasSnapshot, .ref a_t_text, .int t_length, .int t_at, .int t_isWell, .ref a_t_read, .int t_readMany, .ref a_t_prices, .int t_priceMany, .int t_pieceMany, .long t_coins])), (a_t_s, .inl (G.2.1, 68, .inl t_s))] (some (.int rr)) [(a_t, .inr (8, [.int w_t_thrown, .ref a_t_s, .ref a_t_states, .int t_stateMany, .ref a_t_snapshot, .int t_hasSnapshot, .ref a_t_text, .int t_length, .int t_at, .int t_isWell, .ref a_t_read, .int t_readMany, .ref a_t_prices, .int t_priceMany, .int t_pieceMany, .long t_coins])), (a_t_s, .inl (G.2.1, 68, .inl t_s))] := by
  refine WM.ofW (C := RX12) (by decide) rfl (Nat.le_of_ble_eq_true rfl) ?_
  intro p e s m below meth c A hF hr hlk hG hA hP hD ls hl
  have hl : lv_has ls 2 [(0, .ref a_t), (1, .int x1)] := hl
  have hx := hF.1
  have hb := hF.2.1
  have hml := hF.2.2.1
  have hown := hF.2.2.2.1
  have hts := hF.2.2.2.2
  have hS : va_S A s.heap s.heap [] := va_S.rf
  unfold f_X12_seasonIndex at hf
  refine lv_aload_n hx hb dX12_seasonIndex_0 rfl (lv_at hl 0 rfl) ?_
  refine lv_iconst (v := 0) hx hb dX12_seasonIndex_1 (by decide) ?_
  refine pf (C := RX12) (T := TX12) (N := 16) (ci := 8) (v := .int 0) (ty := .int) hF hG hP hD hS inX12 tyX12 tyX12_ok nmX12 0 rfl rfl 0 (by decide) q1020 rfl rfl (by decide +kernel) rfl rfl (Nat.le_of_ble_eq_true rfl) dX12_seasonIndex_2 (fun H locs hP hD hS => ?_)
  replace hP : va_P G.1 vwCl [(a_t, .inr (8, [.int 0, .ref a_t_s, .ref a_t_states, .int t_stateMany, .ref a_t_snapshot, .int t_hasSnapshot, .ref a_t_text, .int t_length, .int t_at, .int t_isWell, .ref a_t_read, .int t_readMany, .ref a_t_prices, .int t_priceMany, .int t_pieceMany, .long t_coins])), (a_t_s, .inl (G.2.1, 68, .inl t_s))] H := hP
  replace hD : va_D A [(a_t, .inr (8, [.int 0, .ref a_t_s, .ref a_t_states, .int t_stateMany, .ref a_t_snapshot, .int t_hasSnapshot, .ref a_t_text, .int t_length, .int t_at, .int t_isWell, .ref a_t_read, .int t_readMany, .ref a_t_prices, .int t_priceMany, .int t_pieceMany, .long t_coins])), (a_t_s, .inl (G.2.1, 68, .inl t_s))] := hD
  refine lv_iload_n hx hb dX12_seasonIndex_5 rfl (lv_at hl 1 rfl) ?_
  refine lv_iconst (v := 0) hx hb dX12_seasonIndex_6 (by decide) ?_
  refine lv_aload_n hx hb dX12_seasonIndex_7 rfl (lv_at hl 0 rfl) ?_
  refine gf (C := RX12) (T := TX12) (N := 16) (ci := 8) (v := .ref a_t_s) hF hG hP inX12 0 rfl rfl 1 (by decide) q1021 rfl rfl dX12_seasonIndex_8 ?_
  refine lv_iconst (v := 5) hx hb dX12_seasonIndex_11 (by decide) ?_
  refine ald_i (k := 5) hF hG hP 1 rfl (by decide) (by decide) dX12_seasonIndex_12 ?_
  refine lv_iconst (v := 1) hx hb dX12_seasonIndex_13 (by decide) ?_
  refine lv_isub hx hb dX12_seasonIndex_14 ?_
  obtain ⟨r_1, hq, hf⟩ := bd1_some hf
  refine rdS (As := [.int x1, .int 0, .int ((t_s 5) - 1)]) (rest := []) hF hG hP hl.1 (c_X12_in l G x1 0 ((t_s 5) - 1) r_1 hq) k_X12_in q1080 [] rfl rfl rfl (Nat.le_of_ble_eq_true rfl) ⟨(Nat.le_of_ble_eq_true rfl), (Nat.le_of_ble_eq_true rfl)⟩ ⟨(Nat.zero_le _), (Nat.zero_le _)⟩ dX12_seasonIndex_15 ?_
  refine lv_if_ne (tgt := 27) hx hb dX12_seasonIndex_18 (by decide) (fun c0 => ?_) (fun c0 => ?_)
  · have hf := (if_neg c0).symm.trans hf
    refine lv_iload_n hx hb dX12_seasonIndex_27 rfl (lv_at hl 1 rfl) ?_
    refine lv_aload_n hx hb dX12_seasonIndex_28 rfl (lv_at hl 0 rfl) ?_
    refine gf (C := RX12) (T := TX12) (N := 16) (ci := 8) (v := .ref a_t_s) hF hG hP inX12 0 rfl rfl 1 (by decide) q1021 rfl rfl dX12_seasonIndex_29 ?_
    refine lv_iconst (v := 0) hx hb dX12_seasonIndex_32 (by decide) ?_
    refine ald_i (k := 0) hF hG hP 1 rfl (by decide) (by decide) dX12_seasonIndex_33 ?_
    refine lv_icmp_ge (tgt := 45) hx hb dX12_seasonIndex_34 (by decide) (fun c0 => ?_) (fun c0 => ?_)
    · have hf := (if_pos c0).symm.trans hf
      refine lv_aload_n hx hb dX12_seasonIndex_45 rfl (lv_at hl 0 rfl) ?_
      refine lv_iconst (v := 2) hx hb dX12_seasonIndex_46 (by decide) ?_
      obtain ⟨r_2, t_thrown_3, hq, hf⟩ := bd2_some hf
      refine wrV (As := [.int 2]) (rest := []) (wn := [(a_t, .inr (8, [.int t_thrown_3, .ref a_t_s, .ref a_t_states, .int t_stateMany, .ref a_t_snapshot, .int t_hasSnapshot, .ref a_t_text, .int t_length, .int t_at, .int t_isWell, .ref a_t_read, .int t_readMany, .ref a_t_prices, .int t_priceMany, .int t_pieceMany, .long t_coins])), (a_t_s, .inl (G.2.1, 68, .inl t_s))]) hF hG hP hD hS hA hl.1 (c_X12_fails l G a_t 0 a_t_s a_t_states t_stateMany a_t_snapshot t_hasSnapshot a_t_text t_length t_at t_isWell a_t_read t_readMany a_t_prices t_priceMany t_pieceMany t_coins 2 r_2 t_thrown_3 hq) k_X12_fails q1083 [0] [1] [1, 0] rfl rfl rfl rfl ⟨rfl, rfl⟩ (by decide) ⟨0, 8, _, _, rfl, rfl, rfl⟩ rfl rfl (Nat.le_of_ble_eq_true rfl) ⟨(Nat.le_of_ble_eq_true rfl), (Nat.le_of_ble_eq_true rfl)⟩ ⟨(Nat.le_of_ble_eq_true rfl), (Nat.le_of_ble_eq_true rfl)⟩ dX12_seasonIndex_47 (fun H locs hP hD hS => ?_)
      have hf : (some (r_2, t_thrown_3) : Option (Int32 × Int32)) = some (rr, w_t_thrown) := hf
      cases hf
      exact we_i hF hr hlk hP hD hS dX12_seasonIndex_50 rfl
    · have hf := (if_neg c0).symm.trans hf
      refine lv_aload_n hx hb dX12_seasonIndex_37 rfl (lv_at hl 0 rfl) ?_
      refine lv_iload_n hx hb dX12_seasonIndex_38 rfl (lv_at hl 1 rfl) ?_
      obtain ⟨r_4, hq, hf⟩ := bd1_some hf
      refine rdV (As := [.int x1]) (rest := []) hF hG hP hl.1 (c_X12_index l G a_t 0 a_t_states t_stateMany a_t_snapshot t_hasSnapshot a_t_text t_length t_at t_isWell a_t_read t_readMany a_t_prices t_priceMany t_pieceMany t_coins a_t_s t_s x1 r_4 hq) k_X12_index q1393 [0, 1] rfl ⟨0, 8, _, _, rfl, rfl, rfl⟩ rfl rfl (Nat.le_of_ble_eq_true rfl) ⟨(Nat.le_of_ble_eq_true rfl), (Nat.le_of_ble_eq_true rfl)⟩ ⟨(Nat.zero_le _), (Nat.zero_le _)⟩ dX12_seasonIndex_39 ?_
      refine lv_goto (tgt := 50) hx hb dX12_seasonIndex_42 (by decide) ?_
      have hf : (some (r_4, 0) : Option (Int32 × Int32)) = some (rr, w_t_thrown) := hf
      cases hf
      exact we_i hF hr hlk hP hD hS dX12_seasonIndex_50 rfl
  · have hf := (if_pos c0).symm.trans hf
    refine lv_aload_n hx hb dX12_seasonIndex_21 rfl (lv_at hl 0 rfl) ?_
    refine lv_iconst (v := 1) hx hb dX12_seasonIndex_22 (by decide) ?_
    obtain ⟨r_5, t_thrown_6, hq, hf⟩ := bd2_some hf
    refine wrV (As := [.int 1]) (rest := []) (wn := [(a_t, .inr (8, [.int t_thrown_6, .ref a_t_s, .ref a_t_states, .int t_stateMany, .ref a_t_snapshot, .int t_hasSnapshot, .ref a_t_text, .int t_length, .int t_at, .int t_isWell, .ref a_t_read, .int t_readMany, .ref a_t_prices, .int t_priceMany, .int t_pieceMany, .long t_coins])), (a_t_s, .inl (G.2.1, 68, .inl t_s))]) hF hG hP hD hS hA hl.1 (c_X12_fails l G a_t 0 a_t_s a_t_states t_stateMany a_t_snapshot t_hasSnapshot a_t_text t_length t_at t_isWell a_t_read t_readMany a_t_prices t_priceMany t_pieceMany t_coins 1 r_5 t_thrown_6 hq) k_X12_fails q1083 [0] [1] [1, 0] rfl rfl rfl rfl ⟨rfl, rfl⟩ (by decide) ⟨0, 8, _, _, rfl, rfl, rfl⟩ rfl rfl (Nat.le_of_ble_eq_true rfl) ⟨(Nat.le_of_ble_eq_true rfl), (Nat.le_of_ble_eq_true rfl)⟩ ⟨(Nat.le_of_ble_eq_true rfl), (Nat.le_of_ble_eq_true rfl)⟩ dX12_seasonIndex_23 (fun H locs hP hD hS => ?_)
    have hf : (some (r_5, t_thrown_6) : Option (Int32 × Int32)) = some (rr, w_t_thrown) := hf
    cases hf
    exact we_i hF hr hlk hP hD hS dX12_seasonIndex_26 rfl
def f_X12_bare (t_s : Nat → Int32) (x1 : Int32) : Option (Int64) := gd (¬ (t_s 5) = 0) (bd1 (f_X12_of t_s x1) (fun (r_1 : Int32) => bd1 (f_X12_partDays t_s (x1 - x1 / (t_s 5) * (t_s 5)) (t_s 0)) (fun (r_2 : Int32) => bd1 (f_X12_allSum t_s) (fun (r_3 : Int64) => bd1 (f_X12_partSum t_s (x1 - x1 / (t_s 5) * (t_s 5)) (t_s 0)) (fun (r_4 : Int64) => gd (¬ (r_4 * (Int32.toInt64 (t_s 0))) = 0) (some ((((1000 * (Int32.toInt64 r_1)) * (Int32.toInt64 r_2)) * r_3) / (r_4 * (Int32.toInt64 (t_s 0))))))))))
theorem k_X12_bare : KV yX12_bare cX12_bare 3 (some .long) 1 := ⟨qc_yX12_bare, q9, ⟨by decide +kernel, by decide +kernel, by decide +kernel⟩, qi_yX12_bare, qs_yX12_bare⟩
abbrev RM_X12_bare : Room := { frames := 2, cells := 0, slots := 0, locals := 46 }
set_option maxHeartbeats 4000000 in
set_option maxRecDepth 100000 in
theorem c_X12_bare (l : Launch) (G : GP) (a_t : Nat) (t_thrown : Int32) (a_t_states : Nat) (t_stateMany : Int32) (a_t_snapshot : Nat) (t_hasSnapshot : Int32) (a_t_text : Nat) (t_length : Int32) (t_at : Int32) (t_isWell : Int32) (a_t_read : Nat) (t_readMany : Int32) (a_t_prices : Nat) (t_priceMany : Int32) (t_pieceMany : Int32) (t_coins : Int64) (a_t_s : Nat) (t_s : Nat → Int32) (x1 : Int32) (rr : Int64) (hf : f_X12_bare t_s x1 = some rr) : RM l yX12_bare cX12_bare 3 (some .long) 2 46 G [.ref a_t, .int x1] [(a_t, .inr (8, [.int t_thrown, .ref a_t_s, .ref a_t_states, .int t_stateMany, .ref a_t_snapshot, .int t_hasSnapshot, .ref a_t_text, .int t_length, .int t_at, .int t_isWell, .ref a_t_read, .int t_readMany, .ref a_t_prices, .int t_priceMany, .int t_pieceMany, .long t_coins])), (a_t_s, .inl (G.2.1, 68, .inl t_s))] (some (.long rr)) := by
  refine RM.ofW (C := RX12) (by decide) rfl (Nat.le_of_ble_eq_true rfl) ?_
  intro p e s m below meth c hF hr hlk hG hP ls hl
  have hl : lv_has ls 3 [(0, .ref a_t), (1, .int x1)] := hl
  have hx := hF.1
  have hb := hF.2.1
  have hml := hF.2.2.1
  have hown := hF.2.2.2.1
  have hts := hF.2.2.2.2
  unfold f_X12_bare at hf
  refine lv_iload_n hx hb dX12_bare_0 rfl (lv_at hl 1 rfl) ?_
  refine lv_aload_n hx hb dX12_bare_1 rfl (lv_at hl 0 rfl) ?_
  refine gf (C := RX12) (T := TX12) (N := 16) (ci := 8) (v := .ref a_t_s) hF hG hP inX12 0 rfl rfl 1 (by decide) q1021 rfl rfl dX12_bare_2 ?_
  refine lv_iconst (v := 5) hx hb dX12_bare_5 (by decide) ?_
  refine ald_i (k := 5) hF hG hP 1 rfl (by decide) (by decide) dX12_bare_6 ?_
  obtain ⟨hg, hf⟩ := gd_some hf
  refine lv_irem hx hb dX12_bare_7 hg ?_
  refine lv_istore_n (lv' := [(2, .int (x1 - x1 / (t_s 5) * (t_s 5))), (0, .ref a_t), (1, .int x1)]) hx hb dX12_bare_8 rfl hl (by decide) rfl (fun ls hl => ?_)
  refine lv_ldc2 (v := 1000) hx hb hown (hts _ (List.mem_cons_of_mem _ q1274)) dX12_bare_9 ?_
  refine lv_aload_n hx hb dX12_bare_12 rfl (lv_at hl 1 rfl) ?_
  refine lv_iload_n hx hb dX12_bare_13 rfl (lv_at hl 2 rfl) ?_
  obtain ⟨r_1, hq, hf⟩ := bd1_some hf
  refine rdV (As := [.int x1]) (rest := [.long 1000]) hF hG hP hl.1 (c_X12_of l G a_t t_thrown a_t_states t_stateMany a_t_snapshot t_hasSnapshot a_t_text t_length t_at t_isWell a_t_read t_readMany a_t_prices t_priceMany t_pieceMany t_coins a_t_s t_s x1 r_1 hq) k_X12_of q1111 [0, 1] rfl ⟨0, 8, _, _, rfl, rfl, rfl⟩ rfl rfl (Nat.le_of_ble_eq_true rfl) ⟨(Nat.le_of_ble_eq_true rfl), (Nat.le_of_ble_eq_true rfl)⟩ ⟨(Nat.zero_le _), (Nat.zero_le _)⟩ dX12_bare_14 ?_
  refine lv_i2l (v := (Int32.toInt64 r_1)) hx hb dX12_bare_17 rfl ?_
  refine lv_lmul hx hb dX12_bare_18 ?_
  refine lv_aload_n hx hb dX12_bare_19 rfl (lv_at hl 1 rfl) ?_
  refine lv_iload_n hx hb dX12_bare_20 rfl (lv_at hl 0 rfl) ?_
  refine lv_aload_n hx hb dX12_bare_21 rfl (lv_at hl 1 rfl) ?_
  refine gf (C := RX12) (T := TX12) (N := 16) (ci := 8) (v := .ref a_t_s) hF hG hP inX12 0 rfl rfl 1 (by decide) q1021 rfl rfl dX12_bare_22 ?_
  refine lv_iconst (v := 0) hx hb dX12_bare_25 (by decide) ?_
  refine ald_i (k := 0) hF hG hP 1 rfl (by decide) (by decide) dX12_bare_26 ?_
  obtain ⟨r_2, hq, hf⟩ := bd1_some hf
  refine rdV (As := [.int (x1 - x1 / (t_s 5) * (t_s 5)), .int (t_s 0)]) (rest := [.long (1000 * (Int32.toInt64 r_1))]) hF hG hP hl.1 (c_X12_partDays l G a_t t_thrown a_t_states t_stateMany a_t_snapshot t_hasSnapshot a_t_text t_length t_at t_isWell a_t_read t_readMany a_t_prices t_priceMany t_pieceMany t_coins a_t_s t_s (x1 - x1 / (t_s 5) * (t_s 5)) (t_s 0) r_2 hq) k_X12_partDays q1401 [0, 1] rfl ⟨0, 8, _, _, rfl, rfl, rfl⟩ rfl rfl (Nat.le_of_ble_eq_true rfl) ⟨(Nat.le_of_ble_eq_true rfl), (Nat.le_of_ble_eq_true rfl)⟩ ⟨(Nat.zero_le _), (Nat.zero_le _)⟩ dX12_bare_27 ?_
  refine lv_i2l (v := (Int32.toInt64 r_2)) hx hb dX12_bare_30 rfl ?_
  refine lv_lmul hx hb dX12_bare_31 ?_
  refine lv_aload_n hx hb dX12_bare_32 rfl (lv_at hl 1 rfl) ?_
  obtain ⟨r_3, hq, hf⟩ := bd1_some hf
  refine rdV (As := []) (rest := [.long ((1000 * (Int32.toInt64 r_1)) * (Int32.toInt64 r_2))]) hF hG hP hl.1 (c_X12_allSum l G a_t t_thrown a_t_states t_stateMany a_t_snapshot t_hasSnapshot a_t_text t_length t_at t_isWell a_t_read t_readMany a_t_prices t_priceMany t_pieceMany t_coins a_t_s t_s r_3 hq) k_X12_allSum q1405 [0, 1] rfl ⟨0, 8, _, _, rfl, rfl, rfl⟩ rfl rfl (Nat.le_of_ble_eq_true rfl) ⟨(Nat.le_of_ble_eq_true rfl), (Nat.le_of_ble_eq_true rfl)⟩ ⟨(Nat.zero_le _), (Nat.zero_le _)⟩ dX12_bare_33 ?_
  refine lv_lmul hx hb dX12_bare_36 ?_
  refine lv_aload_n hx hb dX12_bare_37 rfl (lv_at hl 1 rfl) ?_
  refine lv_iload_n hx hb dX12_bare_38 rfl (lv_at hl 0 rfl) ?_
  refine lv_aload_n hx hb dX12_bare_39 rfl (lv_at hl 1 rfl) ?_
  refine gf (C := RX12) (T := TX12) (N := 16) (ci := 8) (v := .ref a_t_s) hF hG hP inX12 0 rfl rfl 1 (by decide) q1021 rfl rfl dX12_bare_40 ?_
  refine lv_iconst (v := 0) hx hb dX12_bare_43 (by decide) ?_
  refine ald_i (k := 0) hF hG hP 1 rfl (by decide) (by decide) dX12_bare_44 ?_
  obtain ⟨r_4, hq, hf⟩ := bd1_some hf
  refine rdV (As := [.int (x1 - x1 / (t_s 5) * (t_s 5)), .int (t_s 0)]) (rest := [.long (((1000 * (Int32.toInt64 r_1)) * (Int32.toInt64 r_2)) * r_3)]) hF hG hP hl.1 (c_X12_partSum l G a_t t_thrown a_t_states t_stateMany a_t_snapshot t_hasSnapshot a_t_text t_length t_at t_isWell a_t_read t_readMany a_t_prices t_priceMany t_pieceMany t_coins a_t_s t_s (x1 - x1 / (t_s 5) * (t_s 5)) (t_s 0) r_4 hq) k_X12_partSum q1397 [0, 1] rfl ⟨0, 8, _, _, rfl, rfl, rfl⟩ rfl rfl (Nat.le_of_ble_eq_true rfl) ⟨(Nat.le_of_ble_eq_true rfl), (Nat.le_of_ble_eq_true rfl)⟩ ⟨(Nat.zero_le _), (Nat.zero_le _)⟩ dX12_bare_45 ?_
  refine lv_aload_n hx hb dX12_bare_48 rfl (lv_at hl 1 rfl) ?_
  refine gf (C := RX12) (T := TX12) (N := 16) (ci := 8) (v := .ref a_t_s) hF hG hP inX12 0 rfl rfl 1 (by decide) q1021 rfl rfl dX12_bare_49 ?_
  refine lv_iconst (v := 0) hx hb dX12_bare_52 (by decide) ?_
  refine ald_i (k := 0) hF hG hP 1 rfl (by decide) (by decide) dX12_bare_53 ?_
  refine lv_i2l (v := (Int32.toInt64 (t_s 0))) hx hb dX12_bare_54 rfl ?_
  refine lv_lmul hx hb dX12_bare_55 ?_
  obtain ⟨hg, hf⟩ := gd_some hf
  refine lv_ldiv hx hb dX12_bare_56 hg ?_
  have hf : (some ((((1000 * (Int32.toInt64 r_1)) * (Int32.toInt64 r_2)) * r_3) / (r_4 * (Int32.toInt64 (t_s 0)))) : Option (Int64)) = some rr := hf
  cases hf
  exact re_l hF hr hlk dX12_bare_57 rfl
def f_X12_barePrice (t_thrown : Int32) (t_s : Nat → Int32) (x1 : Int32) : Option (Int64 × Int32) := bd1 (f_X12_isDay t_s x1) (fun (r_1 : Int32) => (if r_1 = 0 then bd2 (f_X12_fails 0 1) (fun (r_2 : Int32) (t_thrown_3 : Int32) => some ((Int32.toInt64 r_2), t_thrown_3)) else bd1 (f_X12_bare t_s x1) (fun (r_4 : Int64) => some (r_4, 0))))
theorem k_X12_barePrice : KV yX12_barePrice cX12_barePrice 2 (some .long) 1 := ⟨qc_yX12_barePrice, q9, ⟨by decide +kernel, by decide +kernel, by decide +kernel⟩, qi_yX12_barePrice, qs_yX12_barePrice⟩
abbrev RM_X12_barePrice : Room := { frames := 3, cells := 0, slots := 0, locals := 68 }
set_option maxHeartbeats 4000000 in
set_option maxRecDepth 100000 in
theorem c_X12_barePrice (l : Launch) (G : GP) (a_t : Nat) (t_thrown : Int32) (a_t_states : Nat) (t_stateMany : Int32) (a_t_snapshot : Nat) (t_hasSnapshot : Int32) (a_t_text : Nat) (t_length : Int32) (t_at : Int32) (t_isWell : Int32) (a_t_read : Nat) (t_readMany : Int32) (a_t_prices : Nat) (t_priceMany : Int32) (t_pieceMany : Int32) (t_coins : Int64) (a_t_s : Nat) (t_s : Nat → Int32) (x1 : Int32) (rr : Int64) (w_t_thrown : Int32) (hf : f_X12_barePrice t_thrown t_s x1 = some (rr, w_t_thrown)) : WM l yX12_barePrice cX12_barePrice 2 (some .long) 3 68 G [.ref a_t, .int x1] [(a_t, .inr (8, [.int t_thrown, .ref a_t_s, .ref a_t_states, .int t_stateMany, .ref a_t_snapshot, .int t_hasSnapshot, .ref a_t_text, .int t_length, .int t_at, .int t_isWell, .ref a_t_read, .int t_readMany, .ref a_t_prices, .int t_priceMany, .int t_pieceMany, .long t_coins])), (a_t_s, .inl (G.2.1, 68, .inl t_s))] (some (.long rr)) [(a_t, .inr (8, [.int w_t_thrown, .ref a_t_s, .ref a_t_states, .int t_stateMany, .ref a_t_snapshot, .int t_hasSnapshot, .ref a_t_text, .int t_length, .int t_at, .int t_isWell, .ref a_t_read, .int t_readMany, .ref a_t_prices, .int t_priceMany, .int t_pieceMany, .long t_coins])), (a_t_s, .inl (G.2.1, 68, .inl t_s))] := by
  refine WM.ofW (C := RX12) (by decide) rfl (Nat.le_of_ble_eq_true rfl) ?_
  intro p e s m below meth c A hF hr hlk hG hA hP hD ls hl
  have hl : lv_has ls 2 [(0, .ref a_t), (1, .int x1)] := hl
  have hx := hF.1
  have hb := hF.2.1
  have hml := hF.2.2.1
  have hown := hF.2.2.2.1
  have hts := hF.2.2.2.2
  have hS : va_S A s.heap s.heap [] := va_S.rf
  unfold f_X12_barePrice at hf
  refine lv_aload_n hx hb dX12_barePrice_0 rfl (lv_at hl 0 rfl) ?_
  refine lv_iconst (v := 0) hx hb dX12_barePrice_1 (by decide) ?_
  refine pf (C := RX12) (T := TX12) (N := 16) (ci := 8) (v := .int 0) (ty := .int) hF hG hP hD hS inX12 tyX12 tyX12_ok nmX12 0 rfl rfl 0 (by decide) q1020 rfl rfl (by decide +kernel) rfl rfl (Nat.le_of_ble_eq_true rfl) dX12_barePrice_2 (fun H locs hP hD hS => ?_)
  replace hP : va_P G.1 vwCl [(a_t, .inr (8, [.int 0, .ref a_t_s, .ref a_t_states, .int t_stateMany, .ref a_t_snapshot, .int t_hasSnapshot, .ref a_t_text, .int t_length, .int t_at, .int t_isWell, .ref a_t_read, .int t_readMany, .ref a_t_prices, .int t_priceMany, .int t_pieceMany, .long t_coins])), (a_t_s, .inl (G.2.1, 68, .inl t_s))] H := hP
  replace hD : va_D A [(a_t, .inr (8, [.int 0, .ref a_t_s, .ref a_t_states, .int t_stateMany, .ref a_t_snapshot, .int t_hasSnapshot, .ref a_t_text, .int t_length, .int t_at, .int t_isWell, .ref a_t_read, .int t_readMany, .ref a_t_prices, .int t_priceMany, .int t_pieceMany, .long t_coins])), (a_t_s, .inl (G.2.1, 68, .inl t_s))] := hD
  refine lv_aload_n hx hb dX12_barePrice_5 rfl (lv_at hl 0 rfl) ?_
  refine lv_iload_n hx hb dX12_barePrice_6 rfl (lv_at hl 1 rfl) ?_
  obtain ⟨r_1, hq, hf⟩ := bd1_some hf
  refine rdV (As := [.int x1]) (rest := []) hF hG hP hl.1 (c_X12_isDay l G a_t 0 a_t_states t_stateMany a_t_snapshot t_hasSnapshot a_t_text t_length t_at t_isWell a_t_read t_readMany a_t_prices t_priceMany t_pieceMany t_coins a_t_s t_s x1 r_1 hq) k_X12_isDay q1099 [0, 1] rfl ⟨0, 8, _, _, rfl, rfl, rfl⟩ rfl rfl (Nat.le_of_ble_eq_true rfl) ⟨(Nat.le_of_ble_eq_true rfl), (Nat.le_of_ble_eq_true rfl)⟩ ⟨(Nat.zero_le _), (Nat.zero_le _)⟩ dX12_barePrice_7 ?_
  refine lv_if_eq (tgt := 21) hx hb dX12_barePrice_10 (by decide) (fun c0 => ?_) (fun c0 => ?_)
  · have hf := (if_pos c0).symm.trans hf
    refine lv_aload_n hx hb dX12_barePrice_21 rfl (lv_at hl 0 rfl) ?_
    refine lv_iconst (v := 1) hx hb dX12_barePrice_22 (by decide) ?_
    obtain ⟨r_2, t_thrown_3, hq, hf⟩ := bd2_some hf
    refine wrV (As := [.int 1]) (rest := []) (wn := [(a_t, .inr (8, [.int t_thrown_3, .ref a_t_s, .ref a_t_states, .int t_stateMany, .ref a_t_snapshot, .int t_hasSnapshot, .ref a_t_text, .int t_length, .int t_at, .int t_isWell, .ref a_t_read, .int t_readMany, .ref a_t_prices, .int t_priceMany, .int t_pieceMany, .long t_coins])), (a_t_s, .inl (G.2.1, 68, .inl t_s))]) hF hG hP hD hS hA hl.1 (c_X12_fails l G a_t 0 a_t_s a_t_states t_stateMany a_t_snapshot t_hasSnapshot a_t_text t_length t_at t_isWell a_t_read t_readMany a_t_prices t_priceMany t_pieceMany t_coins 1 r_2 t_thrown_3 hq) k_X12_fails q1083 [0] [1] [1, 0] rfl rfl rfl rfl ⟨rfl, rfl⟩ (by decide) ⟨0, 8, _, _, rfl, rfl, rfl⟩ rfl rfl (Nat.le_of_ble_eq_true rfl) ⟨(Nat.le_of_ble_eq_true rfl), (Nat.le_of_ble_eq_true rfl)⟩ ⟨(Nat.le_of_ble_eq_true rfl), (Nat.le_of_ble_eq_true rfl)⟩ dX12_barePrice_23 (fun H locs hP hD hS => ?_)
    refine lv_i2l (v := (Int32.toInt64 r_2)) hx hb dX12_barePrice_26 rfl ?_
    have hf : (some ((Int32.toInt64 r_2), t_thrown_3) : Option (Int64 × Int32)) = some (rr, w_t_thrown) := hf
    cases hf
    exact we_l hF hr hlk hP hD hS dX12_barePrice_27 rfl
  · have hf := (if_neg c0).symm.trans hf
    refine lv_aload_n hx hb dX12_barePrice_13 rfl (lv_at hl 0 rfl) ?_
    refine lv_iload_n hx hb dX12_barePrice_14 rfl (lv_at hl 1 rfl) ?_
    obtain ⟨r_4, hq, hf⟩ := bd1_some hf
    refine rdV (As := [.int x1]) (rest := []) hF hG hP hl.1 (c_X12_bare l G a_t 0 a_t_states t_stateMany a_t_snapshot t_hasSnapshot a_t_text t_length t_at t_isWell a_t_read t_readMany a_t_prices t_priceMany t_pieceMany t_coins a_t_s t_s x1 r_4 hq) k_X12_bare q1413 [0, 1] rfl ⟨0, 8, _, _, rfl, rfl, rfl⟩ rfl rfl (Nat.le_of_ble_eq_true rfl) ⟨(Nat.le_of_ble_eq_true rfl), (Nat.le_of_ble_eq_true rfl)⟩ ⟨(Nat.zero_le _), (Nat.zero_le _)⟩ dX12_barePrice_15 ?_
    refine lv_goto (tgt := 27) hx hb dX12_barePrice_18 (by decide) ?_
    have hf : (some (r_4, 0) : Option (Int64 × Int32)) = some (rr, w_t_thrown) := hf
    cases hf
    exact we_l hF hr hlk hP hD hS dX12_barePrice_27 rfl
def f_X12_isMethod (x0 : Int32) : Option (Int32) := bd1 (f_X12_in x0 0 3) (fun (r_1 : Int32) => gd (r_1 &&& 1 = r_1) (some r_1))
theorem k_X12_isMethod : KS yX12_isMethod cX12_isMethod 1 (some .boolean) 1 := ⟨qc_yX12_isMethod, q9, ⟨by decide +kernel, by decide +kernel, by decide +kernel⟩, qt_yX12_isMethod⟩
abbrev RM_X12_isMethod : Room := { frames := 1, cells := 0, slots := 0, locals := 22 }
set_option maxHeartbeats 4000000 in
set_option maxRecDepth 100000 in
theorem c_X12_isMethod (l : Launch) (G : GP) (x0 : Int32) (rr : Int32) (hf : f_X12_isMethod x0 = some rr) : RM l yX12_isMethod cX12_isMethod 1 (some .boolean) 1 22 G [.int x0] [] (some (.int rr)) := by
  refine RM.ofW (C := RX12) (by decide) rfl (Nat.le_of_ble_eq_true rfl) ?_
  intro p e s m below meth c hF hr hlk hG hP ls hl
  have hl : lv_has ls 1 [(0, .int x0)] := hl
  have hx := hF.1
  have hb := hF.2.1
  have hml := hF.2.2.1
  have hown := hF.2.2.2.1
  have hts := hF.2.2.2.2
  unfold f_X12_isMethod at hf
  refine lv_iload_n hx hb dX12_isMethod_0 rfl (lv_at hl 0 rfl) ?_
  refine lv_iconst (v := 0) hx hb dX12_isMethod_1 (by decide) ?_
  refine lv_iconst (v := 3) hx hb dX12_isMethod_2 (by decide) ?_
  obtain ⟨r_1, hq, hf⟩ := bd1_some hf
  refine rdS (As := [.int x0, .int 0, .int 3]) (rest := []) hF hG hP hl.1 (c_X12_in l G x0 0 3 r_1 hq) k_X12_in q1080 [] rfl rfl rfl (Nat.le_of_ble_eq_true rfl) ⟨(Nat.le_of_ble_eq_true rfl), (Nat.le_of_ble_eq_true rfl)⟩ ⟨(Nat.zero_le _), (Nat.zero_le _)⟩ dX12_isMethod_3 ?_
  obtain ⟨hz, hf⟩ := gd_some hf
  have hf : (some r_1 : Option (Int32)) = some rr := hf
  cases hf
  exact re_z hF hr hlk dX12_isMethod_6 hz rfl
def f_X12_told (t_s : Nat → Int32) (x1 : Int32) (x2 : Int32) : Option (Int32) := gd (¬ (t_s 5) = 0) (bd1 (f_X12_partDays t_s (x2 - x2 / (t_s 5) * (t_s 5)) x2) (fun (r_1 : Int32) => (if x1 = 2 then bd1 (f_X12_smooth t_s (x2 - 1)) (fun (r_7 : Int32) => some r_7) else (if x1 = 3 then (if r_1 ≤ 0 then bd1 (if x1 = 0 then some (t_s 1) else some (t_s 2)) (fun (j_4 : Int32) => bd1 (f_X12_meanOf t_s (x2 - 1) j_4) (fun (r_5 : Int32) => some r_5)) else bd1 (f_X12_partSum t_s (x2 - x2 / (t_s 5) * (t_s 5)) x2) (fun (r_6 : Int64) => gd (¬ (Int32.toInt64 r_1) = 0) (some (Int64.toInt32 ((1000 * r_6) / (Int32.toInt64 r_1)))))) else bd1 (if x1 = 0 then some (t_s 1) else some (t_s 2)) (fun (j_2 : Int32) => bd1 (f_X12_meanOf t_s (x2 - 1) j_2) (fun (r_3 : Int32) => some r_3))))))
theorem k_X12_told : KV yX12_told cX12_told 5 (some .int) 2 := ⟨qc_yX12_told, q9, ⟨by decide +kernel, by decide +kernel, by decide +kernel⟩, qi_yX12_told, qs_yX12_told⟩
abbrev RM_X12_told : Room := { frames := 2, cells := 0, slots := 0, locals := 46 }
set_option maxHeartbeats 4000000 in
set_option maxRecDepth 100000 in
theorem c_X12_told (l : Launch) (G : GP) (a_t : Nat) (t_thrown : Int32) (a_t_states : Nat) (t_stateMany : Int32) (a_t_snapshot : Nat) (t_hasSnapshot : Int32) (a_t_text : Nat) (t_length : Int32) (t_at : Int32) (t_isWell : Int32) (a_t_read : Nat) (t_readMany : Int32) (a_t_prices : Nat) (t_priceMany : Int32) (t_pieceMany : Int32) (t_coins : Int64) (a_t_s : Nat) (t_s : Nat → Int32) (x1 : Int32) (x2 : Int32) (rr : Int32) (hf : f_X12_told t_s x1 x2 = some rr) : RM l yX12_told cX12_told 5 (some .int) 2 46 G [.ref a_t, .int x1, .int x2] [(a_t, .inr (8, [.int t_thrown, .ref a_t_s, .ref a_t_states, .int t_stateMany, .ref a_t_snapshot, .int t_hasSnapshot, .ref a_t_text, .int t_length, .int t_at, .int t_isWell, .ref a_t_read, .int t_readMany, .ref a_t_prices, .int t_priceMany, .int t_pieceMany, .long t_coins])), (a_t_s, .inl (G.2.1, 68, .inl t_s))] (some (.int rr)) := by
  refine RM.ofW (C := RX12) (by decide) rfl (Nat.le_of_ble_eq_true rfl) ?_
  intro p e s m below meth c hF hr hlk hG hP ls hl
  have hl : lv_has ls 5 [(0, .ref a_t), (1, .int x1), (2, .int x2)] := hl
  have hx := hF.1
  have hb := hF.2.1
  have hml := hF.2.2.1
  have hown := hF.2.2.2.1
  have hts := hF.2.2.2.2
  unfold f_X12_told at hf
  refine lv_iload_n hx hb dX12_told_0 rfl (lv_at hl 2 rfl) ?_
  refine lv_aload_n hx hb dX12_told_1 rfl (lv_at hl 0 rfl) ?_
  refine gf (C := RX12) (T := TX12) (N := 16) (ci := 8) (v := .ref a_t_s) hF hG hP inX12 0 rfl rfl 1 (by decide) q1021 rfl rfl dX12_told_2 ?_
  refine lv_iconst (v := 5) hx hb dX12_told_5 (by decide) ?_
  refine ald_i (k := 5) hF hG hP 1 rfl (by decide) (by decide) dX12_told_6 ?_
  obtain ⟨hg, hf⟩ := gd_some hf
  refine lv_irem hx hb dX12_told_7 hg ?_
  refine lv_istore_n (lv' := [(3, .int (x2 - x2 / (t_s 5) * (t_s 5))), (0, .ref a_t), (1, .int x1), (2, .int x2)]) hx hb dX12_told_8 rfl hl (by decide) rfl (fun ls hl => ?_)
  refine lv_aload_n hx hb dX12_told_9 rfl (lv_at hl 1 rfl) ?_
  refine lv_iload_n hx hb dX12_told_10 rfl (lv_at hl 0 rfl) ?_
  refine lv_iload_n hx hb dX12_told_11 rfl (lv_at hl 3 rfl) ?_
  obtain ⟨r_1, hq, hf⟩ := bd1_some hf
  refine rdV (As := [.int (x2 - x2 / (t_s 5) * (t_s 5)), .int x2]) (rest := []) hF hG hP hl.1 (c_X12_partDays l G a_t t_thrown a_t_states t_stateMany a_t_snapshot t_hasSnapshot a_t_text t_length t_at t_isWell a_t_read t_readMany a_t_prices t_priceMany t_pieceMany t_coins a_t_s t_s (x2 - x2 / (t_s 5) * (t_s 5)) x2 r_1 hq) k_X12_partDays q1401 [0, 1] rfl ⟨0, 8, _, _, rfl, rfl, rfl⟩ rfl rfl (Nat.le_of_ble_eq_true rfl) ⟨(Nat.le_of_ble_eq_true rfl), (Nat.le_of_ble_eq_true rfl)⟩ ⟨(Nat.zero_le _), (Nat.zero_le _)⟩ dX12_told_12 ?_
  refine lv_istore (lv' := [(4, .int r_1), (3, .int (x2 - x2 / (t_s 5) * (t_s 5))), (0, .ref a_t), (1, .int x1), (2, .int x2)]) hx hb dX12_told_15 hl (by decide) rfl (fun ls hl => ?_)
  refine lv_iload_n hx hb dX12_told_17 rfl (lv_at hl 3 rfl) ?_
  refine lv_iconst (v := 2) hx hb dX12_told_18 (by decide) ?_
  refine lv_icmp_ne (tgt := 30) hx hb dX12_told_19 (by decide) (fun c0 => ?_) (fun c0 => ?_)
  · have hf := (if_neg c0).symm.trans hf
    refine lv_iload_n hx hb dX12_told_30 rfl (lv_at hl 3 rfl) ?_
    refine lv_iconst (v := 3) hx hb dX12_told_31 (by decide) ?_
    refine lv_icmp_ne (tgt := 56) hx hb dX12_told_32 (by decide) (fun c0 => ?_) (fun c0 => ?_)
    · have hf := (if_neg c0).symm.trans hf
      refine lv_aload_n hx hb dX12_told_56 rfl (lv_at hl 2 rfl) ?_
      refine lv_iload_n hx hb dX12_told_57 rfl (lv_at hl 4 rfl) ?_
      refine lv_iconst (v := 1) hx hb dX12_told_58 (by decide) ?_
      refine lv_isub hx hb dX12_told_59 ?_
      refine lv_iload_n hx hb dX12_told_60 rfl (lv_at hl 3 rfl) ?_
      obtain ⟨j_2, hq, hf⟩ := bd1_some hf
      have J79 : ∀ ls : Array Slot, lv_has ls 5 [] → W p l e RM_X12_told s m [.ref a_t, .int x1, .int x2].toArray below meth c s.heap [] 0 0 (MQ below (rdQ (some (.int rr))) [.ref a_t, .int x1, .int x2].toArray s 0 0 (fun _ => False)) (F0 m 79 ls [.int j_2, .int (x2 - 1), .ref a_t]) := by
        intro ls hl
        obtain ⟨r_3, hq, hf⟩ := bd1_some hf
        refine rdV (As := [.int (x2 - 1), .int j_2]) (rest := []) hF hG hP hl.1 (c_X12_meanOf l G a_t t_thrown a_t_states t_stateMany a_t_snapshot t_hasSnapshot a_t_text t_length t_at t_isWell a_t_read t_readMany a_t_prices t_priceMany t_pieceMany t_coins a_t_s t_s (x2 - 1) j_2 r_3 hq) k_X12_meanOf q1258 [0, 1] rfl ⟨0, 8, _, _, rfl, rfl, rfl⟩ rfl rfl (Nat.le_of_ble_eq_true rfl) ⟨(Nat.le_of_ble_eq_true rfl), (Nat.le_of_ble_eq_true rfl)⟩ ⟨(Nat.zero_le _), (Nat.zero_le _)⟩ dX12_told_79 ?_
        have hf : (some r_3 : Option (Int32)) = some rr := hf
        cases hf
        exact re_i hF hr hlk dX12_told_82 rfl
      clear hf
      have hf := hq
      clear hq
      refine lv_if_ne (tgt := 73) hx hb dX12_told_61 (by decide) (fun c0 => ?_) (fun c0 => ?_)
      · have hf := (if_neg c0).symm.trans hf
        refine lv_aload_n hx hb dX12_told_73 rfl (lv_at hl 2 rfl) ?_
        refine gf (C := RX12) (T := TX12) (N := 16) (ci := 8) (v := .ref a_t_s) hF hG hP inX12 0 rfl rfl 1 (by decide) q1021 rfl rfl dX12_told_74 ?_
        refine lv_iconst (v := 2) hx hb dX12_told_77 (by decide) ?_
        refine ald_i (k := 2) hF hG hP 1 rfl (by decide) (by decide) dX12_told_78 ?_
        have hf : (some (t_s 2) : Option (Int32)) = some j_2 := hf
        cases hf
        exact J79 ls (lv_sub hl [] rfl)
      · have hf := (if_pos c0).symm.trans hf
        refine lv_aload_n hx hb dX12_told_64 rfl (lv_at hl 2 rfl) ?_
        refine gf (C := RX12) (T := TX12) (N := 16) (ci := 8) (v := .ref a_t_s) hF hG hP inX12 0 rfl rfl 1 (by decide) q1021 rfl rfl dX12_told_65 ?_
        refine lv_iconst (v := 1) hx hb dX12_told_68 (by decide) ?_
        refine ald_i (k := 1) hF hG hP 1 rfl (by decide) (by decide) dX12_told_69 ?_
        refine lv_goto (tgt := 79) hx hb dX12_told_70 (by decide) ?_
        have hf : (some (t_s 1) : Option (Int32)) = some j_2 := hf
        cases hf
        exact J79 ls (lv_sub hl [] rfl)
    · have hf := (if_pos c0).symm.trans hf
      refine lv_iload hx hb dX12_told_35 (lv_at hl 0 rfl) ?_
      refine lv_if_le (tgt := 56) hx hb dX12_told_37 (by decide) (fun c0 => ?_) (fun c0 => ?_)
      · have hf := (if_pos c0).symm.trans hf
        refine lv_aload_n hx hb dX12_told_56 rfl (lv_at hl 2 rfl) ?_
        refine lv_iload_n hx hb dX12_told_57 rfl (lv_at hl 4 rfl) ?_
        refine lv_iconst (v := 1) hx hb dX12_told_58 (by decide) ?_
        refine lv_isub hx hb dX12_told_59 ?_
        refine lv_iload_n hx hb dX12_told_60 rfl (lv_at hl 3 rfl) ?_
        obtain ⟨j_4, hq, hf⟩ := bd1_some hf
        have J79 : ∀ ls : Array Slot, lv_has ls 5 [] → W p l e RM_X12_told s m [.ref a_t, .int x1, .int x2].toArray below meth c s.heap [] 0 0 (MQ below (rdQ (some (.int rr))) [.ref a_t, .int x1, .int x2].toArray s 0 0 (fun _ => False)) (F0 m 79 ls [.int j_4, .int (x2 - 1), .ref a_t]) := by
          intro ls hl
          obtain ⟨r_5, hq, hf⟩ := bd1_some hf
          refine rdV (As := [.int (x2 - 1), .int j_4]) (rest := []) hF hG hP hl.1 (c_X12_meanOf l G a_t t_thrown a_t_states t_stateMany a_t_snapshot t_hasSnapshot a_t_text t_length t_at t_isWell a_t_read t_readMany a_t_prices t_priceMany t_pieceMany t_coins a_t_s t_s (x2 - 1) j_4 r_5 hq) k_X12_meanOf q1258 [0, 1] rfl ⟨0, 8, _, _, rfl, rfl, rfl⟩ rfl rfl (Nat.le_of_ble_eq_true rfl) ⟨(Nat.le_of_ble_eq_true rfl), (Nat.le_of_ble_eq_true rfl)⟩ ⟨(Nat.zero_le _), (Nat.zero_le _)⟩ dX12_told_79 ?_
          have hf : (some r_5 : Option (Int32)) = some rr := hf
          cases hf
          exact re_i hF hr hlk dX12_told_82 rfl
        clear hf
        have hf := hq
        clear hq
        refine lv_if_ne (tgt := 73) hx hb dX12_told_61 (by decide) (fun c0 => ?_) (fun c0 => ?_)
        · have hf := (if_neg c0).symm.trans hf
          refine lv_aload_n hx hb dX12_told_73 rfl (lv_at hl 2 rfl) ?_
          refine gf (C := RX12) (T := TX12) (N := 16) (ci := 8) (v := .ref a_t_s) hF hG hP inX12 0 rfl rfl 1 (by decide) q1021 rfl rfl dX12_told_74 ?_
          refine lv_iconst (v := 2) hx hb dX12_told_77 (by decide) ?_
          refine ald_i (k := 2) hF hG hP 1 rfl (by decide) (by decide) dX12_told_78 ?_
          have hf : (some (t_s 2) : Option (Int32)) = some j_4 := hf
          cases hf
          exact J79 ls (lv_sub hl [] rfl)
        · have hf := (if_pos c0).symm.trans hf
          refine lv_aload_n hx hb dX12_told_64 rfl (lv_at hl 2 rfl) ?_
          refine gf (C := RX12) (T := TX12) (N := 16) (ci := 8) (v := .ref a_t_s) hF hG hP inX12 0 rfl rfl 1 (by decide) q1021 rfl rfl dX12_told_65 ?_
          refine lv_iconst (v := 1) hx hb dX12_told_68 (by decide) ?_
          refine ald_i (k := 1) hF hG hP 1 rfl (by decide) (by decide) dX12_told_69 ?_
          refine lv_goto (tgt := 79) hx hb dX12_told_70 (by decide) ?_
          have hf : (some (t_s 1) : Option (Int32)) = some j_4 := hf
          cases hf
          exact J79 ls (lv_sub hl [] rfl)
      · have hf := (if_neg c0).symm.trans hf
        refine lv_ldc2 (v := 1000) hx hb hown (hts _ (List.mem_cons_of_mem _ q1274)) dX12_told_40 ?_
        refine lv_aload_n hx hb dX12_told_43 rfl (lv_at hl 2 rfl) ?_
        refine lv_iload_n hx hb dX12_told_44 rfl (lv_at hl 1 rfl) ?_
        refine lv_iload_n hx hb dX12_told_45 rfl (lv_at hl 4 rfl) ?_
        obtain ⟨r_6, hq, hf⟩ := bd1_some hf
        refine rdV (As := [.int (x2 - x2 / (t_s 5) * (t_s 5)), .int x2]) (rest := [.long 1000]) hF hG hP hl.1 (c_X12_partSum l G a_t t_thrown a_t_states t_stateMany a_t_snapshot t_hasSnapshot a_t_text t_length t_at t_isWell a_t_read t_readMany a_t_prices t_priceMany t_pieceMany t_coins a_t_s t_s (x2 - x2 / (t_s 5) * (t_s 5)) x2 r_6 hq) k_X12_partSum q1397 [0, 1] rfl ⟨0, 8, _, _, rfl, rfl, rfl⟩ rfl rfl (Nat.le_of_ble_eq_true rfl) ⟨(Nat.le_of_ble_eq_true rfl), (Nat.le_of_ble_eq_true rfl)⟩ ⟨(Nat.zero_le _), (Nat.zero_le _)⟩ dX12_told_46 ?_
        refine lv_lmul hx hb dX12_told_49 ?_
        refine lv_iload hx hb dX12_told_50 (lv_at hl 0 rfl) ?_
        refine lv_i2l (v := (Int32.toInt64 r_1)) hx hb dX12_told_52 rfl ?_
        obtain ⟨hg, hf⟩ := gd_some hf
        refine lv_ldiv hx hb dX12_told_53 hg ?_
        refine lv_l2i (v := (Int64.toInt32 ((1000 * r_6) / (Int32.toInt64 r_1)))) hx hb dX12_told_54 rfl ?_
        have hf : (some (Int64.toInt32 ((1000 * r_6) / (Int32.toInt64 r_1))) : Option (Int32)) = some rr := hf
        cases hf
        exact re_i hF hr hlk dX12_told_55 rfl
  · have hf := (if_pos c0).symm.trans hf
    refine lv_aload_n hx hb dX12_told_22 rfl (lv_at hl 2 rfl) ?_
    refine lv_iload_n hx hb dX12_told_23 rfl (lv_at hl 4 rfl) ?_
    refine lv_iconst (v := 1) hx hb dX12_told_24 (by decide) ?_
    refine lv_isub hx hb dX12_told_25 ?_
    obtain ⟨r_7, hq, hf⟩ := bd1_some hf
    refine rdV (As := [.int (x2 - 1)]) (rest := []) hF hG hP hl.1 (c_X12_smooth l G a_t t_thrown a_t_states t_stateMany a_t_snapshot t_hasSnapshot a_t_text t_length t_at t_isWell a_t_read t_readMany a_t_prices t_priceMany t_pieceMany t_coins a_t_s t_s (x2 - 1) r_7 hq) k_X12_smooth q1283 [0, 1] rfl ⟨0, 8, _, _, rfl, rfl, rfl⟩ rfl rfl (Nat.le_of_ble_eq_true rfl) ⟨(Nat.le_of_ble_eq_true rfl), (Nat.le_of_ble_eq_true rfl)⟩ ⟨(Nat.zero_le _), (Nat.zero_le _)⟩ dX12_told_26 ?_
    have hf : (some r_7 : Option (Int32)) = some rr := hf
    cases hf
    exact re_i hF hr hlk dX12_told_29 rfl
def f_X12_forecast (t_thrown : Int32) (t_s : Nat → Int32) (x1 : Int32) : Option (Int32 × Int32) := bd1 (f_X12_isMethod x1) (fun (r_1 : Int32) => (if r_1 = 0 then bd2 (f_X12_fails 0 1) (fun (r_5 : Int32) (t_thrown_6 : Int32) => some (r_5, t_thrown_6)) else (if (t_s 0) = 0 then bd2 (f_X12_fails 0 2) (fun (r_3 : Int32) (t_thrown_4 : Int32) => some (r_3, t_thrown_4)) else bd1 (f_X12_told t_s x1 (t_s 0)) (fun (r_2 : Int32) => some (r_2, 0)))))
theorem k_X12_forecast : KV yX12_forecast cX12_forecast 2 (some .int) 1 := ⟨qc_yX12_forecast, q9, ⟨by decide +kernel, by decide +kernel, by decide +kernel⟩, qi_yX12_forecast, qs_yX12_forecast⟩
abbrev RM_X12_forecast : Room := { frames := 3, cells := 0, slots := 0, locals := 70 }
set_option maxHeartbeats 4000000 in
set_option maxRecDepth 100000 in
theorem c_X12_forecast (l : Launch) (G : GP) (a_t : Nat) (t_thrown : Int32) (a_t_states : Nat) (t_stateMany : Int32) (a_t_snapshot : Nat) (t_hasSnapshot : Int32) (a_t_text : Nat) (t_length : Int32) (t_at : Int32) (t_isWell : Int32) (a_t_read : Nat) (t_readMany : Int32) (a_t_prices : Nat) (t_priceMany : Int32) (t_pieceMany : Int32) (t_coins : Int64) (a_t_s : Nat) (t_s : Nat → Int32) (x1 : Int32) (rr : Int32) (w_t_thrown : Int32) (hf : f_X12_forecast t_thrown t_s x1 = some (rr, w_t_thrown)) : WM l yX12_forecast cX12_forecast 2 (some .int) 3 70 G [.ref a_t, .int x1] [(a_t, .inr (8, [.int t_thrown, .ref a_t_s, .ref a_t_states, .int t_stateMany, .ref a_t_snapshot, .int t_hasSnapshot, .ref a_t_text, .int t_length, .int t_at, .int t_isWell, .ref a_t_read, .int t_readMany, .ref a_t_prices, .int t_priceMany, .int t_pieceMany, .long t_coins])), (a_t_s, .inl (G.2.1, 68, .inl t_s))] (some (.int rr)) [(a_t, .inr (8, [.int w_t_thrown, .ref a_t_s, .ref a_t_states, .int t_stateMany, .ref a_t_snapshot, .int t_hasSnapshot, .ref a_t_text, .int t_length, .int t_at, .int t_isWell, .ref a_t_read, .int t_readMany, .ref a_t_prices, .int t_priceMany, .int t_pieceMany, .long t_coins])), (a_t_s, .inl (G.2.1, 68, .inl t_s))] := by
  refine WM.ofW (C := RX12) (by decide) rfl (Nat.le_of_ble_eq_true rfl) ?_
  intro p e s m below meth c A hF hr hlk hG hA hP hD ls hl
  have hl : lv_has ls 2 [(0, .ref a_t), (1, .int x1)] := hl
  have hx := hF.1
  have hb := hF.2.1
  have hml := hF.2.2.1
  have hown := hF.2.2.2.1
  have hts := hF.2.2.2.2
  have hS : va_S A s.heap s.heap [] := va_S.rf
  unfold f_X12_forecast at hf
  refine lv_aload_n hx hb dX12_forecast_0 rfl (lv_at hl 0 rfl) ?_
  refine lv_iconst (v := 0) hx hb dX12_forecast_1 (by decide) ?_
  refine pf (C := RX12) (T := TX12) (N := 16) (ci := 8) (v := .int 0) (ty := .int) hF hG hP hD hS inX12 tyX12 tyX12_ok nmX12 0 rfl rfl 0 (by decide) q1020 rfl rfl (by decide +kernel) rfl rfl (Nat.le_of_ble_eq_true rfl) dX12_forecast_2 (fun H locs hP hD hS => ?_)
  replace hP : va_P G.1 vwCl [(a_t, .inr (8, [.int 0, .ref a_t_s, .ref a_t_states, .int t_stateMany, .ref a_t_snapshot, .int t_hasSnapshot, .ref a_t_text, .int t_length, .int t_at, .int t_isWell, .ref a_t_read, .int t_readMany, .ref a_t_prices, .int t_priceMany, .int t_pieceMany, .long t_coins])), (a_t_s, .inl (G.2.1, 68, .inl t_s))] H := hP
  replace hD : va_D A [(a_t, .inr (8, [.int 0, .ref a_t_s, .ref a_t_states, .int t_stateMany, .ref a_t_snapshot, .int t_hasSnapshot, .ref a_t_text, .int t_length, .int t_at, .int t_isWell, .ref a_t_read, .int t_readMany, .ref a_t_prices, .int t_priceMany, .int t_pieceMany, .long t_coins])), (a_t_s, .inl (G.2.1, 68, .inl t_s))] := hD
  refine lv_iload_n hx hb dX12_forecast_5 rfl (lv_at hl 1 rfl) ?_
  obtain ⟨r_1, hq, hf⟩ := bd1_some hf
  refine rdS (As := [.int x1]) (rest := []) hF hG hP hl.1 (c_X12_isMethod l G x1 r_1 hq) k_X12_isMethod q1421 [] rfl rfl rfl (Nat.le_of_ble_eq_true rfl) ⟨(Nat.le_of_ble_eq_true rfl), (Nat.le_of_ble_eq_true rfl)⟩ ⟨(Nat.zero_le _), (Nat.zero_le _)⟩ dX12_forecast_6 ?_
  refine lv_if_ne (tgt := 18) hx hb dX12_forecast_9 (by decide) (fun c0 => ?_) (fun c0 => ?_)
  · have hf := (if_neg c0).symm.trans hf
    refine lv_aload_n hx hb dX12_forecast_18 rfl (lv_at hl 0 rfl) ?_
    refine gf (C := RX12) (T := TX12) (N := 16) (ci := 8) (v := .ref a_t_s) hF hG hP inX12 0 rfl rfl 1 (by decide) q1021 rfl rfl dX12_forecast_19 ?_
    refine lv_iconst (v := 0) hx hb dX12_forecast_22 (by decide) ?_
    refine ald_i (k := 0) hF hG hP 1 rfl (by decide) (by decide) dX12_forecast_23 ?_
    refine lv_if_ne (tgt := 35) hx hb dX12_forecast_24 (by decide) (fun c0 => ?_) (fun c0 => ?_)
    · have hf := (if_neg c0).symm.trans hf
      refine lv_aload_n hx hb dX12_forecast_35 rfl (lv_at hl 0 rfl) ?_
      refine lv_iload_n hx hb dX12_forecast_36 rfl (lv_at hl 1 rfl) ?_
      refine lv_aload_n hx hb dX12_forecast_37 rfl (lv_at hl 0 rfl) ?_
      refine gf (C := RX12) (T := TX12) (N := 16) (ci := 8) (v := .ref a_t_s) hF hG hP inX12 0 rfl rfl 1 (by decide) q1021 rfl rfl dX12_forecast_38 ?_
      refine lv_iconst (v := 0) hx hb dX12_forecast_41 (by decide) ?_
      refine ald_i (k := 0) hF hG hP 1 rfl (by decide) (by decide) dX12_forecast_42 ?_
      obtain ⟨r_2, hq, hf⟩ := bd1_some hf
      refine rdV (As := [.int x1, .int (t_s 0)]) (rest := []) hF hG hP hl.1 (c_X12_told l G a_t 0 a_t_states t_stateMany a_t_snapshot t_hasSnapshot a_t_text t_length t_at t_isWell a_t_read t_readMany a_t_prices t_priceMany t_pieceMany t_coins a_t_s t_s x1 (t_s 0) r_2 hq) k_X12_told q1424 [0, 1] rfl ⟨0, 8, _, _, rfl, rfl, rfl⟩ rfl rfl (Nat.le_of_ble_eq_true rfl) ⟨(Nat.le_of_ble_eq_true rfl), (Nat.le_of_ble_eq_true rfl)⟩ ⟨(Nat.zero_le _), (Nat.zero_le _)⟩ dX12_forecast_43 ?_
      have hf : (some (r_2, 0) : Option (Int32 × Int32)) = some (rr, w_t_thrown) := hf
      cases hf
      exact we_i hF hr hlk hP hD hS dX12_forecast_46 rfl
    · have hf := (if_pos c0).symm.trans hf
      refine lv_aload_n hx hb dX12_forecast_27 rfl (lv_at hl 0 rfl) ?_
      refine lv_iconst (v := 2) hx hb dX12_forecast_28 (by decide) ?_
      obtain ⟨r_3, t_thrown_4, hq, hf⟩ := bd2_some hf
      refine wrV (As := [.int 2]) (rest := []) (wn := [(a_t, .inr (8, [.int t_thrown_4, .ref a_t_s, .ref a_t_states, .int t_stateMany, .ref a_t_snapshot, .int t_hasSnapshot, .ref a_t_text, .int t_length, .int t_at, .int t_isWell, .ref a_t_read, .int t_readMany, .ref a_t_prices, .int t_priceMany, .int t_pieceMany, .long t_coins])), (a_t_s, .inl (G.2.1, 68, .inl t_s))]) hF hG hP hD hS hA hl.1 (c_X12_fails l G a_t 0 a_t_s a_t_states t_stateMany a_t_snapshot t_hasSnapshot a_t_text t_length t_at t_isWell a_t_read t_readMany a_t_prices t_priceMany t_pieceMany t_coins 2 r_3 t_thrown_4 hq) k_X12_fails q1083 [0] [1] [1, 0] rfl rfl rfl rfl ⟨rfl, rfl⟩ (by decide) ⟨0, 8, _, _, rfl, rfl, rfl⟩ rfl rfl (Nat.le_of_ble_eq_true rfl) ⟨(Nat.le_of_ble_eq_true rfl), (Nat.le_of_ble_eq_true rfl)⟩ ⟨(Nat.le_of_ble_eq_true rfl), (Nat.le_of_ble_eq_true rfl)⟩ dX12_forecast_29 (fun H locs hP hD hS => ?_)
      refine lv_goto (tgt := 46) hx hb dX12_forecast_32 (by decide) ?_
      have hf : (some (r_3, t_thrown_4) : Option (Int32 × Int32)) = some (rr, w_t_thrown) := hf
      cases hf
      exact we_i hF hr hlk hP hD hS dX12_forecast_46 rfl
  · have hf := (if_pos c0).symm.trans hf
    refine lv_aload_n hx hb dX12_forecast_12 rfl (lv_at hl 0 rfl) ?_
    refine lv_iconst (v := 1) hx hb dX12_forecast_13 (by decide) ?_
    obtain ⟨r_5, t_thrown_6, hq, hf⟩ := bd2_some hf
    refine wrV (As := [.int 1]) (rest := []) (wn := [(a_t, .inr (8, [.int t_thrown_6, .ref a_t_s, .ref a_t_states, .int t_stateMany, .ref a_t_snapshot, .int t_hasSnapshot, .ref a_t_text, .int t_length, .int t_at, .int t_isWell, .ref a_t_read, .int t_readMany, .ref a_t_prices, .int t_priceMany, .int t_pieceMany, .long t_coins])), (a_t_s, .inl (G.2.1, 68, .inl t_s))]) hF hG hP hD hS hA hl.1 (c_X12_fails l G a_t 0 a_t_s a_t_states t_stateMany a_t_snapshot t_hasSnapshot a_t_text t_length t_at t_isWell a_t_read t_readMany a_t_prices t_priceMany t_pieceMany t_coins 1 r_5 t_thrown_6 hq) k_X12_fails q1083 [0] [1] [1, 0] rfl rfl rfl rfl ⟨rfl, rfl⟩ (by decide) ⟨0, 8, _, _, rfl, rfl, rfl⟩ rfl rfl (Nat.le_of_ble_eq_true rfl) ⟨(Nat.le_of_ble_eq_true rfl), (Nat.le_of_ble_eq_true rfl)⟩ ⟨(Nat.le_of_ble_eq_true rfl), (Nat.le_of_ble_eq_true rfl)⟩ dX12_forecast_14 (fun H locs hP hD hS => ?_)
    have hf : (some (r_5, t_thrown_6) : Option (Int32 × Int32)) = some (rr, w_t_thrown) := hf
    cases hf
    exact we_i hF hr hlk hP hD hS dX12_forecast_17 rfl
def l_X12_errorOf_4 (t_s : Nat → Int32) (x1 : Int32) : Nat → Int32 → Int32 → Option (Int32)
  | 0, _, _ => none
  | n + 1, i2_1, i3_2 => (if (t_s 0) ≤ i3_2 then some i2_1 else bd1 (f_X12_told t_s x1 i3_2) (fun (r_4 : Int32) => bd1 (f_X12_of t_s i3_2) (fun (r_5 : Int32) => (if 0 ≤ (r_4 - (1000 * r_5)) then l_X12_errorOf_4 t_s x1 n (i2_1 + (r_4 - (1000 * r_5))) (i3_2 + 1) else l_X12_errorOf_4 t_s x1 n (i2_1 + (-(r_4 - (1000 * r_5)))) (i3_2 + 1)))))
def f_X12_errorOf (t_s : Nat → Int32) (x1 : Int32) : Option (Int32) := bd1 (l_X12_errorOf_4 t_s x1 1000 0 1) (fun (o2_3 : Int32) => gd (¬ ((t_s 0) - 1) = 0) (some (o2_3 / ((t_s 0) - 1))))
theorem k_X12_errorOf : KV yX12_errorOf cX12_errorOf 5 (some .int) 1 := ⟨qc_yX12_errorOf, q9, ⟨by decide +kernel, by decide +kernel, by decide +kernel⟩, qi_yX12_errorOf, qs_yX12_errorOf⟩
abbrev RM_X12_errorOf : Room := { frames := 3, cells := 0, slots := 0, locals := 70 }
set_option maxHeartbeats 4000000 in
set_option maxRecDepth 100000 in
theorem c_X12_errorOf (l : Launch) (G : GP) (a_t : Nat) (t_thrown : Int32) (a_t_states : Nat) (t_stateMany : Int32) (a_t_snapshot : Nat) (t_hasSnapshot : Int32) (a_t_text : Nat) (t_length : Int32) (t_at : Int32) (t_isWell : Int32) (a_t_read : Nat) (t_readMany : Int32) (a_t_prices : Nat) (t_priceMany : Int32) (t_pieceMany : Int32) (t_coins : Int64) (a_t_s : Nat) (t_s : Nat → Int32) (x1 : Int32) (rr : Int32) (hf : f_X12_errorOf t_s x1 = some rr) : RM l yX12_errorOf cX12_errorOf 5 (some .int) 3 70 G [.ref a_t, .int x1] [(a_t, .inr (8, [.int t_thrown, .ref a_t_s, .ref a_t_states, .int t_stateMany, .ref a_t_snapshot, .int t_hasSnapshot, .ref a_t_text, .int t_length, .int t_at, .int t_isWell, .ref a_t_read, .int t_readMany, .ref a_t_prices, .int t_priceMany, .int t_pieceMany, .long t_coins])), (a_t_s, .inl (G.2.1, 68, .inl t_s))] (some (.int rr)) := by
  refine RM.ofW (C := RX12) (by decide) rfl (Nat.le_of_ble_eq_true rfl) ?_
  intro p e s m below meth c hF hr hlk hG hP ls hl
  have hl : lv_has ls 5 [(0, .ref a_t), (1, .int x1)] := hl
  have hx := hF.1
  have hb := hF.2.1
  have hml := hF.2.2.1
  have hown := hF.2.2.2.1
  have hts := hF.2.2.2.2
  unfold f_X12_errorOf at hf
  refine lv_iconst (v := 0) hx hb dX12_errorOf_0 (by decide) ?_
  refine lv_istore_n (lv' := [(2, .int 0), (0, .ref a_t), (1, .int x1)]) hx hb dX12_errorOf_1 rfl hl (by decide) rfl (fun ls hl => ?_)
  refine lv_iconst (v := 1) hx hb dX12_errorOf_2 (by decide) ?_
  refine lv_istore_n (lv' := [(3, .int 1), (2, .int 0), (0, .ref a_t), (1, .int x1)]) hx hb dX12_errorOf_3 rfl hl (by decide) rfl (fun ls hl => ?_)
  obtain ⟨o2_3, hq, hf⟩ := bd1_some hf
  have K4 : ∀ ls : Array Slot, lv_has ls 5 [(0, .ref a_t), (2, .int o2_3)] → W p l e RM_X12_errorOf s m [.ref a_t, .int x1].toArray below meth c s.heap [] 0 0 (MQ below (rdQ (some (.int rr))) [.ref a_t, .int x1].toArray s 0 0 (fun _ => False)) (F0 m 54 ls []) := by
    intro ls hl
    refine lv_iload_n hx hb dX12_errorOf_54 rfl (lv_at hl 1 rfl) ?_
    refine lv_aload_n hx hb dX12_errorOf_55 rfl (lv_at hl 0 rfl) ?_
    refine gf (C := RX12) (T := TX12) (N := 16) (ci := 8) (v := .ref a_t_s) hF hG hP inX12 0 rfl rfl 1 (by decide) q1021 rfl rfl dX12_errorOf_56 ?_
    refine lv_iconst (v := 0) hx hb dX12_errorOf_59 (by decide) ?_
    refine ald_i (k := 0) hF hG hP 1 rfl (by decide) (by decide) dX12_errorOf_60 ?_
    refine lv_iconst (v := 1) hx hb dX12_errorOf_61 (by decide) ?_
    refine lv_isub hx hb dX12_errorOf_62 ?_
    obtain ⟨hg, hf⟩ := gd_some hf
    refine lv_idiv hx hb dX12_errorOf_63 hg ?_
    have hf : (some (o2_3 / ((t_s 0) - 1)) : Option (Int32)) = some rr := hf
    cases hf
    exact re_i hF hr hlk dX12_errorOf_64 rfl
  clear hf
  have L4 : ∀ (n : Nat) (i2_1 : Int32) (i3_2 : Int32), l_X12_errorOf_4 t_s x1 n i2_1 i3_2 = some o2_3 → ∀ ls : Array Slot, lv_has ls 5 [(0, .ref a_t), (1, .int x1), (2, .int i2_1), (3, .int i3_2)] → W p l e RM_X12_errorOf s m [.ref a_t, .int x1].toArray below meth c s.heap [] 0 0 (MQ below (rdQ (some (.int rr))) [.ref a_t, .int x1].toArray s 0 0 (fun _ => False)) (F0 m 4 ls []) := by
    intro n
    induction n with
    | zero =>
      intro i2_1 i3_2 hf
      exact nomatch (show none = some o2_3 from hf)
    | succ n ih =>
      intro i2_1 i3_2 hf ls hl
      rw [l_X12_errorOf_4] at hf
      refine lv_iload_n hx hb dX12_errorOf_4 rfl (lv_at hl 3 rfl) ?_
      refine lv_aload_n hx hb dX12_errorOf_5 rfl (lv_at hl 0 rfl) ?_
      refine gf (C := RX12) (T := TX12) (N := 16) (ci := 8) (v := .ref a_t_s) hF hG hP inX12 0 rfl rfl 1 (by decide) q1021 rfl rfl dX12_errorOf_6 ?_
      refine lv_iconst (v := 0) hx hb dX12_errorOf_9 (by decide) ?_
      refine ald_i (k := 0) hF hG hP 1 rfl (by decide) (by decide) dX12_errorOf_10 ?_
      refine lv_icmp_ge (tgt := 54) hx hb dX12_errorOf_11 (by decide) (fun c0 => ?_) (fun c0 => ?_)
      · have hf := (if_pos c0).symm.trans hf
        have hf : (some i2_1 : Option (Int32)) = some o2_3 := hf
        cases hf
        exact K4 ls (lv_sub hl [0, 2] rfl)
      · have hf := (if_neg c0).symm.trans hf
        refine lv_aload_n hx hb dX12_errorOf_14 rfl (lv_at hl 0 rfl) ?_
        refine lv_iload_n hx hb dX12_errorOf_15 rfl (lv_at hl 1 rfl) ?_
        refine lv_iload_n hx hb dX12_errorOf_16 rfl (lv_at hl 3 rfl) ?_
        obtain ⟨r_4, hq, hf⟩ := bd1_some hf
        refine rdV (As := [.int x1, .int i3_2]) (rest := []) hF hG hP hl.1 (c_X12_told l G a_t t_thrown a_t_states t_stateMany a_t_snapshot t_hasSnapshot a_t_text t_length t_at t_isWell a_t_read t_readMany a_t_prices t_priceMany t_pieceMany t_coins a_t_s t_s x1 i3_2 r_4 hq) k_X12_told q1424 [0, 1] rfl ⟨0, 8, _, _, rfl, rfl, rfl⟩ rfl rfl (Nat.le_of_ble_eq_true rfl) ⟨(Nat.le_of_ble_eq_true rfl), (Nat.le_of_ble_eq_true rfl)⟩ ⟨(Nat.zero_le _), (Nat.zero_le _)⟩ dX12_errorOf_17 ?_
        refine lv_sipush (v := 1000) hx hb dX12_errorOf_20 (by decide) ?_
        refine lv_aload_n hx hb dX12_errorOf_23 rfl (lv_at hl 0 rfl) ?_
        refine lv_iload_n hx hb dX12_errorOf_24 rfl (lv_at hl 3 rfl) ?_
        obtain ⟨r_5, hq, hf⟩ := bd1_some hf
        refine rdV (As := [.int i3_2]) (rest := [.int 1000, .int r_4]) hF hG hP hl.1 (c_X12_of l G a_t t_thrown a_t_states t_stateMany a_t_snapshot t_hasSnapshot a_t_text t_length t_at t_isWell a_t_read t_readMany a_t_prices t_priceMany t_pieceMany t_coins a_t_s t_s i3_2 r_5 hq) k_X12_of q1111 [0, 1] rfl ⟨0, 8, _, _, rfl, rfl, rfl⟩ rfl rfl (Nat.le_of_ble_eq_true rfl) ⟨(Nat.le_of_ble_eq_true rfl), (Nat.le_of_ble_eq_true rfl)⟩ ⟨(Nat.zero_le _), (Nat.zero_le _)⟩ dX12_errorOf_25 ?_
        refine lv_imul hx hb dX12_errorOf_28 ?_
        refine lv_isub hx hb dX12_errorOf_29 ?_
        refine lv_istore (lv' := [(4, .int (r_4 - (1000 * r_5))), (0, .ref a_t), (1, .int x1), (2, .int i2_1), (3, .int i3_2)]) hx hb dX12_errorOf_30 hl (by decide) rfl (fun ls hl => ?_)
        refine lv_iload_n hx hb dX12_errorOf_32 rfl (lv_at hl 3 rfl) ?_
        refine lv_iload hx hb dX12_errorOf_33 (lv_at hl 0 rfl) ?_
        refine lv_if_ge (tgt := 44) hx hb dX12_errorOf_35 (by decide) (fun c0 => ?_) (fun c0 => ?_)
        · have hf := (if_pos c0).symm.trans hf
          refine lv_iload hx hb dX12_errorOf_44 (lv_at hl 0 rfl) ?_
          refine lv_iadd hx hb dX12_errorOf_46 ?_
          refine lv_istore_n (lv' := [(2, .int (i2_1 + (r_4 - (1000 * r_5)))), (4, .int (r_4 - (1000 * r_5))), (0, .ref a_t), (1, .int x1), (3, .int i3_2)]) hx hb dX12_errorOf_47 rfl hl (by decide) rfl (fun ls hl => ?_)
          refine lv_iinc (v := (i3_2 + 1)) (lv' := [(3, .int (i3_2 + 1)), (2, .int (i2_1 + (r_4 - (1000 * r_5)))), (4, .int (r_4 - (1000 * r_5))), (0, .ref a_t), (1, .int x1)]) hx hb dX12_errorOf_48 hl (k := 4) rfl rfl (by decide) rfl (fun ls hl => ?_)
          refine lv_goto (tgt := 4) hx hb dX12_errorOf_51 (by decide) ?_
          exact ih (i2_1 + (r_4 - (1000 * r_5))) (i3_2 + 1) hf ls (lv_sub hl [3, 4, 1, 0] rfl)
        · have hf := (if_neg c0).symm.trans hf
          refine lv_iload hx hb dX12_errorOf_38 (lv_at hl 0 rfl) ?_
          refine lv_ineg hx hb dX12_errorOf_40 ?_
          refine lv_goto (tgt := 46) hx hb dX12_errorOf_41 (by decide) ?_
          refine lv_iadd hx hb dX12_errorOf_46 ?_
          refine lv_istore_n (lv' := [(2, .int (i2_1 + (-(r_4 - (1000 * r_5))))), (4, .int (r_4 - (1000 * r_5))), (0, .ref a_t), (1, .int x1), (3, .int i3_2)]) hx hb dX12_errorOf_47 rfl hl (by decide) rfl (fun ls hl => ?_)
          refine lv_iinc (v := (i3_2 + 1)) (lv' := [(3, .int (i3_2 + 1)), (2, .int (i2_1 + (-(r_4 - (1000 * r_5))))), (4, .int (r_4 - (1000 * r_5))), (0, .ref a_t), (1, .int x1)]) hx hb dX12_errorOf_48 hl (k := 4) rfl rfl (by decide) rfl (fun ls hl => ?_)
          refine lv_goto (tgt := 4) hx hb dX12_errorOf_51 (by decide) ?_
          exact ih (i2_1 + (-(r_4 - (1000 * r_5)))) (i3_2 + 1) hf ls (lv_sub hl [3, 4, 1, 0] rfl)
  exact L4 1000 0 1 hq ls (lv_sub hl [2, 3, 1, 0] rfl)
def f_X12_error (t_thrown : Int32) (t_s : Nat → Int32) (x1 : Int32) : Option (Int32 × Int32) := bd1 (f_X12_isMethod x1) (fun (r_1 : Int32) => (if r_1 = 0 then bd2 (f_X12_fails 0 1) (fun (r_5 : Int32) (t_thrown_6 : Int32) => some (r_5, t_thrown_6)) else (if 2 ≤ (t_s 0) then bd1 (f_X12_errorOf t_s x1) (fun (r_2 : Int32) => some (r_2, 0)) else bd2 (f_X12_fails 0 2) (fun (r_3 : Int32) (t_thrown_4 : Int32) => some (r_3, t_thrown_4)))))
theorem k_X12_error : KV yX12_error cX12_error 2 (some .int) 1 := ⟨qc_yX12_error, q9, ⟨by decide +kernel, by decide +kernel, by decide +kernel⟩, qi_yX12_error, qs_yX12_error⟩
abbrev RM_X12_error : Room := { frames := 4, cells := 0, slots := 0, locals := 94 }
set_option maxHeartbeats 4000000 in
set_option maxRecDepth 100000 in
theorem c_X12_error (l : Launch) (G : GP) (a_t : Nat) (t_thrown : Int32) (a_t_states : Nat) (t_stateMany : Int32) (a_t_snapshot : Nat) (t_hasSnapshot : Int32) (a_t_text : Nat) (t_length : Int32) (t_at : Int32) (t_isWell : Int32) (a_t_read : Nat) (t_readMany : Int32) (a_t_prices : Nat) (t_priceMany : Int32) (t_pieceMany : Int32) (t_coins : Int64) (a_t_s : Nat) (t_s : Nat → Int32) (x1 : Int32) (rr : Int32) (w_t_thrown : Int32) (hf : f_X12_error t_thrown t_s x1 = some (rr, w_t_thrown)) : WM l yX12_error cX12_error 2 (some .int) 4 94 G [.ref a_t, .int x1] [(a_t, .inr (8, [.int t_thrown, .ref a_t_s, .ref a_t_states, .int t_stateMany, .ref a_t_snapshot, .int t_hasSnapshot, .ref a_t_text, .int t_length, .int t_at, .int t_isWell, .ref a_t_read, .int t_readMany, .ref a_t_prices, .int t_priceMany, .int t_pieceMany, .long t_coins])), (a_t_s, .inl (G.2.1, 68, .inl t_s))] (some (.int rr)) [(a_t, .inr (8, [.int w_t_thrown, .ref a_t_s, .ref a_t_states, .int t_stateMany, .ref a_t_snapshot, .int t_hasSnapshot, .ref a_t_text, .int t_length, .int t_at, .int t_isWell, .ref a_t_read, .int t_readMany, .ref a_t_prices, .int t_priceMany, .int t_pieceMany, .long t_coins])), (a_t_s, .inl (G.2.1, 68, .inl t_s))] := by
  refine WM.ofW (C := RX12) (by decide) rfl (Nat.le_of_ble_eq_true rfl) ?_
  intro p e s m below meth c A hF hr hlk hG hA hP hD ls hl
  have hl : lv_has ls 2 [(0, .ref a_t), (1, .int x1)] := hl
  have hx := hF.1
  have hb := hF.2.1
  have hml := hF.2.2.1
  have hown := hF.2.2.2.1
  have hts := hF.2.2.2.2
  have hS : va_S A s.heap s.heap [] := va_S.rf
  unfold f_X12_error at hf
  refine lv_aload_n hx hb dX12_error_0 rfl (lv_at hl 0 rfl) ?_
  refine lv_iconst (v := 0) hx hb dX12_error_1 (by decide) ?_
  refine pf (C := RX12) (T := TX12) (N := 16) (ci := 8) (v := .int 0) (ty := .int) hF hG hP hD hS inX12 tyX12 tyX12_ok nmX12 0 rfl rfl 0 (by decide) q1020 rfl rfl (by decide +kernel) rfl rfl (Nat.le_of_ble_eq_true rfl) dX12_error_2 (fun H locs hP hD hS => ?_)
  replace hP : va_P G.1 vwCl [(a_t, .inr (8, [.int 0, .ref a_t_s, .ref a_t_states, .int t_stateMany, .ref a_t_snapshot, .int t_hasSnapshot, .ref a_t_text, .int t_length, .int t_at, .int t_isWell, .ref a_t_read, .int t_readMany, .ref a_t_prices, .int t_priceMany, .int t_pieceMany, .long t_coins])), (a_t_s, .inl (G.2.1, 68, .inl t_s))] H := hP
  replace hD : va_D A [(a_t, .inr (8, [.int 0, .ref a_t_s, .ref a_t_states, .int t_stateMany, .ref a_t_snapshot, .int t_hasSnapshot, .ref a_t_text, .int t_length, .int t_at, .int t_isWell, .ref a_t_read, .int t_readMany, .ref a_t_prices, .int t_priceMany, .int t_pieceMany, .long t_coins])), (a_t_s, .inl (G.2.1, 68, .inl t_s))] := hD
  refine lv_iload_n hx hb dX12_error_5 rfl (lv_at hl 1 rfl) ?_
  obtain ⟨r_1, hq, hf⟩ := bd1_some hf
  refine rdS (As := [.int x1]) (rest := []) hF hG hP hl.1 (c_X12_isMethod l G x1 r_1 hq) k_X12_isMethod q1421 [] rfl rfl rfl (Nat.le_of_ble_eq_true rfl) ⟨(Nat.le_of_ble_eq_true rfl), (Nat.le_of_ble_eq_true rfl)⟩ ⟨(Nat.zero_le _), (Nat.zero_le _)⟩ dX12_error_6 ?_
  refine lv_if_ne (tgt := 18) hx hb dX12_error_9 (by decide) (fun c0 => ?_) (fun c0 => ?_)
  · have hf := (if_neg c0).symm.trans hf
    refine lv_aload_n hx hb dX12_error_18 rfl (lv_at hl 0 rfl) ?_
    refine gf (C := RX12) (T := TX12) (N := 16) (ci := 8) (v := .ref a_t_s) hF hG hP inX12 0 rfl rfl 1 (by decide) q1021 rfl rfl dX12_error_19 ?_
    refine lv_iconst (v := 0) hx hb dX12_error_22 (by decide) ?_
    refine ald_i (k := 0) hF hG hP 1 rfl (by decide) (by decide) dX12_error_23 ?_
    refine lv_iconst (v := 2) hx hb dX12_error_24 (by decide) ?_
    refine lv_icmp_ge (tgt := 36) hx hb dX12_error_25 (by decide) (fun c0 => ?_) (fun c0 => ?_)
    · have hf := (if_pos c0).symm.trans hf
      refine lv_aload_n hx hb dX12_error_36 rfl (lv_at hl 0 rfl) ?_
      refine lv_iload_n hx hb dX12_error_37 rfl (lv_at hl 1 rfl) ?_
      obtain ⟨r_2, hq, hf⟩ := bd1_some hf
      refine rdV (As := [.int x1]) (rest := []) hF hG hP hl.1 (c_X12_errorOf l G a_t 0 a_t_states t_stateMany a_t_snapshot t_hasSnapshot a_t_text t_length t_at t_isWell a_t_read t_readMany a_t_prices t_priceMany t_pieceMany t_coins a_t_s t_s x1 r_2 hq) k_X12_errorOf q1432 [0, 1] rfl ⟨0, 8, _, _, rfl, rfl, rfl⟩ rfl rfl (Nat.le_of_ble_eq_true rfl) ⟨(Nat.le_of_ble_eq_true rfl), (Nat.le_of_ble_eq_true rfl)⟩ ⟨(Nat.zero_le _), (Nat.zero_le _)⟩ dX12_error_38 ?_
      have hf : (some (r_2, 0) : Option (Int32 × Int32)) = some (rr, w_t_thrown) := hf
      cases hf
      exact we_i hF hr hlk hP hD hS dX12_error_41 rfl
    · have hf := (if_neg c0).symm.trans hf
      refine lv_aload_n hx hb dX12_error_28 rfl (lv_at hl 0 rfl) ?_
      refine lv_iconst (v := 2) hx hb dX12_error_29 (by decide) ?_
      obtain ⟨r_3, t_thrown_4, hq, hf⟩ := bd2_some hf
      refine wrV (As := [.int 2]) (rest := []) (wn := [(a_t, .inr (8, [.int t_thrown_4, .ref a_t_s, .ref a_t_states, .int t_stateMany, .ref a_t_snapshot, .int t_hasSnapshot, .ref a_t_text, .int t_length, .int t_at, .int t_isWell, .ref a_t_read, .int t_readMany, .ref a_t_prices, .int t_priceMany, .int t_pieceMany, .long t_coins])), (a_t_s, .inl (G.2.1, 68, .inl t_s))]) hF hG hP hD hS hA hl.1 (c_X12_fails l G a_t 0 a_t_s a_t_states t_stateMany a_t_snapshot t_hasSnapshot a_t_text t_length t_at t_isWell a_t_read t_readMany a_t_prices t_priceMany t_pieceMany t_coins 2 r_3 t_thrown_4 hq) k_X12_fails q1083 [0] [1] [1, 0] rfl rfl rfl rfl ⟨rfl, rfl⟩ (by decide) ⟨0, 8, _, _, rfl, rfl, rfl⟩ rfl rfl (Nat.le_of_ble_eq_true rfl) ⟨(Nat.le_of_ble_eq_true rfl), (Nat.le_of_ble_eq_true rfl)⟩ ⟨(Nat.le_of_ble_eq_true rfl), (Nat.le_of_ble_eq_true rfl)⟩ dX12_error_30 (fun H locs hP hD hS => ?_)
      refine lv_goto (tgt := 41) hx hb dX12_error_33 (by decide) ?_
      have hf : (some (r_3, t_thrown_4) : Option (Int32 × Int32)) = some (rr, w_t_thrown) := hf
      cases hf
      exact we_i hF hr hlk hP hD hS dX12_error_41 rfl
  · have hf := (if_pos c0).symm.trans hf
    refine lv_aload_n hx hb dX12_error_12 rfl (lv_at hl 0 rfl) ?_
    refine lv_iconst (v := 1) hx hb dX12_error_13 (by decide) ?_
    obtain ⟨r_5, t_thrown_6, hq, hf⟩ := bd2_some hf
    refine wrV (As := [.int 1]) (rest := []) (wn := [(a_t, .inr (8, [.int t_thrown_6, .ref a_t_s, .ref a_t_states, .int t_stateMany, .ref a_t_snapshot, .int t_hasSnapshot, .ref a_t_text, .int t_length, .int t_at, .int t_isWell, .ref a_t_read, .int t_readMany, .ref a_t_prices, .int t_priceMany, .int t_pieceMany, .long t_coins])), (a_t_s, .inl (G.2.1, 68, .inl t_s))]) hF hG hP hD hS hA hl.1 (c_X12_fails l G a_t 0 a_t_s a_t_states t_stateMany a_t_snapshot t_hasSnapshot a_t_text t_length t_at t_isWell a_t_read t_readMany a_t_prices t_priceMany t_pieceMany t_coins 1 r_5 t_thrown_6 hq) k_X12_fails q1083 [0] [1] [1, 0] rfl rfl rfl rfl ⟨rfl, rfl⟩ (by decide) ⟨0, 8, _, _, rfl, rfl, rfl⟩ rfl rfl (Nat.le_of_ble_eq_true rfl) ⟨(Nat.le_of_ble_eq_true rfl), (Nat.le_of_ble_eq_true rfl)⟩ ⟨(Nat.le_of_ble_eq_true rfl), (Nat.le_of_ble_eq_true rfl)⟩ dX12_error_14 (fun H locs hP hD hS => ?_)
    have hf : (some (r_5, t_thrown_6) : Option (Int32 × Int32)) = some (rr, w_t_thrown) := hf
    cases hf
    exact we_i hF hr hlk hP hD hS dX12_error_17 rfl
def l_X12_best_4 (t_s : Nat → Int32) : Nat → Int32 → Int32 → Option (Int32)
  | 0, _, _ => none
  | n + 1, i1_1, i2_2 => (if 4 ≤ i2_2 then some i1_1 else bd1 (f_X12_errorOf t_s i2_2) (fun (r_4 : Int32) => bd1 (f_X12_errorOf t_s i1_1) (fun (r_5 : Int32) => (if r_5 ≤ r_4 then l_X12_best_4 t_s n i1_1 (i2_2 + 1) else l_X12_best_4 t_s n i2_2 (i2_2 + 1)))))
def f_X12_best (t_s : Nat → Int32) : Option (Int32) := bd1 (l_X12_best_4 t_s 1000 0 1) (fun (o1_3 : Int32) => some o1_3)
theorem k_X12_best : KV yX12_best cX12_best 3 (some .int) 0 := ⟨qc_yX12_best, q9, ⟨by decide +kernel, by decide +kernel, by decide +kernel⟩, qi_yX12_best, qs_yX12_best⟩
abbrev RM_X12_best : Room := { frames := 4, cells := 0, slots := 0, locals := 94 }
set_option maxHeartbeats 4000000 in
set_option maxRecDepth 100000 in
theorem c_X12_best (l : Launch) (G : GP) (a_t : Nat) (t_thrown : Int32) (a_t_states : Nat) (t_stateMany : Int32) (a_t_snapshot : Nat) (t_hasSnapshot : Int32) (a_t_text : Nat) (t_length : Int32) (t_at : Int32) (t_isWell : Int32) (a_t_read : Nat) (t_readMany : Int32) (a_t_prices : Nat) (t_priceMany : Int32) (t_pieceMany : Int32) (t_coins : Int64) (a_t_s : Nat) (t_s : Nat → Int32) (rr : Int32) (hf : f_X12_best t_s = some rr) : RM l yX12_best cX12_best 3 (some .int) 4 94 G [.ref a_t] [(a_t, .inr (8, [.int t_thrown, .ref a_t_s, .ref a_t_states, .int t_stateMany, .ref a_t_snapshot, .int t_hasSnapshot, .ref a_t_text, .int t_length, .int t_at, .int t_isWell, .ref a_t_read, .int t_readMany, .ref a_t_prices, .int t_priceMany, .int t_pieceMany, .long t_coins])), (a_t_s, .inl (G.2.1, 68, .inl t_s))] (some (.int rr)) := by
  refine RM.ofW (C := RX12) (by decide) rfl (Nat.le_of_ble_eq_true rfl) ?_
  intro p e s m below meth c hF hr hlk hG hP ls hl
  have hl : lv_has ls 3 [(0, .ref a_t)] := hl
  have hx := hF.1
  have hb := hF.2.1
  have hml := hF.2.2.1
  have hown := hF.2.2.2.1
  have hts := hF.2.2.2.2
  unfold f_X12_best at hf
  refine lv_iconst (v := 0) hx hb dX12_best_0 (by decide) ?_
  refine lv_istore_n (lv' := [(1, .int 0), (0, .ref a_t)]) hx hb dX12_best_1 rfl hl (by decide) rfl (fun ls hl => ?_)
  refine lv_iconst (v := 1) hx hb dX12_best_2 (by decide) ?_
  refine lv_istore_n (lv' := [(2, .int 1), (1, .int 0), (0, .ref a_t)]) hx hb dX12_best_3 rfl hl (by decide) rfl (fun ls hl => ?_)
  obtain ⟨o1_3, hq, hf⟩ := bd1_some hf
  have K4 : ∀ ls : Array Slot, lv_has ls 3 [(1, .int o1_3)] → W p l e RM_X12_best s m [.ref a_t].toArray below meth c s.heap [] 0 0 (MQ below (rdQ (some (.int rr))) [.ref a_t].toArray s 0 0 (fun _ => False)) (F0 m 34 ls []) := by
    intro ls hl
    refine lv_iload_n hx hb dX12_best_34 rfl (lv_at hl 0 rfl) ?_
    have hf : (some o1_3 : Option (Int32)) = some rr := hf
    cases hf
    exact re_i hF hr hlk dX12_best_35 rfl
  clear hf
  have L4 : ∀ (n : Nat) (i1_1 : Int32) (i2_2 : Int32), l_X12_best_4 t_s n i1_1 i2_2 = some o1_3 → ∀ ls : Array Slot, lv_has ls 3 [(0, .ref a_t), (1, .int i1_1), (2, .int i2_2)] → W p l e RM_X12_best s m [.ref a_t].toArray below meth c s.heap [] 0 0 (MQ below (rdQ (some (.int rr))) [.ref a_t].toArray s 0 0 (fun _ => False)) (F0 m 4 ls []) := by
    intro n
    induction n with
    | zero =>
      intro i1_1 i2_2 hf
      exact nomatch (show none = some o1_3 from hf)
    | succ n ih =>
      intro i1_1 i2_2 hf ls hl
      rw [l_X12_best_4] at hf
      refine lv_iload_n hx hb dX12_best_4 rfl (lv_at hl 2 rfl) ?_
      refine lv_iconst (v := 4) hx hb dX12_best_5 (by decide) ?_
      refine lv_icmp_ge (tgt := 34) hx hb dX12_best_6 (by decide) (fun c0 => ?_) (fun c0 => ?_)
      · have hf := (if_pos c0).symm.trans hf
        have hf : (some i1_1 : Option (Int32)) = some o1_3 := hf
        cases hf
        exact K4 ls (lv_sub hl [1] rfl)
      · have hf := (if_neg c0).symm.trans hf
        refine lv_aload_n hx hb dX12_best_9 rfl (lv_at hl 0 rfl) ?_
        refine lv_iload_n hx hb dX12_best_10 rfl (lv_at hl 2 rfl) ?_
        obtain ⟨r_4, hq, hf⟩ := bd1_some hf
        refine rdV (As := [.int i2_2]) (rest := []) hF hG hP hl.1 (c_X12_errorOf l G a_t t_thrown a_t_states t_stateMany a_t_snapshot t_hasSnapshot a_t_text t_length t_at t_isWell a_t_read t_readMany a_t_prices t_priceMany t_pieceMany t_coins a_t_s t_s i2_2 r_4 hq) k_X12_errorOf q1432 [0, 1] rfl ⟨0, 8, _, _, rfl, rfl, rfl⟩ rfl rfl (Nat.le_of_ble_eq_true rfl) ⟨(Nat.le_of_ble_eq_true rfl), (Nat.le_of_ble_eq_true rfl)⟩ ⟨(Nat.zero_le _), (Nat.zero_le _)⟩ dX12_best_11 ?_
        refine lv_aload_n hx hb dX12_best_14 rfl (lv_at hl 0 rfl) ?_
        refine lv_iload_n hx hb dX12_best_15 rfl (lv_at hl 1 rfl) ?_
        obtain ⟨r_5, hq, hf⟩ := bd1_some hf
        refine rdV (As := [.int i1_1]) (rest := [.int r_4]) hF hG hP hl.1 (c_X12_errorOf l G a_t t_thrown a_t_states t_stateMany a_t_snapshot t_hasSnapshot a_t_text t_length t_at t_isWell a_t_read t_readMany a_t_prices t_priceMany t_pieceMany t_coins a_t_s t_s i1_1 r_5 hq) k_X12_errorOf q1432 [0, 1] rfl ⟨0, 8, _, _, rfl, rfl, rfl⟩ rfl rfl (Nat.le_of_ble_eq_true rfl) ⟨(Nat.le_of_ble_eq_true rfl), (Nat.le_of_ble_eq_true rfl)⟩ ⟨(Nat.zero_le _), (Nat.zero_le _)⟩ dX12_best_16 ?_
        refine lv_icmp_ge (tgt := 26) hx hb dX12_best_19 (by decide) (fun c0 => ?_) (fun c0 => ?_)
        · have hf := (if_pos c0).symm.trans hf
          refine lv_iload_n hx hb dX12_best_26 rfl (lv_at hl 1 rfl) ?_
          refine lv_istore_n (lv' := [(1, .int i1_1), (0, .ref a_t), (2, .int i2_2)]) hx hb dX12_best_27 rfl hl (by decide) rfl (fun ls hl => ?_)
          refine lv_iinc (v := (i2_2 + 1)) (lv' := [(2, .int (i2_2 + 1)), (1, .int i1_1), (0, .ref a_t)]) hx hb dX12_best_28 hl (k := 2) rfl rfl (by decide) rfl (fun ls hl => ?_)
          refine lv_goto (tgt := 4) hx hb dX12_best_31 (by decide) ?_
          exact ih i1_1 (i2_2 + 1) hf ls (lv_sub hl [2, 1, 0] rfl)
        · have hf := (if_neg c0).symm.trans hf
          refine lv_iload_n hx hb dX12_best_22 rfl (lv_at hl 2 rfl) ?_
          refine lv_goto (tgt := 27) hx hb dX12_best_23 (by decide) ?_
          refine lv_istore_n (lv' := [(1, .int i2_2), (0, .ref a_t), (2, .int i2_2)]) hx hb dX12_best_27 rfl hl (by decide) rfl (fun ls hl => ?_)
          refine lv_iinc (v := (i2_2 + 1)) (lv' := [(2, .int (i2_2 + 1)), (1, .int i2_2), (0, .ref a_t)]) hx hb dX12_best_28 hl (k := 2) rfl rfl (by decide) rfl (fun ls hl => ?_)
          refine lv_goto (tgt := 4) hx hb dX12_best_31 (by decide) ?_
          exact ih i2_2 (i2_2 + 1) hf ls (lv_sub hl [2, 1, 0] rfl)
  exact L4 1000 0 1 hq ls (lv_sub hl [2, 1, 0] rfl)
def f_X12_bestMethod (t_thrown : Int32) (t_s : Nat → Int32) : Option (Int32 × Int32) := (if 2 ≤ (t_s 0) then bd1 (f_X12_best t_s) (fun (r_1 : Int32) => some (r_1, 0)) else bd2 (f_X12_fails 0 1) (fun (r_2 : Int32) (t_thrown_3 : Int32) => some (r_2, t_thrown_3)))
theorem k_X12_bestMethod : KV yX12_bestMethod cX12_bestMethod 1 (some .int) 0 := ⟨qc_yX12_bestMethod, q9, ⟨by decide +kernel, by decide +kernel, by decide +kernel⟩, qi_yX12_bestMethod, qs_yX12_bestMethod⟩
abbrev RM_X12_bestMethod : Room := { frames := 5, cells := 0, slots := 0, locals := 116 }
set_option maxHeartbeats 4000000 in
set_option maxRecDepth 100000 in
theorem c_X12_bestMethod (l : Launch) (G : GP) (a_t : Nat) (t_thrown : Int32) (a_t_states : Nat) (t_stateMany : Int32) (a_t_snapshot : Nat) (t_hasSnapshot : Int32) (a_t_text : Nat) (t_length : Int32) (t_at : Int32) (t_isWell : Int32) (a_t_read : Nat) (t_readMany : Int32) (a_t_prices : Nat) (t_priceMany : Int32) (t_pieceMany : Int32) (t_coins : Int64) (a_t_s : Nat) (t_s : Nat → Int32) (rr : Int32) (w_t_thrown : Int32) (hf : f_X12_bestMethod t_thrown t_s = some (rr, w_t_thrown)) : WM l yX12_bestMethod cX12_bestMethod 1 (some .int) 5 116 G [.ref a_t] [(a_t, .inr (8, [.int t_thrown, .ref a_t_s, .ref a_t_states, .int t_stateMany, .ref a_t_snapshot, .int t_hasSnapshot, .ref a_t_text, .int t_length, .int t_at, .int t_isWell, .ref a_t_read, .int t_readMany, .ref a_t_prices, .int t_priceMany, .int t_pieceMany, .long t_coins])), (a_t_s, .inl (G.2.1, 68, .inl t_s))] (some (.int rr)) [(a_t, .inr (8, [.int w_t_thrown, .ref a_t_s, .ref a_t_states, .int t_stateMany, .ref a_t_snapshot, .int t_hasSnapshot, .ref a_t_text, .int t_length, .int t_at, .int t_isWell, .ref a_t_read, .int t_readMany, .ref a_t_prices, .int t_priceMany, .int t_pieceMany, .long t_coins])), (a_t_s, .inl (G.2.1, 68, .inl t_s))] := by
  refine WM.ofW (C := RX12) (by decide) rfl (Nat.le_of_ble_eq_true rfl) ?_
  intro p e s m below meth c A hF hr hlk hG hA hP hD ls hl
  have hl : lv_has ls 1 [(0, .ref a_t)] := hl
  have hx := hF.1
  have hb := hF.2.1
  have hml := hF.2.2.1
  have hown := hF.2.2.2.1
  have hts := hF.2.2.2.2
  have hS : va_S A s.heap s.heap [] := va_S.rf
  unfold f_X12_bestMethod at hf
  refine lv_aload_n hx hb dX12_bestMethod_0 rfl (lv_at hl 0 rfl) ?_
  refine lv_iconst (v := 0) hx hb dX12_bestMethod_1 (by decide) ?_
  refine pf (C := RX12) (T := TX12) (N := 16) (ci := 8) (v := .int 0) (ty := .int) hF hG hP hD hS inX12 tyX12 tyX12_ok nmX12 0 rfl rfl 0 (by decide) q1020 rfl rfl (by decide +kernel) rfl rfl (Nat.le_of_ble_eq_true rfl) dX12_bestMethod_2 (fun H locs hP hD hS => ?_)
  replace hP : va_P G.1 vwCl [(a_t, .inr (8, [.int 0, .ref a_t_s, .ref a_t_states, .int t_stateMany, .ref a_t_snapshot, .int t_hasSnapshot, .ref a_t_text, .int t_length, .int t_at, .int t_isWell, .ref a_t_read, .int t_readMany, .ref a_t_prices, .int t_priceMany, .int t_pieceMany, .long t_coins])), (a_t_s, .inl (G.2.1, 68, .inl t_s))] H := hP
  replace hD : va_D A [(a_t, .inr (8, [.int 0, .ref a_t_s, .ref a_t_states, .int t_stateMany, .ref a_t_snapshot, .int t_hasSnapshot, .ref a_t_text, .int t_length, .int t_at, .int t_isWell, .ref a_t_read, .int t_readMany, .ref a_t_prices, .int t_priceMany, .int t_pieceMany, .long t_coins])), (a_t_s, .inl (G.2.1, 68, .inl t_s))] := hD
  refine lv_aload_n hx hb dX12_bestMethod_5 rfl (lv_at hl 0 rfl) ?_
  refine gf (C := RX12) (T := TX12) (N := 16) (ci := 8) (v := .ref a_t_s) hF hG hP inX12 0 rfl rfl 1 (by decide) q1021 rfl rfl dX12_bestMethod_6 ?_
  refine lv_iconst (v := 0) hx hb dX12_bestMethod_9 (by decide) ?_
  refine ald_i (k := 0) hF hG hP 1 rfl (by decide) (by decide) dX12_bestMethod_10 ?_
  refine lv_iconst (v := 2) hx hb dX12_bestMethod_11 (by decide) ?_
  refine lv_icmp_ge (tgt := 23) hx hb dX12_bestMethod_12 (by decide) (fun c0 => ?_) (fun c0 => ?_)
  · have hf := (if_pos c0).symm.trans hf
    refine lv_aload_n hx hb dX12_bestMethod_23 rfl (lv_at hl 0 rfl) ?_
    obtain ⟨r_1, hq, hf⟩ := bd1_some hf
    refine rdV (As := []) (rest := []) hF hG hP hl.1 (c_X12_best l G a_t 0 a_t_states t_stateMany a_t_snapshot t_hasSnapshot a_t_text t_length t_at t_isWell a_t_read t_readMany a_t_prices t_priceMany t_pieceMany t_coins a_t_s t_s r_1 hq) k_X12_best q1440 [0, 1] rfl ⟨0, 8, _, _, rfl, rfl, rfl⟩ rfl rfl (Nat.le_of_ble_eq_true rfl) ⟨(Nat.le_of_ble_eq_true rfl), (Nat.le_of_ble_eq_true rfl)⟩ ⟨(Nat.zero_le _), (Nat.zero_le _)⟩ dX12_bestMethod_24 ?_
    have hf : (some (r_1, 0) : Option (Int32 × Int32)) = some (rr, w_t_thrown) := hf
    cases hf
    exact we_i hF hr hlk hP hD hS dX12_bestMethod_27 rfl
  · have hf := (if_neg c0).symm.trans hf
    refine lv_aload_n hx hb dX12_bestMethod_15 rfl (lv_at hl 0 rfl) ?_
    refine lv_iconst (v := 1) hx hb dX12_bestMethod_16 (by decide) ?_
    obtain ⟨r_2, t_thrown_3, hq, hf⟩ := bd2_some hf
    refine wrV (As := [.int 1]) (rest := []) (wn := [(a_t, .inr (8, [.int t_thrown_3, .ref a_t_s, .ref a_t_states, .int t_stateMany, .ref a_t_snapshot, .int t_hasSnapshot, .ref a_t_text, .int t_length, .int t_at, .int t_isWell, .ref a_t_read, .int t_readMany, .ref a_t_prices, .int t_priceMany, .int t_pieceMany, .long t_coins])), (a_t_s, .inl (G.2.1, 68, .inl t_s))]) hF hG hP hD hS hA hl.1 (c_X12_fails l G a_t 0 a_t_s a_t_states t_stateMany a_t_snapshot t_hasSnapshot a_t_text t_length t_at t_isWell a_t_read t_readMany a_t_prices t_priceMany t_pieceMany t_coins 1 r_2 t_thrown_3 hq) k_X12_fails q1083 [0] [1] [1, 0] rfl rfl rfl rfl ⟨rfl, rfl⟩ (by decide) ⟨0, 8, _, _, rfl, rfl, rfl⟩ rfl rfl (Nat.le_of_ble_eq_true rfl) ⟨(Nat.le_of_ble_eq_true rfl), (Nat.le_of_ble_eq_true rfl)⟩ ⟨(Nat.le_of_ble_eq_true rfl), (Nat.le_of_ble_eq_true rfl)⟩ dX12_bestMethod_17 (fun H locs hP hD hS => ?_)
    refine lv_goto (tgt := 27) hx hb dX12_bestMethod_20 (by decide) ?_
    have hf : (some (r_2, t_thrown_3) : Option (Int32 × Int32)) = some (rr, w_t_thrown) := hf
    cases hf
    exact we_i hF hr hlk hP hD hS dX12_bestMethod_27 rfl
def f_X12_crossingWith (t_thrown : Int32) (t_s : Nat → Int32) (x1 : Int32) : Option (Int32 × Int32 × (Nat → Int32)) := bd1 (f_X12_isPrice x1) (fun (r_1 : Int32) => (if r_1 = 0 then bd2 (f_X12_fails 0 1) (fun (r_8 : Int32) (t_thrown_9 : Int32) => some (r_8, t_thrown_9, t_s)) else (if (t_s 0) = 0 then bd2 (f_X12_fails 0 2) (fun (r_2 : Int32) (t_thrown_3 : Int32) => some (r_2, t_thrown_3, t_s)) else (if (t_s 0) = 60 then bd2 (f_X12_fails 0 2) (fun (r_6 : Int32) (t_thrown_7 : Int32) => some (r_6, t_thrown_7, t_s)) else bd1 (f_X12_adds t_s x1) (fun (t_s_4 : Nat → Int32) => bd1 (f_X12_crosses t_s_4 ((t_s_4 0) - 1)) (fun (r_5 : Int32) => gd (¬ ((8 + ((upd t_s_4 0 ((t_s_4 0) - 1)) 0)) < 0 ∨ 68 ≤ Int32.toNatClampNeg (8 + ((upd t_s_4 0 ((t_s_4 0) - 1)) 0)))) (some (r_5, 0, (upd (upd t_s_4 0 ((t_s_4 0) - 1)) (Int32.toNatClampNeg (8 + ((upd t_s_4 0 ((t_s_4 0) - 1)) 0))) 0)))))))))
theorem k_X12_crossingWith : KV yX12_crossingWith cX12_crossingWith 3 (some .int) 1 := ⟨qc_yX12_crossingWith, q9, ⟨by decide +kernel, by decide +kernel, by decide +kernel⟩, qi_yX12_crossingWith, qs_yX12_crossingWith⟩
abbrev RM_X12_crossingWith : Room := { frames := 4, cells := 0, slots := 0, locals := 89 }
set_option maxHeartbeats 4000000 in
set_option maxRecDepth 100000 in
theorem c_X12_crossingWith (l : Launch) (G : GP) (a_t : Nat) (t_thrown : Int32) (a_t_states : Nat) (t_stateMany : Int32) (a_t_snapshot : Nat) (t_hasSnapshot : Int32) (a_t_text : Nat) (t_length : Int32) (t_at : Int32) (t_isWell : Int32) (a_t_read : Nat) (t_readMany : Int32) (a_t_prices : Nat) (t_priceMany : Int32) (t_pieceMany : Int32) (t_coins : Int64) (a_t_s : Nat) (t_s : Nat → Int32) (x1 : Int32) (rr : Int32) (w_t_thrown : Int32) (w_t_s : Nat → Int32) (hf : f_X12_crossingWith t_thrown t_s x1 = some (rr, w_t_thrown, w_t_s)) : WM l yX12_crossingWith cX12_crossingWith 3 (some .int) 4 89 G [.ref a_t, .int x1] [(a_t, .inr (8, [.int t_thrown, .ref a_t_s, .ref a_t_states, .int t_stateMany, .ref a_t_snapshot, .int t_hasSnapshot, .ref a_t_text, .int t_length, .int t_at, .int t_isWell, .ref a_t_read, .int t_readMany, .ref a_t_prices, .int t_priceMany, .int t_pieceMany, .long t_coins])), (a_t_s, .inl (G.2.1, 68, .inl t_s))] (some (.int rr)) [(a_t, .inr (8, [.int w_t_thrown, .ref a_t_s, .ref a_t_states, .int t_stateMany, .ref a_t_snapshot, .int t_hasSnapshot, .ref a_t_text, .int t_length, .int t_at, .int t_isWell, .ref a_t_read, .int t_readMany, .ref a_t_prices, .int t_priceMany, .int t_pieceMany, .long t_coins])), (a_t_s, .inl (G.2.1, 68, .inl w_t_s))] := by
  refine WM.ofW (C := RX12) (by decide) rfl (Nat.le_of_ble_eq_true rfl) ?_
  intro p e s m below meth c A hF hr hlk hG hA hP hD ls hl
  have hl : lv_has ls 3 [(0, .ref a_t), (1, .int x1)] := hl
  have hx := hF.1
  have hb := hF.2.1
  have hml := hF.2.2.1
  have hown := hF.2.2.2.1
  have hts := hF.2.2.2.2
  have hS : va_S A s.heap s.heap [] := va_S.rf
  unfold f_X12_crossingWith at hf
  refine lv_aload_n hx hb dX12_crossingWith_0 rfl (lv_at hl 0 rfl) ?_
  refine lv_iconst (v := 0) hx hb dX12_crossingWith_1 (by decide) ?_
  refine pf (C := RX12) (T := TX12) (N := 16) (ci := 8) (v := .int 0) (ty := .int) hF hG hP hD hS inX12 tyX12 tyX12_ok nmX12 0 rfl rfl 0 (by decide) q1020 rfl rfl (by decide +kernel) rfl rfl (Nat.le_of_ble_eq_true rfl) dX12_crossingWith_2 (fun H locs hP hD hS => ?_)
  replace hP : va_P G.1 vwCl [(a_t, .inr (8, [.int 0, .ref a_t_s, .ref a_t_states, .int t_stateMany, .ref a_t_snapshot, .int t_hasSnapshot, .ref a_t_text, .int t_length, .int t_at, .int t_isWell, .ref a_t_read, .int t_readMany, .ref a_t_prices, .int t_priceMany, .int t_pieceMany, .long t_coins])), (a_t_s, .inl (G.2.1, 68, .inl t_s))] H := hP
  replace hD : va_D A [(a_t, .inr (8, [.int 0, .ref a_t_s, .ref a_t_states, .int t_stateMany, .ref a_t_snapshot, .int t_hasSnapshot, .ref a_t_text, .int t_length, .int t_at, .int t_isWell, .ref a_t_read, .int t_readMany, .ref a_t_prices, .int t_priceMany, .int t_pieceMany, .long t_coins])), (a_t_s, .inl (G.2.1, 68, .inl t_s))] := hD
  refine lv_iload_n hx hb dX12_crossingWith_5 rfl (lv_at hl 1 rfl) ?_
  obtain ⟨r_1, hq, hf⟩ := bd1_some hf
  refine rdS (As := [.int x1]) (rest := []) hF hG hP hl.1 (c_X12_isPrice l G x1 r_1 hq) k_X12_isPrice q1077 [] rfl rfl rfl (Nat.le_of_ble_eq_true rfl) ⟨(Nat.le_of_ble_eq_true rfl), (Nat.le_of_ble_eq_true rfl)⟩ ⟨(Nat.zero_le _), (Nat.zero_le _)⟩ dX12_crossingWith_6 ?_
  refine lv_if_ne (tgt := 18) hx hb dX12_crossingWith_9 (by decide) (fun c0 => ?_) (fun c0 => ?_)
  · have hf := (if_neg c0).symm.trans hf
    refine lv_aload_n hx hb dX12_crossingWith_18 rfl (lv_at hl 0 rfl) ?_
    refine gf (C := RX12) (T := TX12) (N := 16) (ci := 8) (v := .ref a_t_s) hF hG hP inX12 0 rfl rfl 1 (by decide) q1021 rfl rfl dX12_crossingWith_19 ?_
    refine lv_iconst (v := 0) hx hb dX12_crossingWith_22 (by decide) ?_
    refine ald_i (k := 0) hF hG hP 1 rfl (by decide) (by decide) dX12_crossingWith_23 ?_
    refine lv_if_eq (tgt := 38) hx hb dX12_crossingWith_24 (by decide) (fun c0 => ?_) (fun c0 => ?_)
    · have hf := (if_pos c0).symm.trans hf
      refine lv_aload_n hx hb dX12_crossingWith_38 rfl (lv_at hl 0 rfl) ?_
      refine lv_iconst (v := 2) hx hb dX12_crossingWith_39 (by decide) ?_
      obtain ⟨r_2, t_thrown_3, hq, hf⟩ := bd2_some hf
      refine wrV (As := [.int 2]) (rest := []) (wn := [(a_t, .inr (8, [.int t_thrown_3, .ref a_t_s, .ref a_t_states, .int t_stateMany, .ref a_t_snapshot, .int t_hasSnapshot, .ref a_t_text, .int t_length, .int t_at, .int t_isWell, .ref a_t_read, .int t_readMany, .ref a_t_prices, .int t_priceMany, .int t_pieceMany, .long t_coins])), (a_t_s, .inl (G.2.1, 68, .inl t_s))]) hF hG hP hD hS hA hl.1 (c_X12_fails l G a_t 0 a_t_s a_t_states t_stateMany a_t_snapshot t_hasSnapshot a_t_text t_length t_at t_isWell a_t_read t_readMany a_t_prices t_priceMany t_pieceMany t_coins 2 r_2 t_thrown_3 hq) k_X12_fails q1083 [0] [1] [1, 0] rfl rfl rfl rfl ⟨rfl, rfl⟩ (by decide) ⟨0, 8, _, _, rfl, rfl, rfl⟩ rfl rfl (Nat.le_of_ble_eq_true rfl) ⟨(Nat.le_of_ble_eq_true rfl), (Nat.le_of_ble_eq_true rfl)⟩ ⟨(Nat.le_of_ble_eq_true rfl), (Nat.le_of_ble_eq_true rfl)⟩ dX12_crossingWith_40 (fun H locs hP hD hS => ?_)
      have hf : (some (r_2, t_thrown_3, t_s) : Option (Int32 × Int32 × (Nat → Int32))) = some (rr, w_t_thrown, w_t_s) := hf
      cases hf
      exact we_i hF hr hlk hP hD hS dX12_crossingWith_43 rfl
    · have hf := (if_neg c0).symm.trans hf
      refine lv_aload_n hx hb dX12_crossingWith_27 rfl (lv_at hl 0 rfl) ?_
      refine gf (C := RX12) (T := TX12) (N := 16) (ci := 8) (v := .ref a_t_s) hF hG hP inX12 0 rfl rfl 1 (by decide) q1021 rfl rfl dX12_crossingWith_28 ?_
      refine lv_iconst (v := 0) hx hb dX12_crossingWith_31 (by decide) ?_
      refine ald_i (k := 0) hF hG hP 1 rfl (by decide) (by decide) dX12_crossingWith_32 ?_
      refine lv_bipush (v := 60) hx hb dX12_crossingWith_33 (by decide) ?_
      refine lv_icmp_ne (tgt := 44) hx hb dX12_crossingWith_35 (by decide) (fun c0 => ?_) (fun c0 => ?_)
      · have hf := (if_neg c0).symm.trans hf
        refine lv_aload_n hx hb dX12_crossingWith_44 rfl (lv_at hl 0 rfl) ?_
        refine lv_iload_n hx hb dX12_crossingWith_45 rfl (lv_at hl 1 rfl) ?_
        obtain ⟨t_s_4, hq, hf⟩ := bd1_some hf
        refine wrV (As := [.int x1]) (rest := []) (wn := [(a_t, .inr (8, [.int 0, .ref a_t_s, .ref a_t_states, .int t_stateMany, .ref a_t_snapshot, .int t_hasSnapshot, .ref a_t_text, .int t_length, .int t_at, .int t_isWell, .ref a_t_read, .int t_readMany, .ref a_t_prices, .int t_priceMany, .int t_pieceMany, .long t_coins])), (a_t_s, .inl (G.2.1, 68, .inl t_s_4))]) hF hG hP hD hS hA hl.1 (c_X12_adds l G a_t 0 a_t_states t_stateMany a_t_snapshot t_hasSnapshot a_t_text t_length t_at t_isWell a_t_read t_readMany a_t_prices t_priceMany t_pieceMany t_coins a_t_s t_s x1 t_s_4 hq) k_X12_adds q1091 [0, 1] [] [0, 1] rfl rfl rfl rfl ⟨rfl, rfl⟩ (by decide) ⟨0, 8, _, _, rfl, rfl, rfl⟩ rfl rfl (Nat.le_of_ble_eq_true rfl) ⟨(Nat.le_of_ble_eq_true rfl), (Nat.le_of_ble_eq_true rfl)⟩ ⟨(Nat.le_of_ble_eq_true rfl), (Nat.le_of_ble_eq_true rfl)⟩ dX12_crossingWith_46 (fun H locs hP hD hS => ?_)
        refine lv_aload_n hx hb dX12_crossingWith_49 rfl (lv_at hl 0 rfl) ?_
        refine lv_aload_n hx hb dX12_crossingWith_50 rfl (lv_at hl 0 rfl) ?_
        refine gf (C := RX12) (T := TX12) (N := 16) (ci := 8) (v := .ref a_t_s) hF hG hP inX12 0 rfl rfl 1 (by decide) q1021 rfl rfl dX12_crossingWith_51 ?_
        refine lv_iconst (v := 0) hx hb dX12_crossingWith_54 (by decide) ?_
        refine ald_i (k := 0) hF hG hP 1 rfl (by decide) (by decide) dX12_crossingWith_55 ?_
        refine lv_iconst (v := 1) hx hb dX12_crossingWith_56 (by decide) ?_
        refine lv_isub hx hb dX12_crossingWith_57 ?_
        obtain ⟨r_5, hq, hf⟩ := bd1_some hf
        refine rdV (As := [.int ((t_s_4 0) - 1)]) (rest := []) hF hG hP hl.1 (c_X12_crosses l G a_t 0 a_t_states t_stateMany a_t_snapshot t_hasSnapshot a_t_text t_length t_at t_isWell a_t_read t_readMany a_t_prices t_priceMany t_pieceMany t_coins a_t_s t_s_4 ((t_s_4 0) - 1) r_5 hq) k_X12_crosses q1327 [0, 1] rfl ⟨0, 8, _, _, rfl, rfl, rfl⟩ rfl rfl (Nat.le_of_ble_eq_true rfl) ⟨(Nat.le_of_ble_eq_true rfl), (Nat.le_of_ble_eq_true rfl)⟩ ⟨(Nat.zero_le _), (Nat.zero_le _)⟩ dX12_crossingWith_58 ?_
        refine lv_istore_n (lv' := [(2, .int r_5), (0, .ref a_t), (1, .int x1)]) hx hb dX12_crossingWith_61 rfl hl (by decide) rfl (fun ls hl => ?_)
        refine lv_aload_n hx hb dX12_crossingWith_62 rfl (lv_at hl 1 rfl) ?_
        refine gf (C := RX12) (T := TX12) (N := 16) (ci := 8) (v := .ref a_t_s) hF hG hP inX12 0 rfl rfl 1 (by decide) q1021 rfl rfl dX12_crossingWith_63 ?_
        refine lv_iconst (v := 0) hx hb dX12_crossingWith_66 (by decide) ?_
        refine lv_dup2_11 hx hb dX12_crossingWith_67 rfl rfl ?_
        refine ald_i (k := 0) hF hG hP 1 rfl (by decide) (by decide) dX12_crossingWith_68 ?_
        refine lv_iconst (v := 1) hx hb dX12_crossingWith_69 (by decide) ?_
        refine lv_isub hx hb dX12_crossingWith_70 ?_
        refine ast_i (k := 0) hF hG hP hD hS 1 rfl (by decide) (by decide) dX12_crossingWith_71 (fun H locs hP hD hS => ?_)
        replace hP : va_P G.1 vwCl [(a_t, .inr (8, [.int 0, .ref a_t_s, .ref a_t_states, .int t_stateMany, .ref a_t_snapshot, .int t_hasSnapshot, .ref a_t_text, .int t_length, .int t_at, .int t_isWell, .ref a_t_read, .int t_readMany, .ref a_t_prices, .int t_priceMany, .int t_pieceMany, .long t_coins])), (a_t_s, .inl (G.2.1, 68, .inl (upd t_s_4 0 ((t_s_4 0) - 1))))] H := hP
        replace hD : va_D A [(a_t, .inr (8, [.int 0, .ref a_t_s, .ref a_t_states, .int t_stateMany, .ref a_t_snapshot, .int t_hasSnapshot, .ref a_t_text, .int t_length, .int t_at, .int t_isWell, .ref a_t_read, .int t_readMany, .ref a_t_prices, .int t_priceMany, .int t_pieceMany, .long t_coins])), (a_t_s, .inl (G.2.1, 68, .inl (upd t_s_4 0 ((t_s_4 0) - 1))))] := hD
        refine lv_aload_n hx hb dX12_crossingWith_72 rfl (lv_at hl 1 rfl) ?_
        refine gf (C := RX12) (T := TX12) (N := 16) (ci := 8) (v := .ref a_t_s) hF hG hP inX12 0 rfl rfl 1 (by decide) q1021 rfl rfl dX12_crossingWith_73 ?_
        refine lv_bipush (v := 8) hx hb dX12_crossingWith_76 (by decide) ?_
        refine lv_aload_n hx hb dX12_crossingWith_78 rfl (lv_at hl 1 rfl) ?_
        refine gf (C := RX12) (T := TX12) (N := 16) (ci := 8) (v := .ref a_t_s) hF hG hP inX12 0 rfl rfl 1 (by decide) q1021 rfl rfl dX12_crossingWith_79 ?_
        refine lv_iconst (v := 0) hx hb dX12_crossingWith_82 (by decide) ?_
        refine ald_i (k := 0) hF hG hP 1 rfl (by decide) (by decide) dX12_crossingWith_83 ?_
        refine lv_iadd hx hb dX12_crossingWith_84 ?_
        refine lv_iconst (v := 0) hx hb dX12_crossingWith_85 (by decide) ?_
        obtain ⟨hg, hf⟩ := gd_some hf
        refine ast_i (k := Int32.toNatClampNeg (8 + ((upd t_s_4 0 ((t_s_4 0) - 1)) 0))) hF hG hP hD hS 1 rfl rfl hg dX12_crossingWith_86 (fun H locs hP hD hS => ?_)
        replace hP : va_P G.1 vwCl [(a_t, .inr (8, [.int 0, .ref a_t_s, .ref a_t_states, .int t_stateMany, .ref a_t_snapshot, .int t_hasSnapshot, .ref a_t_text, .int t_length, .int t_at, .int t_isWell, .ref a_t_read, .int t_readMany, .ref a_t_prices, .int t_priceMany, .int t_pieceMany, .long t_coins])), (a_t_s, .inl (G.2.1, 68, .inl (upd (upd t_s_4 0 ((t_s_4 0) - 1)) (Int32.toNatClampNeg (8 + ((upd t_s_4 0 ((t_s_4 0) - 1)) 0))) 0)))] H := hP
        replace hD : va_D A [(a_t, .inr (8, [.int 0, .ref a_t_s, .ref a_t_states, .int t_stateMany, .ref a_t_snapshot, .int t_hasSnapshot, .ref a_t_text, .int t_length, .int t_at, .int t_isWell, .ref a_t_read, .int t_readMany, .ref a_t_prices, .int t_priceMany, .int t_pieceMany, .long t_coins])), (a_t_s, .inl (G.2.1, 68, .inl (upd (upd t_s_4 0 ((t_s_4 0) - 1)) (Int32.toNatClampNeg (8 + ((upd t_s_4 0 ((t_s_4 0) - 1)) 0))) 0)))] := hD
        refine lv_iload_n hx hb dX12_crossingWith_87 rfl (lv_at hl 0 rfl) ?_
        have hf : (some (r_5, 0, (upd (upd t_s_4 0 ((t_s_4 0) - 1)) (Int32.toNatClampNeg (8 + ((upd t_s_4 0 ((t_s_4 0) - 1)) 0))) 0)) : Option (Int32 × Int32 × (Nat → Int32))) = some (rr, w_t_thrown, w_t_s) := hf
        cases hf
        exact we_i hF hr hlk hP hD hS dX12_crossingWith_88 rfl
      · have hf := (if_pos c0).symm.trans hf
        refine lv_aload_n hx hb dX12_crossingWith_38 rfl (lv_at hl 0 rfl) ?_
        refine lv_iconst (v := 2) hx hb dX12_crossingWith_39 (by decide) ?_
        obtain ⟨r_6, t_thrown_7, hq, hf⟩ := bd2_some hf
        refine wrV (As := [.int 2]) (rest := []) (wn := [(a_t, .inr (8, [.int t_thrown_7, .ref a_t_s, .ref a_t_states, .int t_stateMany, .ref a_t_snapshot, .int t_hasSnapshot, .ref a_t_text, .int t_length, .int t_at, .int t_isWell, .ref a_t_read, .int t_readMany, .ref a_t_prices, .int t_priceMany, .int t_pieceMany, .long t_coins])), (a_t_s, .inl (G.2.1, 68, .inl t_s))]) hF hG hP hD hS hA hl.1 (c_X12_fails l G a_t 0 a_t_s a_t_states t_stateMany a_t_snapshot t_hasSnapshot a_t_text t_length t_at t_isWell a_t_read t_readMany a_t_prices t_priceMany t_pieceMany t_coins 2 r_6 t_thrown_7 hq) k_X12_fails q1083 [0] [1] [1, 0] rfl rfl rfl rfl ⟨rfl, rfl⟩ (by decide) ⟨0, 8, _, _, rfl, rfl, rfl⟩ rfl rfl (Nat.le_of_ble_eq_true rfl) ⟨(Nat.le_of_ble_eq_true rfl), (Nat.le_of_ble_eq_true rfl)⟩ ⟨(Nat.le_of_ble_eq_true rfl), (Nat.le_of_ble_eq_true rfl)⟩ dX12_crossingWith_40 (fun H locs hP hD hS => ?_)
        have hf : (some (r_6, t_thrown_7, t_s) : Option (Int32 × Int32 × (Nat → Int32))) = some (rr, w_t_thrown, w_t_s) := hf
        cases hf
        exact we_i hF hr hlk hP hD hS dX12_crossingWith_43 rfl
  · have hf := (if_pos c0).symm.trans hf
    refine lv_aload_n hx hb dX12_crossingWith_12 rfl (lv_at hl 0 rfl) ?_
    refine lv_iconst (v := 1) hx hb dX12_crossingWith_13 (by decide) ?_
    obtain ⟨r_8, t_thrown_9, hq, hf⟩ := bd2_some hf
    refine wrV (As := [.int 1]) (rest := []) (wn := [(a_t, .inr (8, [.int t_thrown_9, .ref a_t_s, .ref a_t_states, .int t_stateMany, .ref a_t_snapshot, .int t_hasSnapshot, .ref a_t_text, .int t_length, .int t_at, .int t_isWell, .ref a_t_read, .int t_readMany, .ref a_t_prices, .int t_priceMany, .int t_pieceMany, .long t_coins])), (a_t_s, .inl (G.2.1, 68, .inl t_s))]) hF hG hP hD hS hA hl.1 (c_X12_fails l G a_t 0 a_t_s a_t_states t_stateMany a_t_snapshot t_hasSnapshot a_t_text t_length t_at t_isWell a_t_read t_readMany a_t_prices t_priceMany t_pieceMany t_coins 1 r_8 t_thrown_9 hq) k_X12_fails q1083 [0] [1] [1, 0] rfl rfl rfl rfl ⟨rfl, rfl⟩ (by decide) ⟨0, 8, _, _, rfl, rfl, rfl⟩ rfl rfl (Nat.le_of_ble_eq_true rfl) ⟨(Nat.le_of_ble_eq_true rfl), (Nat.le_of_ble_eq_true rfl)⟩ ⟨(Nat.le_of_ble_eq_true rfl), (Nat.le_of_ble_eq_true rfl)⟩ dX12_crossingWith_14 (fun H locs hP hD hS => ?_)
    have hf : (some (r_8, t_thrown_9, t_s) : Option (Int32 × Int32 × (Nat → Int32))) = some (rr, w_t_thrown, w_t_s) := hf
    cases hf
    exact we_i hF hr hlk hP hD hS dX12_crossingWith_17 rfl
def f_X12_share (t_s : Nat → Int32) : Option (UInt64) := (if (t_s 0) = 0 then some FP.dconst1 else bd1 (f_X12_creaseMany t_s) (fun (r_1 : Int32) => gd ((FP.ddiv (FP.i2d ((t_s 0) - r_1)) (FP.i2d (t_s 0))) &&& 0x7fffffffffffffff ≤ 0x7ff0000000000000) (some (FP.ddiv (FP.i2d ((t_s 0) - r_1)) (FP.i2d (t_s 0))))))
theorem k_X12_share : KV yX12_share cX12_share 1 (some .double) 0 := ⟨qc_yX12_share, q9, ⟨by decide +kernel, by decide +kernel, by decide +kernel⟩, qi_yX12_share, qs_yX12_share⟩
abbrev RM_X12_share : Room := { frames := 4, cells := 0, slots := 0, locals := 92 }
set_option maxHeartbeats 4000000 in
set_option maxRecDepth 100000 in
theorem c_X12_share (l : Launch) (G : GP) (a_t : Nat) (t_thrown : Int32) (a_t_states : Nat) (t_stateMany : Int32) (a_t_snapshot : Nat) (t_hasSnapshot : Int32) (a_t_text : Nat) (t_length : Int32) (t_at : Int32) (t_isWell : Int32) (a_t_read : Nat) (t_readMany : Int32) (a_t_prices : Nat) (t_priceMany : Int32) (t_pieceMany : Int32) (t_coins : Int64) (a_t_s : Nat) (t_s : Nat → Int32) (rr : UInt64) (hf : f_X12_share t_s = some rr) : RM l yX12_share cX12_share 1 (some .double) 4 92 G [.ref a_t] [(a_t, .inr (8, [.int t_thrown, .ref a_t_s, .ref a_t_states, .int t_stateMany, .ref a_t_snapshot, .int t_hasSnapshot, .ref a_t_text, .int t_length, .int t_at, .int t_isWell, .ref a_t_read, .int t_readMany, .ref a_t_prices, .int t_priceMany, .int t_pieceMany, .long t_coins])), (a_t_s, .inl (G.2.1, 68, .inl t_s))] (some (.double rr)) := by
  refine RM.ofW (C := RX12) (by decide) rfl (Nat.le_of_ble_eq_true rfl) ?_
  intro p e s m below meth c hF hr hlk hG hP ls hl
  have hl : lv_has ls 1 [(0, .ref a_t)] := hl
  have hx := hF.1
  have hb := hF.2.1
  have hml := hF.2.2.1
  have hown := hF.2.2.2.1
  have hts := hF.2.2.2.2
  unfold f_X12_share at hf
  refine lv_aload_n hx hb dX12_share_0 rfl (lv_at hl 0 rfl) ?_
  refine gf (C := RX12) (T := TX12) (N := 16) (ci := 8) (v := .ref a_t_s) hF hG hP inX12 0 rfl rfl 1 (by decide) q1021 rfl rfl dX12_share_1 ?_
  refine lv_iconst (v := 0) hx hb dX12_share_4 (by decide) ?_
  refine ald_i (k := 0) hF hG hP 1 rfl (by decide) (by decide) dX12_share_5 ?_
  refine lv_if_ne (tgt := 13) hx hb dX12_share_6 (by decide) (fun c0 => ?_) (fun c0 => ?_)
  · have hf := (if_neg c0).symm.trans hf
    refine lv_aload_n hx hb dX12_share_13 rfl (lv_at hl 0 rfl) ?_
    refine gf (C := RX12) (T := TX12) (N := 16) (ci := 8) (v := .ref a_t_s) hF hG hP inX12 0 rfl rfl 1 (by decide) q1021 rfl rfl dX12_share_14 ?_
    refine lv_iconst (v := 0) hx hb dX12_share_17 (by decide) ?_
    refine ald_i (k := 0) hF hG hP 1 rfl (by decide) (by decide) dX12_share_18 ?_
    refine lv_aload_n hx hb dX12_share_19 rfl (lv_at hl 0 rfl) ?_
    obtain ⟨r_1, hq, hf⟩ := bd1_some hf
    refine rdV (As := []) (rest := [.int (t_s 0)]) hF hG hP hl.1 (c_X12_creaseMany l G a_t t_thrown a_t_states t_stateMany a_t_snapshot t_hasSnapshot a_t_text t_length t_at t_isWell a_t_read t_readMany a_t_prices t_priceMany t_pieceMany t_coins a_t_s t_s r_1 hq) k_X12_creaseMany q1303 [0, 1] rfl ⟨0, 8, _, _, rfl, rfl, rfl⟩ rfl rfl (Nat.le_of_ble_eq_true rfl) ⟨(Nat.le_of_ble_eq_true rfl), (Nat.le_of_ble_eq_true rfl)⟩ ⟨(Nat.zero_le _), (Nat.zero_le _)⟩ dX12_share_20 ?_
    refine lv_isub hx hb dX12_share_23 ?_
    refine lv_i2d hx hb dX12_share_24 ?_
    refine lv_aload_n hx hb dX12_share_25 rfl (lv_at hl 0 rfl) ?_
    refine gf (C := RX12) (T := TX12) (N := 16) (ci := 8) (v := .ref a_t_s) hF hG hP inX12 0 rfl rfl 1 (by decide) q1021 rfl rfl dX12_share_26 ?_
    refine lv_iconst (v := 0) hx hb dX12_share_29 (by decide) ?_
    refine ald_i (k := 0) hF hG hP 1 rfl (by decide) (by decide) dX12_share_30 ?_
    refine lv_i2d hx hb dX12_share_31 ?_
    obtain ⟨hg, hf⟩ := gd_some hf
    refine lv_ddiv hx hb dX12_share_32 hg ?_
    have hf : (some (FP.ddiv (FP.i2d ((t_s 0) - r_1)) (FP.i2d (t_s 0))) : Option (UInt64)) = some rr := hf
    cases hf
    exact re_d hF hr hlk dX12_share_33 rfl
  · have hf := (if_pos c0).symm.trans hf
    refine lv_dconst1 hx hb dX12_share_9 ?_
    refine lv_goto (tgt := 33) hx hb dX12_share_10 (by decide) ?_
    have hf : (some FP.dconst1 : Option (UInt64)) = some rr := hf
    cases hf
    exact re_d hF hr hlk dX12_share_33 rfl
def f_X12_smoothShare (t_thrown : Int32) (t_s : Nat → Int32) : Option (UInt64 × Int32) := bd1 (f_X12_share t_s) (fun (r_1 : UInt64) => some (r_1, 0))
theorem k_X12_smoothShare : KV yX12_smoothShare cX12_smoothShare 1 (some .double) 0 := ⟨qc_yX12_smoothShare, q9, ⟨by decide +kernel, by decide +kernel, by decide +kernel⟩, qi_yX12_smoothShare, qs_yX12_smoothShare⟩
abbrev RM_X12_smoothShare : Room := { frames := 5, cells := 0, slots := 0, locals := 112 }
set_option maxHeartbeats 4000000 in
set_option maxRecDepth 100000 in
theorem c_X12_smoothShare (l : Launch) (G : GP) (a_t : Nat) (t_thrown : Int32) (a_t_states : Nat) (t_stateMany : Int32) (a_t_snapshot : Nat) (t_hasSnapshot : Int32) (a_t_text : Nat) (t_length : Int32) (t_at : Int32) (t_isWell : Int32) (a_t_read : Nat) (t_readMany : Int32) (a_t_prices : Nat) (t_priceMany : Int32) (t_pieceMany : Int32) (t_coins : Int64) (a_t_s : Nat) (t_s : Nat → Int32) (rr : UInt64) (w_t_thrown : Int32) (hf : f_X12_smoothShare t_thrown t_s = some (rr, w_t_thrown)) : WM l yX12_smoothShare cX12_smoothShare 1 (some .double) 5 112 G [.ref a_t] [(a_t, .inr (8, [.int t_thrown, .ref a_t_s, .ref a_t_states, .int t_stateMany, .ref a_t_snapshot, .int t_hasSnapshot, .ref a_t_text, .int t_length, .int t_at, .int t_isWell, .ref a_t_read, .int t_readMany, .ref a_t_prices, .int t_priceMany, .int t_pieceMany, .long t_coins])), (a_t_s, .inl (G.2.1, 68, .inl t_s))] (some (.double rr)) [(a_t, .inr (8, [.int w_t_thrown, .ref a_t_s, .ref a_t_states, .int t_stateMany, .ref a_t_snapshot, .int t_hasSnapshot, .ref a_t_text, .int t_length, .int t_at, .int t_isWell, .ref a_t_read, .int t_readMany, .ref a_t_prices, .int t_priceMany, .int t_pieceMany, .long t_coins])), (a_t_s, .inl (G.2.1, 68, .inl t_s))] := by
  refine WM.ofW (C := RX12) (by decide) rfl (Nat.le_of_ble_eq_true rfl) ?_
  intro p e s m below meth c A hF hr hlk hG hA hP hD ls hl
  have hl : lv_has ls 1 [(0, .ref a_t)] := hl
  have hx := hF.1
  have hb := hF.2.1
  have hml := hF.2.2.1
  have hown := hF.2.2.2.1
  have hts := hF.2.2.2.2
  have hS : va_S A s.heap s.heap [] := va_S.rf
  unfold f_X12_smoothShare at hf
  refine lv_aload_n hx hb dX12_smoothShare_0 rfl (lv_at hl 0 rfl) ?_
  refine lv_iconst (v := 0) hx hb dX12_smoothShare_1 (by decide) ?_
  refine pf (C := RX12) (T := TX12) (N := 16) (ci := 8) (v := .int 0) (ty := .int) hF hG hP hD hS inX12 tyX12 tyX12_ok nmX12 0 rfl rfl 0 (by decide) q1020 rfl rfl (by decide +kernel) rfl rfl (Nat.le_of_ble_eq_true rfl) dX12_smoothShare_2 (fun H locs hP hD hS => ?_)
  replace hP : va_P G.1 vwCl [(a_t, .inr (8, [.int 0, .ref a_t_s, .ref a_t_states, .int t_stateMany, .ref a_t_snapshot, .int t_hasSnapshot, .ref a_t_text, .int t_length, .int t_at, .int t_isWell, .ref a_t_read, .int t_readMany, .ref a_t_prices, .int t_priceMany, .int t_pieceMany, .long t_coins])), (a_t_s, .inl (G.2.1, 68, .inl t_s))] H := hP
  replace hD : va_D A [(a_t, .inr (8, [.int 0, .ref a_t_s, .ref a_t_states, .int t_stateMany, .ref a_t_snapshot, .int t_hasSnapshot, .ref a_t_text, .int t_length, .int t_at, .int t_isWell, .ref a_t_read, .int t_readMany, .ref a_t_prices, .int t_priceMany, .int t_pieceMany, .long t_coins])), (a_t_s, .inl (G.2.1, 68, .inl t_s))] := hD
  refine lv_aload_n hx hb dX12_smoothShare_5 rfl (lv_at hl 0 rfl) ?_
  obtain ⟨r_1, hq, hf⟩ := bd1_some hf
  refine rdV (As := []) (rest := []) hF hG hP hl.1 (c_X12_share l G a_t 0 a_t_states t_stateMany a_t_snapshot t_hasSnapshot a_t_text t_length t_at t_isWell a_t_read t_readMany a_t_prices t_priceMany t_pieceMany t_coins a_t_s t_s r_1 hq) k_X12_share q1452 [0, 1] rfl ⟨0, 8, _, _, rfl, rfl, rfl⟩ rfl rfl (Nat.le_of_ble_eq_true rfl) ⟨(Nat.le_of_ble_eq_true rfl), (Nat.le_of_ble_eq_true rfl)⟩ ⟨(Nat.zero_le _), (Nat.zero_le _)⟩ dX12_smoothShare_6 ?_
  have hf : (some (r_1, 0) : Option (UInt64 × Int32)) = some (rr, w_t_thrown) := hf
  cases hf
  exact we_d hF hr hlk hP hD hS dX12_smoothShare_9 rfl
def f_X12_digestDay (t_pieceMany : Int32) (t_coins : Int64) (t_s : Nat → Int32) (x1 : Int64) (x3 : Int32) : Option (Int64 × Int32 × Int64) := bd1 (f_X12_meanOf t_s x3 (t_s 1)) (fun (r_1 : Int32) => bd1 (f_X12_of t_s x3) (fun (r_2 : Int32) => bd1 (f_X12_meanOf t_s x3 (t_s 2)) (fun (r_3 : Int32) => bd1 (f_X12_weighted t_s x3) (fun (r_4 : Int32) => bd1 (f_X12_smooth t_s x3) (fun (r_5 : Int32) => bd1 (f_X12_smooth t_s x3) (fun (r_6 : Int32) => bd1 (f_X12_middle t_s x3) (fun (r_7 : Int32) => bd1 (f_X12_creased t_s x3) (fun (r_8 : Int32) => bd1 (if r_8 = 0 then some 0 else some 1) (fun (j_9 : Int32) => bd1 (f_X12_greatest t_s x3) (fun (r_10 : Int32) => bd1 (f_X12_greatest t_s x3) (fun (r_11 : Int32) => bd1 (f_X12_crosses t_s x3) (fun (r_12 : Int32) => bd3 (f_X12_piecesAt t_pieceMany t_coins t_s x3) (fun (r_13 : Int32) (t_pieceMany_14 : Int32) (t_coins_15 : Int64) => bd3 (f_X12_worthAt t_pieceMany_14 t_coins_15 t_s x3) (fun (r_16 : Int64) (t_pieceMany_17 : Int32) (t_coins_18 : Int64) => bd1 (f_X12_bare t_s x3) (fun (r_19 : Int64) => some (((31 * ((31 * ((31 * ((31 * ((31 * ((31 * ((31 * ((31 * ((31 * ((31 * ((31 * ((31 * ((31 * ((31 * ((31 * x1) + (Int32.toInt64 r_2))) + (Int32.toInt64 r_1))) + (Int32.toInt64 r_1))) + (Int32.toInt64 r_3))) + (Int32.toInt64 r_4))) + (Int32.toInt64 r_5))) + (Int32.toInt64 r_6))) + (Int32.toInt64 r_7))) + (Int32.toInt64 j_9))) + (Int32.toInt64 r_10))) + (Int32.toInt64 r_11))) + (Int32.toInt64 r_12))) + (Int32.toInt64 r_13))) + r_16)) + r_19), t_pieceMany_17, t_coins_18))))))))))))))))
theorem k_X12_digestDay : KV yX12_digestDay cX12_digestDay 7 (some .long) 2 := ⟨qc_yX12_digestDay, q9, ⟨by decide +kernel, by decide +kernel, by decide +kernel⟩, qi_yX12_digestDay, qs_yX12_digestDay⟩
abbrev RM_X12_digestDay : Room := { frames := 6, cells := 0, slots := 0, locals := 138 }
set_option maxHeartbeats 4000000 in
set_option maxRecDepth 100000 in
theorem c_X12_digestDay (l : Launch) (G : GP) (a_t : Nat) (t_thrown : Int32) (a_t_states : Nat) (t_stateMany : Int32) (a_t_snapshot : Nat) (t_hasSnapshot : Int32) (a_t_text : Nat) (t_length : Int32) (t_at : Int32) (t_isWell : Int32) (a_t_read : Nat) (t_readMany : Int32) (a_t_prices : Nat) (t_priceMany : Int32) (t_pieceMany : Int32) (t_coins : Int64) (a_t_s : Nat) (t_s : Nat → Int32) (x1 : Int64) (x3 : Int32) (rr : Int64) (w_t_pieceMany : Int32) (w_t_coins : Int64) (hf : f_X12_digestDay t_pieceMany t_coins t_s x1 x3 = some (rr, w_t_pieceMany, w_t_coins)) : WM l yX12_digestDay cX12_digestDay 7 (some .long) 6 138 G [.ref a_t, .long x1, .int x3] [(a_t, .inr (8, [.int t_thrown, .ref a_t_s, .ref a_t_states, .int t_stateMany, .ref a_t_snapshot, .int t_hasSnapshot, .ref a_t_text, .int t_length, .int t_at, .int t_isWell, .ref a_t_read, .int t_readMany, .ref a_t_prices, .int t_priceMany, .int t_pieceMany, .long t_coins])), (a_t_s, .inl (G.2.1, 68, .inl t_s))] (some (.long rr)) [(a_t, .inr (8, [.int t_thrown, .ref a_t_s, .ref a_t_states, .int t_stateMany, .ref a_t_snapshot, .int t_hasSnapshot, .ref a_t_text, .int t_length, .int t_at, .int t_isWell, .ref a_t_read, .int t_readMany, .ref a_t_prices, .int t_priceMany, .int w_t_pieceMany, .long w_t_coins])), (a_t_s, .inl (G.2.1, 68, .inl t_s))] := by
  refine WM.ofW (C := RX12) (by decide) rfl (Nat.le_of_ble_eq_true rfl) ?_
  intro p e s m below meth c A hF hr hlk hG hA hP hD ls hl
  have hl : lv_has ls 7 [(0, .ref a_t), (1, .long x1), (3, .int x3)] := hl
  have hx := hF.1
  have hb := hF.2.1
  have hml := hF.2.2.1
  have hown := hF.2.2.2.1
  have hts := hF.2.2.2.2
  have hS : va_S A s.heap s.heap [] := va_S.rf
  unfold f_X12_digestDay at hf
  refine lv_aload_n hx hb dX12_digestDay_0 rfl (lv_at hl 0 rfl) ?_
  refine lv_iload_n hx hb dX12_digestDay_1 rfl (lv_at hl 2 rfl) ?_
  refine lv_aload_n hx hb dX12_digestDay_2 rfl (lv_at hl 0 rfl) ?_
  refine gf (C := RX12) (T := TX12) (N := 16) (ci := 8) (v := .ref a_t_s) hF hG hP inX12 0 rfl rfl 1 (by decide) q1021 rfl rfl dX12_digestDay_3 ?_
  refine lv_iconst (v := 1) hx hb dX12_digestDay_6 (by decide) ?_
  refine ald_i (k := 1) hF hG hP 1 rfl (by decide) (by decide) dX12_digestDay_7 ?_
  obtain ⟨r_1, hq, hf⟩ := bd1_some hf
  refine rdV (As := [.int x3, .int (t_s 1)]) (rest := []) hF hG hP hl.1 (c_X12_meanOf l G a_t t_thrown a_t_states t_stateMany a_t_snapshot t_hasSnapshot a_t_text t_length t_at t_isWell a_t_read t_readMany a_t_prices t_priceMany t_pieceMany t_coins a_t_s t_s x3 (t_s 1) r_1 hq) k_X12_meanOf q1258 [0, 1] rfl ⟨0, 8, _, _, rfl, rfl, rfl⟩ rfl rfl (Nat.le_of_ble_eq_true rfl) ⟨(Nat.le_of_ble_eq_true rfl), (Nat.le_of_ble_eq_true rfl)⟩ ⟨(Nat.zero_le _), (Nat.zero_le _)⟩ dX12_digestDay_8 ?_
  refine lv_istore (lv' := [(4, .int r_1), (0, .ref a_t), (1, .long x1), (3, .int x3)]) hx hb dX12_digestDay_11 hl (by decide) rfl (fun ls hl => ?_)
  refine lv_ldc2 (v := 31) hx hb hown (hts _ (List.mem_cons_of_mem _ q1461)) dX12_digestDay_13 ?_
  refine lv_ldc2 (v := 31) hx hb hown (hts _ (List.mem_cons_of_mem _ q1461)) dX12_digestDay_16 ?_
  refine lv_ldc2 (v := 31) hx hb hown (hts _ (List.mem_cons_of_mem _ q1461)) dX12_digestDay_19 ?_
  refine lv_lload_n hx hb dX12_digestDay_22 rfl (lv_at hl 2 rfl) ?_
  refine lv_lmul hx hb dX12_digestDay_23 ?_
  refine lv_aload_n hx hb dX12_digestDay_24 rfl (lv_at hl 1 rfl) ?_
  refine lv_iload_n hx hb dX12_digestDay_25 rfl (lv_at hl 3 rfl) ?_
  obtain ⟨r_2, hq, hf⟩ := bd1_some hf
  refine rdV (As := [.int x3]) (rest := [.long (31 * x1), .long 31, .long 31]) hF hG hP hl.1 (c_X12_of l G a_t t_thrown a_t_states t_stateMany a_t_snapshot t_hasSnapshot a_t_text t_length t_at t_isWell a_t_read t_readMany a_t_prices t_priceMany t_pieceMany t_coins a_t_s t_s x3 r_2 hq) k_X12_of q1111 [0, 1] rfl ⟨0, 8, _, _, rfl, rfl, rfl⟩ rfl rfl (Nat.le_of_ble_eq_true rfl) ⟨(Nat.le_of_ble_eq_true rfl), (Nat.le_of_ble_eq_true rfl)⟩ ⟨(Nat.zero_le _), (Nat.zero_le _)⟩ dX12_digestDay_26 ?_
  refine lv_i2l (v := (Int32.toInt64 r_2)) hx hb dX12_digestDay_29 rfl ?_
  refine lv_ladd hx hb dX12_digestDay_30 ?_
  refine lv_lmul hx hb dX12_digestDay_31 ?_
  refine lv_iload hx hb dX12_digestDay_32 (lv_at hl 0 rfl) ?_
  refine lv_i2l (v := (Int32.toInt64 r_1)) hx hb dX12_digestDay_34 rfl ?_
  refine lv_ladd hx hb dX12_digestDay_35 ?_
  refine lv_lmul hx hb dX12_digestDay_36 ?_
  refine lv_iload hx hb dX12_digestDay_37 (lv_at hl 0 rfl) ?_
  refine lv_i2l (v := (Int32.toInt64 r_1)) hx hb dX12_digestDay_39 rfl ?_
  refine lv_ladd hx hb dX12_digestDay_40 ?_
  refine lv_lstore (lv' := [(5, .long ((31 * ((31 * ((31 * x1) + (Int32.toInt64 r_2))) + (Int32.toInt64 r_1))) + (Int32.toInt64 r_1))), (4, .int r_1), (0, .ref a_t), (1, .long x1), (3, .int x3)]) hx hb dX12_digestDay_41 hl (by decide) rfl (fun ls hl => ?_)
  refine lv_ldc2 (v := 31) hx hb hown (hts _ (List.mem_cons_of_mem _ q1461)) dX12_digestDay_43 ?_
  refine lv_ldc2 (v := 31) hx hb hown (hts _ (List.mem_cons_of_mem _ q1461)) dX12_digestDay_46 ?_
  refine lv_lload hx hb dX12_digestDay_49 (lv_at hl 0 rfl) ?_
  refine lv_lmul hx hb dX12_digestDay_51 ?_
  refine lv_aload_n hx hb dX12_digestDay_52 rfl (lv_at hl 2 rfl) ?_
  refine lv_iload_n hx hb dX12_digestDay_53 rfl (lv_at hl 4 rfl) ?_
  refine lv_aload_n hx hb dX12_digestDay_54 rfl (lv_at hl 2 rfl) ?_
  refine gf (C := RX12) (T := TX12) (N := 16) (ci := 8) (v := .ref a_t_s) hF hG hP inX12 0 rfl rfl 1 (by decide) q1021 rfl rfl dX12_digestDay_55 ?_
  refine lv_iconst (v := 2) hx hb dX12_digestDay_58 (by decide) ?_
  refine ald_i (k := 2) hF hG hP 1 rfl (by decide) (by decide) dX12_digestDay_59 ?_
  obtain ⟨r_3, hq, hf⟩ := bd1_some hf
  refine rdV (As := [.int x3, .int (t_s 2)]) (rest := [.long (31 * ((31 * ((31 * ((31 * x1) + (Int32.toInt64 r_2))) + (Int32.toInt64 r_1))) + (Int32.toInt64 r_1))), .long 31]) hF hG hP hl.1 (c_X12_meanOf l G a_t t_thrown a_t_states t_stateMany a_t_snapshot t_hasSnapshot a_t_text t_length t_at t_isWell a_t_read t_readMany a_t_prices t_priceMany t_pieceMany t_coins a_t_s t_s x3 (t_s 2) r_3 hq) k_X12_meanOf q1258 [0, 1] rfl ⟨0, 8, _, _, rfl, rfl, rfl⟩ rfl rfl (Nat.le_of_ble_eq_true rfl) ⟨(Nat.le_of_ble_eq_true rfl), (Nat.le_of_ble_eq_true rfl)⟩ ⟨(Nat.zero_le _), (Nat.zero_le _)⟩ dX12_digestDay_60 ?_
  refine lv_i2l (v := (Int32.toInt64 r_3)) hx hb dX12_digestDay_63 rfl ?_
  refine lv_ladd hx hb dX12_digestDay_64 ?_
  refine lv_lmul hx hb dX12_digestDay_65 ?_
  refine lv_aload_n hx hb dX12_digestDay_66 rfl (lv_at hl 2 rfl) ?_
  refine lv_iload_n hx hb dX12_digestDay_67 rfl (lv_at hl 4 rfl) ?_
  obtain ⟨r_4, hq, hf⟩ := bd1_some hf
  refine rdV (As := [.int x3]) (rest := [.long (31 * ((31 * ((31 * ((31 * ((31 * x1) + (Int32.toInt64 r_2))) + (Int32.toInt64 r_1))) + (Int32.toInt64 r_1))) + (Int32.toInt64 r_3)))]) hF hG hP hl.1 (c_X12_weighted l G a_t t_thrown a_t_states t_stateMany a_t_snapshot t_hasSnapshot a_t_text t_length t_at t_isWell a_t_read t_readMany a_t_prices t_priceMany t_pieceMany t_coins a_t_s t_s x3 r_4 hq) k_X12_weighted q1270 [0, 1] rfl ⟨0, 8, _, _, rfl, rfl, rfl⟩ rfl rfl (Nat.le_of_ble_eq_true rfl) ⟨(Nat.le_of_ble_eq_true rfl), (Nat.le_of_ble_eq_true rfl)⟩ ⟨(Nat.zero_le _), (Nat.zero_le _)⟩ dX12_digestDay_68 ?_
  refine lv_i2l (v := (Int32.toInt64 r_4)) hx hb dX12_digestDay_71 rfl ?_
  refine lv_ladd hx hb dX12_digestDay_72 ?_
  refine lv_lstore (lv' := [(5, .long ((31 * ((31 * ((31 * ((31 * ((31 * x1) + (Int32.toInt64 r_2))) + (Int32.toInt64 r_1))) + (Int32.toInt64 r_1))) + (Int32.toInt64 r_3))) + (Int32.toInt64 r_4))), (4, .int r_1), (0, .ref a_t), (1, .long x1), (3, .int x3)]) hx hb dX12_digestDay_73 hl (by decide) rfl (fun ls hl => ?_)
  refine lv_ldc2 (v := 31) hx hb hown (hts _ (List.mem_cons_of_mem _ q1461)) dX12_digestDay_75 ?_
  refine lv_ldc2 (v := 31) hx hb hown (hts _ (List.mem_cons_of_mem _ q1461)) dX12_digestDay_78 ?_
  refine lv_ldc2 (v := 31) hx hb hown (hts _ (List.mem_cons_of_mem _ q1461)) dX12_digestDay_81 ?_
  refine lv_lload hx hb dX12_digestDay_84 (lv_at hl 0 rfl) ?_
  refine lv_lmul hx hb dX12_digestDay_86 ?_
  refine lv_aload_n hx hb dX12_digestDay_87 rfl (lv_at hl 2 rfl) ?_
  refine lv_iload_n hx hb dX12_digestDay_88 rfl (lv_at hl 4 rfl) ?_
  obtain ⟨r_5, hq, hf⟩ := bd1_some hf
  refine rdV (As := [.int x3]) (rest := [.long (31 * ((31 * ((31 * ((31 * ((31 * ((31 * x1) + (Int32.toInt64 r_2))) + (Int32.toInt64 r_1))) + (Int32.toInt64 r_1))) + (Int32.toInt64 r_3))) + (Int32.toInt64 r_4))), .long 31, .long 31]) hF hG hP hl.1 (c_X12_smooth l G a_t t_thrown a_t_states t_stateMany a_t_snapshot t_hasSnapshot a_t_text t_length t_at t_isWell a_t_read t_readMany a_t_prices t_priceMany t_pieceMany t_coins a_t_s t_s x3 r_5 hq) k_X12_smooth q1283 [0, 1] rfl ⟨0, 8, _, _, rfl, rfl, rfl⟩ rfl rfl (Nat.le_of_ble_eq_true rfl) ⟨(Nat.le_of_ble_eq_true rfl), (Nat.le_of_ble_eq_true rfl)⟩ ⟨(Nat.zero_le _), (Nat.zero_le _)⟩ dX12_digestDay_89 ?_
  refine lv_i2l (v := (Int32.toInt64 r_5)) hx hb dX12_digestDay_92 rfl ?_
  refine lv_ladd hx hb dX12_digestDay_93 ?_
  refine lv_lmul hx hb dX12_digestDay_94 ?_
  refine lv_aload_n hx hb dX12_digestDay_95 rfl (lv_at hl 2 rfl) ?_
  refine lv_iload_n hx hb dX12_digestDay_96 rfl (lv_at hl 4 rfl) ?_
  obtain ⟨r_6, hq, hf⟩ := bd1_some hf
  refine rdV (As := [.int x3]) (rest := [.long (31 * ((31 * ((31 * ((31 * ((31 * ((31 * ((31 * x1) + (Int32.toInt64 r_2))) + (Int32.toInt64 r_1))) + (Int32.toInt64 r_1))) + (Int32.toInt64 r_3))) + (Int32.toInt64 r_4))) + (Int32.toInt64 r_5))), .long 31]) hF hG hP hl.1 (c_X12_smooth l G a_t t_thrown a_t_states t_stateMany a_t_snapshot t_hasSnapshot a_t_text t_length t_at t_isWell a_t_read t_readMany a_t_prices t_priceMany t_pieceMany t_coins a_t_s t_s x3 r_6 hq) k_X12_smooth q1283 [0, 1] rfl ⟨0, 8, _, _, rfl, rfl, rfl⟩ rfl rfl (Nat.le_of_ble_eq_true rfl) ⟨(Nat.le_of_ble_eq_true rfl), (Nat.le_of_ble_eq_true rfl)⟩ ⟨(Nat.zero_le _), (Nat.zero_le _)⟩ dX12_digestDay_97 ?_
  refine lv_i2l (v := (Int32.toInt64 r_6)) hx hb dX12_digestDay_100 rfl ?_
  refine lv_ladd hx hb dX12_digestDay_101 ?_
  refine lv_lmul hx hb dX12_digestDay_102 ?_
  refine lv_aload_n hx hb dX12_digestDay_103 rfl (lv_at hl 2 rfl) ?_
  refine lv_iload_n hx hb dX12_digestDay_104 rfl (lv_at hl 4 rfl) ?_
  obtain ⟨r_7, hq, hf⟩ := bd1_some hf
  refine rdV (As := [.int x3]) (rest := [.long (31 * ((31 * ((31 * ((31 * ((31 * ((31 * ((31 * ((31 * x1) + (Int32.toInt64 r_2))) + (Int32.toInt64 r_1))) + (Int32.toInt64 r_1))) + (Int32.toInt64 r_3))) + (Int32.toInt64 r_4))) + (Int32.toInt64 r_5))) + (Int32.toInt64 r_6)))]) hF hG hP hl.1 (c_X12_middle l G a_t t_thrown a_t_states t_stateMany a_t_snapshot t_hasSnapshot a_t_text t_length t_at t_isWell a_t_read t_readMany a_t_prices t_priceMany t_pieceMany t_coins a_t_s t_s x3 r_7 hq) k_X12_middle q1123 [0, 1] rfl ⟨0, 8, _, _, rfl, rfl, rfl⟩ rfl rfl (Nat.le_of_ble_eq_true rfl) ⟨(Nat.le_of_ble_eq_true rfl), (Nat.le_of_ble_eq_true rfl)⟩ ⟨(Nat.zero_le _), (Nat.zero_le _)⟩ dX12_digestDay_105 ?_
  refine lv_i2l (v := (Int32.toInt64 r_7)) hx hb dX12_digestDay_108 rfl ?_
  refine lv_ladd hx hb dX12_digestDay_109 ?_
  refine lv_lstore (lv' := [(5, .long ((31 * ((31 * ((31 * ((31 * ((31 * ((31 * ((31 * ((31 * x1) + (Int32.toInt64 r_2))) + (Int32.toInt64 r_1))) + (Int32.toInt64 r_1))) + (Int32.toInt64 r_3))) + (Int32.toInt64 r_4))) + (Int32.toInt64 r_5))) + (Int32.toInt64 r_6))) + (Int32.toInt64 r_7))), (4, .int r_1), (0, .ref a_t), (1, .long x1), (3, .int x3)]) hx hb dX12_digestDay_110 hl (by decide) rfl (fun ls hl => ?_)
  refine lv_ldc2 (v := 31) hx hb hown (hts _ (List.mem_cons_of_mem _ q1461)) dX12_digestDay_112 ?_
  refine lv_ldc2 (v := 31) hx hb hown (hts _ (List.mem_cons_of_mem _ q1461)) dX12_digestDay_115 ?_
  refine lv_ldc2 (v := 31) hx hb hown (hts _ (List.mem_cons_of_mem _ q1461)) dX12_digestDay_118 ?_
  refine lv_lload hx hb dX12_digestDay_121 (lv_at hl 0 rfl) ?_
  refine lv_lmul hx hb dX12_digestDay_123 ?_
  refine lv_aload_n hx hb dX12_digestDay_124 rfl (lv_at hl 2 rfl) ?_
  refine lv_iload_n hx hb dX12_digestDay_125 rfl (lv_at hl 4 rfl) ?_
  obtain ⟨r_8, hq, hf⟩ := bd1_some hf
  refine rdV (As := [.int x3]) (rest := [.long (31 * ((31 * ((31 * ((31 * ((31 * ((31 * ((31 * ((31 * ((31 * x1) + (Int32.toInt64 r_2))) + (Int32.toInt64 r_1))) + (Int32.toInt64 r_1))) + (Int32.toInt64 r_3))) + (Int32.toInt64 r_4))) + (Int32.toInt64 r_5))) + (Int32.toInt64 r_6))) + (Int32.toInt64 r_7))), .long 31, .long 31]) hF hG hP hl.1 (c_X12_creased l G a_t t_thrown a_t_states t_stateMany a_t_snapshot t_hasSnapshot a_t_text t_length t_at t_isWell a_t_read t_readMany a_t_prices t_priceMany t_pieceMany t_coins a_t_s t_s x3 r_8 hq) k_X12_creased q1119 [0, 1] rfl ⟨0, 8, _, _, rfl, rfl, rfl⟩ rfl rfl (Nat.le_of_ble_eq_true rfl) ⟨(Nat.le_of_ble_eq_true rfl), (Nat.le_of_ble_eq_true rfl)⟩ ⟨(Nat.zero_le _), (Nat.zero_le _)⟩ dX12_digestDay_126 ?_
  obtain ⟨j_9, hq, hf⟩ := bd1_some hf
  have J137 : ∀ (H : Heap) (locs : List Loc), va_P G.1 vwCl ([(a_t, .inr (8, [.int t_thrown, .ref a_t_s, .ref a_t_states, .int t_stateMany, .ref a_t_snapshot, .int t_hasSnapshot, .ref a_t_text, .int t_length, .int t_at, .int t_isWell, .ref a_t_read, .int t_readMany, .ref a_t_prices, .int t_priceMany, .int t_pieceMany, .long t_coins])), (a_t_s, .inl (G.2.1, 68, .inl t_s))] : va_W) H → va_D A ([(a_t, .inr (8, [.int t_thrown, .ref a_t_s, .ref a_t_states, .int t_stateMany, .ref a_t_snapshot, .int t_hasSnapshot, .ref a_t_text, .int t_length, .int t_at, .int t_isWell, .ref a_t_read, .int t_readMany, .ref a_t_prices, .int t_priceMany, .int t_pieceMany, .long t_coins])), (a_t_s, .inl (G.2.1, 68, .inl t_s))] : va_W) → va_S A s.heap H locs → ∀ ls : Array Slot, lv_has ls 7 [(0, .ref a_t), (3, .int x3)] → W p l e RM_X12_digestDay s m [.ref a_t, .long x1, .int x3].toArray below meth c H locs 0 0 (MQ below (wrQ (some (.long rr)) G [(a_t, .inr (8, [.int t_thrown, .ref a_t_s, .ref a_t_states, .int t_stateMany, .ref a_t_snapshot, .int t_hasSnapshot, .ref a_t_text, .int t_length, .int t_at, .int t_isWell, .ref a_t_read, .int t_readMany, .ref a_t_prices, .int t_priceMany, .int w_t_pieceMany, .long w_t_coins])), (a_t_s, .inl (G.2.1, 68, .inl t_s))] A) [.ref a_t, .long x1, .int x3].toArray s 0 0 A) (F0 m 137 ls [.int j_9, .long (31 * ((31 * ((31 * ((31 * ((31 * ((31 * ((31 * ((31 * ((31 * x1) + (Int32.toInt64 r_2))) + (Int32.toInt64 r_1))) + (Int32.toInt64 r_1))) + (Int32.toInt64 r_3))) + (Int32.toInt64 r_4))) + (Int32.toInt64 r_5))) + (Int32.toInt64 r_6))) + (Int32.toInt64 r_7))), .long 31, .long 31]) := by
    intro H locs hP hD hS ls hl
    refine lv_i2l (v := (Int32.toInt64 j_9)) hx hb dX12_digestDay_137 rfl ?_
    refine lv_ladd hx hb dX12_digestDay_138 ?_
    refine lv_lmul hx hb dX12_digestDay_139 ?_
    refine lv_aload_n hx hb dX12_digestDay_140 rfl (lv_at hl 0 rfl) ?_
    refine lv_iload_n hx hb dX12_digestDay_141 rfl (lv_at hl 1 rfl) ?_
    obtain ⟨r_10, hq, hf⟩ := bd1_some hf
    refine rdV (As := [.int x3]) (rest := [.long (31 * ((31 * ((31 * ((31 * ((31 * ((31 * ((31 * ((31 * ((31 * ((31 * x1) + (Int32.toInt64 r_2))) + (Int32.toInt64 r_1))) + (Int32.toInt64 r_1))) + (Int32.toInt64 r_3))) + (Int32.toInt64 r_4))) + (Int32.toInt64 r_5))) + (Int32.toInt64 r_6))) + (Int32.toInt64 r_7))) + (Int32.toInt64 j_9))), .long 31]) hF hG hP hl.1 (c_X12_greatest l G a_t t_thrown a_t_states t_stateMany a_t_snapshot t_hasSnapshot a_t_text t_length t_at t_isWell a_t_read t_readMany a_t_prices t_priceMany t_pieceMany t_coins a_t_s t_s x3 r_10 hq) k_X12_greatest q1315 [0, 1] rfl ⟨0, 8, _, _, rfl, rfl, rfl⟩ rfl rfl (Nat.le_of_ble_eq_true rfl) ⟨(Nat.le_of_ble_eq_true rfl), (Nat.le_of_ble_eq_true rfl)⟩ ⟨(Nat.zero_le _), (Nat.zero_le _)⟩ dX12_digestDay_142 ?_
    refine lv_i2l (v := (Int32.toInt64 r_10)) hx hb dX12_digestDay_145 rfl ?_
    refine lv_ladd hx hb dX12_digestDay_146 ?_
    refine lv_lmul hx hb dX12_digestDay_147 ?_
    refine lv_aload_n hx hb dX12_digestDay_148 rfl (lv_at hl 0 rfl) ?_
    refine lv_iload_n hx hb dX12_digestDay_149 rfl (lv_at hl 1 rfl) ?_
    obtain ⟨r_11, hq, hf⟩ := bd1_some hf
    refine rdV (As := [.int x3]) (rest := [.long (31 * ((31 * ((31 * ((31 * ((31 * ((31 * ((31 * ((31 * ((31 * ((31 * ((31 * x1) + (Int32.toInt64 r_2))) + (Int32.toInt64 r_1))) + (Int32.toInt64 r_1))) + (Int32.toInt64 r_3))) + (Int32.toInt64 r_4))) + (Int32.toInt64 r_5))) + (Int32.toInt64 r_6))) + (Int32.toInt64 r_7))) + (Int32.toInt64 j_9))) + (Int32.toInt64 r_10)))]) hF hG hP hl.1 (c_X12_greatest l G a_t t_thrown a_t_states t_stateMany a_t_snapshot t_hasSnapshot a_t_text t_length t_at t_isWell a_t_read t_readMany a_t_prices t_priceMany t_pieceMany t_coins a_t_s t_s x3 r_11 hq) k_X12_greatest q1315 [0, 1] rfl ⟨0, 8, _, _, rfl, rfl, rfl⟩ rfl rfl (Nat.le_of_ble_eq_true rfl) ⟨(Nat.le_of_ble_eq_true rfl), (Nat.le_of_ble_eq_true rfl)⟩ ⟨(Nat.zero_le _), (Nat.zero_le _)⟩ dX12_digestDay_150 ?_
    refine lv_i2l (v := (Int32.toInt64 r_11)) hx hb dX12_digestDay_153 rfl ?_
    refine lv_ladd hx hb dX12_digestDay_154 ?_
    refine lv_lstore (lv' := [(5, .long ((31 * ((31 * ((31 * ((31 * ((31 * ((31 * ((31 * ((31 * ((31 * ((31 * ((31 * x1) + (Int32.toInt64 r_2))) + (Int32.toInt64 r_1))) + (Int32.toInt64 r_1))) + (Int32.toInt64 r_3))) + (Int32.toInt64 r_4))) + (Int32.toInt64 r_5))) + (Int32.toInt64 r_6))) + (Int32.toInt64 r_7))) + (Int32.toInt64 j_9))) + (Int32.toInt64 r_10))) + (Int32.toInt64 r_11))), (0, .ref a_t), (3, .int x3)]) hx hb dX12_digestDay_155 hl (by decide) rfl (fun ls hl => ?_)
    refine lv_ldc2 (v := 31) hx hb hown (hts _ (List.mem_cons_of_mem _ q1461)) dX12_digestDay_157 ?_
    refine lv_ldc2 (v := 31) hx hb hown (hts _ (List.mem_cons_of_mem _ q1461)) dX12_digestDay_160 ?_
    refine lv_lload hx hb dX12_digestDay_163 (lv_at hl 0 rfl) ?_
    refine lv_lmul hx hb dX12_digestDay_165 ?_
    refine lv_aload_n hx hb dX12_digestDay_166 rfl (lv_at hl 1 rfl) ?_
    refine lv_iload_n hx hb dX12_digestDay_167 rfl (lv_at hl 2 rfl) ?_
    obtain ⟨r_12, hq, hf⟩ := bd1_some hf
    refine rdV (As := [.int x3]) (rest := [.long (31 * ((31 * ((31 * ((31 * ((31 * ((31 * ((31 * ((31 * ((31 * ((31 * ((31 * ((31 * x1) + (Int32.toInt64 r_2))) + (Int32.toInt64 r_1))) + (Int32.toInt64 r_1))) + (Int32.toInt64 r_3))) + (Int32.toInt64 r_4))) + (Int32.toInt64 r_5))) + (Int32.toInt64 r_6))) + (Int32.toInt64 r_7))) + (Int32.toInt64 j_9))) + (Int32.toInt64 r_10))) + (Int32.toInt64 r_11))), .long 31]) hF hG hP hl.1 (c_X12_crosses l G a_t t_thrown a_t_states t_stateMany a_t_snapshot t_hasSnapshot a_t_text t_length t_at t_isWell a_t_read t_readMany a_t_prices t_priceMany t_pieceMany t_coins a_t_s t_s x3 r_12 hq) k_X12_crosses q1327 [0, 1] rfl ⟨0, 8, _, _, rfl, rfl, rfl⟩ rfl rfl (Nat.le_of_ble_eq_true rfl) ⟨(Nat.le_of_ble_eq_true rfl), (Nat.le_of_ble_eq_true rfl)⟩ ⟨(Nat.zero_le _), (Nat.zero_le _)⟩ dX12_digestDay_168 ?_
    refine lv_i2l (v := (Int32.toInt64 r_12)) hx hb dX12_digestDay_171 rfl ?_
    refine lv_ladd hx hb dX12_digestDay_172 ?_
    refine lv_lmul hx hb dX12_digestDay_173 ?_
    refine lv_aload_n hx hb dX12_digestDay_174 rfl (lv_at hl 1 rfl) ?_
    refine lv_iload_n hx hb dX12_digestDay_175 rfl (lv_at hl 2 rfl) ?_
    obtain ⟨r_13, t_pieceMany_14, t_coins_15, hq, hf⟩ := bd3_some hf
    refine wrV (As := [.int x3]) (rest := [.long (31 * ((31 * ((31 * ((31 * ((31 * ((31 * ((31 * ((31 * ((31 * ((31 * ((31 * ((31 * ((31 * x1) + (Int32.toInt64 r_2))) + (Int32.toInt64 r_1))) + (Int32.toInt64 r_1))) + (Int32.toInt64 r_3))) + (Int32.toInt64 r_4))) + (Int32.toInt64 r_5))) + (Int32.toInt64 r_6))) + (Int32.toInt64 r_7))) + (Int32.toInt64 j_9))) + (Int32.toInt64 r_10))) + (Int32.toInt64 r_11))) + (Int32.toInt64 r_12)))]) (wn := [(a_t, .inr (8, [.int t_thrown, .ref a_t_s, .ref a_t_states, .int t_stateMany, .ref a_t_snapshot, .int t_hasSnapshot, .ref a_t_text, .int t_length, .int t_at, .int t_isWell, .ref a_t_read, .int t_readMany, .ref a_t_prices, .int t_priceMany, .int t_pieceMany_14, .long t_coins_15])), (a_t_s, .inl (G.2.1, 68, .inl t_s))]) hF hG hP hD hS hA hl.1 (c_X12_piecesAt l G a_t t_thrown a_t_states t_stateMany a_t_snapshot t_hasSnapshot a_t_text t_length t_at t_isWell a_t_read t_readMany a_t_prices t_priceMany t_pieceMany t_coins a_t_s t_s x3 r_13 t_pieceMany_14 t_coins_15 hq) k_X12_piecesAt q1347 [0, 1] [] [0, 1] rfl rfl rfl rfl ⟨rfl, rfl⟩ (by decide) ⟨0, 8, _, _, rfl, rfl, rfl⟩ rfl rfl (Nat.le_of_ble_eq_true rfl) ⟨(Nat.le_of_ble_eq_true rfl), (Nat.le_of_ble_eq_true rfl)⟩ ⟨(Nat.le_of_ble_eq_true rfl), (Nat.le_of_ble_eq_true rfl)⟩ dX12_digestDay_176 (fun H locs hP hD hS => ?_)
    refine lv_i2l (v := (Int32.toInt64 r_13)) hx hb dX12_digestDay_179 rfl ?_
    refine lv_ladd hx hb dX12_digestDay_180 ?_
    refine lv_lstore (lv' := [(5, .long ((31 * ((31 * ((31 * ((31 * ((31 * ((31 * ((31 * ((31 * ((31 * ((31 * ((31 * ((31 * ((31 * x1) + (Int32.toInt64 r_2))) + (Int32.toInt64 r_1))) + (Int32.toInt64 r_1))) + (Int32.toInt64 r_3))) + (Int32.toInt64 r_4))) + (Int32.toInt64 r_5))) + (Int32.toInt64 r_6))) + (Int32.toInt64 r_7))) + (Int32.toInt64 j_9))) + (Int32.toInt64 r_10))) + (Int32.toInt64 r_11))) + (Int32.toInt64 r_12))) + (Int32.toInt64 r_13))), (0, .ref a_t), (3, .int x3)]) hx hb dX12_digestDay_181 hl (by decide) rfl (fun ls hl => ?_)
    refine lv_ldc2 (v := 31) hx hb hown (hts _ (List.mem_cons_of_mem _ q1461)) dX12_digestDay_183 ?_
    refine lv_ldc2 (v := 31) hx hb hown (hts _ (List.mem_cons_of_mem _ q1461)) dX12_digestDay_186 ?_
    refine lv_lload hx hb dX12_digestDay_189 (lv_at hl 0 rfl) ?_
    refine lv_lmul hx hb dX12_digestDay_191 ?_
    refine lv_aload_n hx hb dX12_digestDay_192 rfl (lv_at hl 1 rfl) ?_
    refine lv_iload_n hx hb dX12_digestDay_193 rfl (lv_at hl 2 rfl) ?_
    obtain ⟨r_16, t_pieceMany_17, t_coins_18, hq, hf⟩ := bd3_some hf
    refine wrV (As := [.int x3]) (rest := [.long (31 * ((31 * ((31 * ((31 * ((31 * ((31 * ((31 * ((31 * ((31 * ((31 * ((31 * ((31 * ((31 * ((31 * x1) + (Int32.toInt64 r_2))) + (Int32.toInt64 r_1))) + (Int32.toInt64 r_1))) + (Int32.toInt64 r_3))) + (Int32.toInt64 r_4))) + (Int32.toInt64 r_5))) + (Int32.toInt64 r_6))) + (Int32.toInt64 r_7))) + (Int32.toInt64 j_9))) + (Int32.toInt64 r_10))) + (Int32.toInt64 r_11))) + (Int32.toInt64 r_12))) + (Int32.toInt64 r_13))), .long 31]) (wn := [(a_t, .inr (8, [.int t_thrown, .ref a_t_s, .ref a_t_states, .int t_stateMany, .ref a_t_snapshot, .int t_hasSnapshot, .ref a_t_text, .int t_length, .int t_at, .int t_isWell, .ref a_t_read, .int t_readMany, .ref a_t_prices, .int t_priceMany, .int t_pieceMany_17, .long t_coins_18])), (a_t_s, .inl (G.2.1, 68, .inl t_s))]) hF hG hP hD hS hA hl.1 (c_X12_worthAt l G a_t t_thrown a_t_states t_stateMany a_t_snapshot t_hasSnapshot a_t_text t_length t_at t_isWell a_t_read t_readMany a_t_prices t_priceMany t_pieceMany_14 t_coins_15 a_t_s t_s x3 r_16 t_pieceMany_17 t_coins_18 hq) k_X12_worthAt q1361 [0, 1] [] [0, 1] rfl rfl rfl rfl ⟨rfl, rfl⟩ (by decide) ⟨0, 8, _, _, rfl, rfl, rfl⟩ rfl rfl (Nat.le_of_ble_eq_true rfl) ⟨(Nat.le_of_ble_eq_true rfl), (Nat.le_of_ble_eq_true rfl)⟩ ⟨(Nat.le_of_ble_eq_true rfl), (Nat.le_of_ble_eq_true rfl)⟩ dX12_digestDay_194 (fun H locs hP hD hS => ?_)
    refine lv_ladd hx hb dX12_digestDay_197 ?_
    refine lv_lmul hx hb dX12_digestDay_198 ?_
    refine lv_aload_n hx hb dX12_digestDay_199 rfl (lv_at hl 1 rfl) ?_
    refine lv_iload_n hx hb dX12_digestDay_200 rfl (lv_at hl 2 rfl) ?_
    obtain ⟨r_19, hq, hf⟩ := bd1_some hf
    refine rdV (As := [.int x3]) (rest := [.long (31 * ((31 * ((31 * ((31 * ((31 * ((31 * ((31 * ((31 * ((31 * ((31 * ((31 * ((31 * ((31 * ((31 * ((31 * x1) + (Int32.toInt64 r_2))) + (Int32.toInt64 r_1))) + (Int32.toInt64 r_1))) + (Int32.toInt64 r_3))) + (Int32.toInt64 r_4))) + (Int32.toInt64 r_5))) + (Int32.toInt64 r_6))) + (Int32.toInt64 r_7))) + (Int32.toInt64 j_9))) + (Int32.toInt64 r_10))) + (Int32.toInt64 r_11))) + (Int32.toInt64 r_12))) + (Int32.toInt64 r_13))) + r_16))]) hF hG hP hl.1 (c_X12_bare l G a_t t_thrown a_t_states t_stateMany a_t_snapshot t_hasSnapshot a_t_text t_length t_at t_isWell a_t_read t_readMany a_t_prices t_priceMany t_pieceMany_17 t_coins_18 a_t_s t_s x3 r_19 hq) k_X12_bare q1413 [0, 1] rfl ⟨0, 8, _, _, rfl, rfl, rfl⟩ rfl rfl (Nat.le_of_ble_eq_true rfl) ⟨(Nat.le_of_ble_eq_true rfl), (Nat.le_of_ble_eq_true rfl)⟩ ⟨(Nat.zero_le _), (Nat.zero_le _)⟩ dX12_digestDay_201 ?_
    refine lv_ladd hx hb dX12_digestDay_204 ?_
    have hf : (some (((31 * ((31 * ((31 * ((31 * ((31 * ((31 * ((31 * ((31 * ((31 * ((31 * ((31 * ((31 * ((31 * ((31 * ((31 * x1) + (Int32.toInt64 r_2))) + (Int32.toInt64 r_1))) + (Int32.toInt64 r_1))) + (Int32.toInt64 r_3))) + (Int32.toInt64 r_4))) + (Int32.toInt64 r_5))) + (Int32.toInt64 r_6))) + (Int32.toInt64 r_7))) + (Int32.toInt64 j_9))) + (Int32.toInt64 r_10))) + (Int32.toInt64 r_11))) + (Int32.toInt64 r_12))) + (Int32.toInt64 r_13))) + r_16)) + r_19), t_pieceMany_17, t_coins_18) : Option (Int64 × Int32 × Int64)) = some (rr, w_t_pieceMany, w_t_coins) := hf
    cases hf
    exact we_l hF hr hlk hP hD hS dX12_digestDay_205 rfl
  clear hf
  have hf := hq
  clear hq
  refine lv_if_eq (tgt := 136) hx hb dX12_digestDay_129 (by decide) (fun c0 => ?_) (fun c0 => ?_)
  · have hf := (if_pos c0).symm.trans hf
    refine lv_iconst (v := 0) hx hb dX12_digestDay_136 (by decide) ?_
    have hf : (some 0 : Option (Int32)) = some j_9 := hf
    cases hf
    exact J137 _ _ hP hD hS ls (lv_sub hl [2, 4] rfl)
  · have hf := (if_neg c0).symm.trans hf
    refine lv_iconst (v := 1) hx hb dX12_digestDay_132 (by decide) ?_
    refine lv_goto (tgt := 137) hx hb dX12_digestDay_133 (by decide) ?_
    have hf : (some 1 : Option (Int32)) = some j_9 := hf
    cases hf
    exact J137 _ _ hP hD hS ls (lv_sub hl [2, 4] rfl)
def l_X12_digestForecasts_5 (t_s : Nat → Int32) : Nat → Int64 → Int32 → Option (Int64)
  | 0, _, _ => none
  | n + 1, i3_1, i5_2 => (if (t_s 5) ≤ i5_2 then some i3_1 else (if (t_s 0) ≤ i5_2 then some i3_1 else bd1 (f_X12_index t_s i5_2) (fun (r_4 : Int32) => l_X12_digestForecasts_5 t_s n ((31 * i3_1) + (Int32.toInt64 r_4)) (i5_2 + 1))))
def l_X12_digestForecasts_50 (t_s : Nat → Int32) : Nat → Int64 → Int32 → Option (Int64)
  | 0, _, _ => none
  | n + 1, i3_5, i5_6 => (if 4 ≤ i5_6 then some i3_5 else (if (t_s 0) ≤ 0 then some i3_5 else bd1 (f_X12_told t_s i5_6 (t_s 0)) (fun (r_8 : Int32) => l_X12_digestForecasts_50 t_s n ((31 * i3_5) + (Int32.toInt64 r_8)) (i5_6 + 1))))
def l_X12_digestForecasts_94 (t_s : Nat → Int32) : Nat → Int64 → Int32 → Option (Int64)
  | 0, _, _ => none
  | n + 1, i3_9, i5_10 => (if 4 ≤ i5_10 then some i3_9 else (if (t_s 0) ≤ 1 then some i3_9 else bd1 (f_X12_errorOf t_s i5_10) (fun (r_12 : Int32) => l_X12_digestForecasts_94 t_s n ((31 * i3_9) + (Int32.toInt64 r_12)) (i5_10 + 1))))
def f_X12_digestForecasts (t_s : Nat → Int32) (x1 : Int64) : Option (Int64) := bd1 (l_X12_digestForecasts_5 t_s 1000 x1 0) (fun (o3_3 : Int64) => bd1 (l_X12_digestForecasts_50 t_s 1000 o3_3 0) (fun (o3_7 : Int64) => bd1 (l_X12_digestForecasts_94 t_s 1000 o3_7 0) (fun (o3_11 : Int64) => (if (t_s 0) ≤ 1 then some o3_11 else bd1 (f_X12_best t_s) (fun (r_13 : Int32) => some ((31 * o3_11) + (Int32.toInt64 r_13)))))))
theorem k_X12_digestForecasts : KV yX12_digestForecasts cX12_digestForecasts 6 (some .long) 1 := ⟨qc_yX12_digestForecasts, q9, ⟨by decide +kernel, by decide +kernel, by decide +kernel⟩, qi_yX12_digestForecasts, qs_yX12_digestForecasts⟩
abbrev RM_X12_digestForecasts : Room := { frames := 5, cells := 0, slots := 0, locals := 116 }
set_option maxHeartbeats 4000000 in
set_option maxRecDepth 100000 in
theorem c_X12_digestForecasts (l : Launch) (G : GP) (a_t : Nat) (t_thrown : Int32) (a_t_states : Nat) (t_stateMany : Int32) (a_t_snapshot : Nat) (t_hasSnapshot : Int32) (a_t_text : Nat) (t_length : Int32) (t_at : Int32) (t_isWell : Int32) (a_t_read : Nat) (t_readMany : Int32) (a_t_prices : Nat) (t_priceMany : Int32) (t_pieceMany : Int32) (t_coins : Int64) (a_t_s : Nat) (t_s : Nat → Int32) (x1 : Int64) (rr : Int64) (hf : f_X12_digestForecasts t_s x1 = some rr) : RM l yX12_digestForecasts cX12_digestForecasts 6 (some .long) 5 116 G [.ref a_t, .long x1] [(a_t, .inr (8, [.int t_thrown, .ref a_t_s, .ref a_t_states, .int t_stateMany, .ref a_t_snapshot, .int t_hasSnapshot, .ref a_t_text, .int t_length, .int t_at, .int t_isWell, .ref a_t_read, .int t_readMany, .ref a_t_prices, .int t_priceMany, .int t_pieceMany, .long t_coins])), (a_t_s, .inl (G.2.1, 68, .inl t_s))] (some (.long rr)) := by
  refine RM.ofW (C := RX12) (by decide) rfl (Nat.le_of_ble_eq_true rfl) ?_
  intro p e s m below meth c hF hr hlk hG hP ls hl
  have hl : lv_has ls 6 [(0, .ref a_t), (1, .long x1)] := hl
  have hx := hF.1
  have hb := hF.2.1
  have hml := hF.2.2.1
  have hown := hF.2.2.2.1
  have hts := hF.2.2.2.2
  unfold f_X12_digestForecasts at hf
  refine lv_lload_n hx hb dX12_digestForecasts_0 rfl (lv_at hl 1 rfl) ?_
  refine lv_lstore_n (lv' := [(3, .long x1), (0, .ref a_t), (1, .long x1)]) hx hb dX12_digestForecasts_1 rfl hl (by decide) rfl (fun ls hl => ?_)
  refine lv_iconst (v := 0) hx hb dX12_digestForecasts_2 (by decide) ?_
  refine lv_istore (lv' := [(5, .int 0), (3, .long x1), (0, .ref a_t), (1, .long x1)]) hx hb dX12_digestForecasts_3 hl (by decide) rfl (fun ls hl => ?_)
  obtain ⟨o3_3, hq, hf⟩ := bd1_some hf
  have K5 : ∀ ls : Array Slot, lv_has ls 6 [(0, .ref a_t), (3, .long o3_3)] → W p l e RM_X12_digestForecasts s m [.ref a_t, .long x1].toArray below meth c s.heap [] 0 0 (MQ below (rdQ (some (.long rr))) [.ref a_t, .long x1].toArray s 0 0 (fun _ => False)) (F0 m 47 ls []) := by
    intro ls hl
    refine lv_iconst (v := 0) hx hb dX12_digestForecasts_47 (by decide) ?_
    refine lv_istore (lv' := [(5, .int 0), (0, .ref a_t), (3, .long o3_3)]) hx hb dX12_digestForecasts_48 hl (by decide) rfl (fun ls hl => ?_)
    obtain ⟨o3_7, hq, hf⟩ := bd1_some hf
    have K50 : ∀ ls : Array Slot, lv_has ls 6 [(0, .ref a_t), (3, .long o3_7)] → W p l e RM_X12_digestForecasts s m [.ref a_t, .long x1].toArray below meth c s.heap [] 0 0 (MQ below (rdQ (some (.long rr))) [.ref a_t, .long x1].toArray s 0 0 (fun _ => False)) (F0 m 91 ls []) := by
      intro ls hl
      refine lv_iconst (v := 0) hx hb dX12_digestForecasts_91 (by decide) ?_
      refine lv_istore (lv' := [(5, .int 0), (0, .ref a_t), (3, .long o3_7)]) hx hb dX12_digestForecasts_92 hl (by decide) rfl (fun ls hl => ?_)
      obtain ⟨o3_11, hq, hf⟩ := bd1_some hf
      have K94 : ∀ ls : Array Slot, lv_has ls 6 [(0, .ref a_t), (3, .long o3_11)] → W p l e RM_X12_digestForecasts s m [.ref a_t, .long x1].toArray below meth c s.heap [] 0 0 (MQ below (rdQ (some (.long rr))) [.ref a_t, .long x1].toArray s 0 0 (fun _ => False)) (F0 m 130 ls []) := by
        intro ls hl
        refine lv_aload_n hx hb dX12_digestForecasts_130 rfl (lv_at hl 0 rfl) ?_
        refine gf (C := RX12) (T := TX12) (N := 16) (ci := 8) (v := .ref a_t_s) hF hG hP inX12 0 rfl rfl 1 (by decide) q1021 rfl rfl dX12_digestForecasts_131 ?_
        refine lv_iconst (v := 0) hx hb dX12_digestForecasts_134 (by decide) ?_
        refine ald_i (k := 0) hF hG hP 1 rfl (by decide) (by decide) dX12_digestForecasts_135 ?_
        refine lv_iconst (v := 1) hx hb dX12_digestForecasts_136 (by decide) ?_
        refine lv_icmp_le (tgt := 154) hx hb dX12_digestForecasts_137 (by decide) (fun c0 => ?_) (fun c0 => ?_)
        · have hf := (if_pos c0).symm.trans hf
          refine lv_lload_n hx hb dX12_digestForecasts_154 rfl (lv_at hl 1 rfl) ?_
          have hf : (some o3_11 : Option (Int64)) = some rr := hf
          cases hf
          exact re_l hF hr hlk dX12_digestForecasts_155 rfl
        · have hf := (if_neg c0).symm.trans hf
          refine lv_ldc2 (v := 31) hx hb hown (hts _ (List.mem_cons_of_mem _ q1461)) dX12_digestForecasts_140 ?_
          refine lv_lload_n hx hb dX12_digestForecasts_143 rfl (lv_at hl 1 rfl) ?_
          refine lv_lmul hx hb dX12_digestForecasts_144 ?_
          refine lv_aload_n hx hb dX12_digestForecasts_145 rfl (lv_at hl 0 rfl) ?_
          obtain ⟨r_13, hq, hf⟩ := bd1_some hf
          refine rdV (As := []) (rest := [.long (31 * o3_11)]) hF hG hP hl.1 (c_X12_best l G a_t t_thrown a_t_states t_stateMany a_t_snapshot t_hasSnapshot a_t_text t_length t_at t_isWell a_t_read t_readMany a_t_prices t_priceMany t_pieceMany t_coins a_t_s t_s r_13 hq) k_X12_best q1440 [0, 1] rfl ⟨0, 8, _, _, rfl, rfl, rfl⟩ rfl rfl (Nat.le_of_ble_eq_true rfl) ⟨(Nat.le_of_ble_eq_true rfl), (Nat.le_of_ble_eq_true rfl)⟩ ⟨(Nat.zero_le _), (Nat.zero_le _)⟩ dX12_digestForecasts_146 ?_
          refine lv_i2l (v := (Int32.toInt64 r_13)) hx hb dX12_digestForecasts_149 rfl ?_
          refine lv_ladd hx hb dX12_digestForecasts_150 ?_
          refine lv_goto (tgt := 155) hx hb dX12_digestForecasts_151 (by decide) ?_
          have hf : (some ((31 * o3_11) + (Int32.toInt64 r_13)) : Option (Int64)) = some rr := hf
          cases hf
          exact re_l hF hr hlk dX12_digestForecasts_155 rfl
      clear hf
      have L94 : ∀ (n : Nat) (i3_9 : Int64) (i5_10 : Int32), l_X12_digestForecasts_94 t_s n i3_9 i5_10 = some o3_11 → ∀ ls : Array Slot, lv_has ls 6 [(0, .ref a_t), (3, .long i3_9), (5, .int i5_10)] → W p l e RM_X12_digestForecasts s m [.ref a_t, .long x1].toArray below meth c s.heap [] 0 0 (MQ below (rdQ (some (.long rr))) [.ref a_t, .long x1].toArray s 0 0 (fun _ => False)) (F0 m 94 ls []) := by
        intro n
        induction n with
        | zero =>
          intro i3_9 i5_10 hf
          exact nomatch (show none = some o3_11 from hf)
        | succ n ih =>
          intro i3_9 i5_10 hf ls hl
          rw [l_X12_digestForecasts_94] at hf
          refine lv_iload hx hb dX12_digestForecasts_94 (lv_at hl 2 rfl) ?_
          refine lv_iconst (v := 4) hx hb dX12_digestForecasts_96 (by decide) ?_
          refine lv_icmp_ge (tgt := 130) hx hb dX12_digestForecasts_97 (by decide) (fun c0 => ?_) (fun c0 => ?_)
          · have hf := (if_pos c0).symm.trans hf
            have hf : (some i3_9 : Option (Int64)) = some o3_11 := hf
            cases hf
            exact K94 ls (lv_sub hl [0, 1] rfl)
          · have hf := (if_neg c0).symm.trans hf
            refine lv_aload_n hx hb dX12_digestForecasts_100 rfl (lv_at hl 0 rfl) ?_
            refine gf (C := RX12) (T := TX12) (N := 16) (ci := 8) (v := .ref a_t_s) hF hG hP inX12 0 rfl rfl 1 (by decide) q1021 rfl rfl dX12_digestForecasts_101 ?_
            refine lv_iconst (v := 0) hx hb dX12_digestForecasts_104 (by decide) ?_
            refine ald_i (k := 0) hF hG hP 1 rfl (by decide) (by decide) dX12_digestForecasts_105 ?_
            refine lv_iconst (v := 1) hx hb dX12_digestForecasts_106 (by decide) ?_
            refine lv_icmp_le (tgt := 130) hx hb dX12_digestForecasts_107 (by decide) (fun c0 => ?_) (fun c0 => ?_)
            · have hf := (if_pos c0).symm.trans hf
              have hf : (some i3_9 : Option (Int64)) = some o3_11 := hf
              cases hf
              exact K94 ls (lv_sub hl [0, 1] rfl)
            · have hf := (if_neg c0).symm.trans hf
              refine lv_ldc2 (v := 31) hx hb hown (hts _ (List.mem_cons_of_mem _ q1461)) dX12_digestForecasts_110 ?_
              refine lv_lload_n hx hb dX12_digestForecasts_113 rfl (lv_at hl 1 rfl) ?_
              refine lv_lmul hx hb dX12_digestForecasts_114 ?_
              refine lv_aload_n hx hb dX12_digestForecasts_115 rfl (lv_at hl 0 rfl) ?_
              refine lv_iload hx hb dX12_digestForecasts_116 (lv_at hl 2 rfl) ?_
              obtain ⟨r_12, hq, hf⟩ := bd1_some hf
              refine rdV (As := [.int i5_10]) (rest := [.long (31 * i3_9)]) hF hG hP hl.1 (c_X12_errorOf l G a_t t_thrown a_t_states t_stateMany a_t_snapshot t_hasSnapshot a_t_text t_length t_at t_isWell a_t_read t_readMany a_t_prices t_priceMany t_pieceMany t_coins a_t_s t_s i5_10 r_12 hq) k_X12_errorOf q1432 [0, 1] rfl ⟨0, 8, _, _, rfl, rfl, rfl⟩ rfl rfl (Nat.le_of_ble_eq_true rfl) ⟨(Nat.le_of_ble_eq_true rfl), (Nat.le_of_ble_eq_true rfl)⟩ ⟨(Nat.zero_le _), (Nat.zero_le _)⟩ dX12_digestForecasts_118 ?_
              refine lv_i2l (v := (Int32.toInt64 r_12)) hx hb dX12_digestForecasts_121 rfl ?_
              refine lv_ladd hx hb dX12_digestForecasts_122 ?_
              refine lv_lstore_n (lv' := [(3, .long ((31 * i3_9) + (Int32.toInt64 r_12))), (0, .ref a_t), (5, .int i5_10)]) hx hb dX12_digestForecasts_123 rfl hl (by decide) rfl (fun ls hl => ?_)
              refine lv_iinc (v := (i5_10 + 1)) (lv' := [(5, .int (i5_10 + 1)), (3, .long ((31 * i3_9) + (Int32.toInt64 r_12))), (0, .ref a_t)]) hx hb dX12_digestForecasts_124 hl (k := 2) rfl rfl (by decide) rfl (fun ls hl => ?_)
              refine lv_goto (tgt := 94) hx hb dX12_digestForecasts_127 (by decide) ?_
              exact ih ((31 * i3_9) + (Int32.toInt64 r_12)) (i5_10 + 1) hf ls (lv_sub hl [2, 1, 0] rfl)
      exact L94 1000 o3_7 0 hq ls (lv_sub hl [1, 2, 0] rfl)
    clear hf
    have L50 : ∀ (n : Nat) (i3_5 : Int64) (i5_6 : Int32), l_X12_digestForecasts_50 t_s n i3_5 i5_6 = some o3_7 → ∀ ls : Array Slot, lv_has ls 6 [(0, .ref a_t), (3, .long i3_5), (5, .int i5_6)] → W p l e RM_X12_digestForecasts s m [.ref a_t, .long x1].toArray below meth c s.heap [] 0 0 (MQ below (rdQ (some (.long rr))) [.ref a_t, .long x1].toArray s 0 0 (fun _ => False)) (F0 m 50 ls []) := by
      intro n
      induction n with
      | zero =>
        intro i3_5 i5_6 hf
        exact nomatch (show none = some o3_7 from hf)
      | succ n ih =>
        intro i3_5 i5_6 hf ls hl
        rw [l_X12_digestForecasts_50] at hf
        refine lv_iload hx hb dX12_digestForecasts_50 (lv_at hl 2 rfl) ?_
        refine lv_iconst (v := 4) hx hb dX12_digestForecasts_52 (by decide) ?_
        refine lv_icmp_ge (tgt := 91) hx hb dX12_digestForecasts_53 (by decide) (fun c0 => ?_) (fun c0 => ?_)
        · have hf := (if_pos c0).symm.trans hf
          have hf : (some i3_5 : Option (Int64)) = some o3_7 := hf
          cases hf
          exact K50 ls (lv_sub hl [0, 1] rfl)
        · have hf := (if_neg c0).symm.trans hf
          refine lv_aload_n hx hb dX12_digestForecasts_56 rfl (lv_at hl 0 rfl) ?_
          refine gf (C := RX12) (T := TX12) (N := 16) (ci := 8) (v := .ref a_t_s) hF hG hP inX12 0 rfl rfl 1 (by decide) q1021 rfl rfl dX12_digestForecasts_57 ?_
          refine lv_iconst (v := 0) hx hb dX12_digestForecasts_60 (by decide) ?_
          refine ald_i (k := 0) hF hG hP 1 rfl (by decide) (by decide) dX12_digestForecasts_61 ?_
          refine lv_if_le (tgt := 91) hx hb dX12_digestForecasts_62 (by decide) (fun c0 => ?_) (fun c0 => ?_)
          · have hf := (if_pos c0).symm.trans hf
            have hf : (some i3_5 : Option (Int64)) = some o3_7 := hf
            cases hf
            exact K50 ls (lv_sub hl [0, 1] rfl)
          · have hf := (if_neg c0).symm.trans hf
            refine lv_ldc2 (v := 31) hx hb hown (hts _ (List.mem_cons_of_mem _ q1461)) dX12_digestForecasts_65 ?_
            refine lv_lload_n hx hb dX12_digestForecasts_68 rfl (lv_at hl 1 rfl) ?_
            refine lv_lmul hx hb dX12_digestForecasts_69 ?_
            refine lv_aload_n hx hb dX12_digestForecasts_70 rfl (lv_at hl 0 rfl) ?_
            refine lv_iload hx hb dX12_digestForecasts_71 (lv_at hl 2 rfl) ?_
            refine lv_aload_n hx hb dX12_digestForecasts_73 rfl (lv_at hl 0 rfl) ?_
            refine gf (C := RX12) (T := TX12) (N := 16) (ci := 8) (v := .ref a_t_s) hF hG hP inX12 0 rfl rfl 1 (by decide) q1021 rfl rfl dX12_digestForecasts_74 ?_
            refine lv_iconst (v := 0) hx hb dX12_digestForecasts_77 (by decide) ?_
            refine ald_i (k := 0) hF hG hP 1 rfl (by decide) (by decide) dX12_digestForecasts_78 ?_
            obtain ⟨r_8, hq, hf⟩ := bd1_some hf
            refine rdV (As := [.int i5_6, .int (t_s 0)]) (rest := [.long (31 * i3_5)]) hF hG hP hl.1 (c_X12_told l G a_t t_thrown a_t_states t_stateMany a_t_snapshot t_hasSnapshot a_t_text t_length t_at t_isWell a_t_read t_readMany a_t_prices t_priceMany t_pieceMany t_coins a_t_s t_s i5_6 (t_s 0) r_8 hq) k_X12_told q1424 [0, 1] rfl ⟨0, 8, _, _, rfl, rfl, rfl⟩ rfl rfl (Nat.le_of_ble_eq_true rfl) ⟨(Nat.le_of_ble_eq_true rfl), (Nat.le_of_ble_eq_true rfl)⟩ ⟨(Nat.zero_le _), (Nat.zero_le _)⟩ dX12_digestForecasts_79 ?_
            refine lv_i2l (v := (Int32.toInt64 r_8)) hx hb dX12_digestForecasts_82 rfl ?_
            refine lv_ladd hx hb dX12_digestForecasts_83 ?_
            refine lv_lstore_n (lv' := [(3, .long ((31 * i3_5) + (Int32.toInt64 r_8))), (0, .ref a_t), (5, .int i5_6)]) hx hb dX12_digestForecasts_84 rfl hl (by decide) rfl (fun ls hl => ?_)
            refine lv_iinc (v := (i5_6 + 1)) (lv' := [(5, .int (i5_6 + 1)), (3, .long ((31 * i3_5) + (Int32.toInt64 r_8))), (0, .ref a_t)]) hx hb dX12_digestForecasts_85 hl (k := 2) rfl rfl (by decide) rfl (fun ls hl => ?_)
            refine lv_goto (tgt := 50) hx hb dX12_digestForecasts_88 (by decide) ?_
            exact ih ((31 * i3_5) + (Int32.toInt64 r_8)) (i5_6 + 1) hf ls (lv_sub hl [2, 1, 0] rfl)
    exact L50 1000 o3_3 0 hq ls (lv_sub hl [1, 2, 0] rfl)
  clear hf
  have L5 : ∀ (n : Nat) (i3_1 : Int64) (i5_2 : Int32), l_X12_digestForecasts_5 t_s n i3_1 i5_2 = some o3_3 → ∀ ls : Array Slot, lv_has ls 6 [(0, .ref a_t), (3, .long i3_1), (5, .int i5_2)] → W p l e RM_X12_digestForecasts s m [.ref a_t, .long x1].toArray below meth c s.heap [] 0 0 (MQ below (rdQ (some (.long rr))) [.ref a_t, .long x1].toArray s 0 0 (fun _ => False)) (F0 m 5 ls []) := by
    intro n
    induction n with
    | zero =>
      intro i3_1 i5_2 hf
      exact nomatch (show none = some o3_3 from hf)
    | succ n ih =>
      intro i3_1 i5_2 hf ls hl
      rw [l_X12_digestForecasts_5] at hf
      refine lv_iload hx hb dX12_digestForecasts_5 (lv_at hl 2 rfl) ?_
      refine lv_aload_n hx hb dX12_digestForecasts_7 rfl (lv_at hl 0 rfl) ?_
      refine gf (C := RX12) (T := TX12) (N := 16) (ci := 8) (v := .ref a_t_s) hF hG hP inX12 0 rfl rfl 1 (by decide) q1021 rfl rfl dX12_digestForecasts_8 ?_
      refine lv_iconst (v := 5) hx hb dX12_digestForecasts_11 (by decide) ?_
      refine ald_i (k := 5) hF hG hP 1 rfl (by decide) (by decide) dX12_digestForecasts_12 ?_
      refine lv_icmp_ge (tgt := 47) hx hb dX12_digestForecasts_13 (by decide) (fun c0 => ?_) (fun c0 => ?_)
      · have hf := (if_pos c0).symm.trans hf
        have hf : (some i3_1 : Option (Int64)) = some o3_3 := hf
        cases hf
        exact K5 ls (lv_sub hl [0, 1] rfl)
      · have hf := (if_neg c0).symm.trans hf
        refine lv_iload hx hb dX12_digestForecasts_16 (lv_at hl 2 rfl) ?_
        refine lv_aload_n hx hb dX12_digestForecasts_18 rfl (lv_at hl 0 rfl) ?_
        refine gf (C := RX12) (T := TX12) (N := 16) (ci := 8) (v := .ref a_t_s) hF hG hP inX12 0 rfl rfl 1 (by decide) q1021 rfl rfl dX12_digestForecasts_19 ?_
        refine lv_iconst (v := 0) hx hb dX12_digestForecasts_22 (by decide) ?_
        refine ald_i (k := 0) hF hG hP 1 rfl (by decide) (by decide) dX12_digestForecasts_23 ?_
        refine lv_icmp_ge (tgt := 47) hx hb dX12_digestForecasts_24 (by decide) (fun c0 => ?_) (fun c0 => ?_)
        · have hf := (if_pos c0).symm.trans hf
          have hf : (some i3_1 : Option (Int64)) = some o3_3 := hf
          cases hf
          exact K5 ls (lv_sub hl [0, 1] rfl)
        · have hf := (if_neg c0).symm.trans hf
          refine lv_ldc2 (v := 31) hx hb hown (hts _ (List.mem_cons_of_mem _ q1461)) dX12_digestForecasts_27 ?_
          refine lv_lload_n hx hb dX12_digestForecasts_30 rfl (lv_at hl 1 rfl) ?_
          refine lv_lmul hx hb dX12_digestForecasts_31 ?_
          refine lv_aload_n hx hb dX12_digestForecasts_32 rfl (lv_at hl 0 rfl) ?_
          refine lv_iload hx hb dX12_digestForecasts_33 (lv_at hl 2 rfl) ?_
          obtain ⟨r_4, hq, hf⟩ := bd1_some hf
          refine rdV (As := [.int i5_2]) (rest := [.long (31 * i3_1)]) hF hG hP hl.1 (c_X12_index l G a_t t_thrown a_t_states t_stateMany a_t_snapshot t_hasSnapshot a_t_text t_length t_at t_isWell a_t_read t_readMany a_t_prices t_priceMany t_pieceMany t_coins a_t_s t_s i5_2 r_4 hq) k_X12_index q1393 [0, 1] rfl ⟨0, 8, _, _, rfl, rfl, rfl⟩ rfl rfl (Nat.le_of_ble_eq_true rfl) ⟨(Nat.le_of_ble_eq_true rfl), (Nat.le_of_ble_eq_true rfl)⟩ ⟨(Nat.zero_le _), (Nat.zero_le _)⟩ dX12_digestForecasts_35 ?_
          refine lv_i2l (v := (Int32.toInt64 r_4)) hx hb dX12_digestForecasts_38 rfl ?_
          refine lv_ladd hx hb dX12_digestForecasts_39 ?_
          refine lv_lstore_n (lv' := [(3, .long ((31 * i3_1) + (Int32.toInt64 r_4))), (0, .ref a_t), (5, .int i5_2)]) hx hb dX12_digestForecasts_40 rfl hl (by decide) rfl (fun ls hl => ?_)
          refine lv_iinc (v := (i5_2 + 1)) (lv' := [(5, .int (i5_2 + 1)), (3, .long ((31 * i3_1) + (Int32.toInt64 r_4))), (0, .ref a_t)]) hx hb dX12_digestForecasts_41 hl (k := 2) rfl rfl (by decide) rfl (fun ls hl => ?_)
          refine lv_goto (tgt := 5) hx hb dX12_digestForecasts_44 (by decide) ?_
          exact ih ((31 * i3_1) + (Int32.toInt64 r_4)) (i5_2 + 1) hf ls (lv_sub hl [2, 1, 0] rfl)
  exact L5 1000 x1 0 hq ls (lv_sub hl [2, 1, 0] rfl)
