def f_X12_hasStopped (t_thrown : Int32) (t_s : Nat → Int32) : Option (Int32 × Int32) := (if (t_s 6) = (-1) then some (0, 0) else some (1, 0))
theorem k_X12_hasStopped : KV yX12_hasStopped cX12_hasStopped 1 (some .boolean) 0 := ⟨qc_yX12_hasStopped, q9, ⟨by decide +kernel, by decide +kernel, by decide +kernel⟩, qi_yX12_hasStopped, qs_yX12_hasStopped⟩
abbrev RM_X12_hasStopped : Room := { frames := 0, cells := 0, slots := 0, locals := 0 }
set_option maxHeartbeats 4000000 in
set_option maxRecDepth 100000 in
theorem c_X12_hasStopped (l : Launch) (G : GP) (a_t : Nat) (t_thrown : Int32) (a_t_states : Nat) (t_stateMany : Int32) (a_t_snapshot : Nat) (t_hasSnapshot : Int32) (a_t_text : Nat) (t_length : Int32) (t_at : Int32) (t_isWell : Int32) (a_t_read : Nat) (t_readMany : Int32) (a_t_prices : Nat) (t_priceMany : Int32) (t_pieceMany : Int32) (t_coins : Int64) (a_t_s : Nat) (t_s : Nat → Int32) (rr : Int32) (w_t_thrown : Int32) (hf : f_X12_hasStopped t_thrown t_s = some (rr, w_t_thrown)) : WM l yX12_hasStopped cX12_hasStopped 1 (some .boolean) 0 0 G [.ref a_t] [(a_t, .inr (8, [.int t_thrown, .ref a_t_s, .ref a_t_states, .int t_stateMany, .ref a_t_snapshot, .int t_hasSnapshot, .ref a_t_text, .int t_length, .int t_at, .int t_isWell, .ref a_t_read, .int t_readMany, .ref a_t_prices, .int t_priceMany, .int t_pieceMany, .long t_coins])), (a_t_s, .inl (G.2.1, 68, .inl t_s))] (some (.int rr)) [(a_t, .inr (8, [.int w_t_thrown, .ref a_t_s, .ref a_t_states, .int t_stateMany, .ref a_t_snapshot, .int t_hasSnapshot, .ref a_t_text, .int t_length, .int t_at, .int t_isWell, .ref a_t_read, .int t_readMany, .ref a_t_prices, .int t_priceMany, .int t_pieceMany, .long t_coins])), (a_t_s, .inl (G.2.1, 68, .inl t_s))] := by
  refine WM.ofW (C := RX12) (by decide) rfl (Nat.le_of_ble_eq_true rfl) ?_
  intro p e s m below meth c A hF hr hlk hG hA hP hD ls hl
  have hl : lv_has ls 1 [(0, .ref a_t)] := hl
  have hx := hF.1
  have hb := hF.2.1
  have hml := hF.2.2.1
  have hown := hF.2.2.2.1
  have hts := hF.2.2.2.2
  have hS : va_S A s.heap s.heap [] := va_S.rf
  unfold f_X12_hasStopped at hf
  refine lv_aload_n hx hb dX12_hasStopped_0 rfl (lv_at hl 0 rfl) ?_
  refine lv_iconst (v := 0) hx hb dX12_hasStopped_1 (by decide) ?_
  refine pf (C := RX12) (T := TX12) (N := 16) (ci := 8) (v := .int 0) (ty := .int) hF hG hP hD hS inX12 tyX12 tyX12_ok nmX12 0 rfl rfl 0 (by decide) q1020 rfl rfl (by decide +kernel) rfl rfl (Nat.le_of_ble_eq_true rfl) dX12_hasStopped_2 (fun H locs hP hD hS => ?_)
  replace hP : va_P G.1 vwCl [(a_t, .inr (8, [.int 0, .ref a_t_s, .ref a_t_states, .int t_stateMany, .ref a_t_snapshot, .int t_hasSnapshot, .ref a_t_text, .int t_length, .int t_at, .int t_isWell, .ref a_t_read, .int t_readMany, .ref a_t_prices, .int t_priceMany, .int t_pieceMany, .long t_coins])), (a_t_s, .inl (G.2.1, 68, .inl t_s))] H := hP
  replace hD : va_D A [(a_t, .inr (8, [.int 0, .ref a_t_s, .ref a_t_states, .int t_stateMany, .ref a_t_snapshot, .int t_hasSnapshot, .ref a_t_text, .int t_length, .int t_at, .int t_isWell, .ref a_t_read, .int t_readMany, .ref a_t_prices, .int t_priceMany, .int t_pieceMany, .long t_coins])), (a_t_s, .inl (G.2.1, 68, .inl t_s))] := hD
  refine lv_aload_n hx hb dX12_hasStopped_5 rfl (lv_at hl 0 rfl) ?_
  refine gf (C := RX12) (T := TX12) (N := 16) (ci := 8) (v := .ref a_t_s) hF hG hP inX12 0 rfl rfl 1 (by decide) q1021 rfl rfl dX12_hasStopped_6 ?_
  refine lv_bipush (v := 6) hx hb dX12_hasStopped_9 (by decide) ?_
  refine ald_i (k := 6) hF hG hP 1 rfl (by decide) (by decide) dX12_hasStopped_11 ?_
  refine lv_iconst (v := (-1)) hx hb dX12_hasStopped_12 (by decide) ?_
  refine lv_icmp_eq (tgt := 20) hx hb dX12_hasStopped_13 (by decide) (fun c0 => ?_) (fun c0 => ?_)
  · have hf := (if_pos c0).symm.trans hf
    refine lv_iconst (v := 0) hx hb dX12_hasStopped_20 (by decide) ?_
    have hf : (some (0, 0) : Option (Int32 × Int32)) = some (rr, w_t_thrown) := hf
    cases hf
    exact we_z hF hr hlk hP hD hS dX12_hasStopped_21 rfl rfl
  · have hf := (if_neg c0).symm.trans hf
    refine lv_iconst (v := 1) hx hb dX12_hasStopped_16 (by decide) ?_
    refine lv_goto (tgt := 21) hx hb dX12_hasStopped_17 (by decide) ?_
    have hf : (some (1, 0) : Option (Int32 × Int32)) = some (rr, w_t_thrown) := hf
    cases hf
    exact we_z hF hr hlk hP hD hS dX12_hasStopped_21 rfl rfl
def f_X12_stoppedPart (t_thrown : Int32) (t_s : Nat → Int32) : Option (Int32 × Int32) := (if (t_s 6) = (-1) then bd2 (f_X12_fails 0 1) (fun (r_1 : Int32) (t_thrown_2 : Int32) => some (r_1, t_thrown_2)) else some ((t_s 6), 0))
theorem k_X12_stoppedPart : KV yX12_stoppedPart cX12_stoppedPart 1 (some .int) 0 := ⟨qc_yX12_stoppedPart, q9, ⟨by decide +kernel, by decide +kernel, by decide +kernel⟩, qi_yX12_stoppedPart, qs_yX12_stoppedPart⟩
abbrev RM_X12_stoppedPart : Room := { frames := 1, cells := 0, slots := 0, locals := 21 }
set_option maxHeartbeats 4000000 in
set_option maxRecDepth 100000 in
theorem c_X12_stoppedPart (l : Launch) (G : GP) (a_t : Nat) (t_thrown : Int32) (a_t_states : Nat) (t_stateMany : Int32) (a_t_snapshot : Nat) (t_hasSnapshot : Int32) (a_t_text : Nat) (t_length : Int32) (t_at : Int32) (t_isWell : Int32) (a_t_read : Nat) (t_readMany : Int32) (a_t_prices : Nat) (t_priceMany : Int32) (t_pieceMany : Int32) (t_coins : Int64) (a_t_s : Nat) (t_s : Nat → Int32) (rr : Int32) (w_t_thrown : Int32) (hf : f_X12_stoppedPart t_thrown t_s = some (rr, w_t_thrown)) : WM l yX12_stoppedPart cX12_stoppedPart 1 (some .int) 1 21 G [.ref a_t] [(a_t, .inr (8, [.int t_thrown, .ref a_t_s, .ref a_t_states, .int t_stateMany, .ref a_t_snapshot, .int t_hasSnapshot, .ref a_t_text, .int t_length, .int t_at, .int t_isWell, .ref a_t_read, .int t_readMany, .ref a_t_prices, .int t_priceMany, .int t_pieceMany, .long t_coins])), (a_t_s, .inl (G.2.1, 68, .inl t_s))] (some (.int rr)) [(a_t, .inr (8, [.int w_t_thrown, .ref a_t_s, .ref a_t_states, .int t_stateMany, .ref a_t_snapshot, .int t_hasSnapshot, .ref a_t_text, .int t_length, .int t_at, .int t_isWell, .ref a_t_read, .int t_readMany, .ref a_t_prices, .int t_priceMany, .int t_pieceMany, .long t_coins])), (a_t_s, .inl (G.2.1, 68, .inl t_s))] := by
  refine WM.ofW (C := RX12) (by decide) rfl (Nat.le_of_ble_eq_true rfl) ?_
  intro p e s m below meth c A hF hr hlk hG hA hP hD ls hl
  have hl : lv_has ls 1 [(0, .ref a_t)] := hl
  have hx := hF.1
  have hb := hF.2.1
  have hml := hF.2.2.1
  have hown := hF.2.2.2.1
  have hts := hF.2.2.2.2
  have hS : va_S A s.heap s.heap [] := va_S.rf
  unfold f_X12_stoppedPart at hf
  refine lv_aload_n hx hb dX12_stoppedPart_0 rfl (lv_at hl 0 rfl) ?_
  refine lv_iconst (v := 0) hx hb dX12_stoppedPart_1 (by decide) ?_
  refine pf (C := RX12) (T := TX12) (N := 16) (ci := 8) (v := .int 0) (ty := .int) hF hG hP hD hS inX12 tyX12 tyX12_ok nmX12 0 rfl rfl 0 (by decide) q1020 rfl rfl (by decide +kernel) rfl rfl (Nat.le_of_ble_eq_true rfl) dX12_stoppedPart_2 (fun H locs hP hD hS => ?_)
  replace hP : va_P G.1 vwCl [(a_t, .inr (8, [.int 0, .ref a_t_s, .ref a_t_states, .int t_stateMany, .ref a_t_snapshot, .int t_hasSnapshot, .ref a_t_text, .int t_length, .int t_at, .int t_isWell, .ref a_t_read, .int t_readMany, .ref a_t_prices, .int t_priceMany, .int t_pieceMany, .long t_coins])), (a_t_s, .inl (G.2.1, 68, .inl t_s))] H := hP
  replace hD : va_D A [(a_t, .inr (8, [.int 0, .ref a_t_s, .ref a_t_states, .int t_stateMany, .ref a_t_snapshot, .int t_hasSnapshot, .ref a_t_text, .int t_length, .int t_at, .int t_isWell, .ref a_t_read, .int t_readMany, .ref a_t_prices, .int t_priceMany, .int t_pieceMany, .long t_coins])), (a_t_s, .inl (G.2.1, 68, .inl t_s))] := hD
  refine lv_aload_n hx hb dX12_stoppedPart_5 rfl (lv_at hl 0 rfl) ?_
  refine gf (C := RX12) (T := TX12) (N := 16) (ci := 8) (v := .ref a_t_s) hF hG hP inX12 0 rfl rfl 1 (by decide) q1021 rfl rfl dX12_stoppedPart_6 ?_
  refine lv_bipush (v := 6) hx hb dX12_stoppedPart_9 (by decide) ?_
  refine ald_i (k := 6) hF hG hP 1 rfl (by decide) (by decide) dX12_stoppedPart_11 ?_
  refine lv_iconst (v := (-1)) hx hb dX12_stoppedPart_12 (by decide) ?_
  refine lv_icmp_ne (tgt := 24) hx hb dX12_stoppedPart_13 (by decide) (fun c0 => ?_) (fun c0 => ?_)
  · have hf := (if_neg c0).symm.trans hf
    refine lv_aload_n hx hb dX12_stoppedPart_24 rfl (lv_at hl 0 rfl) ?_
    refine gf (C := RX12) (T := TX12) (N := 16) (ci := 8) (v := .ref a_t_s) hF hG hP inX12 0 rfl rfl 1 (by decide) q1021 rfl rfl dX12_stoppedPart_25 ?_
    refine lv_bipush (v := 6) hx hb dX12_stoppedPart_28 (by decide) ?_
    refine ald_i (k := 6) hF hG hP 1 rfl (by decide) (by decide) dX12_stoppedPart_30 ?_
    have hf : (some ((t_s 6), 0) : Option (Int32 × Int32)) = some (rr, w_t_thrown) := hf
    cases hf
    exact we_i hF hr hlk hP hD hS dX12_stoppedPart_31 rfl
  · have hf := (if_pos c0).symm.trans hf
    refine lv_aload_n hx hb dX12_stoppedPart_16 rfl (lv_at hl 0 rfl) ?_
    refine lv_iconst (v := 1) hx hb dX12_stoppedPart_17 (by decide) ?_
    obtain ⟨r_1, t_thrown_2, hq, hf⟩ := bd2_some hf
    refine wrV (As := [.int 1]) (rest := []) (wn := [(a_t, .inr (8, [.int t_thrown_2, .ref a_t_s, .ref a_t_states, .int t_stateMany, .ref a_t_snapshot, .int t_hasSnapshot, .ref a_t_text, .int t_length, .int t_at, .int t_isWell, .ref a_t_read, .int t_readMany, .ref a_t_prices, .int t_priceMany, .int t_pieceMany, .long t_coins])), (a_t_s, .inl (G.2.1, 68, .inl t_s))]) hF hG hP hD hS hA hl.1 (c_X12_fails l G a_t 0 a_t_s a_t_states t_stateMany a_t_snapshot t_hasSnapshot a_t_text t_length t_at t_isWell a_t_read t_readMany a_t_prices t_priceMany t_pieceMany t_coins 1 r_1 t_thrown_2 hq) k_X12_fails q1083 [0] [1] [1, 0] rfl rfl rfl rfl ⟨rfl, rfl⟩ (by decide) ⟨0, 8, _, _, rfl, rfl, rfl⟩ rfl rfl (Nat.le_of_ble_eq_true rfl) ⟨(Nat.le_of_ble_eq_true rfl), (Nat.le_of_ble_eq_true rfl)⟩ ⟨(Nat.le_of_ble_eq_true rfl), (Nat.le_of_ble_eq_true rfl)⟩ dX12_stoppedPart_18 (fun H locs hP hD hS => ?_)
    refine lv_goto (tgt := 31) hx hb dX12_stoppedPart_21 (by decide) ?_
    have hf : (some (r_1, t_thrown_2) : Option (Int32 × Int32)) = some (rr, w_t_thrown) := hf
    cases hf
    exact we_i hF hr hlk hP hD hS dX12_stoppedPart_31 rfl
def f_X12_whyStopped (t_thrown : Int32) (t_s : Nat → Int32) : Option (Int32 × Int32) := (if (t_s 6) = (-1) then bd2 (f_X12_fails 0 1) (fun (r_1 : Int32) (t_thrown_2 : Int32) => some (r_1, t_thrown_2)) else some ((t_s 7), 0))
theorem k_X12_whyStopped : KV yX12_whyStopped cX12_whyStopped 1 (some .int) 0 := ⟨qc_yX12_whyStopped, q9, ⟨by decide +kernel, by decide +kernel, by decide +kernel⟩, qi_yX12_whyStopped, qs_yX12_whyStopped⟩
abbrev RM_X12_whyStopped : Room := { frames := 1, cells := 0, slots := 0, locals := 21 }
set_option maxHeartbeats 4000000 in
set_option maxRecDepth 100000 in
theorem c_X12_whyStopped (l : Launch) (G : GP) (a_t : Nat) (t_thrown : Int32) (a_t_states : Nat) (t_stateMany : Int32) (a_t_snapshot : Nat) (t_hasSnapshot : Int32) (a_t_text : Nat) (t_length : Int32) (t_at : Int32) (t_isWell : Int32) (a_t_read : Nat) (t_readMany : Int32) (a_t_prices : Nat) (t_priceMany : Int32) (t_pieceMany : Int32) (t_coins : Int64) (a_t_s : Nat) (t_s : Nat → Int32) (rr : Int32) (w_t_thrown : Int32) (hf : f_X12_whyStopped t_thrown t_s = some (rr, w_t_thrown)) : WM l yX12_whyStopped cX12_whyStopped 1 (some .int) 1 21 G [.ref a_t] [(a_t, .inr (8, [.int t_thrown, .ref a_t_s, .ref a_t_states, .int t_stateMany, .ref a_t_snapshot, .int t_hasSnapshot, .ref a_t_text, .int t_length, .int t_at, .int t_isWell, .ref a_t_read, .int t_readMany, .ref a_t_prices, .int t_priceMany, .int t_pieceMany, .long t_coins])), (a_t_s, .inl (G.2.1, 68, .inl t_s))] (some (.int rr)) [(a_t, .inr (8, [.int w_t_thrown, .ref a_t_s, .ref a_t_states, .int t_stateMany, .ref a_t_snapshot, .int t_hasSnapshot, .ref a_t_text, .int t_length, .int t_at, .int t_isWell, .ref a_t_read, .int t_readMany, .ref a_t_prices, .int t_priceMany, .int t_pieceMany, .long t_coins])), (a_t_s, .inl (G.2.1, 68, .inl t_s))] := by
  refine WM.ofW (C := RX12) (by decide) rfl (Nat.le_of_ble_eq_true rfl) ?_
  intro p e s m below meth c A hF hr hlk hG hA hP hD ls hl
  have hl : lv_has ls 1 [(0, .ref a_t)] := hl
  have hx := hF.1
  have hb := hF.2.1
  have hml := hF.2.2.1
  have hown := hF.2.2.2.1
  have hts := hF.2.2.2.2
  have hS : va_S A s.heap s.heap [] := va_S.rf
  unfold f_X12_whyStopped at hf
  refine lv_aload_n hx hb dX12_whyStopped_0 rfl (lv_at hl 0 rfl) ?_
  refine lv_iconst (v := 0) hx hb dX12_whyStopped_1 (by decide) ?_
  refine pf (C := RX12) (T := TX12) (N := 16) (ci := 8) (v := .int 0) (ty := .int) hF hG hP hD hS inX12 tyX12 tyX12_ok nmX12 0 rfl rfl 0 (by decide) q1020 rfl rfl (by decide +kernel) rfl rfl (Nat.le_of_ble_eq_true rfl) dX12_whyStopped_2 (fun H locs hP hD hS => ?_)
  replace hP : va_P G.1 vwCl [(a_t, .inr (8, [.int 0, .ref a_t_s, .ref a_t_states, .int t_stateMany, .ref a_t_snapshot, .int t_hasSnapshot, .ref a_t_text, .int t_length, .int t_at, .int t_isWell, .ref a_t_read, .int t_readMany, .ref a_t_prices, .int t_priceMany, .int t_pieceMany, .long t_coins])), (a_t_s, .inl (G.2.1, 68, .inl t_s))] H := hP
  replace hD : va_D A [(a_t, .inr (8, [.int 0, .ref a_t_s, .ref a_t_states, .int t_stateMany, .ref a_t_snapshot, .int t_hasSnapshot, .ref a_t_text, .int t_length, .int t_at, .int t_isWell, .ref a_t_read, .int t_readMany, .ref a_t_prices, .int t_priceMany, .int t_pieceMany, .long t_coins])), (a_t_s, .inl (G.2.1, 68, .inl t_s))] := hD
  refine lv_aload_n hx hb dX12_whyStopped_5 rfl (lv_at hl 0 rfl) ?_
  refine gf (C := RX12) (T := TX12) (N := 16) (ci := 8) (v := .ref a_t_s) hF hG hP inX12 0 rfl rfl 1 (by decide) q1021 rfl rfl dX12_whyStopped_6 ?_
  refine lv_bipush (v := 6) hx hb dX12_whyStopped_9 (by decide) ?_
  refine ald_i (k := 6) hF hG hP 1 rfl (by decide) (by decide) dX12_whyStopped_11 ?_
  refine lv_iconst (v := (-1)) hx hb dX12_whyStopped_12 (by decide) ?_
  refine lv_icmp_ne (tgt := 24) hx hb dX12_whyStopped_13 (by decide) (fun c0 => ?_) (fun c0 => ?_)
  · have hf := (if_neg c0).symm.trans hf
    refine lv_aload_n hx hb dX12_whyStopped_24 rfl (lv_at hl 0 rfl) ?_
    refine gf (C := RX12) (T := TX12) (N := 16) (ci := 8) (v := .ref a_t_s) hF hG hP inX12 0 rfl rfl 1 (by decide) q1021 rfl rfl dX12_whyStopped_25 ?_
    refine lv_bipush (v := 7) hx hb dX12_whyStopped_28 (by decide) ?_
    refine ald_i (k := 7) hF hG hP 1 rfl (by decide) (by decide) dX12_whyStopped_30 ?_
    have hf : (some ((t_s 7), 0) : Option (Int32 × Int32)) = some (rr, w_t_thrown) := hf
    cases hf
    exact we_i hF hr hlk hP hD hS dX12_whyStopped_31 rfl
  · have hf := (if_pos c0).symm.trans hf
    refine lv_aload_n hx hb dX12_whyStopped_16 rfl (lv_at hl 0 rfl) ?_
    refine lv_iconst (v := 1) hx hb dX12_whyStopped_17 (by decide) ?_
    obtain ⟨r_1, t_thrown_2, hq, hf⟩ := bd2_some hf
    refine wrV (As := [.int 1]) (rest := []) (wn := [(a_t, .inr (8, [.int t_thrown_2, .ref a_t_s, .ref a_t_states, .int t_stateMany, .ref a_t_snapshot, .int t_hasSnapshot, .ref a_t_text, .int t_length, .int t_at, .int t_isWell, .ref a_t_read, .int t_readMany, .ref a_t_prices, .int t_priceMany, .int t_pieceMany, .long t_coins])), (a_t_s, .inl (G.2.1, 68, .inl t_s))]) hF hG hP hD hS hA hl.1 (c_X12_fails l G a_t 0 a_t_s a_t_states t_stateMany a_t_snapshot t_hasSnapshot a_t_text t_length t_at t_isWell a_t_read t_readMany a_t_prices t_priceMany t_pieceMany t_coins 1 r_1 t_thrown_2 hq) k_X12_fails q1083 [0] [1] [1, 0] rfl rfl rfl rfl ⟨rfl, rfl⟩ (by decide) ⟨0, 8, _, _, rfl, rfl, rfl⟩ rfl rfl (Nat.le_of_ble_eq_true rfl) ⟨(Nat.le_of_ble_eq_true rfl), (Nat.le_of_ble_eq_true rfl)⟩ ⟨(Nat.le_of_ble_eq_true rfl), (Nat.le_of_ble_eq_true rfl)⟩ dX12_whyStopped_18 (fun H locs hP hD hS => ?_)
    refine lv_goto (tgt := 31) hx hb dX12_whyStopped_21 (by decide) ?_
    have hf : (some (r_1, t_thrown_2) : Option (Int32 × Int32)) = some (rr, w_t_thrown) := hf
    cases hf
    exact we_i hF hr hlk hP hD hS dX12_whyStopped_31 rfl
def l_X12_undo_30 (t_stateMany : Int32) (t_states : Nat → Int32) : Nat → Int32 → (Nat → Int32) → Option ((Nat → Int32))
  | 0, _, _ => none
  | n + 1, i1_1, t_s_2 => (if 68 ≤ i1_1 then some t_s_2 else gd (¬ (((68 * (t_stateMany - 1)) + i1_1) < 0 ∨ 408 ≤ Int32.toNatClampNeg ((68 * (t_stateMany - 1)) + i1_1))) (gd (¬ (i1_1 < 0 ∨ 68 ≤ Int32.toNatClampNeg i1_1)) (l_X12_undo_30 t_stateMany t_states n (i1_1 + 1) (upd t_s_2 (Int32.toNatClampNeg i1_1) (t_states (Int32.toNatClampNeg ((68 * (t_stateMany - 1)) + i1_1)))))))
def f_X12_undo (t_thrown : Int32) (t_stateMany : Int32) (t_s : Nat → Int32) (t_states : Nat → Int32) : Option (Int32 × Int32 × Int32 × (Nat → Int32)) := (if t_stateMany = 0 then bd2 (f_X12_fails 0 1) (fun (r_4 : Int32) (t_thrown_5 : Int32) => some (r_4, t_thrown_5, t_stateMany, t_s)) else bd1 (l_X12_undo_30 t_stateMany t_states 1000 0 t_s) (fun (t_s_3 : Nat → Int32) => some ((t_stateMany - 1), 0, (t_stateMany - 1), t_s_3)))
theorem k_X12_undo : KV yX12_undo cX12_undo 2 (some .int) 0 := ⟨qc_yX12_undo, q9, ⟨by decide +kernel, by decide +kernel, by decide +kernel⟩, qi_yX12_undo, qs_yX12_undo⟩
abbrev RM_X12_undo : Room := { frames := 1, cells := 0, slots := 0, locals := 21 }
set_option maxHeartbeats 4000000 in
set_option maxRecDepth 100000 in
theorem c_X12_undo (l : Launch) (G : GP) (a_t : Nat) (t_thrown : Int32) (t_stateMany : Int32) (a_t_snapshot : Nat) (t_hasSnapshot : Int32) (a_t_text : Nat) (t_length : Int32) (t_at : Int32) (t_isWell : Int32) (a_t_read : Nat) (t_readMany : Int32) (a_t_prices : Nat) (t_priceMany : Int32) (t_pieceMany : Int32) (t_coins : Int64) (a_t_s : Nat) (t_s : Nat → Int32) (a_t_states : Nat) (t_states : Nat → Int32) (rr : Int32) (w_t_thrown : Int32) (w_t_stateMany : Int32) (w_t_s : Nat → Int32) (hf : f_X12_undo t_thrown t_stateMany t_s t_states = some (rr, w_t_thrown, w_t_stateMany, w_t_s)) : WM l yX12_undo cX12_undo 2 (some .int) 1 21 G [.ref a_t] [(a_t, .inr (8, [.int t_thrown, .ref a_t_s, .ref a_t_states, .int t_stateMany, .ref a_t_snapshot, .int t_hasSnapshot, .ref a_t_text, .int t_length, .int t_at, .int t_isWell, .ref a_t_read, .int t_readMany, .ref a_t_prices, .int t_priceMany, .int t_pieceMany, .long t_coins])), (a_t_s, .inl (G.2.1, 68, .inl t_s)), (a_t_states, .inl (G.2.1, 408, .inl t_states))] (some (.int rr)) [(a_t, .inr (8, [.int w_t_thrown, .ref a_t_s, .ref a_t_states, .int w_t_stateMany, .ref a_t_snapshot, .int t_hasSnapshot, .ref a_t_text, .int t_length, .int t_at, .int t_isWell, .ref a_t_read, .int t_readMany, .ref a_t_prices, .int t_priceMany, .int t_pieceMany, .long t_coins])), (a_t_s, .inl (G.2.1, 68, .inl w_t_s)), (a_t_states, .inl (G.2.1, 408, .inl t_states))] := by
  refine WM.ofW (C := RX12) (by decide) rfl (Nat.le_of_ble_eq_true rfl) ?_
  intro p e s m below meth c A hF hr hlk hG hA hP hD ls hl
  have hl : lv_has ls 2 [(0, .ref a_t)] := hl
  have hx := hF.1
  have hb := hF.2.1
  have hml := hF.2.2.1
  have hown := hF.2.2.2.1
  have hts := hF.2.2.2.2
  have hS : va_S A s.heap s.heap [] := va_S.rf
  unfold f_X12_undo at hf
  refine lv_aload_n hx hb dX12_undo_0 rfl (lv_at hl 0 rfl) ?_
  refine lv_iconst (v := 0) hx hb dX12_undo_1 (by decide) ?_
  refine pf (C := RX12) (T := TX12) (N := 16) (ci := 8) (v := .int 0) (ty := .int) hF hG hP hD hS inX12 tyX12 tyX12_ok nmX12 0 rfl rfl 0 (by decide) q1020 rfl rfl (by decide +kernel) rfl rfl (Nat.le_of_ble_eq_true rfl) dX12_undo_2 (fun H locs hP hD hS => ?_)
  replace hP : va_P G.1 vwCl [(a_t, .inr (8, [.int 0, .ref a_t_s, .ref a_t_states, .int t_stateMany, .ref a_t_snapshot, .int t_hasSnapshot, .ref a_t_text, .int t_length, .int t_at, .int t_isWell, .ref a_t_read, .int t_readMany, .ref a_t_prices, .int t_priceMany, .int t_pieceMany, .long t_coins])), (a_t_s, .inl (G.2.1, 68, .inl t_s)), (a_t_states, .inl (G.2.1, 408, .inl t_states))] H := hP
  replace hD : va_D A [(a_t, .inr (8, [.int 0, .ref a_t_s, .ref a_t_states, .int t_stateMany, .ref a_t_snapshot, .int t_hasSnapshot, .ref a_t_text, .int t_length, .int t_at, .int t_isWell, .ref a_t_read, .int t_readMany, .ref a_t_prices, .int t_priceMany, .int t_pieceMany, .long t_coins])), (a_t_s, .inl (G.2.1, 68, .inl t_s)), (a_t_states, .inl (G.2.1, 408, .inl t_states))] := hD
  refine lv_aload_n hx hb dX12_undo_5 rfl (lv_at hl 0 rfl) ?_
  refine gf (C := RX12) (T := TX12) (N := 16) (ci := 8) (v := .int t_stateMany) hF hG hP inX12 0 rfl rfl 3 (by decide) q1023 rfl rfl dX12_undo_6 ?_
  refine lv_if_ne (tgt := 18) hx hb dX12_undo_9 (by decide) (fun c0 => ?_) (fun c0 => ?_)
  · have hf := (if_neg c0).symm.trans hf
    refine lv_aload_n hx hb dX12_undo_18 rfl (lv_at hl 0 rfl) ?_
    refine lv_dup hx hb dX12_undo_19 rfl ?_
    refine gf (C := RX12) (T := TX12) (N := 16) (ci := 8) (v := .int t_stateMany) hF hG hP inX12 0 rfl rfl 3 (by decide) q1023 rfl rfl dX12_undo_20 ?_
    refine lv_iconst (v := 1) hx hb dX12_undo_23 (by decide) ?_
    refine lv_isub hx hb dX12_undo_24 ?_
    refine pf (C := RX12) (T := TX12) (N := 16) (ci := 8) (v := .int (t_stateMany - 1)) (ty := .int) hF hG hP hD hS inX12 tyX12 tyX12_ok nmX12 0 rfl rfl 3 (by decide) q1023 rfl rfl (by decide +kernel) rfl rfl (Nat.le_of_ble_eq_true rfl) dX12_undo_25 (fun H locs hP hD hS => ?_)
    replace hP : va_P G.1 vwCl [(a_t, .inr (8, [.int 0, .ref a_t_s, .ref a_t_states, .int (t_stateMany - 1), .ref a_t_snapshot, .int t_hasSnapshot, .ref a_t_text, .int t_length, .int t_at, .int t_isWell, .ref a_t_read, .int t_readMany, .ref a_t_prices, .int t_priceMany, .int t_pieceMany, .long t_coins])), (a_t_s, .inl (G.2.1, 68, .inl t_s)), (a_t_states, .inl (G.2.1, 408, .inl t_states))] H := hP
    replace hD : va_D A [(a_t, .inr (8, [.int 0, .ref a_t_s, .ref a_t_states, .int (t_stateMany - 1), .ref a_t_snapshot, .int t_hasSnapshot, .ref a_t_text, .int t_length, .int t_at, .int t_isWell, .ref a_t_read, .int t_readMany, .ref a_t_prices, .int t_priceMany, .int t_pieceMany, .long t_coins])), (a_t_s, .inl (G.2.1, 68, .inl t_s)), (a_t_states, .inl (G.2.1, 408, .inl t_states))] := hD
    refine lv_iconst (v := 0) hx hb dX12_undo_28 (by decide) ?_
    refine lv_istore_n (lv' := [(1, .int 0), (0, .ref a_t)]) hx hb dX12_undo_29 rfl hl (by decide) rfl (fun ls hl => ?_)
    obtain ⟨t_s_3, hq, hf⟩ := bd1_some hf
    have K30 : ∀ (H : Heap) (locs : List Loc), va_P G.1 vwCl ([(a_t, .inr (8, [.int 0, .ref a_t_s, .ref a_t_states, .int (t_stateMany - 1), .ref a_t_snapshot, .int t_hasSnapshot, .ref a_t_text, .int t_length, .int t_at, .int t_isWell, .ref a_t_read, .int t_readMany, .ref a_t_prices, .int t_priceMany, .int t_pieceMany, .long t_coins])), (a_t_s, .inl (G.2.1, 68, .inl t_s_3)), (a_t_states, .inl (G.2.1, 408, .inl t_states))] : va_W) H → va_D A ([(a_t, .inr (8, [.int 0, .ref a_t_s, .ref a_t_states, .int (t_stateMany - 1), .ref a_t_snapshot, .int t_hasSnapshot, .ref a_t_text, .int t_length, .int t_at, .int t_isWell, .ref a_t_read, .int t_readMany, .ref a_t_prices, .int t_priceMany, .int t_pieceMany, .long t_coins])), (a_t_s, .inl (G.2.1, 68, .inl t_s_3)), (a_t_states, .inl (G.2.1, 408, .inl t_states))] : va_W) → va_S A s.heap H locs → ∀ ls : Array Slot, lv_has ls 2 [(0, .ref a_t)] → W p l e RM_X12_undo s m [.ref a_t].toArray below meth c H locs 0 0 (MQ below (wrQ (some (.int rr)) G [(a_t, .inr (8, [.int w_t_thrown, .ref a_t_s, .ref a_t_states, .int w_t_stateMany, .ref a_t_snapshot, .int t_hasSnapshot, .ref a_t_text, .int t_length, .int t_at, .int t_isWell, .ref a_t_read, .int t_readMany, .ref a_t_prices, .int t_priceMany, .int t_pieceMany, .long t_coins])), (a_t_s, .inl (G.2.1, 68, .inl w_t_s)), (a_t_states, .inl (G.2.1, 408, .inl t_states))] A) [.ref a_t].toArray s 0 0 A) (F0 m 62 ls []) := by
      intro H locs hP hD hS ls hl
      refine lv_aload_n hx hb dX12_undo_62 rfl (lv_at hl 0 rfl) ?_
      refine gf (C := RX12) (T := TX12) (N := 16) (ci := 8) (v := .int (t_stateMany - 1)) hF hG hP inX12 0 rfl rfl 3 (by decide) q1023 rfl rfl dX12_undo_63 ?_
      have hf : (some ((t_stateMany - 1), 0, (t_stateMany - 1), t_s_3) : Option (Int32 × Int32 × Int32 × (Nat → Int32))) = some (rr, w_t_thrown, w_t_stateMany, w_t_s) := hf
      cases hf
      exact we_i hF hr hlk hP hD hS dX12_undo_66 rfl
    clear hf
    have L30 : ∀ (n : Nat) (i1_1 : Int32) (t_s_2 : Nat → Int32), l_X12_undo_30 t_stateMany t_states n i1_1 t_s_2 = some t_s_3 → ∀ (H : Heap) (locs : List Loc), va_P G.1 vwCl ([(a_t, .inr (8, [.int 0, .ref a_t_s, .ref a_t_states, .int (t_stateMany - 1), .ref a_t_snapshot, .int t_hasSnapshot, .ref a_t_text, .int t_length, .int t_at, .int t_isWell, .ref a_t_read, .int t_readMany, .ref a_t_prices, .int t_priceMany, .int t_pieceMany, .long t_coins])), (a_t_s, .inl (G.2.1, 68, .inl t_s_2)), (a_t_states, .inl (G.2.1, 408, .inl t_states))] : va_W) H → va_D A ([(a_t, .inr (8, [.int 0, .ref a_t_s, .ref a_t_states, .int (t_stateMany - 1), .ref a_t_snapshot, .int t_hasSnapshot, .ref a_t_text, .int t_length, .int t_at, .int t_isWell, .ref a_t_read, .int t_readMany, .ref a_t_prices, .int t_priceMany, .int t_pieceMany, .long t_coins])), (a_t_s, .inl (G.2.1, 68, .inl t_s_2)), (a_t_states, .inl (G.2.1, 408, .inl t_states))] : va_W) → va_S A s.heap H locs → ∀ ls : Array Slot, lv_has ls 2 [(0, .ref a_t), (1, .int i1_1)] → W p l e RM_X12_undo s m [.ref a_t].toArray below meth c H locs 0 0 (MQ below (wrQ (some (.int rr)) G [(a_t, .inr (8, [.int w_t_thrown, .ref a_t_s, .ref a_t_states, .int w_t_stateMany, .ref a_t_snapshot, .int t_hasSnapshot, .ref a_t_text, .int t_length, .int t_at, .int t_isWell, .ref a_t_read, .int t_readMany, .ref a_t_prices, .int t_priceMany, .int t_pieceMany, .long t_coins])), (a_t_s, .inl (G.2.1, 68, .inl w_t_s)), (a_t_states, .inl (G.2.1, 408, .inl t_states))] A) [.ref a_t].toArray s 0 0 A) (F0 m 30 ls []) := by
      intro n
      induction n with
      | zero =>
        intro i1_1 t_s_2 hf
        exact nomatch (show none = some t_s_3 from hf)
      | succ n ih =>
        intro i1_1 t_s_2 hf H locs hP hD hS ls hl
        rw [l_X12_undo_30] at hf
        refine lv_iload_n hx hb dX12_undo_30 rfl (lv_at hl 1 rfl) ?_
        refine lv_bipush (v := 68) hx hb dX12_undo_31 (by decide) ?_
        refine lv_icmp_ge (tgt := 62) hx hb dX12_undo_33 (by decide) (fun c0 => ?_) (fun c0 => ?_)
        · have hf := (if_pos c0).symm.trans hf
          have hf : (some t_s_2 : Option ((Nat → Int32))) = some t_s_3 := hf
          cases hf
          exact K30 _ _ hP hD hS ls (lv_sub hl [0] rfl)
        · have hf := (if_neg c0).symm.trans hf
          refine lv_aload_n hx hb dX12_undo_36 rfl (lv_at hl 0 rfl) ?_
          refine gf (C := RX12) (T := TX12) (N := 16) (ci := 8) (v := .ref a_t_s) hF hG hP inX12 0 rfl rfl 1 (by decide) q1021 rfl rfl dX12_undo_37 ?_
          refine lv_iload_n hx hb dX12_undo_40 rfl (lv_at hl 1 rfl) ?_
          refine lv_aload_n hx hb dX12_undo_41 rfl (lv_at hl 0 rfl) ?_
          refine gf (C := RX12) (T := TX12) (N := 16) (ci := 8) (v := .ref a_t_states) hF hG hP inX12 0 rfl rfl 2 (by decide) q1022 rfl rfl dX12_undo_42 ?_
          refine lv_bipush (v := 68) hx hb dX12_undo_45 (by decide) ?_
          refine lv_aload_n hx hb dX12_undo_47 rfl (lv_at hl 0 rfl) ?_
          refine gf (C := RX12) (T := TX12) (N := 16) (ci := 8) (v := .int (t_stateMany - 1)) hF hG hP inX12 0 rfl rfl 3 (by decide) q1023 rfl rfl dX12_undo_48 ?_
          refine lv_imul hx hb dX12_undo_51 ?_
          refine lv_iload_n hx hb dX12_undo_52 rfl (lv_at hl 1 rfl) ?_
          refine lv_iadd hx hb dX12_undo_53 ?_
          obtain ⟨hg, hf⟩ := gd_some hf
          refine ald_i (k := Int32.toNatClampNeg ((68 * (t_stateMany - 1)) + i1_1)) hF hG hP 2 rfl rfl hg dX12_undo_54 ?_
          obtain ⟨hg, hf⟩ := gd_some hf
          refine ast_i (k := Int32.toNatClampNeg i1_1) hF hG hP hD hS 1 rfl rfl hg dX12_undo_55 (fun H locs hP hD hS => ?_)
          replace hP : va_P G.1 vwCl [(a_t, .inr (8, [.int 0, .ref a_t_s, .ref a_t_states, .int (t_stateMany - 1), .ref a_t_snapshot, .int t_hasSnapshot, .ref a_t_text, .int t_length, .int t_at, .int t_isWell, .ref a_t_read, .int t_readMany, .ref a_t_prices, .int t_priceMany, .int t_pieceMany, .long t_coins])), (a_t_s, .inl (G.2.1, 68, .inl (upd t_s_2 (Int32.toNatClampNeg i1_1) (t_states (Int32.toNatClampNeg ((68 * (t_stateMany - 1)) + i1_1)))))), (a_t_states, .inl (G.2.1, 408, .inl t_states))] H := hP
          replace hD : va_D A [(a_t, .inr (8, [.int 0, .ref a_t_s, .ref a_t_states, .int (t_stateMany - 1), .ref a_t_snapshot, .int t_hasSnapshot, .ref a_t_text, .int t_length, .int t_at, .int t_isWell, .ref a_t_read, .int t_readMany, .ref a_t_prices, .int t_priceMany, .int t_pieceMany, .long t_coins])), (a_t_s, .inl (G.2.1, 68, .inl (upd t_s_2 (Int32.toNatClampNeg i1_1) (t_states (Int32.toNatClampNeg ((68 * (t_stateMany - 1)) + i1_1)))))), (a_t_states, .inl (G.2.1, 408, .inl t_states))] := hD
          refine lv_iinc (v := (i1_1 + 1)) (lv' := [(1, .int (i1_1 + 1)), (0, .ref a_t)]) hx hb dX12_undo_56 hl (k := 1) rfl rfl (by decide) rfl (fun ls hl => ?_)
          refine lv_goto (tgt := 30) hx hb dX12_undo_59 (by decide) ?_
          exact ih (i1_1 + 1) (upd t_s_2 (Int32.toNatClampNeg i1_1) (t_states (Int32.toNatClampNeg ((68 * (t_stateMany - 1)) + i1_1)))) hf _ _ hP hD hS ls (lv_sub hl [1, 0] rfl)
    exact L30 1000 0 t_s hq _ _ hP hD hS ls (lv_sub hl [1, 0] rfl)
  · have hf := (if_pos c0).symm.trans hf
    refine lv_aload_n hx hb dX12_undo_12 rfl (lv_at hl 0 rfl) ?_
    refine lv_iconst (v := 1) hx hb dX12_undo_13 (by decide) ?_
    obtain ⟨r_4, t_thrown_5, hq, hf⟩ := bd2_some hf
    refine wrV (As := [.int 1]) (rest := []) (wn := [(a_t, .inr (8, [.int t_thrown_5, .ref a_t_s, .ref a_t_states, .int t_stateMany, .ref a_t_snapshot, .int t_hasSnapshot, .ref a_t_text, .int t_length, .int t_at, .int t_isWell, .ref a_t_read, .int t_readMany, .ref a_t_prices, .int t_priceMany, .int t_pieceMany, .long t_coins])), (a_t_s, .inl (G.2.1, 68, .inl t_s)), (a_t_states, .inl (G.2.1, 408, .inl t_states))]) hF hG hP hD hS hA hl.1 (c_X12_fails l G a_t 0 a_t_s a_t_states t_stateMany a_t_snapshot t_hasSnapshot a_t_text t_length t_at t_isWell a_t_read t_readMany a_t_prices t_priceMany t_pieceMany t_coins 1 r_4 t_thrown_5 hq) k_X12_fails q1083 [0] [1, 2] [2, 0, 1] rfl rfl rfl rfl ⟨rfl, rfl⟩ (by decide) ⟨0, 8, _, _, rfl, rfl, rfl⟩ rfl rfl (Nat.le_of_ble_eq_true rfl) ⟨(Nat.le_of_ble_eq_true rfl), (Nat.le_of_ble_eq_true rfl)⟩ ⟨(Nat.le_of_ble_eq_true rfl), (Nat.le_of_ble_eq_true rfl)⟩ dX12_undo_14 (fun H locs hP hD hS => ?_)
    have hf : (some (r_4, t_thrown_5, t_stateMany, t_s) : Option (Int32 × Int32 × Int32 × (Nat → Int32))) = some (rr, w_t_thrown, w_t_stateMany, w_t_s) := hf
    cases hf
    exact we_i hF hr hlk hP hD hS dX12_undo_17 rfl
def l_X12_keep_7 (t_s : Nat → Int32) : Nat → Int32 → (Nat → Int32) → Option ((Nat → Int32))
  | 0, _, _ => none
  | n + 1, i1_1, t_snapshot_2 => (if 68 ≤ i1_1 then some t_snapshot_2 else gd (¬ (i1_1 < 0 ∨ 68 ≤ Int32.toNatClampNeg i1_1)) (gd (¬ (i1_1 < 0 ∨ 68 ≤ Int32.toNatClampNeg i1_1)) (l_X12_keep_7 t_s n (i1_1 + 1) (upd t_snapshot_2 (Int32.toNatClampNeg i1_1) (t_s (Int32.toNatClampNeg i1_1))))))
def f_X12_keep (t_thrown : Int32) (t_hasSnapshot : Int32) (t_s : Nat → Int32) (t_snapshot : Nat → Int32) : Option (Int32 × Int32 × Int32 × (Nat → Int32)) := bd1 (l_X12_keep_7 t_s 1000 0 t_snapshot) (fun (t_snapshot_3 : Nat → Int32) => some ((t_s 0), 0, 1, t_snapshot_3))
theorem k_X12_keep : KV yX12_keep cX12_keep 2 (some .int) 0 := ⟨qc_yX12_keep, q9, ⟨by decide +kernel, by decide +kernel, by decide +kernel⟩, qi_yX12_keep, qs_yX12_keep⟩
abbrev RM_X12_keep : Room := { frames := 0, cells := 0, slots := 0, locals := 0 }
set_option maxHeartbeats 4000000 in
set_option maxRecDepth 100000 in
theorem c_X12_keep (l : Launch) (G : GP) (a_t : Nat) (t_thrown : Int32) (a_t_states : Nat) (t_stateMany : Int32) (t_hasSnapshot : Int32) (a_t_text : Nat) (t_length : Int32) (t_at : Int32) (t_isWell : Int32) (a_t_read : Nat) (t_readMany : Int32) (a_t_prices : Nat) (t_priceMany : Int32) (t_pieceMany : Int32) (t_coins : Int64) (a_t_s : Nat) (t_s : Nat → Int32) (a_t_snapshot : Nat) (t_snapshot : Nat → Int32) (rr : Int32) (w_t_thrown : Int32) (w_t_hasSnapshot : Int32) (w_t_snapshot : Nat → Int32) (hf : f_X12_keep t_thrown t_hasSnapshot t_s t_snapshot = some (rr, w_t_thrown, w_t_hasSnapshot, w_t_snapshot)) : WM l yX12_keep cX12_keep 2 (some .int) 0 0 G [.ref a_t] [(a_t, .inr (8, [.int t_thrown, .ref a_t_s, .ref a_t_states, .int t_stateMany, .ref a_t_snapshot, .int t_hasSnapshot, .ref a_t_text, .int t_length, .int t_at, .int t_isWell, .ref a_t_read, .int t_readMany, .ref a_t_prices, .int t_priceMany, .int t_pieceMany, .long t_coins])), (a_t_s, .inl (G.2.1, 68, .inl t_s)), (a_t_snapshot, .inl (G.2.1, 68, .inl t_snapshot))] (some (.int rr)) [(a_t, .inr (8, [.int w_t_thrown, .ref a_t_s, .ref a_t_states, .int t_stateMany, .ref a_t_snapshot, .int w_t_hasSnapshot, .ref a_t_text, .int t_length, .int t_at, .int t_isWell, .ref a_t_read, .int t_readMany, .ref a_t_prices, .int t_priceMany, .int t_pieceMany, .long t_coins])), (a_t_s, .inl (G.2.1, 68, .inl t_s)), (a_t_snapshot, .inl (G.2.1, 68, .inl w_t_snapshot))] := by
  refine WM.ofW (C := RX12) (by decide) rfl (Nat.le_of_ble_eq_true rfl) ?_
  intro p e s m below meth c A hF hr hlk hG hA hP hD ls hl
  have hl : lv_has ls 2 [(0, .ref a_t)] := hl
  have hx := hF.1
  have hb := hF.2.1
  have hml := hF.2.2.1
  have hown := hF.2.2.2.1
  have hts := hF.2.2.2.2
  have hS : va_S A s.heap s.heap [] := va_S.rf
  unfold f_X12_keep at hf
  refine lv_aload_n hx hb dX12_keep_0 rfl (lv_at hl 0 rfl) ?_
  refine lv_iconst (v := 0) hx hb dX12_keep_1 (by decide) ?_
  refine pf (C := RX12) (T := TX12) (N := 16) (ci := 8) (v := .int 0) (ty := .int) hF hG hP hD hS inX12 tyX12 tyX12_ok nmX12 0 rfl rfl 0 (by decide) q1020 rfl rfl (by decide +kernel) rfl rfl (Nat.le_of_ble_eq_true rfl) dX12_keep_2 (fun H locs hP hD hS => ?_)
  replace hP : va_P G.1 vwCl [(a_t, .inr (8, [.int 0, .ref a_t_s, .ref a_t_states, .int t_stateMany, .ref a_t_snapshot, .int t_hasSnapshot, .ref a_t_text, .int t_length, .int t_at, .int t_isWell, .ref a_t_read, .int t_readMany, .ref a_t_prices, .int t_priceMany, .int t_pieceMany, .long t_coins])), (a_t_s, .inl (G.2.1, 68, .inl t_s)), (a_t_snapshot, .inl (G.2.1, 68, .inl t_snapshot))] H := hP
  replace hD : va_D A [(a_t, .inr (8, [.int 0, .ref a_t_s, .ref a_t_states, .int t_stateMany, .ref a_t_snapshot, .int t_hasSnapshot, .ref a_t_text, .int t_length, .int t_at, .int t_isWell, .ref a_t_read, .int t_readMany, .ref a_t_prices, .int t_priceMany, .int t_pieceMany, .long t_coins])), (a_t_s, .inl (G.2.1, 68, .inl t_s)), (a_t_snapshot, .inl (G.2.1, 68, .inl t_snapshot))] := hD
  refine lv_iconst (v := 0) hx hb dX12_keep_5 (by decide) ?_
  refine lv_istore_n (lv' := [(1, .int 0), (0, .ref a_t)]) hx hb dX12_keep_6 rfl hl (by decide) rfl (fun ls hl => ?_)
  obtain ⟨t_snapshot_3, hq, hf⟩ := bd1_some hf
  have K7 : ∀ (H : Heap) (locs : List Loc), va_P G.1 vwCl ([(a_t, .inr (8, [.int 0, .ref a_t_s, .ref a_t_states, .int t_stateMany, .ref a_t_snapshot, .int t_hasSnapshot, .ref a_t_text, .int t_length, .int t_at, .int t_isWell, .ref a_t_read, .int t_readMany, .ref a_t_prices, .int t_priceMany, .int t_pieceMany, .long t_coins])), (a_t_s, .inl (G.2.1, 68, .inl t_s)), (a_t_snapshot, .inl (G.2.1, 68, .inl t_snapshot_3))] : va_W) H → va_D A ([(a_t, .inr (8, [.int 0, .ref a_t_s, .ref a_t_states, .int t_stateMany, .ref a_t_snapshot, .int t_hasSnapshot, .ref a_t_text, .int t_length, .int t_at, .int t_isWell, .ref a_t_read, .int t_readMany, .ref a_t_prices, .int t_priceMany, .int t_pieceMany, .long t_coins])), (a_t_s, .inl (G.2.1, 68, .inl t_s)), (a_t_snapshot, .inl (G.2.1, 68, .inl t_snapshot_3))] : va_W) → va_S A s.heap H locs → ∀ ls : Array Slot, lv_has ls 2 [(0, .ref a_t)] → W p l e RM_X12_keep s m [.ref a_t].toArray below meth c H locs 0 0 (MQ below (wrQ (some (.int rr)) G [(a_t, .inr (8, [.int w_t_thrown, .ref a_t_s, .ref a_t_states, .int t_stateMany, .ref a_t_snapshot, .int w_t_hasSnapshot, .ref a_t_text, .int t_length, .int t_at, .int t_isWell, .ref a_t_read, .int t_readMany, .ref a_t_prices, .int t_priceMany, .int t_pieceMany, .long t_coins])), (a_t_s, .inl (G.2.1, 68, .inl t_s)), (a_t_snapshot, .inl (G.2.1, 68, .inl w_t_snapshot))] A) [.ref a_t].toArray s 0 0 A) (F0 m 31 ls []) := by
    intro H locs hP hD hS ls hl
    refine lv_aload_n hx hb dX12_keep_31 rfl (lv_at hl 0 rfl) ?_
    refine lv_iconst (v := 1) hx hb dX12_keep_32 (by decide) ?_
    refine pf (C := RX12) (T := TX12) (N := 16) (ci := 8) (v := .int 1) (ty := .boolean) hF hG hP hD hS inX12 tyX12 tyX12_ok nmX12 0 rfl rfl 5 (by decide) q1025 rfl rfl (by decide +kernel) rfl rfl (Nat.le_of_ble_eq_true rfl) dX12_keep_33 (fun H locs hP hD hS => ?_)
    replace hP : va_P G.1 vwCl [(a_t, .inr (8, [.int 0, .ref a_t_s, .ref a_t_states, .int t_stateMany, .ref a_t_snapshot, .int 1, .ref a_t_text, .int t_length, .int t_at, .int t_isWell, .ref a_t_read, .int t_readMany, .ref a_t_prices, .int t_priceMany, .int t_pieceMany, .long t_coins])), (a_t_s, .inl (G.2.1, 68, .inl t_s)), (a_t_snapshot, .inl (G.2.1, 68, .inl t_snapshot_3))] H := hP
    replace hD : va_D A [(a_t, .inr (8, [.int 0, .ref a_t_s, .ref a_t_states, .int t_stateMany, .ref a_t_snapshot, .int 1, .ref a_t_text, .int t_length, .int t_at, .int t_isWell, .ref a_t_read, .int t_readMany, .ref a_t_prices, .int t_priceMany, .int t_pieceMany, .long t_coins])), (a_t_s, .inl (G.2.1, 68, .inl t_s)), (a_t_snapshot, .inl (G.2.1, 68, .inl t_snapshot_3))] := hD
    refine lv_aload_n hx hb dX12_keep_36 rfl (lv_at hl 0 rfl) ?_
    refine gf (C := RX12) (T := TX12) (N := 16) (ci := 8) (v := .ref a_t_s) hF hG hP inX12 0 rfl rfl 1 (by decide) q1021 rfl rfl dX12_keep_37 ?_
    refine lv_iconst (v := 0) hx hb dX12_keep_40 (by decide) ?_
    refine ald_i (k := 0) hF hG hP 1 rfl (by decide) (by decide) dX12_keep_41 ?_
    have hf : (some ((t_s 0), 0, 1, t_snapshot_3) : Option (Int32 × Int32 × Int32 × (Nat → Int32))) = some (rr, w_t_thrown, w_t_hasSnapshot, w_t_snapshot) := hf
    cases hf
    exact we_i hF hr hlk hP hD hS dX12_keep_42 rfl
  clear hf
  have L7 : ∀ (n : Nat) (i1_1 : Int32) (t_snapshot_2 : Nat → Int32), l_X12_keep_7 t_s n i1_1 t_snapshot_2 = some t_snapshot_3 → ∀ (H : Heap) (locs : List Loc), va_P G.1 vwCl ([(a_t, .inr (8, [.int 0, .ref a_t_s, .ref a_t_states, .int t_stateMany, .ref a_t_snapshot, .int t_hasSnapshot, .ref a_t_text, .int t_length, .int t_at, .int t_isWell, .ref a_t_read, .int t_readMany, .ref a_t_prices, .int t_priceMany, .int t_pieceMany, .long t_coins])), (a_t_s, .inl (G.2.1, 68, .inl t_s)), (a_t_snapshot, .inl (G.2.1, 68, .inl t_snapshot_2))] : va_W) H → va_D A ([(a_t, .inr (8, [.int 0, .ref a_t_s, .ref a_t_states, .int t_stateMany, .ref a_t_snapshot, .int t_hasSnapshot, .ref a_t_text, .int t_length, .int t_at, .int t_isWell, .ref a_t_read, .int t_readMany, .ref a_t_prices, .int t_priceMany, .int t_pieceMany, .long t_coins])), (a_t_s, .inl (G.2.1, 68, .inl t_s)), (a_t_snapshot, .inl (G.2.1, 68, .inl t_snapshot_2))] : va_W) → va_S A s.heap H locs → ∀ ls : Array Slot, lv_has ls 2 [(0, .ref a_t), (1, .int i1_1)] → W p l e RM_X12_keep s m [.ref a_t].toArray below meth c H locs 0 0 (MQ below (wrQ (some (.int rr)) G [(a_t, .inr (8, [.int w_t_thrown, .ref a_t_s, .ref a_t_states, .int t_stateMany, .ref a_t_snapshot, .int w_t_hasSnapshot, .ref a_t_text, .int t_length, .int t_at, .int t_isWell, .ref a_t_read, .int t_readMany, .ref a_t_prices, .int t_priceMany, .int t_pieceMany, .long t_coins])), (a_t_s, .inl (G.2.1, 68, .inl t_s)), (a_t_snapshot, .inl (G.2.1, 68, .inl w_t_snapshot))] A) [.ref a_t].toArray s 0 0 A) (F0 m 7 ls []) := by
    intro n
    induction n with
    | zero =>
      intro i1_1 t_snapshot_2 hf
      exact nomatch (show none = some t_snapshot_3 from hf)
    | succ n ih =>
      intro i1_1 t_snapshot_2 hf H locs hP hD hS ls hl
      rw [l_X12_keep_7] at hf
      refine lv_iload_n hx hb dX12_keep_7 rfl (lv_at hl 1 rfl) ?_
      refine lv_bipush (v := 68) hx hb dX12_keep_8 (by decide) ?_
      refine lv_icmp_ge (tgt := 31) hx hb dX12_keep_10 (by decide) (fun c0 => ?_) (fun c0 => ?_)
      · have hf := (if_pos c0).symm.trans hf
        have hf : (some t_snapshot_2 : Option ((Nat → Int32))) = some t_snapshot_3 := hf
        cases hf
        exact K7 _ _ hP hD hS ls (lv_sub hl [0] rfl)
      · have hf := (if_neg c0).symm.trans hf
        refine lv_aload_n hx hb dX12_keep_13 rfl (lv_at hl 0 rfl) ?_
        refine gf (C := RX12) (T := TX12) (N := 16) (ci := 8) (v := .ref a_t_snapshot) hF hG hP inX12 0 rfl rfl 4 (by decide) q1024 rfl rfl dX12_keep_14 ?_
        refine lv_iload_n hx hb dX12_keep_17 rfl (lv_at hl 1 rfl) ?_
        refine lv_aload_n hx hb dX12_keep_18 rfl (lv_at hl 0 rfl) ?_
        refine gf (C := RX12) (T := TX12) (N := 16) (ci := 8) (v := .ref a_t_s) hF hG hP inX12 0 rfl rfl 1 (by decide) q1021 rfl rfl dX12_keep_19 ?_
        refine lv_iload_n hx hb dX12_keep_22 rfl (lv_at hl 1 rfl) ?_
        obtain ⟨hg, hf⟩ := gd_some hf
        refine ald_i (k := Int32.toNatClampNeg i1_1) hF hG hP 1 rfl rfl hg dX12_keep_23 ?_
        obtain ⟨hg, hf⟩ := gd_some hf
        refine ast_i (k := Int32.toNatClampNeg i1_1) hF hG hP hD hS 2 rfl rfl hg dX12_keep_24 (fun H locs hP hD hS => ?_)
        replace hP : va_P G.1 vwCl [(a_t, .inr (8, [.int 0, .ref a_t_s, .ref a_t_states, .int t_stateMany, .ref a_t_snapshot, .int t_hasSnapshot, .ref a_t_text, .int t_length, .int t_at, .int t_isWell, .ref a_t_read, .int t_readMany, .ref a_t_prices, .int t_priceMany, .int t_pieceMany, .long t_coins])), (a_t_s, .inl (G.2.1, 68, .inl t_s)), (a_t_snapshot, .inl (G.2.1, 68, .inl (upd t_snapshot_2 (Int32.toNatClampNeg i1_1) (t_s (Int32.toNatClampNeg i1_1)))))] H := hP
        replace hD : va_D A [(a_t, .inr (8, [.int 0, .ref a_t_s, .ref a_t_states, .int t_stateMany, .ref a_t_snapshot, .int t_hasSnapshot, .ref a_t_text, .int t_length, .int t_at, .int t_isWell, .ref a_t_read, .int t_readMany, .ref a_t_prices, .int t_priceMany, .int t_pieceMany, .long t_coins])), (a_t_s, .inl (G.2.1, 68, .inl t_s)), (a_t_snapshot, .inl (G.2.1, 68, .inl (upd t_snapshot_2 (Int32.toNatClampNeg i1_1) (t_s (Int32.toNatClampNeg i1_1)))))] := hD
        refine lv_iinc (v := (i1_1 + 1)) (lv' := [(1, .int (i1_1 + 1)), (0, .ref a_t)]) hx hb dX12_keep_25 hl (k := 1) rfl rfl (by decide) rfl (fun ls hl => ?_)
        refine lv_goto (tgt := 7) hx hb dX12_keep_28 (by decide) ?_
        exact ih (i1_1 + 1) (upd t_snapshot_2 (Int32.toNatClampNeg i1_1) (t_s (Int32.toNatClampNeg i1_1))) hf _ _ hP hD hS ls (lv_sub hl [1, 0] rfl)
  exact L7 1000 0 t_snapshot hq _ _ hP hD hS ls (lv_sub hl [1, 0] rfl)
def l_X12_restore_24 (t_snapshot : Nat → Int32) : Nat → Int32 → (Nat → Int32) → Option ((Nat → Int32))
  | 0, _, _ => none
  | n + 1, i1_3, t_s_4 => (if 68 ≤ i1_3 then some t_s_4 else gd (¬ (i1_3 < 0 ∨ 68 ≤ Int32.toNatClampNeg i1_3)) (gd (¬ (i1_3 < 0 ∨ 68 ≤ Int32.toNatClampNeg i1_3)) (l_X12_restore_24 t_snapshot n (i1_3 + 1) (upd t_s_4 (Int32.toNatClampNeg i1_3) (t_snapshot (Int32.toNatClampNeg i1_3))))))
def f_X12_restore (t_thrown : Int32) (t_stateMany : Int32) (t_hasSnapshot : Int32) (t_s : Nat → Int32) (t_states : Nat → Int32) (t_snapshot : Nat → Int32) : Option (Int32 × Int32 × Int32 × (Nat → Int32) × (Nat → Int32)) := (if t_hasSnapshot = 0 then bd2 (f_X12_fails 0 1) (fun (r_6 : Int32) (t_thrown_7 : Int32) => some (r_6, t_thrown_7, t_stateMany, t_s, t_states)) else bd2 (f_X12_records t_stateMany t_s t_states) (fun (t_stateMany_1 : Int32) (t_states_2 : Nat → Int32) => bd1 (l_X12_restore_24 t_snapshot 1000 0 t_s) (fun (t_s_5 : Nat → Int32) => some ((t_s_5 0), 0, t_stateMany_1, t_s_5, t_states_2))))
theorem k_X12_restore : KV yX12_restore cX12_restore 2 (some .int) 0 := ⟨qc_yX12_restore, q9, ⟨by decide +kernel, by decide +kernel, by decide +kernel⟩, qi_yX12_restore, qs_yX12_restore⟩
abbrev RM_X12_restore : Room := { frames := 1, cells := 0, slots := 0, locals := 21 }
set_option maxHeartbeats 4000000 in
set_option maxRecDepth 100000 in
theorem c_X12_restore (l : Launch) (G : GP) (a_t : Nat) (t_thrown : Int32) (t_stateMany : Int32) (t_hasSnapshot : Int32) (a_t_text : Nat) (t_length : Int32) (t_at : Int32) (t_isWell : Int32) (a_t_read : Nat) (t_readMany : Int32) (a_t_prices : Nat) (t_priceMany : Int32) (t_pieceMany : Int32) (t_coins : Int64) (a_t_s : Nat) (t_s : Nat → Int32) (a_t_states : Nat) (t_states : Nat → Int32) (a_t_snapshot : Nat) (t_snapshot : Nat → Int32) (rr : Int32) (w_t_thrown : Int32) (w_t_stateMany : Int32) (w_t_s : Nat → Int32) (w_t_states : Nat → Int32) (hf : f_X12_restore t_thrown t_stateMany t_hasSnapshot t_s t_states t_snapshot = some (rr, w_t_thrown, w_t_stateMany, w_t_s, w_t_states)) : WM l yX12_restore cX12_restore 2 (some .int) 1 21 G [.ref a_t] [(a_t, .inr (8, [.int t_thrown, .ref a_t_s, .ref a_t_states, .int t_stateMany, .ref a_t_snapshot, .int t_hasSnapshot, .ref a_t_text, .int t_length, .int t_at, .int t_isWell, .ref a_t_read, .int t_readMany, .ref a_t_prices, .int t_priceMany, .int t_pieceMany, .long t_coins])), (a_t_s, .inl (G.2.1, 68, .inl t_s)), (a_t_states, .inl (G.2.1, 408, .inl t_states)), (a_t_snapshot, .inl (G.2.1, 68, .inl t_snapshot))] (some (.int rr)) [(a_t, .inr (8, [.int w_t_thrown, .ref a_t_s, .ref a_t_states, .int w_t_stateMany, .ref a_t_snapshot, .int t_hasSnapshot, .ref a_t_text, .int t_length, .int t_at, .int t_isWell, .ref a_t_read, .int t_readMany, .ref a_t_prices, .int t_priceMany, .int t_pieceMany, .long t_coins])), (a_t_s, .inl (G.2.1, 68, .inl w_t_s)), (a_t_states, .inl (G.2.1, 408, .inl w_t_states)), (a_t_snapshot, .inl (G.2.1, 68, .inl t_snapshot))] := by
  refine WM.ofW (C := RX12) (by decide) rfl (Nat.le_of_ble_eq_true rfl) ?_
  intro p e s m below meth c A hF hr hlk hG hA hP hD ls hl
  have hl : lv_has ls 2 [(0, .ref a_t)] := hl
  have hx := hF.1
  have hb := hF.2.1
  have hml := hF.2.2.1
  have hown := hF.2.2.2.1
  have hts := hF.2.2.2.2
  have hS : va_S A s.heap s.heap [] := va_S.rf
  unfold f_X12_restore at hf
  refine lv_aload_n hx hb dX12_restore_0 rfl (lv_at hl 0 rfl) ?_
  refine lv_iconst (v := 0) hx hb dX12_restore_1 (by decide) ?_
  refine pf (C := RX12) (T := TX12) (N := 16) (ci := 8) (v := .int 0) (ty := .int) hF hG hP hD hS inX12 tyX12 tyX12_ok nmX12 0 rfl rfl 0 (by decide) q1020 rfl rfl (by decide +kernel) rfl rfl (Nat.le_of_ble_eq_true rfl) dX12_restore_2 (fun H locs hP hD hS => ?_)
  replace hP : va_P G.1 vwCl [(a_t, .inr (8, [.int 0, .ref a_t_s, .ref a_t_states, .int t_stateMany, .ref a_t_snapshot, .int t_hasSnapshot, .ref a_t_text, .int t_length, .int t_at, .int t_isWell, .ref a_t_read, .int t_readMany, .ref a_t_prices, .int t_priceMany, .int t_pieceMany, .long t_coins])), (a_t_s, .inl (G.2.1, 68, .inl t_s)), (a_t_states, .inl (G.2.1, 408, .inl t_states)), (a_t_snapshot, .inl (G.2.1, 68, .inl t_snapshot))] H := hP
  replace hD : va_D A [(a_t, .inr (8, [.int 0, .ref a_t_s, .ref a_t_states, .int t_stateMany, .ref a_t_snapshot, .int t_hasSnapshot, .ref a_t_text, .int t_length, .int t_at, .int t_isWell, .ref a_t_read, .int t_readMany, .ref a_t_prices, .int t_priceMany, .int t_pieceMany, .long t_coins])), (a_t_s, .inl (G.2.1, 68, .inl t_s)), (a_t_states, .inl (G.2.1, 408, .inl t_states)), (a_t_snapshot, .inl (G.2.1, 68, .inl t_snapshot))] := hD
  refine lv_aload_n hx hb dX12_restore_5 rfl (lv_at hl 0 rfl) ?_
  refine gf (C := RX12) (T := TX12) (N := 16) (ci := 8) (v := .int t_hasSnapshot) hF hG hP inX12 0 rfl rfl 5 (by decide) q1025 rfl rfl dX12_restore_6 ?_
  refine lv_if_ne (tgt := 18) hx hb dX12_restore_9 (by decide) (fun c0 => ?_) (fun c0 => ?_)
  · have hf := (if_neg c0).symm.trans hf
    refine lv_aload_n hx hb dX12_restore_18 rfl (lv_at hl 0 rfl) ?_
    obtain ⟨t_stateMany_1, t_states_2, hq, hf⟩ := bd2_some hf
    refine wrV (As := []) (rest := []) (wn := [(a_t, .inr (8, [.int 0, .ref a_t_s, .ref a_t_states, .int t_stateMany_1, .ref a_t_snapshot, .int t_hasSnapshot, .ref a_t_text, .int t_length, .int t_at, .int t_isWell, .ref a_t_read, .int t_readMany, .ref a_t_prices, .int t_priceMany, .int t_pieceMany, .long t_coins])), (a_t_s, .inl (G.2.1, 68, .inl t_s)), (a_t_states, .inl (G.2.1, 408, .inl t_states_2)), (a_t_snapshot, .inl (G.2.1, 68, .inl t_snapshot))]) hF hG hP hD hS hA hl.1 (c_X12_records l G a_t 0 t_stateMany a_t_snapshot t_hasSnapshot a_t_text t_length t_at t_isWell a_t_read t_readMany a_t_prices t_priceMany t_pieceMany t_coins a_t_s t_s a_t_states t_states t_stateMany_1 t_states_2 hq) k_X12_records q1087 [0, 1, 2] [3] [1, 2, 3, 0] rfl rfl rfl rfl ⟨rfl, rfl⟩ (by decide) ⟨0, 8, _, _, rfl, rfl, rfl⟩ rfl rfl (Nat.le_of_ble_eq_true rfl) ⟨(Nat.le_of_ble_eq_true rfl), (Nat.le_of_ble_eq_true rfl)⟩ ⟨(Nat.le_of_ble_eq_true rfl), (Nat.le_of_ble_eq_true rfl)⟩ dX12_restore_19 (fun H locs hP hD hS => ?_)
    refine lv_iconst (v := 0) hx hb dX12_restore_22 (by decide) ?_
    refine lv_istore_n (lv' := [(1, .int 0), (0, .ref a_t)]) hx hb dX12_restore_23 rfl hl (by decide) rfl (fun ls hl => ?_)
    obtain ⟨t_s_5, hq, hf⟩ := bd1_some hf
    have K24 : ∀ (H : Heap) (locs : List Loc), va_P G.1 vwCl ([(a_t, .inr (8, [.int 0, .ref a_t_s, .ref a_t_states, .int t_stateMany_1, .ref a_t_snapshot, .int t_hasSnapshot, .ref a_t_text, .int t_length, .int t_at, .int t_isWell, .ref a_t_read, .int t_readMany, .ref a_t_prices, .int t_priceMany, .int t_pieceMany, .long t_coins])), (a_t_s, .inl (G.2.1, 68, .inl t_s_5)), (a_t_states, .inl (G.2.1, 408, .inl t_states_2)), (a_t_snapshot, .inl (G.2.1, 68, .inl t_snapshot))] : va_W) H → va_D A ([(a_t, .inr (8, [.int 0, .ref a_t_s, .ref a_t_states, .int t_stateMany_1, .ref a_t_snapshot, .int t_hasSnapshot, .ref a_t_text, .int t_length, .int t_at, .int t_isWell, .ref a_t_read, .int t_readMany, .ref a_t_prices, .int t_priceMany, .int t_pieceMany, .long t_coins])), (a_t_s, .inl (G.2.1, 68, .inl t_s_5)), (a_t_states, .inl (G.2.1, 408, .inl t_states_2)), (a_t_snapshot, .inl (G.2.1, 68, .inl t_snapshot))] : va_W) → va_S A s.heap H locs → ∀ ls : Array Slot, lv_has ls 2 [(0, .ref a_t)] → W p l e RM_X12_restore s m [.ref a_t].toArray below meth c H locs 0 0 (MQ below (wrQ (some (.int rr)) G [(a_t, .inr (8, [.int w_t_thrown, .ref a_t_s, .ref a_t_states, .int w_t_stateMany, .ref a_t_snapshot, .int t_hasSnapshot, .ref a_t_text, .int t_length, .int t_at, .int t_isWell, .ref a_t_read, .int t_readMany, .ref a_t_prices, .int t_priceMany, .int t_pieceMany, .long t_coins])), (a_t_s, .inl (G.2.1, 68, .inl w_t_s)), (a_t_states, .inl (G.2.1, 408, .inl w_t_states)), (a_t_snapshot, .inl (G.2.1, 68, .inl t_snapshot))] A) [.ref a_t].toArray s 0 0 A) (F0 m 48 ls []) := by
      intro H locs hP hD hS ls hl
      refine lv_aload_n hx hb dX12_restore_48 rfl (lv_at hl 0 rfl) ?_
      refine gf (C := RX12) (T := TX12) (N := 16) (ci := 8) (v := .ref a_t_s) hF hG hP inX12 0 rfl rfl 1 (by decide) q1021 rfl rfl dX12_restore_49 ?_
      refine lv_iconst (v := 0) hx hb dX12_restore_52 (by decide) ?_
      refine ald_i (k := 0) hF hG hP 1 rfl (by decide) (by decide) dX12_restore_53 ?_
      have hf : (some ((t_s_5 0), 0, t_stateMany_1, t_s_5, t_states_2) : Option (Int32 × Int32 × Int32 × (Nat → Int32) × (Nat → Int32))) = some (rr, w_t_thrown, w_t_stateMany, w_t_s, w_t_states) := hf
      cases hf
      exact we_i hF hr hlk hP hD hS dX12_restore_54 rfl
    clear hf
    have L24 : ∀ (n : Nat) (i1_3 : Int32) (t_s_4 : Nat → Int32), l_X12_restore_24 t_snapshot n i1_3 t_s_4 = some t_s_5 → ∀ (H : Heap) (locs : List Loc), va_P G.1 vwCl ([(a_t, .inr (8, [.int 0, .ref a_t_s, .ref a_t_states, .int t_stateMany_1, .ref a_t_snapshot, .int t_hasSnapshot, .ref a_t_text, .int t_length, .int t_at, .int t_isWell, .ref a_t_read, .int t_readMany, .ref a_t_prices, .int t_priceMany, .int t_pieceMany, .long t_coins])), (a_t_s, .inl (G.2.1, 68, .inl t_s_4)), (a_t_states, .inl (G.2.1, 408, .inl t_states_2)), (a_t_snapshot, .inl (G.2.1, 68, .inl t_snapshot))] : va_W) H → va_D A ([(a_t, .inr (8, [.int 0, .ref a_t_s, .ref a_t_states, .int t_stateMany_1, .ref a_t_snapshot, .int t_hasSnapshot, .ref a_t_text, .int t_length, .int t_at, .int t_isWell, .ref a_t_read, .int t_readMany, .ref a_t_prices, .int t_priceMany, .int t_pieceMany, .long t_coins])), (a_t_s, .inl (G.2.1, 68, .inl t_s_4)), (a_t_states, .inl (G.2.1, 408, .inl t_states_2)), (a_t_snapshot, .inl (G.2.1, 68, .inl t_snapshot))] : va_W) → va_S A s.heap H locs → ∀ ls : Array Slot, lv_has ls 2 [(0, .ref a_t), (1, .int i1_3)] → W p l e RM_X12_restore s m [.ref a_t].toArray below meth c H locs 0 0 (MQ below (wrQ (some (.int rr)) G [(a_t, .inr (8, [.int w_t_thrown, .ref a_t_s, .ref a_t_states, .int w_t_stateMany, .ref a_t_snapshot, .int t_hasSnapshot, .ref a_t_text, .int t_length, .int t_at, .int t_isWell, .ref a_t_read, .int t_readMany, .ref a_t_prices, .int t_priceMany, .int t_pieceMany, .long t_coins])), (a_t_s, .inl (G.2.1, 68, .inl w_t_s)), (a_t_states, .inl (G.2.1, 408, .inl w_t_states)), (a_t_snapshot, .inl (G.2.1, 68, .inl t_snapshot))] A) [.ref a_t].toArray s 0 0 A) (F0 m 24 ls []) := by
      intro n
      induction n with
      | zero =>
        intro i1_3 t_s_4 hf
        exact nomatch (show none = some t_s_5 from hf)
      | succ n ih =>
        intro i1_3 t_s_4 hf H locs hP hD hS ls hl
        rw [l_X12_restore_24] at hf
        refine lv_iload_n hx hb dX12_restore_24 rfl (lv_at hl 1 rfl) ?_
        refine lv_bipush (v := 68) hx hb dX12_restore_25 (by decide) ?_
        refine lv_icmp_ge (tgt := 48) hx hb dX12_restore_27 (by decide) (fun c0 => ?_) (fun c0 => ?_)
        · have hf := (if_pos c0).symm.trans hf
          have hf : (some t_s_4 : Option ((Nat → Int32))) = some t_s_5 := hf
          cases hf
          exact K24 _ _ hP hD hS ls (lv_sub hl [0] rfl)
        · have hf := (if_neg c0).symm.trans hf
          refine lv_aload_n hx hb dX12_restore_30 rfl (lv_at hl 0 rfl) ?_
          refine gf (C := RX12) (T := TX12) (N := 16) (ci := 8) (v := .ref a_t_s) hF hG hP inX12 0 rfl rfl 1 (by decide) q1021 rfl rfl dX12_restore_31 ?_
          refine lv_iload_n hx hb dX12_restore_34 rfl (lv_at hl 1 rfl) ?_
          refine lv_aload_n hx hb dX12_restore_35 rfl (lv_at hl 0 rfl) ?_
          refine gf (C := RX12) (T := TX12) (N := 16) (ci := 8) (v := .ref a_t_snapshot) hF hG hP inX12 0 rfl rfl 4 (by decide) q1024 rfl rfl dX12_restore_36 ?_
          refine lv_iload_n hx hb dX12_restore_39 rfl (lv_at hl 1 rfl) ?_
          obtain ⟨hg, hf⟩ := gd_some hf
          refine ald_i (k := Int32.toNatClampNeg i1_3) hF hG hP 3 rfl rfl hg dX12_restore_40 ?_
          obtain ⟨hg, hf⟩ := gd_some hf
          refine ast_i (k := Int32.toNatClampNeg i1_3) hF hG hP hD hS 1 rfl rfl hg dX12_restore_41 (fun H locs hP hD hS => ?_)
          replace hP : va_P G.1 vwCl [(a_t, .inr (8, [.int 0, .ref a_t_s, .ref a_t_states, .int t_stateMany_1, .ref a_t_snapshot, .int t_hasSnapshot, .ref a_t_text, .int t_length, .int t_at, .int t_isWell, .ref a_t_read, .int t_readMany, .ref a_t_prices, .int t_priceMany, .int t_pieceMany, .long t_coins])), (a_t_s, .inl (G.2.1, 68, .inl (upd t_s_4 (Int32.toNatClampNeg i1_3) (t_snapshot (Int32.toNatClampNeg i1_3))))), (a_t_states, .inl (G.2.1, 408, .inl t_states_2)), (a_t_snapshot, .inl (G.2.1, 68, .inl t_snapshot))] H := hP
          replace hD : va_D A [(a_t, .inr (8, [.int 0, .ref a_t_s, .ref a_t_states, .int t_stateMany_1, .ref a_t_snapshot, .int t_hasSnapshot, .ref a_t_text, .int t_length, .int t_at, .int t_isWell, .ref a_t_read, .int t_readMany, .ref a_t_prices, .int t_priceMany, .int t_pieceMany, .long t_coins])), (a_t_s, .inl (G.2.1, 68, .inl (upd t_s_4 (Int32.toNatClampNeg i1_3) (t_snapshot (Int32.toNatClampNeg i1_3))))), (a_t_states, .inl (G.2.1, 408, .inl t_states_2)), (a_t_snapshot, .inl (G.2.1, 68, .inl t_snapshot))] := hD
          refine lv_iinc (v := (i1_3 + 1)) (lv' := [(1, .int (i1_3 + 1)), (0, .ref a_t)]) hx hb dX12_restore_42 hl (k := 1) rfl rfl (by decide) rfl (fun ls hl => ?_)
          refine lv_goto (tgt := 24) hx hb dX12_restore_45 (by decide) ?_
          exact ih (i1_3 + 1) (upd t_s_4 (Int32.toNatClampNeg i1_3) (t_snapshot (Int32.toNatClampNeg i1_3))) hf _ _ hP hD hS ls (lv_sub hl [1, 0] rfl)
    exact L24 1000 0 t_s hq _ _ hP hD hS ls (lv_sub hl [1, 0] rfl)
  · have hf := (if_pos c0).symm.trans hf
    refine lv_aload_n hx hb dX12_restore_12 rfl (lv_at hl 0 rfl) ?_
    refine lv_iconst (v := 1) hx hb dX12_restore_13 (by decide) ?_
    obtain ⟨r_6, t_thrown_7, hq, hf⟩ := bd2_some hf
    refine wrV (As := [.int 1]) (rest := []) (wn := [(a_t, .inr (8, [.int t_thrown_7, .ref a_t_s, .ref a_t_states, .int t_stateMany, .ref a_t_snapshot, .int t_hasSnapshot, .ref a_t_text, .int t_length, .int t_at, .int t_isWell, .ref a_t_read, .int t_readMany, .ref a_t_prices, .int t_priceMany, .int t_pieceMany, .long t_coins])), (a_t_s, .inl (G.2.1, 68, .inl t_s)), (a_t_states, .inl (G.2.1, 408, .inl t_states)), (a_t_snapshot, .inl (G.2.1, 68, .inl t_snapshot))]) hF hG hP hD hS hA hl.1 (c_X12_fails l G a_t 0 a_t_s a_t_states t_stateMany a_t_snapshot t_hasSnapshot a_t_text t_length t_at t_isWell a_t_read t_readMany a_t_prices t_priceMany t_pieceMany t_coins 1 r_6 t_thrown_7 hq) k_X12_fails q1083 [0] [1, 2, 3] [3, 0, 1, 2] rfl rfl rfl rfl ⟨rfl, rfl⟩ (by decide) ⟨0, 8, _, _, rfl, rfl, rfl⟩ rfl rfl (Nat.le_of_ble_eq_true rfl) ⟨(Nat.le_of_ble_eq_true rfl), (Nat.le_of_ble_eq_true rfl)⟩ ⟨(Nat.le_of_ble_eq_true rfl), (Nat.le_of_ble_eq_true rfl)⟩ dX12_restore_14 (fun H locs hP hD hS => ?_)
    have hf : (some (r_6, t_thrown_7, t_stateMany, t_s, t_states) : Option (Int32 × Int32 × Int32 × (Nat → Int32) × (Nat → Int32))) = some (rr, w_t_thrown, w_t_stateMany, w_t_s, w_t_states) := hf
    cases hf
    exact we_i hF hr hlk hP hD hS dX12_restore_17 rfl
def f_X12_savedStates (t_thrown : Int32) (t_stateMany : Int32) : Option (Int32 × Int32) := some (t_stateMany, 0)
theorem k_X12_savedStates : KV yX12_savedStates cX12_savedStates 1 (some .int) 0 := ⟨qc_yX12_savedStates, q9, ⟨by decide +kernel, by decide +kernel, by decide +kernel⟩, qi_yX12_savedStates, qs_yX12_savedStates⟩
abbrev RM_X12_savedStates : Room := { frames := 0, cells := 0, slots := 0, locals := 0 }
set_option maxHeartbeats 4000000 in
set_option maxRecDepth 100000 in
theorem c_X12_savedStates (l : Launch) (G : GP) (a_t : Nat) (t_thrown : Int32) (a_t_s : Nat) (a_t_states : Nat) (t_stateMany : Int32) (a_t_snapshot : Nat) (t_hasSnapshot : Int32) (a_t_text : Nat) (t_length : Int32) (t_at : Int32) (t_isWell : Int32) (a_t_read : Nat) (t_readMany : Int32) (a_t_prices : Nat) (t_priceMany : Int32) (t_pieceMany : Int32) (t_coins : Int64) (rr : Int32) (w_t_thrown : Int32) (hf : f_X12_savedStates t_thrown t_stateMany = some (rr, w_t_thrown)) : WM l yX12_savedStates cX12_savedStates 1 (some .int) 0 0 G [.ref a_t] [(a_t, .inr (8, [.int t_thrown, .ref a_t_s, .ref a_t_states, .int t_stateMany, .ref a_t_snapshot, .int t_hasSnapshot, .ref a_t_text, .int t_length, .int t_at, .int t_isWell, .ref a_t_read, .int t_readMany, .ref a_t_prices, .int t_priceMany, .int t_pieceMany, .long t_coins]))] (some (.int rr)) [(a_t, .inr (8, [.int w_t_thrown, .ref a_t_s, .ref a_t_states, .int t_stateMany, .ref a_t_snapshot, .int t_hasSnapshot, .ref a_t_text, .int t_length, .int t_at, .int t_isWell, .ref a_t_read, .int t_readMany, .ref a_t_prices, .int t_priceMany, .int t_pieceMany, .long t_coins]))] := by
  refine WM.ofW (C := RX12) (by decide) rfl (Nat.le_of_ble_eq_true rfl) ?_
  intro p e s m below meth c A hF hr hlk hG hA hP hD ls hl
  have hl : lv_has ls 1 [(0, .ref a_t)] := hl
  have hx := hF.1
  have hb := hF.2.1
  have hml := hF.2.2.1
  have hown := hF.2.2.2.1
  have hts := hF.2.2.2.2
  have hS : va_S A s.heap s.heap [] := va_S.rf
  unfold f_X12_savedStates at hf
  refine lv_aload_n hx hb dX12_savedStates_0 rfl (lv_at hl 0 rfl) ?_
  refine lv_iconst (v := 0) hx hb dX12_savedStates_1 (by decide) ?_
  refine pf (C := RX12) (T := TX12) (N := 16) (ci := 8) (v := .int 0) (ty := .int) hF hG hP hD hS inX12 tyX12 tyX12_ok nmX12 0 rfl rfl 0 (by decide) q1020 rfl rfl (by decide +kernel) rfl rfl (Nat.le_of_ble_eq_true rfl) dX12_savedStates_2 (fun H locs hP hD hS => ?_)
  replace hP : va_P G.1 vwCl [(a_t, .inr (8, [.int 0, .ref a_t_s, .ref a_t_states, .int t_stateMany, .ref a_t_snapshot, .int t_hasSnapshot, .ref a_t_text, .int t_length, .int t_at, .int t_isWell, .ref a_t_read, .int t_readMany, .ref a_t_prices, .int t_priceMany, .int t_pieceMany, .long t_coins]))] H := hP
  replace hD : va_D A [(a_t, .inr (8, [.int 0, .ref a_t_s, .ref a_t_states, .int t_stateMany, .ref a_t_snapshot, .int t_hasSnapshot, .ref a_t_text, .int t_length, .int t_at, .int t_isWell, .ref a_t_read, .int t_readMany, .ref a_t_prices, .int t_priceMany, .int t_pieceMany, .long t_coins]))] := hD
  refine lv_aload_n hx hb dX12_savedStates_5 rfl (lv_at hl 0 rfl) ?_
  refine gf (C := RX12) (T := TX12) (N := 16) (ci := 8) (v := .int t_stateMany) hF hG hP inX12 0 rfl rfl 3 (by decide) q1023 rfl rfl dX12_savedStates_6 ?_
  have hf : (some (t_stateMany, 0) : Option (Int32 × Int32)) = some (rr, w_t_thrown) := hf
  cases hf
  exact we_i hF hr hlk hP hD hS dX12_savedStates_9 rfl
def f_X12_days (t_thrown : Int32) (t_s : Nat → Int32) : Option (Int32 × Int32) := some ((t_s 0), 0)
theorem k_X12_days : KV yX12_days cX12_days 1 (some .int) 0 := ⟨qc_yX12_days, q9, ⟨by decide +kernel, by decide +kernel, by decide +kernel⟩, qi_yX12_days, qs_yX12_days⟩
abbrev RM_X12_days : Room := { frames := 0, cells := 0, slots := 0, locals := 0 }
set_option maxHeartbeats 4000000 in
set_option maxRecDepth 100000 in
theorem c_X12_days (l : Launch) (G : GP) (a_t : Nat) (t_thrown : Int32) (a_t_states : Nat) (t_stateMany : Int32) (a_t_snapshot : Nat) (t_hasSnapshot : Int32) (a_t_text : Nat) (t_length : Int32) (t_at : Int32) (t_isWell : Int32) (a_t_read : Nat) (t_readMany : Int32) (a_t_prices : Nat) (t_priceMany : Int32) (t_pieceMany : Int32) (t_coins : Int64) (a_t_s : Nat) (t_s : Nat → Int32) (rr : Int32) (w_t_thrown : Int32) (hf : f_X12_days t_thrown t_s = some (rr, w_t_thrown)) : WM l yX12_days cX12_days 1 (some .int) 0 0 G [.ref a_t] [(a_t, .inr (8, [.int t_thrown, .ref a_t_s, .ref a_t_states, .int t_stateMany, .ref a_t_snapshot, .int t_hasSnapshot, .ref a_t_text, .int t_length, .int t_at, .int t_isWell, .ref a_t_read, .int t_readMany, .ref a_t_prices, .int t_priceMany, .int t_pieceMany, .long t_coins])), (a_t_s, .inl (G.2.1, 68, .inl t_s))] (some (.int rr)) [(a_t, .inr (8, [.int w_t_thrown, .ref a_t_s, .ref a_t_states, .int t_stateMany, .ref a_t_snapshot, .int t_hasSnapshot, .ref a_t_text, .int t_length, .int t_at, .int t_isWell, .ref a_t_read, .int t_readMany, .ref a_t_prices, .int t_priceMany, .int t_pieceMany, .long t_coins])), (a_t_s, .inl (G.2.1, 68, .inl t_s))] := by
  refine WM.ofW (C := RX12) (by decide) rfl (Nat.le_of_ble_eq_true rfl) ?_
  intro p e s m below meth c A hF hr hlk hG hA hP hD ls hl
  have hl : lv_has ls 1 [(0, .ref a_t)] := hl
  have hx := hF.1
  have hb := hF.2.1
  have hml := hF.2.2.1
  have hown := hF.2.2.2.1
  have hts := hF.2.2.2.2
  have hS : va_S A s.heap s.heap [] := va_S.rf
  unfold f_X12_days at hf
  refine lv_aload_n hx hb dX12_days_0 rfl (lv_at hl 0 rfl) ?_
  refine lv_iconst (v := 0) hx hb dX12_days_1 (by decide) ?_
  refine pf (C := RX12) (T := TX12) (N := 16) (ci := 8) (v := .int 0) (ty := .int) hF hG hP hD hS inX12 tyX12 tyX12_ok nmX12 0 rfl rfl 0 (by decide) q1020 rfl rfl (by decide +kernel) rfl rfl (Nat.le_of_ble_eq_true rfl) dX12_days_2 (fun H locs hP hD hS => ?_)
  replace hP : va_P G.1 vwCl [(a_t, .inr (8, [.int 0, .ref a_t_s, .ref a_t_states, .int t_stateMany, .ref a_t_snapshot, .int t_hasSnapshot, .ref a_t_text, .int t_length, .int t_at, .int t_isWell, .ref a_t_read, .int t_readMany, .ref a_t_prices, .int t_priceMany, .int t_pieceMany, .long t_coins])), (a_t_s, .inl (G.2.1, 68, .inl t_s))] H := hP
  replace hD : va_D A [(a_t, .inr (8, [.int 0, .ref a_t_s, .ref a_t_states, .int t_stateMany, .ref a_t_snapshot, .int t_hasSnapshot, .ref a_t_text, .int t_length, .int t_at, .int t_isWell, .ref a_t_read, .int t_readMany, .ref a_t_prices, .int t_priceMany, .int t_pieceMany, .long t_coins])), (a_t_s, .inl (G.2.1, 68, .inl t_s))] := hD
  refine lv_aload_n hx hb dX12_days_5 rfl (lv_at hl 0 rfl) ?_
  refine gf (C := RX12) (T := TX12) (N := 16) (ci := 8) (v := .ref a_t_s) hF hG hP inX12 0 rfl rfl 1 (by decide) q1021 rfl rfl dX12_days_6 ?_
  refine lv_iconst (v := 0) hx hb dX12_days_9 (by decide) ?_
  refine ald_i (k := 0) hF hG hP 1 rfl (by decide) (by decide) dX12_days_10 ?_
  have hf : (some ((t_s 0), 0) : Option (Int32 × Int32)) = some (rr, w_t_thrown) := hf
  cases hf
  exact we_i hF hr hlk hP hD hS dX12_days_11 rfl
def f_X12_priceOf (t_thrown : Int32) (t_s : Nat → Int32) (x1 : Int32) : Option (Int32 × Int32) := bd1 (f_X12_isDay t_s x1) (fun (r_1 : Int32) => (if r_1 = 0 then bd2 (f_X12_fails 0 1) (fun (r_2 : Int32) (t_thrown_3 : Int32) => some (r_2, t_thrown_3)) else bd1 (f_X12_of t_s x1) (fun (r_4 : Int32) => some (r_4, 0))))
theorem k_X12_priceOf : KV yX12_priceOf cX12_priceOf 2 (some .int) 1 := ⟨qc_yX12_priceOf, q9, ⟨by decide +kernel, by decide +kernel, by decide +kernel⟩, qi_yX12_priceOf, qs_yX12_priceOf⟩
abbrev RM_X12_priceOf : Room := { frames := 2, cells := 0, slots := 0, locals := 43 }
set_option maxHeartbeats 4000000 in
set_option maxRecDepth 100000 in
theorem c_X12_priceOf (l : Launch) (G : GP) (a_t : Nat) (t_thrown : Int32) (a_t_states : Nat) (t_stateMany : Int32) (a_t_snapshot : Nat) (t_hasSnapshot : Int32) (a_t_text : Nat) (t_length : Int32) (t_at : Int32) (t_isWell : Int32) (a_t_read : Nat) (t_readMany : Int32) (a_t_prices : Nat) (t_priceMany : Int32) (t_pieceMany : Int32) (t_coins : Int64) (a_t_s : Nat) (t_s : Nat → Int32) (x1 : Int32) (rr : Int32) (w_t_thrown : Int32) (hf : f_X12_priceOf t_thrown t_s x1 = some (rr, w_t_thrown)) : WM l yX12_priceOf cX12_priceOf 2 (some .int) 2 43 G [.ref a_t, .int x1] [(a_t, .inr (8, [.int t_thrown, .ref a_t_s, .ref a_t_states, .int t_stateMany, .ref a_t_snapshot, .int t_hasSnapshot, .ref a_t_text, .int t_length, .int t_at, .int t_isWell, .ref a_t_read, .int t_readMany, .ref a_t_prices, .int t_priceMany, .int t_pieceMany, .long t_coins])), (a_t_s, .inl (G.2.1, 68, .inl t_s))] (some (.int rr)) [(a_t, .inr (8, [.int w_t_thrown, .ref a_t_s, .ref a_t_states, .int t_stateMany, .ref a_t_snapshot, .int t_hasSnapshot, .ref a_t_text, .int t_length, .int t_at, .int t_isWell, .ref a_t_read, .int t_readMany, .ref a_t_prices, .int t_priceMany, .int t_pieceMany, .long t_coins])), (a_t_s, .inl (G.2.1, 68, .inl t_s))] := by
  refine WM.ofW (C := RX12) (by decide) rfl (Nat.le_of_ble_eq_true rfl) ?_
  intro p e s m below meth c A hF hr hlk hG hA hP hD ls hl
  have hl : lv_has ls 2 [(0, .ref a_t), (1, .int x1)] := hl
  have hx := hF.1
  have hb := hF.2.1
  have hml := hF.2.2.1
  have hown := hF.2.2.2.1
  have hts := hF.2.2.2.2
  have hS : va_S A s.heap s.heap [] := va_S.rf
  unfold f_X12_priceOf at hf
  refine lv_aload_n hx hb dX12_priceOf_0 rfl (lv_at hl 0 rfl) ?_
  refine lv_iconst (v := 0) hx hb dX12_priceOf_1 (by decide) ?_
  refine pf (C := RX12) (T := TX12) (N := 16) (ci := 8) (v := .int 0) (ty := .int) hF hG hP hD hS inX12 tyX12 tyX12_ok nmX12 0 rfl rfl 0 (by decide) q1020 rfl rfl (by decide +kernel) rfl rfl (Nat.le_of_ble_eq_true rfl) dX12_priceOf_2 (fun H locs hP hD hS => ?_)
  replace hP : va_P G.1 vwCl [(a_t, .inr (8, [.int 0, .ref a_t_s, .ref a_t_states, .int t_stateMany, .ref a_t_snapshot, .int t_hasSnapshot, .ref a_t_text, .int t_length, .int t_at, .int t_isWell, .ref a_t_read, .int t_readMany, .ref a_t_prices, .int t_priceMany, .int t_pieceMany, .long t_coins])), (a_t_s, .inl (G.2.1, 68, .inl t_s))] H := hP
  replace hD : va_D A [(a_t, .inr (8, [.int 0, .ref a_t_s, .ref a_t_states, .int t_stateMany, .ref a_t_snapshot, .int t_hasSnapshot, .ref a_t_text, .int t_length, .int t_at, .int t_isWell, .ref a_t_read, .int t_readMany, .ref a_t_prices, .int t_priceMany, .int t_pieceMany, .long t_coins])), (a_t_s, .inl (G.2.1, 68, .inl t_s))] := hD
  refine lv_aload_n hx hb dX12_priceOf_5 rfl (lv_at hl 0 rfl) ?_
  refine lv_iload_n hx hb dX12_priceOf_6 rfl (lv_at hl 1 rfl) ?_
  obtain ⟨r_1, hq, hf⟩ := bd1_some hf
  refine rdV (As := [.int x1]) (rest := []) hF hG hP hl.1 (c_X12_isDay l G a_t 0 a_t_states t_stateMany a_t_snapshot t_hasSnapshot a_t_text t_length t_at t_isWell a_t_read t_readMany a_t_prices t_priceMany t_pieceMany t_coins a_t_s t_s x1 r_1 hq) k_X12_isDay q1099 [0, 1] rfl ⟨0, 8, _, _, rfl, rfl, rfl⟩ rfl rfl (Nat.le_of_ble_eq_true rfl) ⟨(Nat.le_of_ble_eq_true rfl), (Nat.le_of_ble_eq_true rfl)⟩ ⟨(Nat.zero_le _), (Nat.zero_le _)⟩ dX12_priceOf_7 ?_
  refine lv_if_eq (tgt := 21) hx hb dX12_priceOf_10 (by decide) (fun c0 => ?_) (fun c0 => ?_)
  · have hf := (if_pos c0).symm.trans hf
    refine lv_aload_n hx hb dX12_priceOf_21 rfl (lv_at hl 0 rfl) ?_
    refine lv_iconst (v := 1) hx hb dX12_priceOf_22 (by decide) ?_
    obtain ⟨r_2, t_thrown_3, hq, hf⟩ := bd2_some hf
    refine wrV (As := [.int 1]) (rest := []) (wn := [(a_t, .inr (8, [.int t_thrown_3, .ref a_t_s, .ref a_t_states, .int t_stateMany, .ref a_t_snapshot, .int t_hasSnapshot, .ref a_t_text, .int t_length, .int t_at, .int t_isWell, .ref a_t_read, .int t_readMany, .ref a_t_prices, .int t_priceMany, .int t_pieceMany, .long t_coins])), (a_t_s, .inl (G.2.1, 68, .inl t_s))]) hF hG hP hD hS hA hl.1 (c_X12_fails l G a_t 0 a_t_s a_t_states t_stateMany a_t_snapshot t_hasSnapshot a_t_text t_length t_at t_isWell a_t_read t_readMany a_t_prices t_priceMany t_pieceMany t_coins 1 r_2 t_thrown_3 hq) k_X12_fails q1083 [0] [1] [1, 0] rfl rfl rfl rfl ⟨rfl, rfl⟩ (by decide) ⟨0, 8, _, _, rfl, rfl, rfl⟩ rfl rfl (Nat.le_of_ble_eq_true rfl) ⟨(Nat.le_of_ble_eq_true rfl), (Nat.le_of_ble_eq_true rfl)⟩ ⟨(Nat.le_of_ble_eq_true rfl), (Nat.le_of_ble_eq_true rfl)⟩ dX12_priceOf_23 (fun H locs hP hD hS => ?_)
    have hf : (some (r_2, t_thrown_3) : Option (Int32 × Int32)) = some (rr, w_t_thrown) := hf
    cases hf
    exact we_i hF hr hlk hP hD hS dX12_priceOf_26 rfl
  · have hf := (if_neg c0).symm.trans hf
    refine lv_aload_n hx hb dX12_priceOf_13 rfl (lv_at hl 0 rfl) ?_
    refine lv_iload_n hx hb dX12_priceOf_14 rfl (lv_at hl 1 rfl) ?_
    obtain ⟨r_4, hq, hf⟩ := bd1_some hf
    refine rdV (As := [.int x1]) (rest := []) hF hG hP hl.1 (c_X12_of l G a_t 0 a_t_states t_stateMany a_t_snapshot t_hasSnapshot a_t_text t_length t_at t_isWell a_t_read t_readMany a_t_prices t_priceMany t_pieceMany t_coins a_t_s t_s x1 r_4 hq) k_X12_of q1111 [0, 1] rfl ⟨0, 8, _, _, rfl, rfl, rfl⟩ rfl rfl (Nat.le_of_ble_eq_true rfl) ⟨(Nat.le_of_ble_eq_true rfl), (Nat.le_of_ble_eq_true rfl)⟩ ⟨(Nat.zero_le _), (Nat.zero_le _)⟩ dX12_priceOf_15 ?_
    refine lv_goto (tgt := 26) hx hb dX12_priceOf_18 (by decide) ?_
    have hf : (some (r_4, 0) : Option (Int32 × Int32)) = some (rr, w_t_thrown) := hf
    cases hf
    exact we_i hF hr hlk hP hD hS dX12_priceOf_26 rfl
def f_X12_shortWindow (t_thrown : Int32) (t_s : Nat → Int32) : Option (Int32 × Int32) := some ((t_s 1), 0)
theorem k_X12_shortWindow : KV yX12_shortWindow cX12_shortWindow 1 (some .int) 0 := ⟨qc_yX12_shortWindow, q9, ⟨by decide +kernel, by decide +kernel, by decide +kernel⟩, qi_yX12_shortWindow, qs_yX12_shortWindow⟩
abbrev RM_X12_shortWindow : Room := { frames := 0, cells := 0, slots := 0, locals := 0 }
set_option maxHeartbeats 4000000 in
set_option maxRecDepth 100000 in
theorem c_X12_shortWindow (l : Launch) (G : GP) (a_t : Nat) (t_thrown : Int32) (a_t_states : Nat) (t_stateMany : Int32) (a_t_snapshot : Nat) (t_hasSnapshot : Int32) (a_t_text : Nat) (t_length : Int32) (t_at : Int32) (t_isWell : Int32) (a_t_read : Nat) (t_readMany : Int32) (a_t_prices : Nat) (t_priceMany : Int32) (t_pieceMany : Int32) (t_coins : Int64) (a_t_s : Nat) (t_s : Nat → Int32) (rr : Int32) (w_t_thrown : Int32) (hf : f_X12_shortWindow t_thrown t_s = some (rr, w_t_thrown)) : WM l yX12_shortWindow cX12_shortWindow 1 (some .int) 0 0 G [.ref a_t] [(a_t, .inr (8, [.int t_thrown, .ref a_t_s, .ref a_t_states, .int t_stateMany, .ref a_t_snapshot, .int t_hasSnapshot, .ref a_t_text, .int t_length, .int t_at, .int t_isWell, .ref a_t_read, .int t_readMany, .ref a_t_prices, .int t_priceMany, .int t_pieceMany, .long t_coins])), (a_t_s, .inl (G.2.1, 68, .inl t_s))] (some (.int rr)) [(a_t, .inr (8, [.int w_t_thrown, .ref a_t_s, .ref a_t_states, .int t_stateMany, .ref a_t_snapshot, .int t_hasSnapshot, .ref a_t_text, .int t_length, .int t_at, .int t_isWell, .ref a_t_read, .int t_readMany, .ref a_t_prices, .int t_priceMany, .int t_pieceMany, .long t_coins])), (a_t_s, .inl (G.2.1, 68, .inl t_s))] := by
  refine WM.ofW (C := RX12) (by decide) rfl (Nat.le_of_ble_eq_true rfl) ?_
  intro p e s m below meth c A hF hr hlk hG hA hP hD ls hl
  have hl : lv_has ls 1 [(0, .ref a_t)] := hl
  have hx := hF.1
  have hb := hF.2.1
  have hml := hF.2.2.1
  have hown := hF.2.2.2.1
  have hts := hF.2.2.2.2
  have hS : va_S A s.heap s.heap [] := va_S.rf
  unfold f_X12_shortWindow at hf
  refine lv_aload_n hx hb dX12_shortWindow_0 rfl (lv_at hl 0 rfl) ?_
  refine lv_iconst (v := 0) hx hb dX12_shortWindow_1 (by decide) ?_
  refine pf (C := RX12) (T := TX12) (N := 16) (ci := 8) (v := .int 0) (ty := .int) hF hG hP hD hS inX12 tyX12 tyX12_ok nmX12 0 rfl rfl 0 (by decide) q1020 rfl rfl (by decide +kernel) rfl rfl (Nat.le_of_ble_eq_true rfl) dX12_shortWindow_2 (fun H locs hP hD hS => ?_)
  replace hP : va_P G.1 vwCl [(a_t, .inr (8, [.int 0, .ref a_t_s, .ref a_t_states, .int t_stateMany, .ref a_t_snapshot, .int t_hasSnapshot, .ref a_t_text, .int t_length, .int t_at, .int t_isWell, .ref a_t_read, .int t_readMany, .ref a_t_prices, .int t_priceMany, .int t_pieceMany, .long t_coins])), (a_t_s, .inl (G.2.1, 68, .inl t_s))] H := hP
  replace hD : va_D A [(a_t, .inr (8, [.int 0, .ref a_t_s, .ref a_t_states, .int t_stateMany, .ref a_t_snapshot, .int t_hasSnapshot, .ref a_t_text, .int t_length, .int t_at, .int t_isWell, .ref a_t_read, .int t_readMany, .ref a_t_prices, .int t_priceMany, .int t_pieceMany, .long t_coins])), (a_t_s, .inl (G.2.1, 68, .inl t_s))] := hD
  refine lv_aload_n hx hb dX12_shortWindow_5 rfl (lv_at hl 0 rfl) ?_
  refine gf (C := RX12) (T := TX12) (N := 16) (ci := 8) (v := .ref a_t_s) hF hG hP inX12 0 rfl rfl 1 (by decide) q1021 rfl rfl dX12_shortWindow_6 ?_
  refine lv_iconst (v := 1) hx hb dX12_shortWindow_9 (by decide) ?_
  refine ald_i (k := 1) hF hG hP 1 rfl (by decide) (by decide) dX12_shortWindow_10 ?_
  have hf : (some ((t_s 1), 0) : Option (Int32 × Int32)) = some (rr, w_t_thrown) := hf
  cases hf
  exact we_i hF hr hlk hP hD hS dX12_shortWindow_11 rfl
def f_X12_longWindow (t_thrown : Int32) (t_s : Nat → Int32) : Option (Int32 × Int32) := some ((t_s 2), 0)
theorem k_X12_longWindow : KV yX12_longWindow cX12_longWindow 1 (some .int) 0 := ⟨qc_yX12_longWindow, q9, ⟨by decide +kernel, by decide +kernel, by decide +kernel⟩, qi_yX12_longWindow, qs_yX12_longWindow⟩
abbrev RM_X12_longWindow : Room := { frames := 0, cells := 0, slots := 0, locals := 0 }
set_option maxHeartbeats 4000000 in
set_option maxRecDepth 100000 in
theorem c_X12_longWindow (l : Launch) (G : GP) (a_t : Nat) (t_thrown : Int32) (a_t_states : Nat) (t_stateMany : Int32) (a_t_snapshot : Nat) (t_hasSnapshot : Int32) (a_t_text : Nat) (t_length : Int32) (t_at : Int32) (t_isWell : Int32) (a_t_read : Nat) (t_readMany : Int32) (a_t_prices : Nat) (t_priceMany : Int32) (t_pieceMany : Int32) (t_coins : Int64) (a_t_s : Nat) (t_s : Nat → Int32) (rr : Int32) (w_t_thrown : Int32) (hf : f_X12_longWindow t_thrown t_s = some (rr, w_t_thrown)) : WM l yX12_longWindow cX12_longWindow 1 (some .int) 0 0 G [.ref a_t] [(a_t, .inr (8, [.int t_thrown, .ref a_t_s, .ref a_t_states, .int t_stateMany, .ref a_t_snapshot, .int t_hasSnapshot, .ref a_t_text, .int t_length, .int t_at, .int t_isWell, .ref a_t_read, .int t_readMany, .ref a_t_prices, .int t_priceMany, .int t_pieceMany, .long t_coins])), (a_t_s, .inl (G.2.1, 68, .inl t_s))] (some (.int rr)) [(a_t, .inr (8, [.int w_t_thrown, .ref a_t_s, .ref a_t_states, .int t_stateMany, .ref a_t_snapshot, .int t_hasSnapshot, .ref a_t_text, .int t_length, .int t_at, .int t_isWell, .ref a_t_read, .int t_readMany, .ref a_t_prices, .int t_priceMany, .int t_pieceMany, .long t_coins])), (a_t_s, .inl (G.2.1, 68, .inl t_s))] := by
  refine WM.ofW (C := RX12) (by decide) rfl (Nat.le_of_ble_eq_true rfl) ?_
  intro p e s m below meth c A hF hr hlk hG hA hP hD ls hl
  have hl : lv_has ls 1 [(0, .ref a_t)] := hl
  have hx := hF.1
  have hb := hF.2.1
  have hml := hF.2.2.1
  have hown := hF.2.2.2.1
  have hts := hF.2.2.2.2
  have hS : va_S A s.heap s.heap [] := va_S.rf
  unfold f_X12_longWindow at hf
  refine lv_aload_n hx hb dX12_longWindow_0 rfl (lv_at hl 0 rfl) ?_
  refine lv_iconst (v := 0) hx hb dX12_longWindow_1 (by decide) ?_
  refine pf (C := RX12) (T := TX12) (N := 16) (ci := 8) (v := .int 0) (ty := .int) hF hG hP hD hS inX12 tyX12 tyX12_ok nmX12 0 rfl rfl 0 (by decide) q1020 rfl rfl (by decide +kernel) rfl rfl (Nat.le_of_ble_eq_true rfl) dX12_longWindow_2 (fun H locs hP hD hS => ?_)
  replace hP : va_P G.1 vwCl [(a_t, .inr (8, [.int 0, .ref a_t_s, .ref a_t_states, .int t_stateMany, .ref a_t_snapshot, .int t_hasSnapshot, .ref a_t_text, .int t_length, .int t_at, .int t_isWell, .ref a_t_read, .int t_readMany, .ref a_t_prices, .int t_priceMany, .int t_pieceMany, .long t_coins])), (a_t_s, .inl (G.2.1, 68, .inl t_s))] H := hP
  replace hD : va_D A [(a_t, .inr (8, [.int 0, .ref a_t_s, .ref a_t_states, .int t_stateMany, .ref a_t_snapshot, .int t_hasSnapshot, .ref a_t_text, .int t_length, .int t_at, .int t_isWell, .ref a_t_read, .int t_readMany, .ref a_t_prices, .int t_priceMany, .int t_pieceMany, .long t_coins])), (a_t_s, .inl (G.2.1, 68, .inl t_s))] := hD
  refine lv_aload_n hx hb dX12_longWindow_5 rfl (lv_at hl 0 rfl) ?_
  refine gf (C := RX12) (T := TX12) (N := 16) (ci := 8) (v := .ref a_t_s) hF hG hP inX12 0 rfl rfl 1 (by decide) q1021 rfl rfl dX12_longWindow_6 ?_
  refine lv_iconst (v := 2) hx hb dX12_longWindow_9 (by decide) ?_
  refine ald_i (k := 2) hF hG hP 1 rfl (by decide) (by decide) dX12_longWindow_10 ?_
  have hf : (some ((t_s 2), 0) : Option (Int32 × Int32)) = some (rr, w_t_thrown) := hf
  cases hf
  exact we_i hF hr hlk hP hD hS dX12_longWindow_11 rfl
def l_X12_meanOf_13 (t_s : Nat → Int32) (x1 : Int32) : Nat → Int32 → Int32 → Option (Int32)
  | 0, _, _ => none
  | n + 1, i3_2, i5_3 => (if x1 < i5_3 then some i3_2 else bd1 (f_X12_of t_s i5_3) (fun (r_5 : Int32) => l_X12_meanOf_13 t_s x1 n (i3_2 + r_5) (i5_3 + 1)))
def f_X12_meanOf (t_s : Nat → Int32) (x1 : Int32) (x2 : Int32) : Option (Int32) := bd1 (f_X12_first x1 x2) (fun (r_1 : Int32) => bd1 (l_X12_meanOf_13 t_s x1 1000 0 r_1) (fun (o3_4 : Int32) => gd (¬ ((x1 + 1) - r_1) = 0) (some ((1000 * o3_4) / ((x1 + 1) - r_1)))))
theorem k_X12_meanOf : KV yX12_meanOf cX12_meanOf 6 (some .int) 2 := ⟨qc_yX12_meanOf, q9, ⟨by decide +kernel, by decide +kernel, by decide +kernel⟩, qi_yX12_meanOf, qs_yX12_meanOf⟩
abbrev RM_X12_meanOf : Room := { frames := 1, cells := 0, slots := 0, locals := 21 }
set_option maxHeartbeats 4000000 in
set_option maxRecDepth 100000 in
theorem c_X12_meanOf (l : Launch) (G : GP) (a_t : Nat) (t_thrown : Int32) (a_t_states : Nat) (t_stateMany : Int32) (a_t_snapshot : Nat) (t_hasSnapshot : Int32) (a_t_text : Nat) (t_length : Int32) (t_at : Int32) (t_isWell : Int32) (a_t_read : Nat) (t_readMany : Int32) (a_t_prices : Nat) (t_priceMany : Int32) (t_pieceMany : Int32) (t_coins : Int64) (a_t_s : Nat) (t_s : Nat → Int32) (x1 : Int32) (x2 : Int32) (rr : Int32) (hf : f_X12_meanOf t_s x1 x2 = some rr) : RM l yX12_meanOf cX12_meanOf 6 (some .int) 1 21 G [.ref a_t, .int x1, .int x2] [(a_t, .inr (8, [.int t_thrown, .ref a_t_s, .ref a_t_states, .int t_stateMany, .ref a_t_snapshot, .int t_hasSnapshot, .ref a_t_text, .int t_length, .int t_at, .int t_isWell, .ref a_t_read, .int t_readMany, .ref a_t_prices, .int t_priceMany, .int t_pieceMany, .long t_coins])), (a_t_s, .inl (G.2.1, 68, .inl t_s))] (some (.int rr)) := by
  refine RM.ofW (C := RX12) (by decide) rfl (Nat.le_of_ble_eq_true rfl) ?_
  intro p e s m below meth c hF hr hlk hG hP ls hl
  have hl : lv_has ls 6 [(0, .ref a_t), (1, .int x1), (2, .int x2)] := hl
  have hx := hF.1
  have hb := hF.2.1
  have hml := hF.2.2.1
  have hown := hF.2.2.2.1
  have hts := hF.2.2.2.2
  unfold f_X12_meanOf at hf
  refine lv_iconst (v := 0) hx hb dX12_meanOf_0 (by decide) ?_
  refine lv_istore_n (lv' := [(3, .int 0), (0, .ref a_t), (1, .int x1), (2, .int x2)]) hx hb dX12_meanOf_1 rfl hl (by decide) rfl (fun ls hl => ?_)
  refine lv_iload_n hx hb dX12_meanOf_2 rfl (lv_at hl 2 rfl) ?_
  refine lv_iload_n hx hb dX12_meanOf_3 rfl (lv_at hl 3 rfl) ?_
  obtain ⟨r_1, hq, hf⟩ := bd1_some hf
  refine rdS (As := [.int x1, .int x2]) (rest := []) hF hG hP hl.1 (c_X12_first l G x1 x2 r_1 hq) k_X12_first q1127 [] rfl rfl rfl (Nat.le_of_ble_eq_true rfl) ⟨(Nat.le_of_ble_eq_true rfl), (Nat.le_of_ble_eq_true rfl)⟩ ⟨(Nat.zero_le _), (Nat.zero_le _)⟩ dX12_meanOf_4 ?_
  refine lv_istore (lv' := [(4, .int r_1), (3, .int 0), (0, .ref a_t), (1, .int x1), (2, .int x2)]) hx hb dX12_meanOf_7 hl (by decide) rfl (fun ls hl => ?_)
  refine lv_iload hx hb dX12_meanOf_9 (lv_at hl 0 rfl) ?_
  refine lv_istore (lv' := [(5, .int r_1), (4, .int r_1), (3, .int 0), (0, .ref a_t), (1, .int x1), (2, .int x2)]) hx hb dX12_meanOf_11 hl (by decide) rfl (fun ls hl => ?_)
  obtain ⟨o3_4, hq, hf⟩ := bd1_some hf
  have K13 : ∀ ls : Array Slot, lv_has ls 6 [(1, .int x1), (3, .int o3_4), (4, .int r_1)] → W p l e RM_X12_meanOf s m [.ref a_t, .int x1, .int x2].toArray below meth c s.heap [] 0 0 (MQ below (rdQ (some (.int rr))) [.ref a_t, .int x1, .int x2].toArray s 0 0 (fun _ => False)) (F0 m 34 ls []) := by
    intro ls hl
    refine lv_sipush (v := 1000) hx hb dX12_meanOf_34 (by decide) ?_
    refine lv_iload_n hx hb dX12_meanOf_37 rfl (lv_at hl 1 rfl) ?_
    refine lv_imul hx hb dX12_meanOf_38 ?_
    refine lv_iload_n hx hb dX12_meanOf_39 rfl (lv_at hl 0 rfl) ?_
    refine lv_iconst (v := 1) hx hb dX12_meanOf_40 (by decide) ?_
    refine lv_iadd hx hb dX12_meanOf_41 ?_
    refine lv_iload hx hb dX12_meanOf_42 (lv_at hl 2 rfl) ?_
    refine lv_isub hx hb dX12_meanOf_44 ?_
    obtain ⟨hg, hf⟩ := gd_some hf
    refine lv_idiv hx hb dX12_meanOf_45 hg ?_
    have hf : (some ((1000 * o3_4) / ((x1 + 1) - r_1)) : Option (Int32)) = some rr := hf
    cases hf
    exact re_i hF hr hlk dX12_meanOf_46 rfl
  clear hf
  have L13 : ∀ (n : Nat) (i3_2 : Int32) (i5_3 : Int32), l_X12_meanOf_13 t_s x1 n i3_2 i5_3 = some o3_4 → ∀ ls : Array Slot, lv_has ls 6 [(0, .ref a_t), (1, .int x1), (3, .int i3_2), (4, .int r_1), (5, .int i5_3)] → W p l e RM_X12_meanOf s m [.ref a_t, .int x1, .int x2].toArray below meth c s.heap [] 0 0 (MQ below (rdQ (some (.int rr))) [.ref a_t, .int x1, .int x2].toArray s 0 0 (fun _ => False)) (F0 m 13 ls []) := by
    intro n
    induction n with
    | zero =>
      intro i3_2 i5_3 hf
      exact nomatch (show none = some o3_4 from hf)
    | succ n ih =>
      intro i3_2 i5_3 hf ls hl
      rw [l_X12_meanOf_13] at hf
      refine lv_iload hx hb dX12_meanOf_13 (lv_at hl 4 rfl) ?_
      refine lv_iload_n hx hb dX12_meanOf_15 rfl (lv_at hl 1 rfl) ?_
      refine lv_icmp_gt (tgt := 34) hx hb dX12_meanOf_16 (by decide) (fun c0 => ?_) (fun c0 => ?_)
      · have hf := (if_pos c0).symm.trans hf
        have hf : (some i3_2 : Option (Int32)) = some o3_4 := hf
        cases hf
        exact K13 ls (lv_sub hl [1, 2, 3] rfl)
      · have hf := (if_neg c0).symm.trans hf
        refine lv_iload_n hx hb dX12_meanOf_19 rfl (lv_at hl 2 rfl) ?_
        refine lv_aload_n hx hb dX12_meanOf_20 rfl (lv_at hl 0 rfl) ?_
        refine lv_iload hx hb dX12_meanOf_21 (lv_at hl 4 rfl) ?_
        obtain ⟨r_5, hq, hf⟩ := bd1_some hf
        refine rdV (As := [.int i5_3]) (rest := [.int i3_2]) hF hG hP hl.1 (c_X12_of l G a_t t_thrown a_t_states t_stateMany a_t_snapshot t_hasSnapshot a_t_text t_length t_at t_isWell a_t_read t_readMany a_t_prices t_priceMany t_pieceMany t_coins a_t_s t_s i5_3 r_5 hq) k_X12_of q1111 [0, 1] rfl ⟨0, 8, _, _, rfl, rfl, rfl⟩ rfl rfl (Nat.le_of_ble_eq_true rfl) ⟨(Nat.le_of_ble_eq_true rfl), (Nat.le_of_ble_eq_true rfl)⟩ ⟨(Nat.zero_le _), (Nat.zero_le _)⟩ dX12_meanOf_23 ?_
        refine lv_iadd hx hb dX12_meanOf_26 ?_
        refine lv_istore_n (lv' := [(3, .int (i3_2 + r_5)), (0, .ref a_t), (1, .int x1), (4, .int r_1), (5, .int i5_3)]) hx hb dX12_meanOf_27 rfl hl (by decide) rfl (fun ls hl => ?_)
        refine lv_iinc (v := (i5_3 + 1)) (lv' := [(5, .int (i5_3 + 1)), (3, .int (i3_2 + r_5)), (0, .ref a_t), (1, .int x1), (4, .int r_1)]) hx hb dX12_meanOf_28 hl (k := 4) rfl rfl (by decide) rfl (fun ls hl => ?_)
        refine lv_goto (tgt := 13) hx hb dX12_meanOf_31 (by decide) ?_
        exact ih (i3_2 + r_5) (i5_3 + 1) hf ls (lv_sub hl [2, 3, 1, 4, 0] rfl)
  exact L13 1000 0 r_1 hq ls (lv_sub hl [3, 4, 2, 1, 0] rfl)
def f_X12_tellsMean (t_thrown : Int32) (t_s : Nat → Int32) (x1 : Int32) (x2 : Int32) : Option (Int32 × Int32) := bd1 (f_X12_isDay t_s x1) (fun (r_1 : Int32) => (if r_1 = 0 then bd2 (f_X12_fails 0 1) (fun (r_6 : Int32) (t_thrown_7 : Int32) => some (r_6, t_thrown_7)) else bd1 (f_X12_in x2 1 20) (fun (r_2 : Int32) => (if r_2 = 0 then bd2 (f_X12_fails 0 2) (fun (r_3 : Int32) (t_thrown_4 : Int32) => some (r_3, t_thrown_4)) else bd1 (f_X12_meanOf t_s x1 x2) (fun (r_5 : Int32) => some (r_5, 0))))))
theorem k_X12_tellsMean : KV yX12_tellsMean cX12_tellsMean 3 (some .int) 2 := ⟨qc_yX12_tellsMean, q9, ⟨by decide +kernel, by decide +kernel, by decide +kernel⟩, qi_yX12_tellsMean, qs_yX12_tellsMean⟩
abbrev RM_X12_tellsMean : Room := { frames := 2, cells := 0, slots := 0, locals := 46 }
set_option maxHeartbeats 4000000 in
set_option maxRecDepth 100000 in
theorem c_X12_tellsMean (l : Launch) (G : GP) (a_t : Nat) (t_thrown : Int32) (a_t_states : Nat) (t_stateMany : Int32) (a_t_snapshot : Nat) (t_hasSnapshot : Int32) (a_t_text : Nat) (t_length : Int32) (t_at : Int32) (t_isWell : Int32) (a_t_read : Nat) (t_readMany : Int32) (a_t_prices : Nat) (t_priceMany : Int32) (t_pieceMany : Int32) (t_coins : Int64) (a_t_s : Nat) (t_s : Nat → Int32) (x1 : Int32) (x2 : Int32) (rr : Int32) (w_t_thrown : Int32) (hf : f_X12_tellsMean t_thrown t_s x1 x2 = some (rr, w_t_thrown)) : WM l yX12_tellsMean cX12_tellsMean 3 (some .int) 2 46 G [.ref a_t, .int x1, .int x2] [(a_t, .inr (8, [.int t_thrown, .ref a_t_s, .ref a_t_states, .int t_stateMany, .ref a_t_snapshot, .int t_hasSnapshot, .ref a_t_text, .int t_length, .int t_at, .int t_isWell, .ref a_t_read, .int t_readMany, .ref a_t_prices, .int t_priceMany, .int t_pieceMany, .long t_coins])), (a_t_s, .inl (G.2.1, 68, .inl t_s))] (some (.int rr)) [(a_t, .inr (8, [.int w_t_thrown, .ref a_t_s, .ref a_t_states, .int t_stateMany, .ref a_t_snapshot, .int t_hasSnapshot, .ref a_t_text, .int t_length, .int t_at, .int t_isWell, .ref a_t_read, .int t_readMany, .ref a_t_prices, .int t_priceMany, .int t_pieceMany, .long t_coins])), (a_t_s, .inl (G.2.1, 68, .inl t_s))] := by
  refine WM.ofW (C := RX12) (by decide) rfl (Nat.le_of_ble_eq_true rfl) ?_
  intro p e s m below meth c A hF hr hlk hG hA hP hD ls hl
  have hl : lv_has ls 3 [(0, .ref a_t), (1, .int x1), (2, .int x2)] := hl
  have hx := hF.1
  have hb := hF.2.1
  have hml := hF.2.2.1
  have hown := hF.2.2.2.1
  have hts := hF.2.2.2.2
  have hS : va_S A s.heap s.heap [] := va_S.rf
  unfold f_X12_tellsMean at hf
  refine lv_aload_n hx hb dX12_tellsMean_0 rfl (lv_at hl 0 rfl) ?_
  refine lv_iconst (v := 0) hx hb dX12_tellsMean_1 (by decide) ?_
  refine pf (C := RX12) (T := TX12) (N := 16) (ci := 8) (v := .int 0) (ty := .int) hF hG hP hD hS inX12 tyX12 tyX12_ok nmX12 0 rfl rfl 0 (by decide) q1020 rfl rfl (by decide +kernel) rfl rfl (Nat.le_of_ble_eq_true rfl) dX12_tellsMean_2 (fun H locs hP hD hS => ?_)
  replace hP : va_P G.1 vwCl [(a_t, .inr (8, [.int 0, .ref a_t_s, .ref a_t_states, .int t_stateMany, .ref a_t_snapshot, .int t_hasSnapshot, .ref a_t_text, .int t_length, .int t_at, .int t_isWell, .ref a_t_read, .int t_readMany, .ref a_t_prices, .int t_priceMany, .int t_pieceMany, .long t_coins])), (a_t_s, .inl (G.2.1, 68, .inl t_s))] H := hP
  replace hD : va_D A [(a_t, .inr (8, [.int 0, .ref a_t_s, .ref a_t_states, .int t_stateMany, .ref a_t_snapshot, .int t_hasSnapshot, .ref a_t_text, .int t_length, .int t_at, .int t_isWell, .ref a_t_read, .int t_readMany, .ref a_t_prices, .int t_priceMany, .int t_pieceMany, .long t_coins])), (a_t_s, .inl (G.2.1, 68, .inl t_s))] := hD
  refine lv_aload_n hx hb dX12_tellsMean_5 rfl (lv_at hl 0 rfl) ?_
  refine lv_iload_n hx hb dX12_tellsMean_6 rfl (lv_at hl 1 rfl) ?_
  obtain ⟨r_1, hq, hf⟩ := bd1_some hf
  refine rdV (As := [.int x1]) (rest := []) hF hG hP hl.1 (c_X12_isDay l G a_t 0 a_t_states t_stateMany a_t_snapshot t_hasSnapshot a_t_text t_length t_at t_isWell a_t_read t_readMany a_t_prices t_priceMany t_pieceMany t_coins a_t_s t_s x1 r_1 hq) k_X12_isDay q1099 [0, 1] rfl ⟨0, 8, _, _, rfl, rfl, rfl⟩ rfl rfl (Nat.le_of_ble_eq_true rfl) ⟨(Nat.le_of_ble_eq_true rfl), (Nat.le_of_ble_eq_true rfl)⟩ ⟨(Nat.zero_le _), (Nat.zero_le _)⟩ dX12_tellsMean_7 ?_
  refine lv_if_ne (tgt := 19) hx hb dX12_tellsMean_10 (by decide) (fun c0 => ?_) (fun c0 => ?_)
  · have hf := (if_neg c0).symm.trans hf
    refine lv_iload_n hx hb dX12_tellsMean_19 rfl (lv_at hl 2 rfl) ?_
    refine lv_iconst (v := 1) hx hb dX12_tellsMean_20 (by decide) ?_
    refine lv_bipush (v := 20) hx hb dX12_tellsMean_21 (by decide) ?_
    obtain ⟨r_2, hq, hf⟩ := bd1_some hf
    refine rdS (As := [.int x2, .int 1, .int 20]) (rest := []) hF hG hP hl.1 (c_X12_in l G x2 1 20 r_2 hq) k_X12_in q1080 [] rfl rfl rfl (Nat.le_of_ble_eq_true rfl) ⟨(Nat.le_of_ble_eq_true rfl), (Nat.le_of_ble_eq_true rfl)⟩ ⟨(Nat.zero_le _), (Nat.zero_le _)⟩ dX12_tellsMean_23 ?_
    refine lv_if_eq (tgt := 38) hx hb dX12_tellsMean_26 (by decide) (fun c0 => ?_) (fun c0 => ?_)
    · have hf := (if_pos c0).symm.trans hf
      refine lv_aload_n hx hb dX12_tellsMean_38 rfl (lv_at hl 0 rfl) ?_
      refine lv_iconst (v := 2) hx hb dX12_tellsMean_39 (by decide) ?_
      obtain ⟨r_3, t_thrown_4, hq, hf⟩ := bd2_some hf
      refine wrV (As := [.int 2]) (rest := []) (wn := [(a_t, .inr (8, [.int t_thrown_4, .ref a_t_s, .ref a_t_states, .int t_stateMany, .ref a_t_snapshot, .int t_hasSnapshot, .ref a_t_text, .int t_length, .int t_at, .int t_isWell, .ref a_t_read, .int t_readMany, .ref a_t_prices, .int t_priceMany, .int t_pieceMany, .long t_coins])), (a_t_s, .inl (G.2.1, 68, .inl t_s))]) hF hG hP hD hS hA hl.1 (c_X12_fails l G a_t 0 a_t_s a_t_states t_stateMany a_t_snapshot t_hasSnapshot a_t_text t_length t_at t_isWell a_t_read t_readMany a_t_prices t_priceMany t_pieceMany t_coins 2 r_3 t_thrown_4 hq) k_X12_fails q1083 [0] [1] [1, 0] rfl rfl rfl rfl ⟨rfl, rfl⟩ (by decide) ⟨0, 8, _, _, rfl, rfl, rfl⟩ rfl rfl (Nat.le_of_ble_eq_true rfl) ⟨(Nat.le_of_ble_eq_true rfl), (Nat.le_of_ble_eq_true rfl)⟩ ⟨(Nat.le_of_ble_eq_true rfl), (Nat.le_of_ble_eq_true rfl)⟩ dX12_tellsMean_40 (fun H locs hP hD hS => ?_)
      have hf : (some (r_3, t_thrown_4) : Option (Int32 × Int32)) = some (rr, w_t_thrown) := hf
      cases hf
      exact we_i hF hr hlk hP hD hS dX12_tellsMean_43 rfl
    · have hf := (if_neg c0).symm.trans hf
      refine lv_aload_n hx hb dX12_tellsMean_29 rfl (lv_at hl 0 rfl) ?_
      refine lv_iload_n hx hb dX12_tellsMean_30 rfl (lv_at hl 1 rfl) ?_
      refine lv_iload_n hx hb dX12_tellsMean_31 rfl (lv_at hl 2 rfl) ?_
      obtain ⟨r_5, hq, hf⟩ := bd1_some hf
      refine rdV (As := [.int x1, .int x2]) (rest := []) hF hG hP hl.1 (c_X12_meanOf l G a_t 0 a_t_states t_stateMany a_t_snapshot t_hasSnapshot a_t_text t_length t_at t_isWell a_t_read t_readMany a_t_prices t_priceMany t_pieceMany t_coins a_t_s t_s x1 x2 r_5 hq) k_X12_meanOf q1258 [0, 1] rfl ⟨0, 8, _, _, rfl, rfl, rfl⟩ rfl rfl (Nat.le_of_ble_eq_true rfl) ⟨(Nat.le_of_ble_eq_true rfl), (Nat.le_of_ble_eq_true rfl)⟩ ⟨(Nat.zero_le _), (Nat.zero_le _)⟩ dX12_tellsMean_32 ?_
      refine lv_goto (tgt := 43) hx hb dX12_tellsMean_35 (by decide) ?_
      have hf : (some (r_5, 0) : Option (Int32 × Int32)) = some (rr, w_t_thrown) := hf
      cases hf
      exact we_i hF hr hlk hP hD hS dX12_tellsMean_43 rfl
  · have hf := (if_pos c0).symm.trans hf
    refine lv_aload_n hx hb dX12_tellsMean_13 rfl (lv_at hl 0 rfl) ?_
    refine lv_iconst (v := 1) hx hb dX12_tellsMean_14 (by decide) ?_
    obtain ⟨r_6, t_thrown_7, hq, hf⟩ := bd2_some hf
    refine wrV (As := [.int 1]) (rest := []) (wn := [(a_t, .inr (8, [.int t_thrown_7, .ref a_t_s, .ref a_t_states, .int t_stateMany, .ref a_t_snapshot, .int t_hasSnapshot, .ref a_t_text, .int t_length, .int t_at, .int t_isWell, .ref a_t_read, .int t_readMany, .ref a_t_prices, .int t_priceMany, .int t_pieceMany, .long t_coins])), (a_t_s, .inl (G.2.1, 68, .inl t_s))]) hF hG hP hD hS hA hl.1 (c_X12_fails l G a_t 0 a_t_s a_t_states t_stateMany a_t_snapshot t_hasSnapshot a_t_text t_length t_at t_isWell a_t_read t_readMany a_t_prices t_priceMany t_pieceMany t_coins 1 r_6 t_thrown_7 hq) k_X12_fails q1083 [0] [1] [1, 0] rfl rfl rfl rfl ⟨rfl, rfl⟩ (by decide) ⟨0, 8, _, _, rfl, rfl, rfl⟩ rfl rfl (Nat.le_of_ble_eq_true rfl) ⟨(Nat.le_of_ble_eq_true rfl), (Nat.le_of_ble_eq_true rfl)⟩ ⟨(Nat.le_of_ble_eq_true rfl), (Nat.le_of_ble_eq_true rfl)⟩ dX12_tellsMean_15 (fun H locs hP hD hS => ?_)
    have hf : (some (r_6, t_thrown_7) : Option (Int32 × Int32)) = some (rr, w_t_thrown) := hf
    cases hf
    exact we_i hF hr hlk hP hD hS dX12_tellsMean_18 rfl
def f_X12_mean (t_thrown : Int32) (t_s : Nat → Int32) (x1 : Int32) (x2 : Int32) : Option (Int32 × Int32) := bd2 (f_X12_tellsMean t_thrown t_s x1 x2) (fun (r_1 : Int32) (t_thrown_2 : Int32) => some (r_1, t_thrown_2))
theorem k_X12_mean : KV yX12_mean cX12_mean 3 (some .int) 2 := ⟨qc_yX12_mean, q9, ⟨by decide +kernel, by decide +kernel, by decide +kernel⟩, qi_yX12_mean, qs_yX12_mean⟩
abbrev RM_X12_mean : Room := { frames := 3, cells := 0, slots := 0, locals := 68 }
set_option maxHeartbeats 4000000 in
set_option maxRecDepth 100000 in
theorem c_X12_mean (l : Launch) (G : GP) (a_t : Nat) (t_thrown : Int32) (a_t_states : Nat) (t_stateMany : Int32) (a_t_snapshot : Nat) (t_hasSnapshot : Int32) (a_t_text : Nat) (t_length : Int32) (t_at : Int32) (t_isWell : Int32) (a_t_read : Nat) (t_readMany : Int32) (a_t_prices : Nat) (t_priceMany : Int32) (t_pieceMany : Int32) (t_coins : Int64) (a_t_s : Nat) (t_s : Nat → Int32) (x1 : Int32) (x2 : Int32) (rr : Int32) (w_t_thrown : Int32) (hf : f_X12_mean t_thrown t_s x1 x2 = some (rr, w_t_thrown)) : WM l yX12_mean cX12_mean 3 (some .int) 3 68 G [.ref a_t, .int x1, .int x2] [(a_t, .inr (8, [.int t_thrown, .ref a_t_s, .ref a_t_states, .int t_stateMany, .ref a_t_snapshot, .int t_hasSnapshot, .ref a_t_text, .int t_length, .int t_at, .int t_isWell, .ref a_t_read, .int t_readMany, .ref a_t_prices, .int t_priceMany, .int t_pieceMany, .long t_coins])), (a_t_s, .inl (G.2.1, 68, .inl t_s))] (some (.int rr)) [(a_t, .inr (8, [.int w_t_thrown, .ref a_t_s, .ref a_t_states, .int t_stateMany, .ref a_t_snapshot, .int t_hasSnapshot, .ref a_t_text, .int t_length, .int t_at, .int t_isWell, .ref a_t_read, .int t_readMany, .ref a_t_prices, .int t_priceMany, .int t_pieceMany, .long t_coins])), (a_t_s, .inl (G.2.1, 68, .inl t_s))] := by
  refine WM.ofW (C := RX12) (by decide) rfl (Nat.le_of_ble_eq_true rfl) ?_
  intro p e s m below meth c A hF hr hlk hG hA hP hD ls hl
  have hl : lv_has ls 3 [(0, .ref a_t), (1, .int x1), (2, .int x2)] := hl
  have hx := hF.1
  have hb := hF.2.1
  have hml := hF.2.2.1
  have hown := hF.2.2.2.1
  have hts := hF.2.2.2.2
  have hS : va_S A s.heap s.heap [] := va_S.rf
  unfold f_X12_mean at hf
  refine lv_aload_n hx hb dX12_mean_0 rfl (lv_at hl 0 rfl) ?_
  refine lv_iload_n hx hb dX12_mean_1 rfl (lv_at hl 1 rfl) ?_
  refine lv_iload_n hx hb dX12_mean_2 rfl (lv_at hl 2 rfl) ?_
  obtain ⟨r_1, t_thrown_2, hq, hf⟩ := bd2_some hf
  refine wrV (As := [.int x1, .int x2]) (rest := []) (wn := [(a_t, .inr (8, [.int t_thrown_2, .ref a_t_s, .ref a_t_states, .int t_stateMany, .ref a_t_snapshot, .int t_hasSnapshot, .ref a_t_text, .int t_length, .int t_at, .int t_isWell, .ref a_t_read, .int t_readMany, .ref a_t_prices, .int t_priceMany, .int t_pieceMany, .long t_coins])), (a_t_s, .inl (G.2.1, 68, .inl t_s))]) hF hG hP hD hS hA hl.1 (c_X12_tellsMean l G a_t t_thrown a_t_states t_stateMany a_t_snapshot t_hasSnapshot a_t_text t_length t_at t_isWell a_t_read t_readMany a_t_prices t_priceMany t_pieceMany t_coins a_t_s t_s x1 x2 r_1 t_thrown_2 hq) k_X12_tellsMean q1254 [0, 1] [] [0, 1] rfl rfl rfl rfl ⟨rfl, rfl⟩ (by decide) ⟨0, 8, _, _, rfl, rfl, rfl⟩ rfl rfl (Nat.le_of_ble_eq_true rfl) ⟨(Nat.le_of_ble_eq_true rfl), (Nat.le_of_ble_eq_true rfl)⟩ ⟨(Nat.le_of_ble_eq_true rfl), (Nat.le_of_ble_eq_true rfl)⟩ dX12_mean_3 (fun H locs hP hD hS => ?_)
  have hf : (some (r_1, t_thrown_2) : Option (Int32 × Int32)) = some (rr, w_t_thrown) := hf
  cases hf
  exact we_i hF hr hlk hP hD hS dX12_mean_6 rfl
def f_X12_meanBySums (t_thrown : Int32) (t_s : Nat → Int32) (x1 : Int32) (x2 : Int32) : Option (Int32 × Int32) := bd2 (f_X12_tellsMean t_thrown t_s x1 x2) (fun (r_1 : Int32) (t_thrown_2 : Int32) => some (r_1, t_thrown_2))
theorem k_X12_meanBySums : KV yX12_meanBySums cX12_meanBySums 3 (some .int) 2 := ⟨qc_yX12_meanBySums, q9, ⟨by decide +kernel, by decide +kernel, by decide +kernel⟩, qi_yX12_meanBySums, qs_yX12_meanBySums⟩
abbrev RM_X12_meanBySums : Room := { frames := 3, cells := 0, slots := 0, locals := 68 }
set_option maxHeartbeats 4000000 in
set_option maxRecDepth 100000 in
theorem c_X12_meanBySums (l : Launch) (G : GP) (a_t : Nat) (t_thrown : Int32) (a_t_states : Nat) (t_stateMany : Int32) (a_t_snapshot : Nat) (t_hasSnapshot : Int32) (a_t_text : Nat) (t_length : Int32) (t_at : Int32) (t_isWell : Int32) (a_t_read : Nat) (t_readMany : Int32) (a_t_prices : Nat) (t_priceMany : Int32) (t_pieceMany : Int32) (t_coins : Int64) (a_t_s : Nat) (t_s : Nat → Int32) (x1 : Int32) (x2 : Int32) (rr : Int32) (w_t_thrown : Int32) (hf : f_X12_meanBySums t_thrown t_s x1 x2 = some (rr, w_t_thrown)) : WM l yX12_meanBySums cX12_meanBySums 3 (some .int) 3 68 G [.ref a_t, .int x1, .int x2] [(a_t, .inr (8, [.int t_thrown, .ref a_t_s, .ref a_t_states, .int t_stateMany, .ref a_t_snapshot, .int t_hasSnapshot, .ref a_t_text, .int t_length, .int t_at, .int t_isWell, .ref a_t_read, .int t_readMany, .ref a_t_prices, .int t_priceMany, .int t_pieceMany, .long t_coins])), (a_t_s, .inl (G.2.1, 68, .inl t_s))] (some (.int rr)) [(a_t, .inr (8, [.int w_t_thrown, .ref a_t_s, .ref a_t_states, .int t_stateMany, .ref a_t_snapshot, .int t_hasSnapshot, .ref a_t_text, .int t_length, .int t_at, .int t_isWell, .ref a_t_read, .int t_readMany, .ref a_t_prices, .int t_priceMany, .int t_pieceMany, .long t_coins])), (a_t_s, .inl (G.2.1, 68, .inl t_s))] := by
  refine WM.ofW (C := RX12) (by decide) rfl (Nat.le_of_ble_eq_true rfl) ?_
  intro p e s m below meth c A hF hr hlk hG hA hP hD ls hl
  have hl : lv_has ls 3 [(0, .ref a_t), (1, .int x1), (2, .int x2)] := hl
  have hx := hF.1
  have hb := hF.2.1
  have hml := hF.2.2.1
  have hown := hF.2.2.2.1
  have hts := hF.2.2.2.2
  have hS : va_S A s.heap s.heap [] := va_S.rf
  unfold f_X12_meanBySums at hf
  refine lv_aload_n hx hb dX12_meanBySums_0 rfl (lv_at hl 0 rfl) ?_
  refine lv_iload_n hx hb dX12_meanBySums_1 rfl (lv_at hl 1 rfl) ?_
  refine lv_iload_n hx hb dX12_meanBySums_2 rfl (lv_at hl 2 rfl) ?_
  obtain ⟨r_1, t_thrown_2, hq, hf⟩ := bd2_some hf
  refine wrV (As := [.int x1, .int x2]) (rest := []) (wn := [(a_t, .inr (8, [.int t_thrown_2, .ref a_t_s, .ref a_t_states, .int t_stateMany, .ref a_t_snapshot, .int t_hasSnapshot, .ref a_t_text, .int t_length, .int t_at, .int t_isWell, .ref a_t_read, .int t_readMany, .ref a_t_prices, .int t_priceMany, .int t_pieceMany, .long t_coins])), (a_t_s, .inl (G.2.1, 68, .inl t_s))]) hF hG hP hD hS hA hl.1 (c_X12_tellsMean l G a_t t_thrown a_t_states t_stateMany a_t_snapshot t_hasSnapshot a_t_text t_length t_at t_isWell a_t_read t_readMany a_t_prices t_priceMany t_pieceMany t_coins a_t_s t_s x1 x2 r_1 t_thrown_2 hq) k_X12_tellsMean q1254 [0, 1] [] [0, 1] rfl rfl rfl rfl ⟨rfl, rfl⟩ (by decide) ⟨0, 8, _, _, rfl, rfl, rfl⟩ rfl rfl (Nat.le_of_ble_eq_true rfl) ⟨(Nat.le_of_ble_eq_true rfl), (Nat.le_of_ble_eq_true rfl)⟩ ⟨(Nat.le_of_ble_eq_true rfl), (Nat.le_of_ble_eq_true rfl)⟩ dX12_meanBySums_3 (fun H locs hP hD hS => ?_)
  have hf : (some (r_1, t_thrown_2) : Option (Int32 × Int32)) = some (rr, w_t_thrown) := hf
  cases hf
  exact we_i hF hr hlk hP hD hS dX12_meanBySums_6 rfl
def l_X12_weighted_20 (t_s : Nat → Int32) (x1 : Int32) (r_1 : Int32) : Nat → Int32 → Int32 → Int32 → Option (Int32 × Int32)
  | 0, _, _, _ => none
  | n + 1, i2_2, i3_3, i5_4 => (if x1 < i5_4 then some (i2_2, i3_3) else bd1 (f_X12_of t_s i5_4) (fun (r_7 : Int32) => l_X12_weighted_20 t_s x1 r_1 n (i2_2 + (((i5_4 - r_1) + 1) * r_7)) (i3_3 + ((i5_4 - r_1) + 1)) (i5_4 + 1)))
def f_X12_weighted (t_s : Nat → Int32) (x1 : Int32) : Option (Int32) := bd1 (f_X12_first x1 (t_s 2)) (fun (r_1 : Int32) => bd2 (l_X12_weighted_20 t_s x1 r_1 1000 0 0 r_1) (fun (o2_5 : Int32) (o3_6 : Int32) => gd (¬ (Int32.toInt64 o3_6) = 0) (some (Int64.toInt32 ((1000 * (Int32.toInt64 o2_5)) / (Int32.toInt64 o3_6))))))
theorem k_X12_weighted : KV yX12_weighted cX12_weighted 6 (some .int) 1 := ⟨qc_yX12_weighted, q9, ⟨by decide +kernel, by decide +kernel, by decide +kernel⟩, qi_yX12_weighted, qs_yX12_weighted⟩
abbrev RM_X12_weighted : Room := { frames := 1, cells := 0, slots := 0, locals := 21 }
set_option maxHeartbeats 4000000 in
set_option maxRecDepth 100000 in
theorem c_X12_weighted (l : Launch) (G : GP) (a_t : Nat) (t_thrown : Int32) (a_t_states : Nat) (t_stateMany : Int32) (a_t_snapshot : Nat) (t_hasSnapshot : Int32) (a_t_text : Nat) (t_length : Int32) (t_at : Int32) (t_isWell : Int32) (a_t_read : Nat) (t_readMany : Int32) (a_t_prices : Nat) (t_priceMany : Int32) (t_pieceMany : Int32) (t_coins : Int64) (a_t_s : Nat) (t_s : Nat → Int32) (x1 : Int32) (rr : Int32) (hf : f_X12_weighted t_s x1 = some rr) : RM l yX12_weighted cX12_weighted 6 (some .int) 1 21 G [.ref a_t, .int x1] [(a_t, .inr (8, [.int t_thrown, .ref a_t_s, .ref a_t_states, .int t_stateMany, .ref a_t_snapshot, .int t_hasSnapshot, .ref a_t_text, .int t_length, .int t_at, .int t_isWell, .ref a_t_read, .int t_readMany, .ref a_t_prices, .int t_priceMany, .int t_pieceMany, .long t_coins])), (a_t_s, .inl (G.2.1, 68, .inl t_s))] (some (.int rr)) := by
  refine RM.ofW (C := RX12) (by decide) rfl (Nat.le_of_ble_eq_true rfl) ?_
  intro p e s m below meth c hF hr hlk hG hP ls hl
  have hl : lv_has ls 6 [(0, .ref a_t), (1, .int x1)] := hl
  have hx := hF.1
  have hb := hF.2.1
  have hml := hF.2.2.1
  have hown := hF.2.2.2.1
  have hts := hF.2.2.2.2
  unfold f_X12_weighted at hf
  refine lv_iconst (v := 0) hx hb dX12_weighted_0 (by decide) ?_
  refine lv_istore_n (lv' := [(2, .int 0), (0, .ref a_t), (1, .int x1)]) hx hb dX12_weighted_1 rfl hl (by decide) rfl (fun ls hl => ?_)
  refine lv_iconst (v := 0) hx hb dX12_weighted_2 (by decide) ?_
  refine lv_istore_n (lv' := [(3, .int 0), (2, .int 0), (0, .ref a_t), (1, .int x1)]) hx hb dX12_weighted_3 rfl hl (by decide) rfl (fun ls hl => ?_)
  refine lv_iload_n hx hb dX12_weighted_4 rfl (lv_at hl 3 rfl) ?_
  refine lv_aload_n hx hb dX12_weighted_5 rfl (lv_at hl 2 rfl) ?_
  refine gf (C := RX12) (T := TX12) (N := 16) (ci := 8) (v := .ref a_t_s) hF hG hP inX12 0 rfl rfl 1 (by decide) q1021 rfl rfl dX12_weighted_6 ?_
  refine lv_iconst (v := 2) hx hb dX12_weighted_9 (by decide) ?_
  refine ald_i (k := 2) hF hG hP 1 rfl (by decide) (by decide) dX12_weighted_10 ?_
  obtain ⟨r_1, hq, hf⟩ := bd1_some hf
  refine rdS (As := [.int x1, .int (t_s 2)]) (rest := []) hF hG hP hl.1 (c_X12_first l G x1 (t_s 2) r_1 hq) k_X12_first q1127 [] rfl rfl rfl (Nat.le_of_ble_eq_true rfl) ⟨(Nat.le_of_ble_eq_true rfl), (Nat.le_of_ble_eq_true rfl)⟩ ⟨(Nat.zero_le _), (Nat.zero_le _)⟩ dX12_weighted_11 ?_
  refine lv_istore (lv' := [(4, .int r_1), (3, .int 0), (2, .int 0), (0, .ref a_t), (1, .int x1)]) hx hb dX12_weighted_14 hl (by decide) rfl (fun ls hl => ?_)
  refine lv_iload hx hb dX12_weighted_16 (lv_at hl 0 rfl) ?_
  refine lv_istore (lv' := [(5, .int r_1), (4, .int r_1), (3, .int 0), (2, .int 0), (0, .ref a_t), (1, .int x1)]) hx hb dX12_weighted_18 hl (by decide) rfl (fun ls hl => ?_)
  obtain ⟨o2_5, o3_6, hq, hf⟩ := bd2_some hf
  have K20 : ∀ ls : Array Slot, lv_has ls 6 [(2, .int o2_5), (3, .int o3_6)] → W p l e RM_X12_weighted s m [.ref a_t, .int x1].toArray below meth c s.heap [] 0 0 (MQ below (rdQ (some (.int rr))) [.ref a_t, .int x1].toArray s 0 0 (fun _ => False)) (F0 m 59 ls []) := by
    intro ls hl
    refine lv_ldc2 (v := 1000) hx hb hown (hts _ (List.mem_cons_of_mem _ q1274)) dX12_weighted_59 ?_
    refine lv_iload_n hx hb dX12_weighted_62 rfl (lv_at hl 0 rfl) ?_
    refine lv_i2l (v := (Int32.toInt64 o2_5)) hx hb dX12_weighted_63 rfl ?_
    refine lv_lmul hx hb dX12_weighted_64 ?_
    refine lv_iload_n hx hb dX12_weighted_65 rfl (lv_at hl 1 rfl) ?_
    refine lv_i2l (v := (Int32.toInt64 o3_6)) hx hb dX12_weighted_66 rfl ?_
    obtain ⟨hg, hf⟩ := gd_some hf
    refine lv_ldiv hx hb dX12_weighted_67 hg ?_
    refine lv_l2i (v := (Int64.toInt32 ((1000 * (Int32.toInt64 o2_5)) / (Int32.toInt64 o3_6)))) hx hb dX12_weighted_68 rfl ?_
    have hf : (some (Int64.toInt32 ((1000 * (Int32.toInt64 o2_5)) / (Int32.toInt64 o3_6))) : Option (Int32)) = some rr := hf
    cases hf
    exact re_i hF hr hlk dX12_weighted_69 rfl
  clear hf
  have L20 : ∀ (n : Nat) (i2_2 : Int32) (i3_3 : Int32) (i5_4 : Int32), l_X12_weighted_20 t_s x1 r_1 n i2_2 i3_3 i5_4 = some (o2_5, o3_6) → ∀ ls : Array Slot, lv_has ls 6 [(0, .ref a_t), (1, .int x1), (2, .int i2_2), (3, .int i3_3), (4, .int r_1), (5, .int i5_4)] → W p l e RM_X12_weighted s m [.ref a_t, .int x1].toArray below meth c s.heap [] 0 0 (MQ below (rdQ (some (.int rr))) [.ref a_t, .int x1].toArray s 0 0 (fun _ => False)) (F0 m 20 ls []) := by
    intro n
    induction n with
    | zero =>
      intro i2_2 i3_3 i5_4 hf
      exact nomatch (show none = some (o2_5, o3_6) from hf)
    | succ n ih =>
      intro i2_2 i3_3 i5_4 hf ls hl
      rw [l_X12_weighted_20] at hf
      refine lv_iload hx hb dX12_weighted_20 (lv_at hl 5 rfl) ?_
      refine lv_iload_n hx hb dX12_weighted_22 rfl (lv_at hl 1 rfl) ?_
      refine lv_icmp_gt (tgt := 59) hx hb dX12_weighted_23 (by decide) (fun c0 => ?_) (fun c0 => ?_)
      · have hf := (if_pos c0).symm.trans hf
        have hf : (some (i2_2, i3_3) : Option (Int32 × Int32)) = some (o2_5, o3_6) := hf
        cases hf
        exact K20 ls (lv_sub hl [2, 3] rfl)
      · have hf := (if_neg c0).symm.trans hf
        refine lv_iload_n hx hb dX12_weighted_26 rfl (lv_at hl 2 rfl) ?_
        refine lv_iload hx hb dX12_weighted_27 (lv_at hl 5 rfl) ?_
        refine lv_iload hx hb dX12_weighted_29 (lv_at hl 4 rfl) ?_
        refine lv_isub hx hb dX12_weighted_31 ?_
        refine lv_iconst (v := 1) hx hb dX12_weighted_32 (by decide) ?_
        refine lv_iadd hx hb dX12_weighted_33 ?_
        refine lv_aload_n hx hb dX12_weighted_34 rfl (lv_at hl 0 rfl) ?_
        refine lv_iload hx hb dX12_weighted_35 (lv_at hl 5 rfl) ?_
        obtain ⟨r_7, hq, hf⟩ := bd1_some hf
        refine rdV (As := [.int i5_4]) (rest := [.int ((i5_4 - r_1) + 1), .int i2_2]) hF hG hP hl.1 (c_X12_of l G a_t t_thrown a_t_states t_stateMany a_t_snapshot t_hasSnapshot a_t_text t_length t_at t_isWell a_t_read t_readMany a_t_prices t_priceMany t_pieceMany t_coins a_t_s t_s i5_4 r_7 hq) k_X12_of q1111 [0, 1] rfl ⟨0, 8, _, _, rfl, rfl, rfl⟩ rfl rfl (Nat.le_of_ble_eq_true rfl) ⟨(Nat.le_of_ble_eq_true rfl), (Nat.le_of_ble_eq_true rfl)⟩ ⟨(Nat.zero_le _), (Nat.zero_le _)⟩ dX12_weighted_37 ?_
        refine lv_imul hx hb dX12_weighted_40 ?_
        refine lv_iadd hx hb dX12_weighted_41 ?_
        refine lv_istore_n (lv' := [(2, .int (i2_2 + (((i5_4 - r_1) + 1) * r_7))), (0, .ref a_t), (1, .int x1), (3, .int i3_3), (4, .int r_1), (5, .int i5_4)]) hx hb dX12_weighted_42 rfl hl (by decide) rfl (fun ls hl => ?_)
        refine lv_iload_n hx hb dX12_weighted_43 rfl (lv_at hl 3 rfl) ?_
        refine lv_iload hx hb dX12_weighted_44 (lv_at hl 5 rfl) ?_
        refine lv_iload hx hb dX12_weighted_46 (lv_at hl 4 rfl) ?_
        refine lv_isub hx hb dX12_weighted_48 ?_
        refine lv_iconst (v := 1) hx hb dX12_weighted_49 (by decide) ?_
        refine lv_iadd hx hb dX12_weighted_50 ?_
        refine lv_iadd hx hb dX12_weighted_51 ?_
        refine lv_istore_n (lv' := [(3, .int (i3_3 + ((i5_4 - r_1) + 1))), (2, .int (i2_2 + (((i5_4 - r_1) + 1) * r_7))), (0, .ref a_t), (1, .int x1), (4, .int r_1), (5, .int i5_4)]) hx hb dX12_weighted_52 rfl hl (by decide) rfl (fun ls hl => ?_)
        refine lv_iinc (v := (i5_4 + 1)) (lv' := [(5, .int (i5_4 + 1)), (3, .int (i3_3 + ((i5_4 - r_1) + 1))), (2, .int (i2_2 + (((i5_4 - r_1) + 1) * r_7))), (0, .ref a_t), (1, .int x1), (4, .int r_1)]) hx hb dX12_weighted_53 hl (k := 5) rfl rfl (by decide) rfl (fun ls hl => ?_)
        refine lv_goto (tgt := 20) hx hb dX12_weighted_56 (by decide) ?_
        exact ih (i2_2 + (((i5_4 - r_1) + 1) * r_7)) (i3_3 + ((i5_4 - r_1) + 1)) (i5_4 + 1) hf ls (lv_sub hl [3, 4, 2, 1, 5, 0] rfl)
  exact L20 1000 0 0 r_1 hq ls (lv_sub hl [4, 5, 3, 2, 1, 0] rfl)
def f_X12_weightedMean (t_thrown : Int32) (t_s : Nat → Int32) (x1 : Int32) : Option (Int32 × Int32) := bd1 (f_X12_isDay t_s x1) (fun (r_1 : Int32) => (if r_1 = 0 then bd2 (f_X12_fails 0 1) (fun (r_2 : Int32) (t_thrown_3 : Int32) => some (r_2, t_thrown_3)) else bd1 (f_X12_weighted t_s x1) (fun (r_4 : Int32) => some (r_4, 0))))
theorem k_X12_weightedMean : KV yX12_weightedMean cX12_weightedMean 2 (some .int) 1 := ⟨qc_yX12_weightedMean, q9, ⟨by decide +kernel, by decide +kernel, by decide +kernel⟩, qi_yX12_weightedMean, qs_yX12_weightedMean⟩
abbrev RM_X12_weightedMean : Room := { frames := 2, cells := 0, slots := 0, locals := 46 }
set_option maxHeartbeats 4000000 in
set_option maxRecDepth 100000 in
theorem c_X12_weightedMean (l : Launch) (G : GP) (a_t : Nat) (t_thrown : Int32) (a_t_states : Nat) (t_stateMany : Int32) (a_t_snapshot : Nat) (t_hasSnapshot : Int32) (a_t_text : Nat) (t_length : Int32) (t_at : Int32) (t_isWell : Int32) (a_t_read : Nat) (t_readMany : Int32) (a_t_prices : Nat) (t_priceMany : Int32) (t_pieceMany : Int32) (t_coins : Int64) (a_t_s : Nat) (t_s : Nat → Int32) (x1 : Int32) (rr : Int32) (w_t_thrown : Int32) (hf : f_X12_weightedMean t_thrown t_s x1 = some (rr, w_t_thrown)) : WM l yX12_weightedMean cX12_weightedMean 2 (some .int) 2 46 G [.ref a_t, .int x1] [(a_t, .inr (8, [.int t_thrown, .ref a_t_s, .ref a_t_states, .int t_stateMany, .ref a_t_snapshot, .int t_hasSnapshot, .ref a_t_text, .int t_length, .int t_at, .int t_isWell, .ref a_t_read, .int t_readMany, .ref a_t_prices, .int t_priceMany, .int t_pieceMany, .long t_coins])), (a_t_s, .inl (G.2.1, 68, .inl t_s))] (some (.int rr)) [(a_t, .inr (8, [.int w_t_thrown, .ref a_t_s, .ref a_t_states, .int t_stateMany, .ref a_t_snapshot, .int t_hasSnapshot, .ref a_t_text, .int t_length, .int t_at, .int t_isWell, .ref a_t_read, .int t_readMany, .ref a_t_prices, .int t_priceMany, .int t_pieceMany, .long t_coins])), (a_t_s, .inl (G.2.1, 68, .inl t_s))] := by
  refine WM.ofW (C := RX12) (by decide) rfl (Nat.le_of_ble_eq_true rfl) ?_
  intro p e s m below meth c A hF hr hlk hG hA hP hD ls hl
  have hl : lv_has ls 2 [(0, .ref a_t), (1, .int x1)] := hl
  have hx := hF.1
  have hb := hF.2.1
  have hml := hF.2.2.1
  have hown := hF.2.2.2.1
  have hts := hF.2.2.2.2
  have hS : va_S A s.heap s.heap [] := va_S.rf
  unfold f_X12_weightedMean at hf
  refine lv_aload_n hx hb dX12_weightedMean_0 rfl (lv_at hl 0 rfl) ?_
  refine lv_iconst (v := 0) hx hb dX12_weightedMean_1 (by decide) ?_
  refine pf (C := RX12) (T := TX12) (N := 16) (ci := 8) (v := .int 0) (ty := .int) hF hG hP hD hS inX12 tyX12 tyX12_ok nmX12 0 rfl rfl 0 (by decide) q1020 rfl rfl (by decide +kernel) rfl rfl (Nat.le_of_ble_eq_true rfl) dX12_weightedMean_2 (fun H locs hP hD hS => ?_)
  replace hP : va_P G.1 vwCl [(a_t, .inr (8, [.int 0, .ref a_t_s, .ref a_t_states, .int t_stateMany, .ref a_t_snapshot, .int t_hasSnapshot, .ref a_t_text, .int t_length, .int t_at, .int t_isWell, .ref a_t_read, .int t_readMany, .ref a_t_prices, .int t_priceMany, .int t_pieceMany, .long t_coins])), (a_t_s, .inl (G.2.1, 68, .inl t_s))] H := hP
  replace hD : va_D A [(a_t, .inr (8, [.int 0, .ref a_t_s, .ref a_t_states, .int t_stateMany, .ref a_t_snapshot, .int t_hasSnapshot, .ref a_t_text, .int t_length, .int t_at, .int t_isWell, .ref a_t_read, .int t_readMany, .ref a_t_prices, .int t_priceMany, .int t_pieceMany, .long t_coins])), (a_t_s, .inl (G.2.1, 68, .inl t_s))] := hD
  refine lv_aload_n hx hb dX12_weightedMean_5 rfl (lv_at hl 0 rfl) ?_
  refine lv_iload_n hx hb dX12_weightedMean_6 rfl (lv_at hl 1 rfl) ?_
  obtain ⟨r_1, hq, hf⟩ := bd1_some hf
  refine rdV (As := [.int x1]) (rest := []) hF hG hP hl.1 (c_X12_isDay l G a_t 0 a_t_states t_stateMany a_t_snapshot t_hasSnapshot a_t_text t_length t_at t_isWell a_t_read t_readMany a_t_prices t_priceMany t_pieceMany t_coins a_t_s t_s x1 r_1 hq) k_X12_isDay q1099 [0, 1] rfl ⟨0, 8, _, _, rfl, rfl, rfl⟩ rfl rfl (Nat.le_of_ble_eq_true rfl) ⟨(Nat.le_of_ble_eq_true rfl), (Nat.le_of_ble_eq_true rfl)⟩ ⟨(Nat.zero_le _), (Nat.zero_le _)⟩ dX12_weightedMean_7 ?_
  refine lv_if_eq (tgt := 21) hx hb dX12_weightedMean_10 (by decide) (fun c0 => ?_) (fun c0 => ?_)
  · have hf := (if_pos c0).symm.trans hf
    refine lv_aload_n hx hb dX12_weightedMean_21 rfl (lv_at hl 0 rfl) ?_
    refine lv_iconst (v := 1) hx hb dX12_weightedMean_22 (by decide) ?_
    obtain ⟨r_2, t_thrown_3, hq, hf⟩ := bd2_some hf
    refine wrV (As := [.int 1]) (rest := []) (wn := [(a_t, .inr (8, [.int t_thrown_3, .ref a_t_s, .ref a_t_states, .int t_stateMany, .ref a_t_snapshot, .int t_hasSnapshot, .ref a_t_text, .int t_length, .int t_at, .int t_isWell, .ref a_t_read, .int t_readMany, .ref a_t_prices, .int t_priceMany, .int t_pieceMany, .long t_coins])), (a_t_s, .inl (G.2.1, 68, .inl t_s))]) hF hG hP hD hS hA hl.1 (c_X12_fails l G a_t 0 a_t_s a_t_states t_stateMany a_t_snapshot t_hasSnapshot a_t_text t_length t_at t_isWell a_t_read t_readMany a_t_prices t_priceMany t_pieceMany t_coins 1 r_2 t_thrown_3 hq) k_X12_fails q1083 [0] [1] [1, 0] rfl rfl rfl rfl ⟨rfl, rfl⟩ (by decide) ⟨0, 8, _, _, rfl, rfl, rfl⟩ rfl rfl (Nat.le_of_ble_eq_true rfl) ⟨(Nat.le_of_ble_eq_true rfl), (Nat.le_of_ble_eq_true rfl)⟩ ⟨(Nat.le_of_ble_eq_true rfl), (Nat.le_of_ble_eq_true rfl)⟩ dX12_weightedMean_23 (fun H locs hP hD hS => ?_)
    have hf : (some (r_2, t_thrown_3) : Option (Int32 × Int32)) = some (rr, w_t_thrown) := hf
    cases hf
    exact we_i hF hr hlk hP hD hS dX12_weightedMean_26 rfl
  · have hf := (if_neg c0).symm.trans hf
    refine lv_aload_n hx hb dX12_weightedMean_13 rfl (lv_at hl 0 rfl) ?_
    refine lv_iload_n hx hb dX12_weightedMean_14 rfl (lv_at hl 1 rfl) ?_
    obtain ⟨r_4, hq, hf⟩ := bd1_some hf
    refine rdV (As := [.int x1]) (rest := []) hF hG hP hl.1 (c_X12_weighted l G a_t 0 a_t_states t_stateMany a_t_snapshot t_hasSnapshot a_t_text t_length t_at t_isWell a_t_read t_readMany a_t_prices t_priceMany t_pieceMany t_coins a_t_s t_s x1 r_4 hq) k_X12_weighted q1270 [0, 1] rfl ⟨0, 8, _, _, rfl, rfl, rfl⟩ rfl rfl (Nat.le_of_ble_eq_true rfl) ⟨(Nat.le_of_ble_eq_true rfl), (Nat.le_of_ble_eq_true rfl)⟩ ⟨(Nat.zero_le _), (Nat.zero_le _)⟩ dX12_weightedMean_15 ?_
    refine lv_goto (tgt := 26) hx hb dX12_weightedMean_18 (by decide) ?_
    have hf : (some (r_4, 0) : Option (Int32 × Int32)) = some (rr, w_t_thrown) := hf
    cases hf
    exact we_i hF hr hlk hP hD hS dX12_weightedMean_26 rfl
def l_X12_smooth_12 (t_s : Nat → Int32) (x1 : Int32) : Nat → Int32 → Int32 → Option (Int32)
  | 0, _, _ => none
  | n + 1, i2_2, i3_3 => (if x1 < i3_3 then some i2_2 else bd1 (f_X12_of t_s i3_3) (fun (r_5 : Int32) => l_X12_smooth_12 t_s x1 n ((((t_s 3) * i2_2) + (((10 - (t_s 3)) * 1000) * r_5)) / 10) (i3_3 + 1)))
def f_X12_smooth (t_s : Nat → Int32) (x1 : Int32) : Option (Int32) := bd1 (f_X12_of t_s 0) (fun (r_1 : Int32) => bd1 (l_X12_smooth_12 t_s x1 1000 (1000 * r_1) 1) (fun (o2_4 : Int32) => some o2_4))
theorem k_X12_smooth : KV yX12_smooth cX12_smooth 4 (some .int) 1 := ⟨qc_yX12_smooth, q9, ⟨by decide +kernel, by decide +kernel, by decide +kernel⟩, qi_yX12_smooth, qs_yX12_smooth⟩
abbrev RM_X12_smooth : Room := { frames := 1, cells := 0, slots := 0, locals := 21 }
set_option maxHeartbeats 4000000 in
set_option maxRecDepth 100000 in
theorem c_X12_smooth (l : Launch) (G : GP) (a_t : Nat) (t_thrown : Int32) (a_t_states : Nat) (t_stateMany : Int32) (a_t_snapshot : Nat) (t_hasSnapshot : Int32) (a_t_text : Nat) (t_length : Int32) (t_at : Int32) (t_isWell : Int32) (a_t_read : Nat) (t_readMany : Int32) (a_t_prices : Nat) (t_priceMany : Int32) (t_pieceMany : Int32) (t_coins : Int64) (a_t_s : Nat) (t_s : Nat → Int32) (x1 : Int32) (rr : Int32) (hf : f_X12_smooth t_s x1 = some rr) : RM l yX12_smooth cX12_smooth 4 (some .int) 1 21 G [.ref a_t, .int x1] [(a_t, .inr (8, [.int t_thrown, .ref a_t_s, .ref a_t_states, .int t_stateMany, .ref a_t_snapshot, .int t_hasSnapshot, .ref a_t_text, .int t_length, .int t_at, .int t_isWell, .ref a_t_read, .int t_readMany, .ref a_t_prices, .int t_priceMany, .int t_pieceMany, .long t_coins])), (a_t_s, .inl (G.2.1, 68, .inl t_s))] (some (.int rr)) := by
  refine RM.ofW (C := RX12) (by decide) rfl (Nat.le_of_ble_eq_true rfl) ?_
  intro p e s m below meth c hF hr hlk hG hP ls hl
  have hl : lv_has ls 4 [(0, .ref a_t), (1, .int x1)] := hl
  have hx := hF.1
  have hb := hF.2.1
  have hml := hF.2.2.1
  have hown := hF.2.2.2.1
  have hts := hF.2.2.2.2
  unfold f_X12_smooth at hf
  refine lv_sipush (v := 1000) hx hb dX12_smooth_0 (by decide) ?_
  refine lv_aload_n hx hb dX12_smooth_3 rfl (lv_at hl 0 rfl) ?_
  refine lv_iconst (v := 0) hx hb dX12_smooth_4 (by decide) ?_
  obtain ⟨r_1, hq, hf⟩ := bd1_some hf
  refine rdV (As := [.int 0]) (rest := [.int 1000]) hF hG hP hl.1 (c_X12_of l G a_t t_thrown a_t_states t_stateMany a_t_snapshot t_hasSnapshot a_t_text t_length t_at t_isWell a_t_read t_readMany a_t_prices t_priceMany t_pieceMany t_coins a_t_s t_s 0 r_1 hq) k_X12_of q1111 [0, 1] rfl ⟨0, 8, _, _, rfl, rfl, rfl⟩ rfl rfl (Nat.le_of_ble_eq_true rfl) ⟨(Nat.le_of_ble_eq_true rfl), (Nat.le_of_ble_eq_true rfl)⟩ ⟨(Nat.zero_le _), (Nat.zero_le _)⟩ dX12_smooth_5 ?_
  refine lv_imul hx hb dX12_smooth_8 ?_
  refine lv_istore_n (lv' := [(2, .int (1000 * r_1)), (0, .ref a_t), (1, .int x1)]) hx hb dX12_smooth_9 rfl hl (by decide) rfl (fun ls hl => ?_)
  refine lv_iconst (v := 1) hx hb dX12_smooth_10 (by decide) ?_
  refine lv_istore_n (lv' := [(3, .int 1), (2, .int (1000 * r_1)), (0, .ref a_t), (1, .int x1)]) hx hb dX12_smooth_11 rfl hl (by decide) rfl (fun ls hl => ?_)
  obtain ⟨o2_4, hq, hf⟩ := bd1_some hf
  have K12 : ∀ ls : Array Slot, lv_has ls 4 [(2, .int o2_4)] → W p l e RM_X12_smooth s m [.ref a_t, .int x1].toArray below meth c s.heap [] 0 0 (MQ below (rdQ (some (.int rr))) [.ref a_t, .int x1].toArray s 0 0 (fun _ => False)) (F0 m 55 ls []) := by
    intro ls hl
    refine lv_iload_n hx hb dX12_smooth_55 rfl (lv_at hl 0 rfl) ?_
    have hf : (some o2_4 : Option (Int32)) = some rr := hf
    cases hf
    exact re_i hF hr hlk dX12_smooth_56 rfl
  clear hf
  have L12 : ∀ (n : Nat) (i2_2 : Int32) (i3_3 : Int32), l_X12_smooth_12 t_s x1 n i2_2 i3_3 = some o2_4 → ∀ ls : Array Slot, lv_has ls 4 [(0, .ref a_t), (1, .int x1), (2, .int i2_2), (3, .int i3_3)] → W p l e RM_X12_smooth s m [.ref a_t, .int x1].toArray below meth c s.heap [] 0 0 (MQ below (rdQ (some (.int rr))) [.ref a_t, .int x1].toArray s 0 0 (fun _ => False)) (F0 m 12 ls []) := by
    intro n
    induction n with
    | zero =>
      intro i2_2 i3_3 hf
      exact nomatch (show none = some o2_4 from hf)
    | succ n ih =>
      intro i2_2 i3_3 hf ls hl
      rw [l_X12_smooth_12] at hf
      refine lv_iload_n hx hb dX12_smooth_12 rfl (lv_at hl 3 rfl) ?_
      refine lv_iload_n hx hb dX12_smooth_13 rfl (lv_at hl 1 rfl) ?_
      refine lv_icmp_gt (tgt := 55) hx hb dX12_smooth_14 (by decide) (fun c0 => ?_) (fun c0 => ?_)
      · have hf := (if_pos c0).symm.trans hf
        have hf : (some i2_2 : Option (Int32)) = some o2_4 := hf
        cases hf
        exact K12 ls (lv_sub hl [2] rfl)
      · have hf := (if_neg c0).symm.trans hf
        refine lv_aload_n hx hb dX12_smooth_17 rfl (lv_at hl 0 rfl) ?_
        refine gf (C := RX12) (T := TX12) (N := 16) (ci := 8) (v := .ref a_t_s) hF hG hP inX12 0 rfl rfl 1 (by decide) q1021 rfl rfl dX12_smooth_18 ?_
        refine lv_iconst (v := 3) hx hb dX12_smooth_21 (by decide) ?_
        refine ald_i (k := 3) hF hG hP 1 rfl (by decide) (by decide) dX12_smooth_22 ?_
        refine lv_iload_n hx hb dX12_smooth_23 rfl (lv_at hl 2 rfl) ?_
        refine lv_imul hx hb dX12_smooth_24 ?_
        refine lv_bipush (v := 10) hx hb dX12_smooth_25 (by decide) ?_
        refine lv_aload_n hx hb dX12_smooth_27 rfl (lv_at hl 0 rfl) ?_
        refine gf (C := RX12) (T := TX12) (N := 16) (ci := 8) (v := .ref a_t_s) hF hG hP inX12 0 rfl rfl 1 (by decide) q1021 rfl rfl dX12_smooth_28 ?_
        refine lv_iconst (v := 3) hx hb dX12_smooth_31 (by decide) ?_
        refine ald_i (k := 3) hF hG hP 1 rfl (by decide) (by decide) dX12_smooth_32 ?_
        refine lv_isub hx hb dX12_smooth_33 ?_
        refine lv_sipush (v := 1000) hx hb dX12_smooth_34 (by decide) ?_
        refine lv_imul hx hb dX12_smooth_37 ?_
        refine lv_aload_n hx hb dX12_smooth_38 rfl (lv_at hl 0 rfl) ?_
        refine lv_iload_n hx hb dX12_smooth_39 rfl (lv_at hl 3 rfl) ?_
        obtain ⟨r_5, hq, hf⟩ := bd1_some hf
        refine rdV (As := [.int i3_3]) (rest := [.int ((10 - (t_s 3)) * 1000), .int ((t_s 3) * i2_2)]) hF hG hP hl.1 (c_X12_of l G a_t t_thrown a_t_states t_stateMany a_t_snapshot t_hasSnapshot a_t_text t_length t_at t_isWell a_t_read t_readMany a_t_prices t_priceMany t_pieceMany t_coins a_t_s t_s i3_3 r_5 hq) k_X12_of q1111 [0, 1] rfl ⟨0, 8, _, _, rfl, rfl, rfl⟩ rfl rfl (Nat.le_of_ble_eq_true rfl) ⟨(Nat.le_of_ble_eq_true rfl), (Nat.le_of_ble_eq_true rfl)⟩ ⟨(Nat.zero_le _), (Nat.zero_le _)⟩ dX12_smooth_40 ?_
        refine lv_imul hx hb dX12_smooth_43 ?_
        refine lv_iadd hx hb dX12_smooth_44 ?_
        refine lv_bipush (v := 10) hx hb dX12_smooth_45 (by decide) ?_
        refine lv_idiv hx hb dX12_smooth_47 (by decide) ?_
        refine lv_istore_n (lv' := [(2, .int ((((t_s 3) * i2_2) + (((10 - (t_s 3)) * 1000) * r_5)) / 10)), (0, .ref a_t), (1, .int x1), (3, .int i3_3)]) hx hb dX12_smooth_48 rfl hl (by decide) rfl (fun ls hl => ?_)
        refine lv_iinc (v := (i3_3 + 1)) (lv' := [(3, .int (i3_3 + 1)), (2, .int ((((t_s 3) * i2_2) + (((10 - (t_s 3)) * 1000) * r_5)) / 10)), (0, .ref a_t), (1, .int x1)]) hx hb dX12_smooth_49 hl (k := 3) rfl rfl (by decide) rfl (fun ls hl => ?_)
        refine lv_goto (tgt := 12) hx hb dX12_smooth_52 (by decide) ?_
        exact ih ((((t_s 3) * i2_2) + (((10 - (t_s 3)) * 1000) * r_5)) / 10) (i3_3 + 1) hf ls (lv_sub hl [2, 3, 1, 0] rfl)
  exact L12 1000 (1000 * r_1) 1 hq ls (lv_sub hl [2, 3, 1, 0] rfl)
def f_X12_tellsSmooth (t_thrown : Int32) (t_s : Nat → Int32) (x1 : Int32) : Option (Int32 × Int32) := bd1 (f_X12_isDay t_s x1) (fun (r_1 : Int32) => (if r_1 = 0 then bd2 (f_X12_fails 0 1) (fun (r_2 : Int32) (t_thrown_3 : Int32) => some (r_2, t_thrown_3)) else bd1 (f_X12_smooth t_s x1) (fun (r_4 : Int32) => some (r_4, 0))))
theorem k_X12_tellsSmooth : KV yX12_tellsSmooth cX12_tellsSmooth 2 (some .int) 1 := ⟨qc_yX12_tellsSmooth, q9, ⟨by decide +kernel, by decide +kernel, by decide +kernel⟩, qi_yX12_tellsSmooth, qs_yX12_tellsSmooth⟩
abbrev RM_X12_tellsSmooth : Room := { frames := 2, cells := 0, slots := 0, locals := 44 }
set_option maxHeartbeats 4000000 in
set_option maxRecDepth 100000 in
theorem c_X12_tellsSmooth (l : Launch) (G : GP) (a_t : Nat) (t_thrown : Int32) (a_t_states : Nat) (t_stateMany : Int32) (a_t_snapshot : Nat) (t_hasSnapshot : Int32) (a_t_text : Nat) (t_length : Int32) (t_at : Int32) (t_isWell : Int32) (a_t_read : Nat) (t_readMany : Int32) (a_t_prices : Nat) (t_priceMany : Int32) (t_pieceMany : Int32) (t_coins : Int64) (a_t_s : Nat) (t_s : Nat → Int32) (x1 : Int32) (rr : Int32) (w_t_thrown : Int32) (hf : f_X12_tellsSmooth t_thrown t_s x1 = some (rr, w_t_thrown)) : WM l yX12_tellsSmooth cX12_tellsSmooth 2 (some .int) 2 44 G [.ref a_t, .int x1] [(a_t, .inr (8, [.int t_thrown, .ref a_t_s, .ref a_t_states, .int t_stateMany, .ref a_t_snapshot, .int t_hasSnapshot, .ref a_t_text, .int t_length, .int t_at, .int t_isWell, .ref a_t_read, .int t_readMany, .ref a_t_prices, .int t_priceMany, .int t_pieceMany, .long t_coins])), (a_t_s, .inl (G.2.1, 68, .inl t_s))] (some (.int rr)) [(a_t, .inr (8, [.int w_t_thrown, .ref a_t_s, .ref a_t_states, .int t_stateMany, .ref a_t_snapshot, .int t_hasSnapshot, .ref a_t_text, .int t_length, .int t_at, .int t_isWell, .ref a_t_read, .int t_readMany, .ref a_t_prices, .int t_priceMany, .int t_pieceMany, .long t_coins])), (a_t_s, .inl (G.2.1, 68, .inl t_s))] := by
  refine WM.ofW (C := RX12) (by decide) rfl (Nat.le_of_ble_eq_true rfl) ?_
  intro p e s m below meth c A hF hr hlk hG hA hP hD ls hl
  have hl : lv_has ls 2 [(0, .ref a_t), (1, .int x1)] := hl
  have hx := hF.1
  have hb := hF.2.1
  have hml := hF.2.2.1
  have hown := hF.2.2.2.1
  have hts := hF.2.2.2.2
  have hS : va_S A s.heap s.heap [] := va_S.rf
  unfold f_X12_tellsSmooth at hf
  refine lv_aload_n hx hb dX12_tellsSmooth_0 rfl (lv_at hl 0 rfl) ?_
  refine lv_iconst (v := 0) hx hb dX12_tellsSmooth_1 (by decide) ?_
  refine pf (C := RX12) (T := TX12) (N := 16) (ci := 8) (v := .int 0) (ty := .int) hF hG hP hD hS inX12 tyX12 tyX12_ok nmX12 0 rfl rfl 0 (by decide) q1020 rfl rfl (by decide +kernel) rfl rfl (Nat.le_of_ble_eq_true rfl) dX12_tellsSmooth_2 (fun H locs hP hD hS => ?_)
  replace hP : va_P G.1 vwCl [(a_t, .inr (8, [.int 0, .ref a_t_s, .ref a_t_states, .int t_stateMany, .ref a_t_snapshot, .int t_hasSnapshot, .ref a_t_text, .int t_length, .int t_at, .int t_isWell, .ref a_t_read, .int t_readMany, .ref a_t_prices, .int t_priceMany, .int t_pieceMany, .long t_coins])), (a_t_s, .inl (G.2.1, 68, .inl t_s))] H := hP
  replace hD : va_D A [(a_t, .inr (8, [.int 0, .ref a_t_s, .ref a_t_states, .int t_stateMany, .ref a_t_snapshot, .int t_hasSnapshot, .ref a_t_text, .int t_length, .int t_at, .int t_isWell, .ref a_t_read, .int t_readMany, .ref a_t_prices, .int t_priceMany, .int t_pieceMany, .long t_coins])), (a_t_s, .inl (G.2.1, 68, .inl t_s))] := hD
  refine lv_aload_n hx hb dX12_tellsSmooth_5 rfl (lv_at hl 0 rfl) ?_
  refine lv_iload_n hx hb dX12_tellsSmooth_6 rfl (lv_at hl 1 rfl) ?_
  obtain ⟨r_1, hq, hf⟩ := bd1_some hf
  refine rdV (As := [.int x1]) (rest := []) hF hG hP hl.1 (c_X12_isDay l G a_t 0 a_t_states t_stateMany a_t_snapshot t_hasSnapshot a_t_text t_length t_at t_isWell a_t_read t_readMany a_t_prices t_priceMany t_pieceMany t_coins a_t_s t_s x1 r_1 hq) k_X12_isDay q1099 [0, 1] rfl ⟨0, 8, _, _, rfl, rfl, rfl⟩ rfl rfl (Nat.le_of_ble_eq_true rfl) ⟨(Nat.le_of_ble_eq_true rfl), (Nat.le_of_ble_eq_true rfl)⟩ ⟨(Nat.zero_le _), (Nat.zero_le _)⟩ dX12_tellsSmooth_7 ?_
  refine lv_if_eq (tgt := 21) hx hb dX12_tellsSmooth_10 (by decide) (fun c0 => ?_) (fun c0 => ?_)
  · have hf := (if_pos c0).symm.trans hf
    refine lv_aload_n hx hb dX12_tellsSmooth_21 rfl (lv_at hl 0 rfl) ?_
    refine lv_iconst (v := 1) hx hb dX12_tellsSmooth_22 (by decide) ?_
    obtain ⟨r_2, t_thrown_3, hq, hf⟩ := bd2_some hf
    refine wrV (As := [.int 1]) (rest := []) (wn := [(a_t, .inr (8, [.int t_thrown_3, .ref a_t_s, .ref a_t_states, .int t_stateMany, .ref a_t_snapshot, .int t_hasSnapshot, .ref a_t_text, .int t_length, .int t_at, .int t_isWell, .ref a_t_read, .int t_readMany, .ref a_t_prices, .int t_priceMany, .int t_pieceMany, .long t_coins])), (a_t_s, .inl (G.2.1, 68, .inl t_s))]) hF hG hP hD hS hA hl.1 (c_X12_fails l G a_t 0 a_t_s a_t_states t_stateMany a_t_snapshot t_hasSnapshot a_t_text t_length t_at t_isWell a_t_read t_readMany a_t_prices t_priceMany t_pieceMany t_coins 1 r_2 t_thrown_3 hq) k_X12_fails q1083 [0] [1] [1, 0] rfl rfl rfl rfl ⟨rfl, rfl⟩ (by decide) ⟨0, 8, _, _, rfl, rfl, rfl⟩ rfl rfl (Nat.le_of_ble_eq_true rfl) ⟨(Nat.le_of_ble_eq_true rfl), (Nat.le_of_ble_eq_true rfl)⟩ ⟨(Nat.le_of_ble_eq_true rfl), (Nat.le_of_ble_eq_true rfl)⟩ dX12_tellsSmooth_23 (fun H locs hP hD hS => ?_)
    have hf : (some (r_2, t_thrown_3) : Option (Int32 × Int32)) = some (rr, w_t_thrown) := hf
    cases hf
    exact we_i hF hr hlk hP hD hS dX12_tellsSmooth_26 rfl
  · have hf := (if_neg c0).symm.trans hf
    refine lv_aload_n hx hb dX12_tellsSmooth_13 rfl (lv_at hl 0 rfl) ?_
    refine lv_iload_n hx hb dX12_tellsSmooth_14 rfl (lv_at hl 1 rfl) ?_
    obtain ⟨r_4, hq, hf⟩ := bd1_some hf
    refine rdV (As := [.int x1]) (rest := []) hF hG hP hl.1 (c_X12_smooth l G a_t 0 a_t_states t_stateMany a_t_snapshot t_hasSnapshot a_t_text t_length t_at t_isWell a_t_read t_readMany a_t_prices t_priceMany t_pieceMany t_coins a_t_s t_s x1 r_4 hq) k_X12_smooth q1283 [0, 1] rfl ⟨0, 8, _, _, rfl, rfl, rfl⟩ rfl rfl (Nat.le_of_ble_eq_true rfl) ⟨(Nat.le_of_ble_eq_true rfl), (Nat.le_of_ble_eq_true rfl)⟩ ⟨(Nat.zero_le _), (Nat.zero_le _)⟩ dX12_tellsSmooth_15 ?_
    refine lv_goto (tgt := 26) hx hb dX12_tellsSmooth_18 (by decide) ?_
    have hf : (some (r_4, 0) : Option (Int32 × Int32)) = some (rr, w_t_thrown) := hf
    cases hf
    exact we_i hF hr hlk hP hD hS dX12_tellsSmooth_26 rfl
def f_X12_smoothed (t_thrown : Int32) (t_s : Nat → Int32) (x1 : Int32) : Option (Int32 × Int32) := bd2 (f_X12_tellsSmooth t_thrown t_s x1) (fun (r_1 : Int32) (t_thrown_2 : Int32) => some (r_1, t_thrown_2))
theorem k_X12_smoothed : KV yX12_smoothed cX12_smoothed 2 (some .int) 1 := ⟨qc_yX12_smoothed, q9, ⟨by decide +kernel, by decide +kernel, by decide +kernel⟩, qi_yX12_smoothed, qs_yX12_smoothed⟩
abbrev RM_X12_smoothed : Room := { frames := 3, cells := 0, slots := 0, locals := 65 }
set_option maxHeartbeats 4000000 in
set_option maxRecDepth 100000 in
theorem c_X12_smoothed (l : Launch) (G : GP) (a_t : Nat) (t_thrown : Int32) (a_t_states : Nat) (t_stateMany : Int32) (a_t_snapshot : Nat) (t_hasSnapshot : Int32) (a_t_text : Nat) (t_length : Int32) (t_at : Int32) (t_isWell : Int32) (a_t_read : Nat) (t_readMany : Int32) (a_t_prices : Nat) (t_priceMany : Int32) (t_pieceMany : Int32) (t_coins : Int64) (a_t_s : Nat) (t_s : Nat → Int32) (x1 : Int32) (rr : Int32) (w_t_thrown : Int32) (hf : f_X12_smoothed t_thrown t_s x1 = some (rr, w_t_thrown)) : WM l yX12_smoothed cX12_smoothed 2 (some .int) 3 65 G [.ref a_t, .int x1] [(a_t, .inr (8, [.int t_thrown, .ref a_t_s, .ref a_t_states, .int t_stateMany, .ref a_t_snapshot, .int t_hasSnapshot, .ref a_t_text, .int t_length, .int t_at, .int t_isWell, .ref a_t_read, .int t_readMany, .ref a_t_prices, .int t_priceMany, .int t_pieceMany, .long t_coins])), (a_t_s, .inl (G.2.1, 68, .inl t_s))] (some (.int rr)) [(a_t, .inr (8, [.int w_t_thrown, .ref a_t_s, .ref a_t_states, .int t_stateMany, .ref a_t_snapshot, .int t_hasSnapshot, .ref a_t_text, .int t_length, .int t_at, .int t_isWell, .ref a_t_read, .int t_readMany, .ref a_t_prices, .int t_priceMany, .int t_pieceMany, .long t_coins])), (a_t_s, .inl (G.2.1, 68, .inl t_s))] := by
  refine WM.ofW (C := RX12) (by decide) rfl (Nat.le_of_ble_eq_true rfl) ?_
  intro p e s m below meth c A hF hr hlk hG hA hP hD ls hl
  have hl : lv_has ls 2 [(0, .ref a_t), (1, .int x1)] := hl
  have hx := hF.1
  have hb := hF.2.1
  have hml := hF.2.2.1
  have hown := hF.2.2.2.1
  have hts := hF.2.2.2.2
  have hS : va_S A s.heap s.heap [] := va_S.rf
  unfold f_X12_smoothed at hf
  refine lv_aload_n hx hb dX12_smoothed_0 rfl (lv_at hl 0 rfl) ?_
  refine lv_iload_n hx hb dX12_smoothed_1 rfl (lv_at hl 1 rfl) ?_
  obtain ⟨r_1, t_thrown_2, hq, hf⟩ := bd2_some hf
  refine wrV (As := [.int x1]) (rest := []) (wn := [(a_t, .inr (8, [.int t_thrown_2, .ref a_t_s, .ref a_t_states, .int t_stateMany, .ref a_t_snapshot, .int t_hasSnapshot, .ref a_t_text, .int t_length, .int t_at, .int t_isWell, .ref a_t_read, .int t_readMany, .ref a_t_prices, .int t_priceMany, .int t_pieceMany, .long t_coins])), (a_t_s, .inl (G.2.1, 68, .inl t_s))]) hF hG hP hD hS hA hl.1 (c_X12_tellsSmooth l G a_t t_thrown a_t_states t_stateMany a_t_snapshot t_hasSnapshot a_t_text t_length t_at t_isWell a_t_read t_readMany a_t_prices t_priceMany t_pieceMany t_coins a_t_s t_s x1 r_1 t_thrown_2 hq) k_X12_tellsSmooth q1279 [0, 1] [] [0, 1] rfl rfl rfl rfl ⟨rfl, rfl⟩ (by decide) ⟨0, 8, _, _, rfl, rfl, rfl⟩ rfl rfl (Nat.le_of_ble_eq_true rfl) ⟨(Nat.le_of_ble_eq_true rfl), (Nat.le_of_ble_eq_true rfl)⟩ ⟨(Nat.le_of_ble_eq_true rfl), (Nat.le_of_ble_eq_true rfl)⟩ dX12_smoothed_2 (fun H locs hP hD hS => ?_)
  have hf : (some (r_1, t_thrown_2) : Option (Int32 × Int32)) = some (rr, w_t_thrown) := hf
  cases hf
  exact we_i hF hr hlk hP hD hS dX12_smoothed_5 rfl
def f_X12_smoothedBack (t_thrown : Int32) (t_s : Nat → Int32) (x1 : Int32) : Option (Int32 × Int32) := bd2 (f_X12_tellsSmooth t_thrown t_s x1) (fun (r_1 : Int32) (t_thrown_2 : Int32) => some (r_1, t_thrown_2))
theorem k_X12_smoothedBack : KV yX12_smoothedBack cX12_smoothedBack 2 (some .int) 1 := ⟨qc_yX12_smoothedBack, q9, ⟨by decide +kernel, by decide +kernel, by decide +kernel⟩, qi_yX12_smoothedBack, qs_yX12_smoothedBack⟩
abbrev RM_X12_smoothedBack : Room := { frames := 3, cells := 0, slots := 0, locals := 65 }
set_option maxHeartbeats 4000000 in
set_option maxRecDepth 100000 in
theorem c_X12_smoothedBack (l : Launch) (G : GP) (a_t : Nat) (t_thrown : Int32) (a_t_states : Nat) (t_stateMany : Int32) (a_t_snapshot : Nat) (t_hasSnapshot : Int32) (a_t_text : Nat) (t_length : Int32) (t_at : Int32) (t_isWell : Int32) (a_t_read : Nat) (t_readMany : Int32) (a_t_prices : Nat) (t_priceMany : Int32) (t_pieceMany : Int32) (t_coins : Int64) (a_t_s : Nat) (t_s : Nat → Int32) (x1 : Int32) (rr : Int32) (w_t_thrown : Int32) (hf : f_X12_smoothedBack t_thrown t_s x1 = some (rr, w_t_thrown)) : WM l yX12_smoothedBack cX12_smoothedBack 2 (some .int) 3 65 G [.ref a_t, .int x1] [(a_t, .inr (8, [.int t_thrown, .ref a_t_s, .ref a_t_states, .int t_stateMany, .ref a_t_snapshot, .int t_hasSnapshot, .ref a_t_text, .int t_length, .int t_at, .int t_isWell, .ref a_t_read, .int t_readMany, .ref a_t_prices, .int t_priceMany, .int t_pieceMany, .long t_coins])), (a_t_s, .inl (G.2.1, 68, .inl t_s))] (some (.int rr)) [(a_t, .inr (8, [.int w_t_thrown, .ref a_t_s, .ref a_t_states, .int t_stateMany, .ref a_t_snapshot, .int t_hasSnapshot, .ref a_t_text, .int t_length, .int t_at, .int t_isWell, .ref a_t_read, .int t_readMany, .ref a_t_prices, .int t_priceMany, .int t_pieceMany, .long t_coins])), (a_t_s, .inl (G.2.1, 68, .inl t_s))] := by
  refine WM.ofW (C := RX12) (by decide) rfl (Nat.le_of_ble_eq_true rfl) ?_
  intro p e s m below meth c A hF hr hlk hG hA hP hD ls hl
  have hl : lv_has ls 2 [(0, .ref a_t), (1, .int x1)] := hl
  have hx := hF.1
  have hb := hF.2.1
  have hml := hF.2.2.1
  have hown := hF.2.2.2.1
  have hts := hF.2.2.2.2
  have hS : va_S A s.heap s.heap [] := va_S.rf
  unfold f_X12_smoothedBack at hf
  refine lv_aload_n hx hb dX12_smoothedBack_0 rfl (lv_at hl 0 rfl) ?_
  refine lv_iload_n hx hb dX12_smoothedBack_1 rfl (lv_at hl 1 rfl) ?_
  obtain ⟨r_1, t_thrown_2, hq, hf⟩ := bd2_some hf
  refine wrV (As := [.int x1]) (rest := []) (wn := [(a_t, .inr (8, [.int t_thrown_2, .ref a_t_s, .ref a_t_states, .int t_stateMany, .ref a_t_snapshot, .int t_hasSnapshot, .ref a_t_text, .int t_length, .int t_at, .int t_isWell, .ref a_t_read, .int t_readMany, .ref a_t_prices, .int t_priceMany, .int t_pieceMany, .long t_coins])), (a_t_s, .inl (G.2.1, 68, .inl t_s))]) hF hG hP hD hS hA hl.1 (c_X12_tellsSmooth l G a_t t_thrown a_t_states t_stateMany a_t_snapshot t_hasSnapshot a_t_text t_length t_at t_isWell a_t_read t_readMany a_t_prices t_priceMany t_pieceMany t_coins a_t_s t_s x1 r_1 t_thrown_2 hq) k_X12_tellsSmooth q1279 [0, 1] [] [0, 1] rfl rfl rfl rfl ⟨rfl, rfl⟩ (by decide) ⟨0, 8, _, _, rfl, rfl, rfl⟩ rfl rfl (Nat.le_of_ble_eq_true rfl) ⟨(Nat.le_of_ble_eq_true rfl), (Nat.le_of_ble_eq_true rfl)⟩ ⟨(Nat.le_of_ble_eq_true rfl), (Nat.le_of_ble_eq_true rfl)⟩ dX12_smoothedBack_2 (fun H locs hP hD hS => ?_)
  have hf : (some (r_1, t_thrown_2) : Option (Int32 × Int32)) = some (rr, w_t_thrown) := hf
  cases hf
  exact we_i hF hr hlk hP hD hS dX12_smoothedBack_5 rfl
def f_X12_median (t_thrown : Int32) (t_s : Nat → Int32) (x1 : Int32) : Option (Int32 × Int32) := bd1 (f_X12_isDay t_s x1) (fun (r_1 : Int32) => (if r_1 = 0 then bd2 (f_X12_fails 0 1) (fun (r_2 : Int32) (t_thrown_3 : Int32) => some (r_2, t_thrown_3)) else bd1 (f_X12_middle t_s x1) (fun (r_4 : Int32) => some (r_4, 0))))
theorem k_X12_median : KV yX12_median cX12_median 2 (some .int) 1 := ⟨qc_yX12_median, q9, ⟨by decide +kernel, by decide +kernel, by decide +kernel⟩, qi_yX12_median, qs_yX12_median⟩
abbrev RM_X12_median : Room := { frames := 2, cells := 0, slots := 0, locals := 48 }
set_option maxHeartbeats 4000000 in
set_option maxRecDepth 100000 in
theorem c_X12_median (l : Launch) (G : GP) (a_t : Nat) (t_thrown : Int32) (a_t_states : Nat) (t_stateMany : Int32) (a_t_snapshot : Nat) (t_hasSnapshot : Int32) (a_t_text : Nat) (t_length : Int32) (t_at : Int32) (t_isWell : Int32) (a_t_read : Nat) (t_readMany : Int32) (a_t_prices : Nat) (t_priceMany : Int32) (t_pieceMany : Int32) (t_coins : Int64) (a_t_s : Nat) (t_s : Nat → Int32) (x1 : Int32) (rr : Int32) (w_t_thrown : Int32) (hf : f_X12_median t_thrown t_s x1 = some (rr, w_t_thrown)) : WM l yX12_median cX12_median 2 (some .int) 2 48 G [.ref a_t, .int x1] [(a_t, .inr (8, [.int t_thrown, .ref a_t_s, .ref a_t_states, .int t_stateMany, .ref a_t_snapshot, .int t_hasSnapshot, .ref a_t_text, .int t_length, .int t_at, .int t_isWell, .ref a_t_read, .int t_readMany, .ref a_t_prices, .int t_priceMany, .int t_pieceMany, .long t_coins])), (a_t_s, .inl (G.2.1, 68, .inl t_s))] (some (.int rr)) [(a_t, .inr (8, [.int w_t_thrown, .ref a_t_s, .ref a_t_states, .int t_stateMany, .ref a_t_snapshot, .int t_hasSnapshot, .ref a_t_text, .int t_length, .int t_at, .int t_isWell, .ref a_t_read, .int t_readMany, .ref a_t_prices, .int t_priceMany, .int t_pieceMany, .long t_coins])), (a_t_s, .inl (G.2.1, 68, .inl t_s))] := by
  refine WM.ofW (C := RX12) (by decide) rfl (Nat.le_of_ble_eq_true rfl) ?_
  intro p e s m below meth c A hF hr hlk hG hA hP hD ls hl
  have hl : lv_has ls 2 [(0, .ref a_t), (1, .int x1)] := hl
  have hx := hF.1
  have hb := hF.2.1
  have hml := hF.2.2.1
  have hown := hF.2.2.2.1
  have hts := hF.2.2.2.2
  have hS : va_S A s.heap s.heap [] := va_S.rf
  unfold f_X12_median at hf
  refine lv_aload_n hx hb dX12_median_0 rfl (lv_at hl 0 rfl) ?_
  refine lv_iconst (v := 0) hx hb dX12_median_1 (by decide) ?_
  refine pf (C := RX12) (T := TX12) (N := 16) (ci := 8) (v := .int 0) (ty := .int) hF hG hP hD hS inX12 tyX12 tyX12_ok nmX12 0 rfl rfl 0 (by decide) q1020 rfl rfl (by decide +kernel) rfl rfl (Nat.le_of_ble_eq_true rfl) dX12_median_2 (fun H locs hP hD hS => ?_)
  replace hP : va_P G.1 vwCl [(a_t, .inr (8, [.int 0, .ref a_t_s, .ref a_t_states, .int t_stateMany, .ref a_t_snapshot, .int t_hasSnapshot, .ref a_t_text, .int t_length, .int t_at, .int t_isWell, .ref a_t_read, .int t_readMany, .ref a_t_prices, .int t_priceMany, .int t_pieceMany, .long t_coins])), (a_t_s, .inl (G.2.1, 68, .inl t_s))] H := hP
  replace hD : va_D A [(a_t, .inr (8, [.int 0, .ref a_t_s, .ref a_t_states, .int t_stateMany, .ref a_t_snapshot, .int t_hasSnapshot, .ref a_t_text, .int t_length, .int t_at, .int t_isWell, .ref a_t_read, .int t_readMany, .ref a_t_prices, .int t_priceMany, .int t_pieceMany, .long t_coins])), (a_t_s, .inl (G.2.1, 68, .inl t_s))] := hD
  refine lv_aload_n hx hb dX12_median_5 rfl (lv_at hl 0 rfl) ?_
  refine lv_iload_n hx hb dX12_median_6 rfl (lv_at hl 1 rfl) ?_
  obtain ⟨r_1, hq, hf⟩ := bd1_some hf
  refine rdV (As := [.int x1]) (rest := []) hF hG hP hl.1 (c_X12_isDay l G a_t 0 a_t_states t_stateMany a_t_snapshot t_hasSnapshot a_t_text t_length t_at t_isWell a_t_read t_readMany a_t_prices t_priceMany t_pieceMany t_coins a_t_s t_s x1 r_1 hq) k_X12_isDay q1099 [0, 1] rfl ⟨0, 8, _, _, rfl, rfl, rfl⟩ rfl rfl (Nat.le_of_ble_eq_true rfl) ⟨(Nat.le_of_ble_eq_true rfl), (Nat.le_of_ble_eq_true rfl)⟩ ⟨(Nat.zero_le _), (Nat.zero_le _)⟩ dX12_median_7 ?_
  refine lv_if_eq (tgt := 21) hx hb dX12_median_10 (by decide) (fun c0 => ?_) (fun c0 => ?_)
  · have hf := (if_pos c0).symm.trans hf
    refine lv_aload_n hx hb dX12_median_21 rfl (lv_at hl 0 rfl) ?_
    refine lv_iconst (v := 1) hx hb dX12_median_22 (by decide) ?_
    obtain ⟨r_2, t_thrown_3, hq, hf⟩ := bd2_some hf
    refine wrV (As := [.int 1]) (rest := []) (wn := [(a_t, .inr (8, [.int t_thrown_3, .ref a_t_s, .ref a_t_states, .int t_stateMany, .ref a_t_snapshot, .int t_hasSnapshot, .ref a_t_text, .int t_length, .int t_at, .int t_isWell, .ref a_t_read, .int t_readMany, .ref a_t_prices, .int t_priceMany, .int t_pieceMany, .long t_coins])), (a_t_s, .inl (G.2.1, 68, .inl t_s))]) hF hG hP hD hS hA hl.1 (c_X12_fails l G a_t 0 a_t_s a_t_states t_stateMany a_t_snapshot t_hasSnapshot a_t_text t_length t_at t_isWell a_t_read t_readMany a_t_prices t_priceMany t_pieceMany t_coins 1 r_2 t_thrown_3 hq) k_X12_fails q1083 [0] [1] [1, 0] rfl rfl rfl rfl ⟨rfl, rfl⟩ (by decide) ⟨0, 8, _, _, rfl, rfl, rfl⟩ rfl rfl (Nat.le_of_ble_eq_true rfl) ⟨(Nat.le_of_ble_eq_true rfl), (Nat.le_of_ble_eq_true rfl)⟩ ⟨(Nat.le_of_ble_eq_true rfl), (Nat.le_of_ble_eq_true rfl)⟩ dX12_median_23 (fun H locs hP hD hS => ?_)
    have hf : (some (r_2, t_thrown_3) : Option (Int32 × Int32)) = some (rr, w_t_thrown) := hf
    cases hf
    exact we_i hF hr hlk hP hD hS dX12_median_26 rfl
  · have hf := (if_neg c0).symm.trans hf
    refine lv_aload_n hx hb dX12_median_13 rfl (lv_at hl 0 rfl) ?_
    refine lv_iload_n hx hb dX12_median_14 rfl (lv_at hl 1 rfl) ?_
    obtain ⟨r_4, hq, hf⟩ := bd1_some hf
    refine rdV (As := [.int x1]) (rest := []) hF hG hP hl.1 (c_X12_middle l G a_t 0 a_t_states t_stateMany a_t_snapshot t_hasSnapshot a_t_text t_length t_at t_isWell a_t_read t_readMany a_t_prices t_priceMany t_pieceMany t_coins a_t_s t_s x1 r_4 hq) k_X12_middle q1123 [0, 1] rfl ⟨0, 8, _, _, rfl, rfl, rfl⟩ rfl rfl (Nat.le_of_ble_eq_true rfl) ⟨(Nat.le_of_ble_eq_true rfl), (Nat.le_of_ble_eq_true rfl)⟩ ⟨(Nat.zero_le _), (Nat.zero_le _)⟩ dX12_median_15 ?_
    refine lv_goto (tgt := 26) hx hb dX12_median_18 (by decide) ?_
    have hf : (some (r_4, 0) : Option (Int32 × Int32)) = some (rr, w_t_thrown) := hf
    cases hf
    exact we_i hF hr hlk hP hD hS dX12_median_26 rfl
def f_X12_isCrease (t_thrown : Int32) (t_s : Nat → Int32) (x1 : Int32) : Option (Int32 × Int32) := bd1 (f_X12_isDay t_s x1) (fun (r_1 : Int32) => (if r_1 = 0 then bd2 (f_X12_fails 0 1) (fun (r_2 : Int32) (t_thrown_3 : Int32) => (if r_2 ≤ 0 then some (0, t_thrown_3) else some (1, t_thrown_3))) else bd1 (f_X12_creased t_s x1) (fun (r_4 : Int32) => gd (r_4 &&& 1 = r_4) (some (r_4, 0)))))
theorem k_X12_isCrease : KV yX12_isCrease cX12_isCrease 2 (some .boolean) 1 := ⟨qc_yX12_isCrease, q9, ⟨by decide +kernel, by decide +kernel, by decide +kernel⟩, qi_yX12_isCrease, qs_yX12_isCrease⟩
abbrev RM_X12_isCrease : Room := { frames := 3, cells := 0, slots := 0, locals := 70 }
set_option maxHeartbeats 4000000 in
set_option maxRecDepth 100000 in
theorem c_X12_isCrease (l : Launch) (G : GP) (a_t : Nat) (t_thrown : Int32) (a_t_states : Nat) (t_stateMany : Int32) (a_t_snapshot : Nat) (t_hasSnapshot : Int32) (a_t_text : Nat) (t_length : Int32) (t_at : Int32) (t_isWell : Int32) (a_t_read : Nat) (t_readMany : Int32) (a_t_prices : Nat) (t_priceMany : Int32) (t_pieceMany : Int32) (t_coins : Int64) (a_t_s : Nat) (t_s : Nat → Int32) (x1 : Int32) (rr : Int32) (w_t_thrown : Int32) (hf : f_X12_isCrease t_thrown t_s x1 = some (rr, w_t_thrown)) : WM l yX12_isCrease cX12_isCrease 2 (some .boolean) 3 70 G [.ref a_t, .int x1] [(a_t, .inr (8, [.int t_thrown, .ref a_t_s, .ref a_t_states, .int t_stateMany, .ref a_t_snapshot, .int t_hasSnapshot, .ref a_t_text, .int t_length, .int t_at, .int t_isWell, .ref a_t_read, .int t_readMany, .ref a_t_prices, .int t_priceMany, .int t_pieceMany, .long t_coins])), (a_t_s, .inl (G.2.1, 68, .inl t_s))] (some (.int rr)) [(a_t, .inr (8, [.int w_t_thrown, .ref a_t_s, .ref a_t_states, .int t_stateMany, .ref a_t_snapshot, .int t_hasSnapshot, .ref a_t_text, .int t_length, .int t_at, .int t_isWell, .ref a_t_read, .int t_readMany, .ref a_t_prices, .int t_priceMany, .int t_pieceMany, .long t_coins])), (a_t_s, .inl (G.2.1, 68, .inl t_s))] := by
  refine WM.ofW (C := RX12) (by decide) rfl (Nat.le_of_ble_eq_true rfl) ?_
  intro p e s m below meth c A hF hr hlk hG hA hP hD ls hl
  have hl : lv_has ls 2 [(0, .ref a_t), (1, .int x1)] := hl
  have hx := hF.1
  have hb := hF.2.1
  have hml := hF.2.2.1
  have hown := hF.2.2.2.1
  have hts := hF.2.2.2.2
  have hS : va_S A s.heap s.heap [] := va_S.rf
  unfold f_X12_isCrease at hf
  refine lv_aload_n hx hb dX12_isCrease_0 rfl (lv_at hl 0 rfl) ?_
  refine lv_iconst (v := 0) hx hb dX12_isCrease_1 (by decide) ?_
  refine pf (C := RX12) (T := TX12) (N := 16) (ci := 8) (v := .int 0) (ty := .int) hF hG hP hD hS inX12 tyX12 tyX12_ok nmX12 0 rfl rfl 0 (by decide) q1020 rfl rfl (by decide +kernel) rfl rfl (Nat.le_of_ble_eq_true rfl) dX12_isCrease_2 (fun H locs hP hD hS => ?_)
  replace hP : va_P G.1 vwCl [(a_t, .inr (8, [.int 0, .ref a_t_s, .ref a_t_states, .int t_stateMany, .ref a_t_snapshot, .int t_hasSnapshot, .ref a_t_text, .int t_length, .int t_at, .int t_isWell, .ref a_t_read, .int t_readMany, .ref a_t_prices, .int t_priceMany, .int t_pieceMany, .long t_coins])), (a_t_s, .inl (G.2.1, 68, .inl t_s))] H := hP
  replace hD : va_D A [(a_t, .inr (8, [.int 0, .ref a_t_s, .ref a_t_states, .int t_stateMany, .ref a_t_snapshot, .int t_hasSnapshot, .ref a_t_text, .int t_length, .int t_at, .int t_isWell, .ref a_t_read, .int t_readMany, .ref a_t_prices, .int t_priceMany, .int t_pieceMany, .long t_coins])), (a_t_s, .inl (G.2.1, 68, .inl t_s))] := hD
  refine lv_aload_n hx hb dX12_isCrease_5 rfl (lv_at hl 0 rfl) ?_
  refine lv_iload_n hx hb dX12_isCrease_6 rfl (lv_at hl 1 rfl) ?_
  obtain ⟨r_1, hq, hf⟩ := bd1_some hf
  refine rdV (As := [.int x1]) (rest := []) hF hG hP hl.1 (c_X12_isDay l G a_t 0 a_t_states t_stateMany a_t_snapshot t_hasSnapshot a_t_text t_length t_at t_isWell a_t_read t_readMany a_t_prices t_priceMany t_pieceMany t_coins a_t_s t_s x1 r_1 hq) k_X12_isDay q1099 [0, 1] rfl ⟨0, 8, _, _, rfl, rfl, rfl⟩ rfl rfl (Nat.le_of_ble_eq_true rfl) ⟨(Nat.le_of_ble_eq_true rfl), (Nat.le_of_ble_eq_true rfl)⟩ ⟨(Nat.zero_le _), (Nat.zero_le _)⟩ dX12_isCrease_7 ?_
  refine lv_if_eq (tgt := 21) hx hb dX12_isCrease_10 (by decide) (fun c0 => ?_) (fun c0 => ?_)
  · have hf := (if_pos c0).symm.trans hf
    refine lv_aload_n hx hb dX12_isCrease_21 rfl (lv_at hl 0 rfl) ?_
    refine lv_iconst (v := 1) hx hb dX12_isCrease_22 (by decide) ?_
    obtain ⟨r_2, t_thrown_3, hq, hf⟩ := bd2_some hf
    refine wrV (As := [.int 1]) (rest := []) (wn := [(a_t, .inr (8, [.int t_thrown_3, .ref a_t_s, .ref a_t_states, .int t_stateMany, .ref a_t_snapshot, .int t_hasSnapshot, .ref a_t_text, .int t_length, .int t_at, .int t_isWell, .ref a_t_read, .int t_readMany, .ref a_t_prices, .int t_priceMany, .int t_pieceMany, .long t_coins])), (a_t_s, .inl (G.2.1, 68, .inl t_s))]) hF hG hP hD hS hA hl.1 (c_X12_fails l G a_t 0 a_t_s a_t_states t_stateMany a_t_snapshot t_hasSnapshot a_t_text t_length t_at t_isWell a_t_read t_readMany a_t_prices t_priceMany t_pieceMany t_coins 1 r_2 t_thrown_3 hq) k_X12_fails q1083 [0] [1] [1, 0] rfl rfl rfl rfl ⟨rfl, rfl⟩ (by decide) ⟨0, 8, _, _, rfl, rfl, rfl⟩ rfl rfl (Nat.le_of_ble_eq_true rfl) ⟨(Nat.le_of_ble_eq_true rfl), (Nat.le_of_ble_eq_true rfl)⟩ ⟨(Nat.le_of_ble_eq_true rfl), (Nat.le_of_ble_eq_true rfl)⟩ dX12_isCrease_23 (fun H locs hP hD hS => ?_)
    refine lv_if_le (tgt := 33) hx hb dX12_isCrease_26 (by decide) (fun c0 => ?_) (fun c0 => ?_)
    · have hf := (if_pos c0).symm.trans hf
      refine lv_iconst (v := 0) hx hb dX12_isCrease_33 (by decide) ?_
      have hf : (some (0, t_thrown_3) : Option (Int32 × Int32)) = some (rr, w_t_thrown) := hf
      cases hf
      exact we_z hF hr hlk hP hD hS dX12_isCrease_34 rfl rfl
    · have hf := (if_neg c0).symm.trans hf
      refine lv_iconst (v := 1) hx hb dX12_isCrease_29 (by decide) ?_
      refine lv_goto (tgt := 34) hx hb dX12_isCrease_30 (by decide) ?_
      have hf : (some (1, t_thrown_3) : Option (Int32 × Int32)) = some (rr, w_t_thrown) := hf
      cases hf
      exact we_z hF hr hlk hP hD hS dX12_isCrease_34 rfl rfl
  · have hf := (if_neg c0).symm.trans hf
    refine lv_aload_n hx hb dX12_isCrease_13 rfl (lv_at hl 0 rfl) ?_
    refine lv_iload_n hx hb dX12_isCrease_14 rfl (lv_at hl 1 rfl) ?_
    obtain ⟨r_4, hq, hf⟩ := bd1_some hf
    refine rdV (As := [.int x1]) (rest := []) hF hG hP hl.1 (c_X12_creased l G a_t 0 a_t_states t_stateMany a_t_snapshot t_hasSnapshot a_t_text t_length t_at t_isWell a_t_read t_readMany a_t_prices t_priceMany t_pieceMany t_coins a_t_s t_s x1 r_4 hq) k_X12_creased q1119 [0, 1] rfl ⟨0, 8, _, _, rfl, rfl, rfl⟩ rfl rfl (Nat.le_of_ble_eq_true rfl) ⟨(Nat.le_of_ble_eq_true rfl), (Nat.le_of_ble_eq_true rfl)⟩ ⟨(Nat.zero_le _), (Nat.zero_le _)⟩ dX12_isCrease_15 ?_
    refine lv_goto (tgt := 34) hx hb dX12_isCrease_18 (by decide) ?_
    obtain ⟨hz, hf⟩ := gd_some hf
    have hf : (some (r_4, 0) : Option (Int32 × Int32)) = some (rr, w_t_thrown) := hf
    cases hf
    exact we_z hF hr hlk hP hD hS dX12_isCrease_34 hz rfl
def l_X12_creaseMany_4 (t_s : Nat → Int32) : Nat → Int32 → Int32 → Option (Int32)
  | 0, _, _ => none
  | n + 1, i1_1, i2_2 => (if (t_s 0) ≤ i2_2 then some i1_1 else bd1 (f_X12_creased t_s i2_2) (fun (r_4 : Int32) => (if r_4 = 0 then l_X12_creaseMany_4 t_s n (i1_1 + 0) (i2_2 + 1) else l_X12_creaseMany_4 t_s n (i1_1 + 1) (i2_2 + 1))))
def f_X12_creaseMany (t_s : Nat → Int32) : Option (Int32) := bd1 (l_X12_creaseMany_4 t_s 1000 0 0) (fun (o1_3 : Int32) => some o1_3)
theorem k_X12_creaseMany : KV yX12_creaseMany cX12_creaseMany 3 (some .int) 0 := ⟨qc_yX12_creaseMany, q9, ⟨by decide +kernel, by decide +kernel, by decide +kernel⟩, qi_yX12_creaseMany, qs_yX12_creaseMany⟩
abbrev RM_X12_creaseMany : Room := { frames := 3, cells := 0, slots := 0, locals := 70 }
set_option maxHeartbeats 4000000 in
set_option maxRecDepth 100000 in
theorem c_X12_creaseMany (l : Launch) (G : GP) (a_t : Nat) (t_thrown : Int32) (a_t_states : Nat) (t_stateMany : Int32) (a_t_snapshot : Nat) (t_hasSnapshot : Int32) (a_t_text : Nat) (t_length : Int32) (t_at : Int32) (t_isWell : Int32) (a_t_read : Nat) (t_readMany : Int32) (a_t_prices : Nat) (t_priceMany : Int32) (t_pieceMany : Int32) (t_coins : Int64) (a_t_s : Nat) (t_s : Nat → Int32) (rr : Int32) (hf : f_X12_creaseMany t_s = some rr) : RM l yX12_creaseMany cX12_creaseMany 3 (some .int) 3 70 G [.ref a_t] [(a_t, .inr (8, [.int t_thrown, .ref a_t_s, .ref a_t_states, .int t_stateMany, .ref a_t_snapshot, .int t_hasSnapshot, .ref a_t_text, .int t_length, .int t_at, .int t_isWell, .ref a_t_read, .int t_readMany, .ref a_t_prices, .int t_priceMany, .int t_pieceMany, .long t_coins])), (a_t_s, .inl (G.2.1, 68, .inl t_s))] (some (.int rr)) := by
  refine RM.ofW (C := RX12) (by decide) rfl (Nat.le_of_ble_eq_true rfl) ?_
  intro p e s m below meth c hF hr hlk hG hP ls hl
  have hl : lv_has ls 3 [(0, .ref a_t)] := hl
  have hx := hF.1
  have hb := hF.2.1
  have hml := hF.2.2.1
  have hown := hF.2.2.2.1
  have hts := hF.2.2.2.2
  unfold f_X12_creaseMany at hf
  refine lv_iconst (v := 0) hx hb dX12_creaseMany_0 (by decide) ?_
  refine lv_istore_n (lv' := [(1, .int 0), (0, .ref a_t)]) hx hb dX12_creaseMany_1 rfl hl (by decide) rfl (fun ls hl => ?_)
  refine lv_iconst (v := 0) hx hb dX12_creaseMany_2 (by decide) ?_
  refine lv_istore_n (lv' := [(2, .int 0), (1, .int 0), (0, .ref a_t)]) hx hb dX12_creaseMany_3 rfl hl (by decide) rfl (fun ls hl => ?_)
  obtain ⟨o1_3, hq, hf⟩ := bd1_some hf
  have K4 : ∀ ls : Array Slot, lv_has ls 3 [(1, .int o1_3)] → W p l e RM_X12_creaseMany s m [.ref a_t].toArray below meth c s.heap [] 0 0 (MQ below (rdQ (some (.int rr))) [.ref a_t].toArray s 0 0 (fun _ => False)) (F0 m 36 ls []) := by
    intro ls hl
    refine lv_iload_n hx hb dX12_creaseMany_36 rfl (lv_at hl 0 rfl) ?_
    have hf : (some o1_3 : Option (Int32)) = some rr := hf
    cases hf
    exact re_i hF hr hlk dX12_creaseMany_37 rfl
  clear hf
  have L4 : ∀ (n : Nat) (i1_1 : Int32) (i2_2 : Int32), l_X12_creaseMany_4 t_s n i1_1 i2_2 = some o1_3 → ∀ ls : Array Slot, lv_has ls 3 [(0, .ref a_t), (1, .int i1_1), (2, .int i2_2)] → W p l e RM_X12_creaseMany s m [.ref a_t].toArray below meth c s.heap [] 0 0 (MQ below (rdQ (some (.int rr))) [.ref a_t].toArray s 0 0 (fun _ => False)) (F0 m 4 ls []) := by
    intro n
    induction n with
    | zero =>
      intro i1_1 i2_2 hf
      exact nomatch (show none = some o1_3 from hf)
    | succ n ih =>
      intro i1_1 i2_2 hf ls hl
      rw [l_X12_creaseMany_4] at hf
      refine lv_iload_n hx hb dX12_creaseMany_4 rfl (lv_at hl 2 rfl) ?_
      refine lv_aload_n hx hb dX12_creaseMany_5 rfl (lv_at hl 0 rfl) ?_
      refine gf (C := RX12) (T := TX12) (N := 16) (ci := 8) (v := .ref a_t_s) hF hG hP inX12 0 rfl rfl 1 (by decide) q1021 rfl rfl dX12_creaseMany_6 ?_
      refine lv_iconst (v := 0) hx hb dX12_creaseMany_9 (by decide) ?_
      refine ald_i (k := 0) hF hG hP 1 rfl (by decide) (by decide) dX12_creaseMany_10 ?_
      refine lv_icmp_ge (tgt := 36) hx hb dX12_creaseMany_11 (by decide) (fun c0 => ?_) (fun c0 => ?_)
      · have hf := (if_pos c0).symm.trans hf
        have hf : (some i1_1 : Option (Int32)) = some o1_3 := hf
        cases hf
        exact K4 ls (lv_sub hl [1] rfl)
      · have hf := (if_neg c0).symm.trans hf
        refine lv_iload_n hx hb dX12_creaseMany_14 rfl (lv_at hl 1 rfl) ?_
        refine lv_aload_n hx hb dX12_creaseMany_15 rfl (lv_at hl 0 rfl) ?_
        refine lv_iload_n hx hb dX12_creaseMany_16 rfl (lv_at hl 2 rfl) ?_
        obtain ⟨r_4, hq, hf⟩ := bd1_some hf
        refine rdV (As := [.int i2_2]) (rest := [.int i1_1]) hF hG hP hl.1 (c_X12_creased l G a_t t_thrown a_t_states t_stateMany a_t_snapshot t_hasSnapshot a_t_text t_length t_at t_isWell a_t_read t_readMany a_t_prices t_priceMany t_pieceMany t_coins a_t_s t_s i2_2 r_4 hq) k_X12_creased q1119 [0, 1] rfl ⟨0, 8, _, _, rfl, rfl, rfl⟩ rfl rfl (Nat.le_of_ble_eq_true rfl) ⟨(Nat.le_of_ble_eq_true rfl), (Nat.le_of_ble_eq_true rfl)⟩ ⟨(Nat.zero_le _), (Nat.zero_le _)⟩ dX12_creaseMany_17 ?_
        refine lv_if_eq (tgt := 27) hx hb dX12_creaseMany_20 (by decide) (fun c0 => ?_) (fun c0 => ?_)
        · have hf := (if_pos c0).symm.trans hf
          refine lv_iconst (v := 0) hx hb dX12_creaseMany_27 (by decide) ?_
          refine lv_iadd hx hb dX12_creaseMany_28 ?_
          refine lv_istore_n (lv' := [(1, .int (i1_1 + 0)), (0, .ref a_t), (2, .int i2_2)]) hx hb dX12_creaseMany_29 rfl hl (by decide) rfl (fun ls hl => ?_)
          refine lv_iinc (v := (i2_2 + 1)) (lv' := [(2, .int (i2_2 + 1)), (1, .int (i1_1 + 0)), (0, .ref a_t)]) hx hb dX12_creaseMany_30 hl (k := 2) rfl rfl (by decide) rfl (fun ls hl => ?_)
          refine lv_goto (tgt := 4) hx hb dX12_creaseMany_33 (by decide) ?_
          exact ih (i1_1 + 0) (i2_2 + 1) hf ls (lv_sub hl [2, 1, 0] rfl)
        · have hf := (if_neg c0).symm.trans hf
          refine lv_iconst (v := 1) hx hb dX12_creaseMany_23 (by decide) ?_
          refine lv_goto (tgt := 28) hx hb dX12_creaseMany_24 (by decide) ?_
          refine lv_iadd hx hb dX12_creaseMany_28 ?_
          refine lv_istore_n (lv' := [(1, .int (i1_1 + 1)), (0, .ref a_t), (2, .int i2_2)]) hx hb dX12_creaseMany_29 rfl hl (by decide) rfl (fun ls hl => ?_)
          refine lv_iinc (v := (i2_2 + 1)) (lv' := [(2, .int (i2_2 + 1)), (1, .int (i1_1 + 1)), (0, .ref a_t)]) hx hb dX12_creaseMany_30 hl (k := 2) rfl rfl (by decide) rfl (fun ls hl => ?_)
          refine lv_goto (tgt := 4) hx hb dX12_creaseMany_33 (by decide) ?_
          exact ih (i1_1 + 1) (i2_2 + 1) hf ls (lv_sub hl [2, 1, 0] rfl)
  exact L4 1000 0 0 hq ls (lv_sub hl [2, 1, 0] rfl)
