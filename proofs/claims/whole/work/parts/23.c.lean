def f_X12_creases (t_thrown : Int32) (t_s : Nat → Int32) : Option (Int32 × Int32) := bd1 (f_X12_creaseMany t_s) (fun (r_1 : Int32) => some (r_1, 0))
theorem k_X12_creases : KV yX12_creases cX12_creases 1 (some .int) 0 := ⟨qc_yX12_creases, q9, ⟨by decide +kernel, by decide +kernel, by decide +kernel⟩, qi_yX12_creases, qs_yX12_creases⟩
abbrev RM_X12_creases : Room := { frames := 4, cells := 0, slots := 0, locals := 92 }
set_option maxHeartbeats 4000000 in
set_option maxRecDepth 100000 in
theorem c_X12_creases (l : Launch) (G : GP) (a_t : Nat) (t_thrown : Int32) (a_t_states : Nat) (t_stateMany : Int32) (a_t_snapshot : Nat) (t_hasSnapshot : Int32) (a_t_text : Nat) (t_length : Int32) (t_at : Int32) (t_isWell : Int32) (a_t_read : Nat) (t_readMany : Int32) (a_t_prices : Nat) (t_priceMany : Int32) (t_pieceMany : Int32) (t_coins : Int64) (a_t_s : Nat) (t_s : Nat → Int32) (rr : Int32) (w_t_thrown : Int32) (hf : f_X12_creases t_thrown t_s = some (rr, w_t_thrown)) : WM l yX12_creases cX12_creases 1 (some .int) 4 92 G [.ref a_t] [(a_t, .inr (8, [.int t_thrown, .ref a_t_s, .ref a_t_states, .int t_stateMany, .ref a_t_snapshot, .int t_hasSnapshot, .ref a_t_text, .int t_length, .int t_at, .int t_isWell, .ref a_t_read, .int t_readMany, .ref a_t_prices, .int t_priceMany, .int t_pieceMany, .long t_coins])), (a_t_s, .inl (G.2.1, 68, .inl t_s))] (some (.int rr)) [(a_t, .inr (8, [.int w_t_thrown, .ref a_t_s, .ref a_t_states, .int t_stateMany, .ref a_t_snapshot, .int t_hasSnapshot, .ref a_t_text, .int t_length, .int t_at, .int t_isWell, .ref a_t_read, .int t_readMany, .ref a_t_prices, .int t_priceMany, .int t_pieceMany, .long t_coins])), (a_t_s, .inl (G.2.1, 68, .inl t_s))] := by
  refine WM.ofW (C := RX12) (by decide) rfl (Nat.le_of_ble_eq_true rfl) ?_
  intro p e s m below meth c A hF hr hlk hG hA hP hD ls hl
  have hl : lv_has ls 1 [(0, .ref a_t)] := hl
  have hx := hF.1
  have hb := hF.2.1
  have hml := hF.2.2.1
  have hown := hF.2.2.2.1
  have hts := hF.2.2.2.2
  have hS : va_S A s.heap s.heap [] := va_S.rf
  unfold f_X12_creases at hf
  refine lv_aload_n hx hb dX12_creases_0 rfl (lv_at hl 0 rfl) ?_
  refine lv_iconst (v := 0) hx hb dX12_creases_1 (by decide) ?_
  refine pf (C := RX12) (T := TX12) (N := 16) (ci := 8) (v := .int 0) (ty := .int) hF hG hP hD hS inX12 tyX12 tyX12_ok nmX12 0 rfl rfl 0 (by decide) q1020 rfl rfl (by decide +kernel) rfl rfl (Nat.le_of_ble_eq_true rfl) dX12_creases_2 (fun H locs hP hD hS => ?_)
  replace hP : va_P G.1 vwCl [(a_t, .inr (8, [.int 0, .ref a_t_s, .ref a_t_states, .int t_stateMany, .ref a_t_snapshot, .int t_hasSnapshot, .ref a_t_text, .int t_length, .int t_at, .int t_isWell, .ref a_t_read, .int t_readMany, .ref a_t_prices, .int t_priceMany, .int t_pieceMany, .long t_coins])), (a_t_s, .inl (G.2.1, 68, .inl t_s))] H := hP
  replace hD : va_D A [(a_t, .inr (8, [.int 0, .ref a_t_s, .ref a_t_states, .int t_stateMany, .ref a_t_snapshot, .int t_hasSnapshot, .ref a_t_text, .int t_length, .int t_at, .int t_isWell, .ref a_t_read, .int t_readMany, .ref a_t_prices, .int t_priceMany, .int t_pieceMany, .long t_coins])), (a_t_s, .inl (G.2.1, 68, .inl t_s))] := hD
  refine lv_aload_n hx hb dX12_creases_5 rfl (lv_at hl 0 rfl) ?_
  obtain ⟨r_1, hq, hf⟩ := bd1_some hf
  refine rdV (As := []) (rest := []) hF hG hP hl.1 (c_X12_creaseMany l G a_t 0 a_t_states t_stateMany a_t_snapshot t_hasSnapshot a_t_text t_length t_at t_isWell a_t_read t_readMany a_t_prices t_priceMany t_pieceMany t_coins a_t_s t_s r_1 hq) k_X12_creaseMany q1303 [0, 1] rfl ⟨0, 8, _, _, rfl, rfl, rfl⟩ rfl rfl (Nat.le_of_ble_eq_true rfl) ⟨(Nat.le_of_ble_eq_true rfl), (Nat.le_of_ble_eq_true rfl)⟩ ⟨(Nat.zero_le _), (Nat.zero_le _)⟩ dX12_creases_6 ?_
  have hf : (some (r_1, 0) : Option (Int32 × Int32)) = some (rr, w_t_thrown) := hf
  cases hf
  exact we_i hF hr hlk hP hD hS dX12_creases_9 rfl
def l_X12_greatest_13 (t_s : Nat → Int32) (x1 : Int32) : Nat → Int32 → Int32 → Option (Int32)
  | 0, _, _ => none
  | n + 1, i2_2, i3_3 => (if x1 < i3_3 then some i2_2 else bd1 (f_X12_of t_s i3_3) (fun (r_5 : Int32) => (if r_5 ≤ i2_2 then l_X12_greatest_13 t_s x1 n i2_2 (i3_3 + 1) else bd1 (f_X12_of t_s i3_3) (fun (r_6 : Int32) => l_X12_greatest_13 t_s x1 n r_6 (i3_3 + 1)))))
def f_X12_greatest (t_s : Nat → Int32) (x1 : Int32) : Option (Int32) := bd1 (f_X12_first x1 (t_s 2)) (fun (r_1 : Int32) => bd1 (l_X12_greatest_13 t_s x1 1000 0 r_1) (fun (o2_4 : Int32) => some o2_4))
theorem k_X12_greatest : KV yX12_greatest cX12_greatest 4 (some .int) 1 := ⟨qc_yX12_greatest, q9, ⟨by decide +kernel, by decide +kernel, by decide +kernel⟩, qi_yX12_greatest, qs_yX12_greatest⟩
abbrev RM_X12_greatest : Room := { frames := 1, cells := 0, slots := 0, locals := 21 }
set_option maxHeartbeats 4000000 in
set_option maxRecDepth 100000 in
theorem c_X12_greatest (l : Launch) (G : GP) (a_t : Nat) (t_thrown : Int32) (a_t_states : Nat) (t_stateMany : Int32) (a_t_snapshot : Nat) (t_hasSnapshot : Int32) (a_t_text : Nat) (t_length : Int32) (t_at : Int32) (t_isWell : Int32) (a_t_read : Nat) (t_readMany : Int32) (a_t_prices : Nat) (t_priceMany : Int32) (t_pieceMany : Int32) (t_coins : Int64) (a_t_s : Nat) (t_s : Nat → Int32) (x1 : Int32) (rr : Int32) (hf : f_X12_greatest t_s x1 = some rr) : RM l yX12_greatest cX12_greatest 4 (some .int) 1 21 G [.ref a_t, .int x1] [(a_t, .inr (8, [.int t_thrown, .ref a_t_s, .ref a_t_states, .int t_stateMany, .ref a_t_snapshot, .int t_hasSnapshot, .ref a_t_text, .int t_length, .int t_at, .int t_isWell, .ref a_t_read, .int t_readMany, .ref a_t_prices, .int t_priceMany, .int t_pieceMany, .long t_coins])), (a_t_s, .inl (G.2.1, 68, .inl t_s))] (some (.int rr)) := by
  refine RM.ofW (C := RX12) (by decide) rfl (Nat.le_of_ble_eq_true rfl) ?_
  intro p e s m below meth c hF hr hlk hG hP ls hl
  have hl : lv_has ls 4 [(0, .ref a_t), (1, .int x1)] := hl
  have hx := hF.1
  have hb := hF.2.1
  have hml := hF.2.2.1
  have hown := hF.2.2.2.1
  have hts := hF.2.2.2.2
  unfold f_X12_greatest at hf
  refine lv_iconst (v := 0) hx hb dX12_greatest_0 (by decide) ?_
  refine lv_istore_n (lv' := [(2, .int 0), (0, .ref a_t), (1, .int x1)]) hx hb dX12_greatest_1 rfl hl (by decide) rfl (fun ls hl => ?_)
  refine lv_iload_n hx hb dX12_greatest_2 rfl (lv_at hl 2 rfl) ?_
  refine lv_aload_n hx hb dX12_greatest_3 rfl (lv_at hl 1 rfl) ?_
  refine gf (C := RX12) (T := TX12) (N := 16) (ci := 8) (v := .ref a_t_s) hF hG hP inX12 0 rfl rfl 1 (by decide) q1021 rfl rfl dX12_greatest_4 ?_
  refine lv_iconst (v := 2) hx hb dX12_greatest_7 (by decide) ?_
  refine ald_i (k := 2) hF hG hP 1 rfl (by decide) (by decide) dX12_greatest_8 ?_
  obtain ⟨r_1, hq, hf⟩ := bd1_some hf
  refine rdS (As := [.int x1, .int (t_s 2)]) (rest := []) hF hG hP hl.1 (c_X12_first l G x1 (t_s 2) r_1 hq) k_X12_first q1127 [] rfl rfl rfl (Nat.le_of_ble_eq_true rfl) ⟨(Nat.le_of_ble_eq_true rfl), (Nat.le_of_ble_eq_true rfl)⟩ ⟨(Nat.zero_le _), (Nat.zero_le _)⟩ dX12_greatest_9 ?_
  refine lv_istore_n (lv' := [(3, .int r_1), (2, .int 0), (0, .ref a_t), (1, .int x1)]) hx hb dX12_greatest_12 rfl hl (by decide) rfl (fun ls hl => ?_)
  obtain ⟨o2_4, hq, hf⟩ := bd1_some hf
  have K13 : ∀ ls : Array Slot, lv_has ls 4 [(2, .int o2_4)] → W p l e RM_X12_greatest s m [.ref a_t, .int x1].toArray below meth c s.heap [] 0 0 (MQ below (rdQ (some (.int rr))) [.ref a_t, .int x1].toArray s 0 0 (fun _ => False)) (F0 m 43 ls []) := by
    intro ls hl
    refine lv_iload_n hx hb dX12_greatest_43 rfl (lv_at hl 0 rfl) ?_
    have hf : (some o2_4 : Option (Int32)) = some rr := hf
    cases hf
    exact re_i hF hr hlk dX12_greatest_44 rfl
  clear hf
  have L13 : ∀ (n : Nat) (i2_2 : Int32) (i3_3 : Int32), l_X12_greatest_13 t_s x1 n i2_2 i3_3 = some o2_4 → ∀ ls : Array Slot, lv_has ls 4 [(0, .ref a_t), (1, .int x1), (2, .int i2_2), (3, .int i3_3)] → W p l e RM_X12_greatest s m [.ref a_t, .int x1].toArray below meth c s.heap [] 0 0 (MQ below (rdQ (some (.int rr))) [.ref a_t, .int x1].toArray s 0 0 (fun _ => False)) (F0 m 13 ls []) := by
    intro n
    induction n with
    | zero =>
      intro i2_2 i3_3 hf
      exact nomatch (show none = some o2_4 from hf)
    | succ n ih =>
      intro i2_2 i3_3 hf ls hl
      rw [l_X12_greatest_13] at hf
      refine lv_iload_n hx hb dX12_greatest_13 rfl (lv_at hl 3 rfl) ?_
      refine lv_iload_n hx hb dX12_greatest_14 rfl (lv_at hl 1 rfl) ?_
      refine lv_icmp_gt (tgt := 43) hx hb dX12_greatest_15 (by decide) (fun c0 => ?_) (fun c0 => ?_)
      · have hf := (if_pos c0).symm.trans hf
        have hf : (some i2_2 : Option (Int32)) = some o2_4 := hf
        cases hf
        exact K13 ls (lv_sub hl [2] rfl)
      · have hf := (if_neg c0).symm.trans hf
        refine lv_aload_n hx hb dX12_greatest_18 rfl (lv_at hl 0 rfl) ?_
        refine lv_iload_n hx hb dX12_greatest_19 rfl (lv_at hl 3 rfl) ?_
        obtain ⟨r_5, hq, hf⟩ := bd1_some hf
        refine rdV (As := [.int i3_3]) (rest := []) hF hG hP hl.1 (c_X12_of l G a_t t_thrown a_t_states t_stateMany a_t_snapshot t_hasSnapshot a_t_text t_length t_at t_isWell a_t_read t_readMany a_t_prices t_priceMany t_pieceMany t_coins a_t_s t_s i3_3 r_5 hq) k_X12_of q1111 [0, 1] rfl ⟨0, 8, _, _, rfl, rfl, rfl⟩ rfl rfl (Nat.le_of_ble_eq_true rfl) ⟨(Nat.le_of_ble_eq_true rfl), (Nat.le_of_ble_eq_true rfl)⟩ ⟨(Nat.zero_le _), (Nat.zero_le _)⟩ dX12_greatest_20 ?_
        refine lv_iload_n hx hb dX12_greatest_23 rfl (lv_at hl 2 rfl) ?_
        refine lv_icmp_le (tgt := 35) hx hb dX12_greatest_24 (by decide) (fun c0 => ?_) (fun c0 => ?_)
        · have hf := (if_pos c0).symm.trans hf
          refine lv_iload_n hx hb dX12_greatest_35 rfl (lv_at hl 2 rfl) ?_
          refine lv_istore_n (lv' := [(2, .int i2_2), (0, .ref a_t), (1, .int x1), (3, .int i3_3)]) hx hb dX12_greatest_36 rfl hl (by decide) rfl (fun ls hl => ?_)
          refine lv_iinc (v := (i3_3 + 1)) (lv' := [(3, .int (i3_3 + 1)), (2, .int i2_2), (0, .ref a_t), (1, .int x1)]) hx hb dX12_greatest_37 hl (k := 3) rfl rfl (by decide) rfl (fun ls hl => ?_)
          refine lv_goto (tgt := 13) hx hb dX12_greatest_40 (by decide) ?_
          exact ih i2_2 (i3_3 + 1) hf ls (lv_sub hl [2, 3, 1, 0] rfl)
        · have hf := (if_neg c0).symm.trans hf
          refine lv_aload_n hx hb dX12_greatest_27 rfl (lv_at hl 0 rfl) ?_
          refine lv_iload_n hx hb dX12_greatest_28 rfl (lv_at hl 3 rfl) ?_
          obtain ⟨r_6, hq, hf⟩ := bd1_some hf
          refine rdV (As := [.int i3_3]) (rest := []) hF hG hP hl.1 (c_X12_of l G a_t t_thrown a_t_states t_stateMany a_t_snapshot t_hasSnapshot a_t_text t_length t_at t_isWell a_t_read t_readMany a_t_prices t_priceMany t_pieceMany t_coins a_t_s t_s i3_3 r_6 hq) k_X12_of q1111 [0, 1] rfl ⟨0, 8, _, _, rfl, rfl, rfl⟩ rfl rfl (Nat.le_of_ble_eq_true rfl) ⟨(Nat.le_of_ble_eq_true rfl), (Nat.le_of_ble_eq_true rfl)⟩ ⟨(Nat.zero_le _), (Nat.zero_le _)⟩ dX12_greatest_29 ?_
          refine lv_goto (tgt := 36) hx hb dX12_greatest_32 (by decide) ?_
          refine lv_istore_n (lv' := [(2, .int r_6), (0, .ref a_t), (1, .int x1), (3, .int i3_3)]) hx hb dX12_greatest_36 rfl hl (by decide) rfl (fun ls hl => ?_)
          refine lv_iinc (v := (i3_3 + 1)) (lv' := [(3, .int (i3_3 + 1)), (2, .int r_6), (0, .ref a_t), (1, .int x1)]) hx hb dX12_greatest_37 hl (k := 3) rfl rfl (by decide) rfl (fun ls hl => ?_)
          refine lv_goto (tgt := 13) hx hb dX12_greatest_40 (by decide) ?_
          exact ih r_6 (i3_3 + 1) hf ls (lv_sub hl [2, 3, 1, 0] rfl)
  exact L13 1000 0 r_1 hq ls (lv_sub hl [2, 3, 1, 0] rfl)
def f_X12_tellsHigh (t_thrown : Int32) (t_s : Nat → Int32) (x1 : Int32) : Option (Int32 × Int32) := bd1 (f_X12_isDay t_s x1) (fun (r_1 : Int32) => (if r_1 = 0 then bd2 (f_X12_fails 0 1) (fun (r_2 : Int32) (t_thrown_3 : Int32) => some (r_2, t_thrown_3)) else bd1 (f_X12_greatest t_s x1) (fun (r_4 : Int32) => some (r_4, 0))))
theorem k_X12_tellsHigh : KV yX12_tellsHigh cX12_tellsHigh 2 (some .int) 1 := ⟨qc_yX12_tellsHigh, q9, ⟨by decide +kernel, by decide +kernel, by decide +kernel⟩, qi_yX12_tellsHigh, qs_yX12_tellsHigh⟩
abbrev RM_X12_tellsHigh : Room := { frames := 2, cells := 0, slots := 0, locals := 44 }
set_option maxHeartbeats 4000000 in
set_option maxRecDepth 100000 in
theorem c_X12_tellsHigh (l : Launch) (G : GP) (a_t : Nat) (t_thrown : Int32) (a_t_states : Nat) (t_stateMany : Int32) (a_t_snapshot : Nat) (t_hasSnapshot : Int32) (a_t_text : Nat) (t_length : Int32) (t_at : Int32) (t_isWell : Int32) (a_t_read : Nat) (t_readMany : Int32) (a_t_prices : Nat) (t_priceMany : Int32) (t_pieceMany : Int32) (t_coins : Int64) (a_t_s : Nat) (t_s : Nat → Int32) (x1 : Int32) (rr : Int32) (w_t_thrown : Int32) (hf : f_X12_tellsHigh t_thrown t_s x1 = some (rr, w_t_thrown)) : WM l yX12_tellsHigh cX12_tellsHigh 2 (some .int) 2 44 G [.ref a_t, .int x1] [(a_t, .inr (8, [.int t_thrown, .ref a_t_s, .ref a_t_states, .int t_stateMany, .ref a_t_snapshot, .int t_hasSnapshot, .ref a_t_text, .int t_length, .int t_at, .int t_isWell, .ref a_t_read, .int t_readMany, .ref a_t_prices, .int t_priceMany, .int t_pieceMany, .long t_coins])), (a_t_s, .inl (G.2.1, 68, .inl t_s))] (some (.int rr)) [(a_t, .inr (8, [.int w_t_thrown, .ref a_t_s, .ref a_t_states, .int t_stateMany, .ref a_t_snapshot, .int t_hasSnapshot, .ref a_t_text, .int t_length, .int t_at, .int t_isWell, .ref a_t_read, .int t_readMany, .ref a_t_prices, .int t_priceMany, .int t_pieceMany, .long t_coins])), (a_t_s, .inl (G.2.1, 68, .inl t_s))] := by
  refine WM.ofW (C := RX12) (by decide) rfl (Nat.le_of_ble_eq_true rfl) ?_
  intro p e s m below meth c A hF hr hlk hG hA hP hD ls hl
  have hl : lv_has ls 2 [(0, .ref a_t), (1, .int x1)] := hl
  have hx := hF.1
  have hb := hF.2.1
  have hml := hF.2.2.1
  have hown := hF.2.2.2.1
  have hts := hF.2.2.2.2
  have hS : va_S A s.heap s.heap [] := va_S.rf
  unfold f_X12_tellsHigh at hf
  refine lv_aload_n hx hb dX12_tellsHigh_0 rfl (lv_at hl 0 rfl) ?_
  refine lv_iconst (v := 0) hx hb dX12_tellsHigh_1 (by decide) ?_
  refine pf (C := RX12) (T := TX12) (N := 16) (ci := 8) (v := .int 0) (ty := .int) hF hG hP hD hS inX12 tyX12 tyX12_ok nmX12 0 rfl rfl 0 (by decide) q1020 rfl rfl (by decide +kernel) rfl rfl (Nat.le_of_ble_eq_true rfl) dX12_tellsHigh_2 (fun H locs hP hD hS => ?_)
  replace hP : va_P G.1 vwCl [(a_t, .inr (8, [.int 0, .ref a_t_s, .ref a_t_states, .int t_stateMany, .ref a_t_snapshot, .int t_hasSnapshot, .ref a_t_text, .int t_length, .int t_at, .int t_isWell, .ref a_t_read, .int t_readMany, .ref a_t_prices, .int t_priceMany, .int t_pieceMany, .long t_coins])), (a_t_s, .inl (G.2.1, 68, .inl t_s))] H := hP
  replace hD : va_D A [(a_t, .inr (8, [.int 0, .ref a_t_s, .ref a_t_states, .int t_stateMany, .ref a_t_snapshot, .int t_hasSnapshot, .ref a_t_text, .int t_length, .int t_at, .int t_isWell, .ref a_t_read, .int t_readMany, .ref a_t_prices, .int t_priceMany, .int t_pieceMany, .long t_coins])), (a_t_s, .inl (G.2.1, 68, .inl t_s))] := hD
  refine lv_aload_n hx hb dX12_tellsHigh_5 rfl (lv_at hl 0 rfl) ?_
  refine lv_iload_n hx hb dX12_tellsHigh_6 rfl (lv_at hl 1 rfl) ?_
  obtain ⟨r_1, hq, hf⟩ := bd1_some hf
  refine rdV (As := [.int x1]) (rest := []) hF hG hP hl.1 (c_X12_isDay l G a_t 0 a_t_states t_stateMany a_t_snapshot t_hasSnapshot a_t_text t_length t_at t_isWell a_t_read t_readMany a_t_prices t_priceMany t_pieceMany t_coins a_t_s t_s x1 r_1 hq) k_X12_isDay q1099 [0, 1] rfl ⟨0, 8, _, _, rfl, rfl, rfl⟩ rfl rfl (Nat.le_of_ble_eq_true rfl) ⟨(Nat.le_of_ble_eq_true rfl), (Nat.le_of_ble_eq_true rfl)⟩ ⟨(Nat.zero_le _), (Nat.zero_le _)⟩ dX12_tellsHigh_7 ?_
  refine lv_if_eq (tgt := 21) hx hb dX12_tellsHigh_10 (by decide) (fun c0 => ?_) (fun c0 => ?_)
  · have hf := (if_pos c0).symm.trans hf
    refine lv_aload_n hx hb dX12_tellsHigh_21 rfl (lv_at hl 0 rfl) ?_
    refine lv_iconst (v := 1) hx hb dX12_tellsHigh_22 (by decide) ?_
    obtain ⟨r_2, t_thrown_3, hq, hf⟩ := bd2_some hf
    refine wrV (As := [.int 1]) (rest := []) (wn := [(a_t, .inr (8, [.int t_thrown_3, .ref a_t_s, .ref a_t_states, .int t_stateMany, .ref a_t_snapshot, .int t_hasSnapshot, .ref a_t_text, .int t_length, .int t_at, .int t_isWell, .ref a_t_read, .int t_readMany, .ref a_t_prices, .int t_priceMany, .int t_pieceMany, .long t_coins])), (a_t_s, .inl (G.2.1, 68, .inl t_s))]) hF hG hP hD hS hA hl.1 (c_X12_fails l G a_t 0 a_t_s a_t_states t_stateMany a_t_snapshot t_hasSnapshot a_t_text t_length t_at t_isWell a_t_read t_readMany a_t_prices t_priceMany t_pieceMany t_coins 1 r_2 t_thrown_3 hq) k_X12_fails q1083 [0] [1] [1, 0] rfl rfl rfl rfl ⟨rfl, rfl⟩ (by decide) ⟨0, 8, _, _, rfl, rfl, rfl⟩ rfl rfl (Nat.le_of_ble_eq_true rfl) ⟨(Nat.le_of_ble_eq_true rfl), (Nat.le_of_ble_eq_true rfl)⟩ ⟨(Nat.le_of_ble_eq_true rfl), (Nat.le_of_ble_eq_true rfl)⟩ dX12_tellsHigh_23 (fun H locs hP hD hS => ?_)
    have hf : (some (r_2, t_thrown_3) : Option (Int32 × Int32)) = some (rr, w_t_thrown) := hf
    cases hf
    exact we_i hF hr hlk hP hD hS dX12_tellsHigh_26 rfl
  · have hf := (if_neg c0).symm.trans hf
    refine lv_aload_n hx hb dX12_tellsHigh_13 rfl (lv_at hl 0 rfl) ?_
    refine lv_iload_n hx hb dX12_tellsHigh_14 rfl (lv_at hl 1 rfl) ?_
    obtain ⟨r_4, hq, hf⟩ := bd1_some hf
    refine rdV (As := [.int x1]) (rest := []) hF hG hP hl.1 (c_X12_greatest l G a_t 0 a_t_states t_stateMany a_t_snapshot t_hasSnapshot a_t_text t_length t_at t_isWell a_t_read t_readMany a_t_prices t_priceMany t_pieceMany t_coins a_t_s t_s x1 r_4 hq) k_X12_greatest q1315 [0, 1] rfl ⟨0, 8, _, _, rfl, rfl, rfl⟩ rfl rfl (Nat.le_of_ble_eq_true rfl) ⟨(Nat.le_of_ble_eq_true rfl), (Nat.le_of_ble_eq_true rfl)⟩ ⟨(Nat.zero_le _), (Nat.zero_le _)⟩ dX12_tellsHigh_15 ?_
    refine lv_goto (tgt := 26) hx hb dX12_tellsHigh_18 (by decide) ?_
    have hf : (some (r_4, 0) : Option (Int32 × Int32)) = some (rr, w_t_thrown) := hf
    cases hf
    exact we_i hF hr hlk hP hD hS dX12_tellsHigh_26 rfl
def f_X12_high (t_thrown : Int32) (t_s : Nat → Int32) (x1 : Int32) : Option (Int32 × Int32) := bd2 (f_X12_tellsHigh t_thrown t_s x1) (fun (r_1 : Int32) (t_thrown_2 : Int32) => some (r_1, t_thrown_2))
theorem k_X12_high : KV yX12_high cX12_high 2 (some .int) 1 := ⟨qc_yX12_high, q9, ⟨by decide +kernel, by decide +kernel, by decide +kernel⟩, qi_yX12_high, qs_yX12_high⟩
abbrev RM_X12_high : Room := { frames := 3, cells := 0, slots := 0, locals := 65 }
set_option maxHeartbeats 4000000 in
set_option maxRecDepth 100000 in
theorem c_X12_high (l : Launch) (G : GP) (a_t : Nat) (t_thrown : Int32) (a_t_states : Nat) (t_stateMany : Int32) (a_t_snapshot : Nat) (t_hasSnapshot : Int32) (a_t_text : Nat) (t_length : Int32) (t_at : Int32) (t_isWell : Int32) (a_t_read : Nat) (t_readMany : Int32) (a_t_prices : Nat) (t_priceMany : Int32) (t_pieceMany : Int32) (t_coins : Int64) (a_t_s : Nat) (t_s : Nat → Int32) (x1 : Int32) (rr : Int32) (w_t_thrown : Int32) (hf : f_X12_high t_thrown t_s x1 = some (rr, w_t_thrown)) : WM l yX12_high cX12_high 2 (some .int) 3 65 G [.ref a_t, .int x1] [(a_t, .inr (8, [.int t_thrown, .ref a_t_s, .ref a_t_states, .int t_stateMany, .ref a_t_snapshot, .int t_hasSnapshot, .ref a_t_text, .int t_length, .int t_at, .int t_isWell, .ref a_t_read, .int t_readMany, .ref a_t_prices, .int t_priceMany, .int t_pieceMany, .long t_coins])), (a_t_s, .inl (G.2.1, 68, .inl t_s))] (some (.int rr)) [(a_t, .inr (8, [.int w_t_thrown, .ref a_t_s, .ref a_t_states, .int t_stateMany, .ref a_t_snapshot, .int t_hasSnapshot, .ref a_t_text, .int t_length, .int t_at, .int t_isWell, .ref a_t_read, .int t_readMany, .ref a_t_prices, .int t_priceMany, .int t_pieceMany, .long t_coins])), (a_t_s, .inl (G.2.1, 68, .inl t_s))] := by
  refine WM.ofW (C := RX12) (by decide) rfl (Nat.le_of_ble_eq_true rfl) ?_
  intro p e s m below meth c A hF hr hlk hG hA hP hD ls hl
  have hl : lv_has ls 2 [(0, .ref a_t), (1, .int x1)] := hl
  have hx := hF.1
  have hb := hF.2.1
  have hml := hF.2.2.1
  have hown := hF.2.2.2.1
  have hts := hF.2.2.2.2
  have hS : va_S A s.heap s.heap [] := va_S.rf
  unfold f_X12_high at hf
  refine lv_aload_n hx hb dX12_high_0 rfl (lv_at hl 0 rfl) ?_
  refine lv_iload_n hx hb dX12_high_1 rfl (lv_at hl 1 rfl) ?_
  obtain ⟨r_1, t_thrown_2, hq, hf⟩ := bd2_some hf
  refine wrV (As := [.int x1]) (rest := []) (wn := [(a_t, .inr (8, [.int t_thrown_2, .ref a_t_s, .ref a_t_states, .int t_stateMany, .ref a_t_snapshot, .int t_hasSnapshot, .ref a_t_text, .int t_length, .int t_at, .int t_isWell, .ref a_t_read, .int t_readMany, .ref a_t_prices, .int t_priceMany, .int t_pieceMany, .long t_coins])), (a_t_s, .inl (G.2.1, 68, .inl t_s))]) hF hG hP hD hS hA hl.1 (c_X12_tellsHigh l G a_t t_thrown a_t_states t_stateMany a_t_snapshot t_hasSnapshot a_t_text t_length t_at t_isWell a_t_read t_readMany a_t_prices t_priceMany t_pieceMany t_coins a_t_s t_s x1 r_1 t_thrown_2 hq) k_X12_tellsHigh q1311 [0, 1] [] [0, 1] rfl rfl rfl rfl ⟨rfl, rfl⟩ (by decide) ⟨0, 8, _, _, rfl, rfl, rfl⟩ rfl rfl (Nat.le_of_ble_eq_true rfl) ⟨(Nat.le_of_ble_eq_true rfl), (Nat.le_of_ble_eq_true rfl)⟩ ⟨(Nat.le_of_ble_eq_true rfl), (Nat.le_of_ble_eq_true rfl)⟩ dX12_high_2 (fun H locs hP hD hS => ?_)
  have hf : (some (r_1, t_thrown_2) : Option (Int32 × Int32)) = some (rr, w_t_thrown) := hf
  cases hf
  exact we_i hF hr hlk hP hD hS dX12_high_5 rfl
def f_X12_highByCandidates (t_thrown : Int32) (t_s : Nat → Int32) (x1 : Int32) : Option (Int32 × Int32) := bd2 (f_X12_tellsHigh t_thrown t_s x1) (fun (r_1 : Int32) (t_thrown_2 : Int32) => some (r_1, t_thrown_2))
theorem k_X12_highByCandidates : KV yX12_highByCandidates cX12_highByCandidates 2 (some .int) 1 := ⟨qc_yX12_highByCandidates, q9, ⟨by decide +kernel, by decide +kernel, by decide +kernel⟩, qi_yX12_highByCandidates, qs_yX12_highByCandidates⟩
abbrev RM_X12_highByCandidates : Room := { frames := 3, cells := 0, slots := 0, locals := 65 }
set_option maxHeartbeats 4000000 in
set_option maxRecDepth 100000 in
theorem c_X12_highByCandidates (l : Launch) (G : GP) (a_t : Nat) (t_thrown : Int32) (a_t_states : Nat) (t_stateMany : Int32) (a_t_snapshot : Nat) (t_hasSnapshot : Int32) (a_t_text : Nat) (t_length : Int32) (t_at : Int32) (t_isWell : Int32) (a_t_read : Nat) (t_readMany : Int32) (a_t_prices : Nat) (t_priceMany : Int32) (t_pieceMany : Int32) (t_coins : Int64) (a_t_s : Nat) (t_s : Nat → Int32) (x1 : Int32) (rr : Int32) (w_t_thrown : Int32) (hf : f_X12_highByCandidates t_thrown t_s x1 = some (rr, w_t_thrown)) : WM l yX12_highByCandidates cX12_highByCandidates 2 (some .int) 3 65 G [.ref a_t, .int x1] [(a_t, .inr (8, [.int t_thrown, .ref a_t_s, .ref a_t_states, .int t_stateMany, .ref a_t_snapshot, .int t_hasSnapshot, .ref a_t_text, .int t_length, .int t_at, .int t_isWell, .ref a_t_read, .int t_readMany, .ref a_t_prices, .int t_priceMany, .int t_pieceMany, .long t_coins])), (a_t_s, .inl (G.2.1, 68, .inl t_s))] (some (.int rr)) [(a_t, .inr (8, [.int w_t_thrown, .ref a_t_s, .ref a_t_states, .int t_stateMany, .ref a_t_snapshot, .int t_hasSnapshot, .ref a_t_text, .int t_length, .int t_at, .int t_isWell, .ref a_t_read, .int t_readMany, .ref a_t_prices, .int t_priceMany, .int t_pieceMany, .long t_coins])), (a_t_s, .inl (G.2.1, 68, .inl t_s))] := by
  refine WM.ofW (C := RX12) (by decide) rfl (Nat.le_of_ble_eq_true rfl) ?_
  intro p e s m below meth c A hF hr hlk hG hA hP hD ls hl
  have hl : lv_has ls 2 [(0, .ref a_t), (1, .int x1)] := hl
  have hx := hF.1
  have hb := hF.2.1
  have hml := hF.2.2.1
  have hown := hF.2.2.2.1
  have hts := hF.2.2.2.2
  have hS : va_S A s.heap s.heap [] := va_S.rf
  unfold f_X12_highByCandidates at hf
  refine lv_aload_n hx hb dX12_highByCandidates_0 rfl (lv_at hl 0 rfl) ?_
  refine lv_iload_n hx hb dX12_highByCandidates_1 rfl (lv_at hl 1 rfl) ?_
  obtain ⟨r_1, t_thrown_2, hq, hf⟩ := bd2_some hf
  refine wrV (As := [.int x1]) (rest := []) (wn := [(a_t, .inr (8, [.int t_thrown_2, .ref a_t_s, .ref a_t_states, .int t_stateMany, .ref a_t_snapshot, .int t_hasSnapshot, .ref a_t_text, .int t_length, .int t_at, .int t_isWell, .ref a_t_read, .int t_readMany, .ref a_t_prices, .int t_priceMany, .int t_pieceMany, .long t_coins])), (a_t_s, .inl (G.2.1, 68, .inl t_s))]) hF hG hP hD hS hA hl.1 (c_X12_tellsHigh l G a_t t_thrown a_t_states t_stateMany a_t_snapshot t_hasSnapshot a_t_text t_length t_at t_isWell a_t_read t_readMany a_t_prices t_priceMany t_pieceMany t_coins a_t_s t_s x1 r_1 t_thrown_2 hq) k_X12_tellsHigh q1311 [0, 1] [] [0, 1] rfl rfl rfl rfl ⟨rfl, rfl⟩ (by decide) ⟨0, 8, _, _, rfl, rfl, rfl⟩ rfl rfl (Nat.le_of_ble_eq_true rfl) ⟨(Nat.le_of_ble_eq_true rfl), (Nat.le_of_ble_eq_true rfl)⟩ ⟨(Nat.le_of_ble_eq_true rfl), (Nat.le_of_ble_eq_true rfl)⟩ dX12_highByCandidates_2 (fun H locs hP hD hS => ?_)
  have hf : (some (r_1, t_thrown_2) : Option (Int32 × Int32)) = some (rr, w_t_thrown) := hf
  cases hf
  exact we_i hF hr hlk hP hD hS dX12_highByCandidates_5 rfl
def f_X12_side (t_s : Nat → Int32) (x1 : Int32) : Option (Int32) := bd1 (f_X12_meanOf t_s x1 (t_s 1)) (fun (r_1 : Int32) => bd1 (f_X12_meanOf t_s x1 (t_s 2)) (fun (r_2 : Int32) => (if (r_1 - r_2) ≤ 0 then (if 0 ≤ (r_1 - r_2) then some 0 else some (-1)) else some 1)))
theorem k_X12_side : KV yX12_side cX12_side 3 (some .int) 1 := ⟨qc_yX12_side, q9, ⟨by decide +kernel, by decide +kernel, by decide +kernel⟩, qi_yX12_side, qs_yX12_side⟩
abbrev RM_X12_side : Room := { frames := 2, cells := 0, slots := 0, locals := 46 }
set_option maxHeartbeats 4000000 in
set_option maxRecDepth 100000 in
theorem c_X12_side (l : Launch) (G : GP) (a_t : Nat) (t_thrown : Int32) (a_t_states : Nat) (t_stateMany : Int32) (a_t_snapshot : Nat) (t_hasSnapshot : Int32) (a_t_text : Nat) (t_length : Int32) (t_at : Int32) (t_isWell : Int32) (a_t_read : Nat) (t_readMany : Int32) (a_t_prices : Nat) (t_priceMany : Int32) (t_pieceMany : Int32) (t_coins : Int64) (a_t_s : Nat) (t_s : Nat → Int32) (x1 : Int32) (rr : Int32) (hf : f_X12_side t_s x1 = some rr) : RM l yX12_side cX12_side 3 (some .int) 2 46 G [.ref a_t, .int x1] [(a_t, .inr (8, [.int t_thrown, .ref a_t_s, .ref a_t_states, .int t_stateMany, .ref a_t_snapshot, .int t_hasSnapshot, .ref a_t_text, .int t_length, .int t_at, .int t_isWell, .ref a_t_read, .int t_readMany, .ref a_t_prices, .int t_priceMany, .int t_pieceMany, .long t_coins])), (a_t_s, .inl (G.2.1, 68, .inl t_s))] (some (.int rr)) := by
  refine RM.ofW (C := RX12) (by decide) rfl (Nat.le_of_ble_eq_true rfl) ?_
  intro p e s m below meth c hF hr hlk hG hP ls hl
  have hl : lv_has ls 3 [(0, .ref a_t), (1, .int x1)] := hl
  have hx := hF.1
  have hb := hF.2.1
  have hml := hF.2.2.1
  have hown := hF.2.2.2.1
  have hts := hF.2.2.2.2
  unfold f_X12_side at hf
  refine lv_aload_n hx hb dX12_side_0 rfl (lv_at hl 0 rfl) ?_
  refine lv_iload_n hx hb dX12_side_1 rfl (lv_at hl 1 rfl) ?_
  refine lv_aload_n hx hb dX12_side_2 rfl (lv_at hl 0 rfl) ?_
  refine gf (C := RX12) (T := TX12) (N := 16) (ci := 8) (v := .ref a_t_s) hF hG hP inX12 0 rfl rfl 1 (by decide) q1021 rfl rfl dX12_side_3 ?_
  refine lv_iconst (v := 1) hx hb dX12_side_6 (by decide) ?_
  refine ald_i (k := 1) hF hG hP 1 rfl (by decide) (by decide) dX12_side_7 ?_
  obtain ⟨r_1, hq, hf⟩ := bd1_some hf
  refine rdV (As := [.int x1, .int (t_s 1)]) (rest := []) hF hG hP hl.1 (c_X12_meanOf l G a_t t_thrown a_t_states t_stateMany a_t_snapshot t_hasSnapshot a_t_text t_length t_at t_isWell a_t_read t_readMany a_t_prices t_priceMany t_pieceMany t_coins a_t_s t_s x1 (t_s 1) r_1 hq) k_X12_meanOf q1258 [0, 1] rfl ⟨0, 8, _, _, rfl, rfl, rfl⟩ rfl rfl (Nat.le_of_ble_eq_true rfl) ⟨(Nat.le_of_ble_eq_true rfl), (Nat.le_of_ble_eq_true rfl)⟩ ⟨(Nat.zero_le _), (Nat.zero_le _)⟩ dX12_side_8 ?_
  refine lv_aload_n hx hb dX12_side_11 rfl (lv_at hl 0 rfl) ?_
  refine lv_iload_n hx hb dX12_side_12 rfl (lv_at hl 1 rfl) ?_
  refine lv_aload_n hx hb dX12_side_13 rfl (lv_at hl 0 rfl) ?_
  refine gf (C := RX12) (T := TX12) (N := 16) (ci := 8) (v := .ref a_t_s) hF hG hP inX12 0 rfl rfl 1 (by decide) q1021 rfl rfl dX12_side_14 ?_
  refine lv_iconst (v := 2) hx hb dX12_side_17 (by decide) ?_
  refine ald_i (k := 2) hF hG hP 1 rfl (by decide) (by decide) dX12_side_18 ?_
  obtain ⟨r_2, hq, hf⟩ := bd1_some hf
  refine rdV (As := [.int x1, .int (t_s 2)]) (rest := [.int r_1]) hF hG hP hl.1 (c_X12_meanOf l G a_t t_thrown a_t_states t_stateMany a_t_snapshot t_hasSnapshot a_t_text t_length t_at t_isWell a_t_read t_readMany a_t_prices t_priceMany t_pieceMany t_coins a_t_s t_s x1 (t_s 2) r_2 hq) k_X12_meanOf q1258 [0, 1] rfl ⟨0, 8, _, _, rfl, rfl, rfl⟩ rfl rfl (Nat.le_of_ble_eq_true rfl) ⟨(Nat.le_of_ble_eq_true rfl), (Nat.le_of_ble_eq_true rfl)⟩ ⟨(Nat.zero_le _), (Nat.zero_le _)⟩ dX12_side_19 ?_
  refine lv_isub hx hb dX12_side_22 ?_
  refine lv_istore_n (lv' := [(2, .int (r_1 - r_2)), (0, .ref a_t), (1, .int x1)]) hx hb dX12_side_23 rfl hl (by decide) rfl (fun ls hl => ?_)
  refine lv_iload_n hx hb dX12_side_24 rfl (lv_at hl 0 rfl) ?_
  refine lv_if_le (tgt := 32) hx hb dX12_side_25 (by decide) (fun c0 => ?_) (fun c0 => ?_)
  · have hf := (if_pos c0).symm.trans hf
    refine lv_iload_n hx hb dX12_side_32 rfl (lv_at hl 0 rfl) ?_
    refine lv_if_ge (tgt := 40) hx hb dX12_side_33 (by decide) (fun c0 => ?_) (fun c0 => ?_)
    · have hf := (if_pos c0).symm.trans hf
      refine lv_iconst (v := 0) hx hb dX12_side_40 (by decide) ?_
      have hf : (some 0 : Option (Int32)) = some rr := hf
      cases hf
      exact re_i hF hr hlk dX12_side_41 rfl
    · have hf := (if_neg c0).symm.trans hf
      refine lv_iconst (v := (-1)) hx hb dX12_side_36 (by decide) ?_
      refine lv_goto (tgt := 41) hx hb dX12_side_37 (by decide) ?_
      have hf : (some (-1) : Option (Int32)) = some rr := hf
      cases hf
      exact re_i hF hr hlk dX12_side_41 rfl
  · have hf := (if_neg c0).symm.trans hf
    refine lv_iconst (v := 1) hx hb dX12_side_28 (by decide) ?_
    refine lv_goto (tgt := 41) hx hb dX12_side_29 (by decide) ?_
    have hf : (some 1 : Option (Int32)) = some rr := hf
    cases hf
    exact re_i hF hr hlk dX12_side_41 rfl
def f_X12_crosses (t_s : Nat → Int32) (x1 : Int32) : Option (Int32) := (if x1 = 0 then some 0 else bd1 (f_X12_side t_s x1) (fun (r_1 : Int32) => bd1 (f_X12_side t_s (x1 - 1)) (fun (r_2 : Int32) => (if r_1 = r_2 then some 0 else bd1 (f_X12_side t_s x1) (fun (r_3 : Int32) => some r_3)))))
theorem k_X12_crosses : KV yX12_crosses cX12_crosses 2 (some .int) 1 := ⟨qc_yX12_crosses, q9, ⟨by decide +kernel, by decide +kernel, by decide +kernel⟩, qi_yX12_crosses, qs_yX12_crosses⟩
abbrev RM_X12_crosses : Room := { frames := 3, cells := 0, slots := 0, locals := 68 }
set_option maxHeartbeats 4000000 in
set_option maxRecDepth 100000 in
theorem c_X12_crosses (l : Launch) (G : GP) (a_t : Nat) (t_thrown : Int32) (a_t_states : Nat) (t_stateMany : Int32) (a_t_snapshot : Nat) (t_hasSnapshot : Int32) (a_t_text : Nat) (t_length : Int32) (t_at : Int32) (t_isWell : Int32) (a_t_read : Nat) (t_readMany : Int32) (a_t_prices : Nat) (t_priceMany : Int32) (t_pieceMany : Int32) (t_coins : Int64) (a_t_s : Nat) (t_s : Nat → Int32) (x1 : Int32) (rr : Int32) (hf : f_X12_crosses t_s x1 = some rr) : RM l yX12_crosses cX12_crosses 2 (some .int) 3 68 G [.ref a_t, .int x1] [(a_t, .inr (8, [.int t_thrown, .ref a_t_s, .ref a_t_states, .int t_stateMany, .ref a_t_snapshot, .int t_hasSnapshot, .ref a_t_text, .int t_length, .int t_at, .int t_isWell, .ref a_t_read, .int t_readMany, .ref a_t_prices, .int t_priceMany, .int t_pieceMany, .long t_coins])), (a_t_s, .inl (G.2.1, 68, .inl t_s))] (some (.int rr)) := by
  refine RM.ofW (C := RX12) (by decide) rfl (Nat.le_of_ble_eq_true rfl) ?_
  intro p e s m below meth c hF hr hlk hG hP ls hl
  have hl : lv_has ls 2 [(0, .ref a_t), (1, .int x1)] := hl
  have hx := hF.1
  have hb := hF.2.1
  have hml := hF.2.2.1
  have hown := hF.2.2.2.1
  have hts := hF.2.2.2.2
  unfold f_X12_crosses at hf
  refine lv_iload_n hx hb dX12_crosses_0 rfl (lv_at hl 1 rfl) ?_
  refine lv_if_eq (tgt := 19) hx hb dX12_crosses_1 (by decide) (fun c0 => ?_) (fun c0 => ?_)
  · have hf := (if_pos c0).symm.trans hf
    refine lv_iconst (v := 0) hx hb dX12_crosses_19 (by decide) ?_
    refine lv_goto (tgt := 28) hx hb dX12_crosses_20 (by decide) ?_
    have hf : (some 0 : Option (Int32)) = some rr := hf
    cases hf
    exact re_i hF hr hlk dX12_crosses_28 rfl
  · have hf := (if_neg c0).symm.trans hf
    refine lv_aload_n hx hb dX12_crosses_4 rfl (lv_at hl 0 rfl) ?_
    refine lv_iload_n hx hb dX12_crosses_5 rfl (lv_at hl 1 rfl) ?_
    obtain ⟨r_1, hq, hf⟩ := bd1_some hf
    refine rdV (As := [.int x1]) (rest := []) hF hG hP hl.1 (c_X12_side l G a_t t_thrown a_t_states t_stateMany a_t_snapshot t_hasSnapshot a_t_text t_length t_at t_isWell a_t_read t_readMany a_t_prices t_priceMany t_pieceMany t_coins a_t_s t_s x1 r_1 hq) k_X12_side q1331 [0, 1] rfl ⟨0, 8, _, _, rfl, rfl, rfl⟩ rfl rfl (Nat.le_of_ble_eq_true rfl) ⟨(Nat.le_of_ble_eq_true rfl), (Nat.le_of_ble_eq_true rfl)⟩ ⟨(Nat.zero_le _), (Nat.zero_le _)⟩ dX12_crosses_6 ?_
    refine lv_aload_n hx hb dX12_crosses_9 rfl (lv_at hl 0 rfl) ?_
    refine lv_iload_n hx hb dX12_crosses_10 rfl (lv_at hl 1 rfl) ?_
    refine lv_iconst (v := 1) hx hb dX12_crosses_11 (by decide) ?_
    refine lv_isub hx hb dX12_crosses_12 ?_
    obtain ⟨r_2, hq, hf⟩ := bd1_some hf
    refine rdV (As := [.int (x1 - 1)]) (rest := [.int r_1]) hF hG hP hl.1 (c_X12_side l G a_t t_thrown a_t_states t_stateMany a_t_snapshot t_hasSnapshot a_t_text t_length t_at t_isWell a_t_read t_readMany a_t_prices t_priceMany t_pieceMany t_coins a_t_s t_s (x1 - 1) r_2 hq) k_X12_side q1331 [0, 1] rfl ⟨0, 8, _, _, rfl, rfl, rfl⟩ rfl rfl (Nat.le_of_ble_eq_true rfl) ⟨(Nat.le_of_ble_eq_true rfl), (Nat.le_of_ble_eq_true rfl)⟩ ⟨(Nat.zero_le _), (Nat.zero_le _)⟩ dX12_crosses_13 ?_
    refine lv_icmp_ne (tgt := 23) hx hb dX12_crosses_16 (by decide) (fun c0 => ?_) (fun c0 => ?_)
    · have hf := (if_neg c0).symm.trans hf
      refine lv_aload_n hx hb dX12_crosses_23 rfl (lv_at hl 0 rfl) ?_
      refine lv_iload_n hx hb dX12_crosses_24 rfl (lv_at hl 1 rfl) ?_
      obtain ⟨r_3, hq, hf⟩ := bd1_some hf
      refine rdV (As := [.int x1]) (rest := []) hF hG hP hl.1 (c_X12_side l G a_t t_thrown a_t_states t_stateMany a_t_snapshot t_hasSnapshot a_t_text t_length t_at t_isWell a_t_read t_readMany a_t_prices t_priceMany t_pieceMany t_coins a_t_s t_s x1 r_3 hq) k_X12_side q1331 [0, 1] rfl ⟨0, 8, _, _, rfl, rfl, rfl⟩ rfl rfl (Nat.le_of_ble_eq_true rfl) ⟨(Nat.le_of_ble_eq_true rfl), (Nat.le_of_ble_eq_true rfl)⟩ ⟨(Nat.zero_le _), (Nat.zero_le _)⟩ dX12_crosses_25 ?_
      have hf : (some r_3 : Option (Int32)) = some rr := hf
      cases hf
      exact re_i hF hr hlk dX12_crosses_28 rfl
    · have hf := (if_pos c0).symm.trans hf
      refine lv_iconst (v := 0) hx hb dX12_crosses_19 (by decide) ?_
      refine lv_goto (tgt := 28) hx hb dX12_crosses_20 (by decide) ?_
      have hf : (some 0 : Option (Int32)) = some rr := hf
      cases hf
      exact re_i hF hr hlk dX12_crosses_28 rfl
def f_X12_crossing (t_thrown : Int32) (t_s : Nat → Int32) (x1 : Int32) : Option (Int32 × Int32) := bd1 (f_X12_isDay t_s x1) (fun (r_1 : Int32) => (if r_1 = 0 then bd2 (f_X12_fails 0 1) (fun (r_2 : Int32) (t_thrown_3 : Int32) => some (r_2, t_thrown_3)) else bd1 (f_X12_crosses t_s x1) (fun (r_4 : Int32) => some (r_4, 0))))
theorem k_X12_crossing : KV yX12_crossing cX12_crossing 2 (some .int) 1 := ⟨qc_yX12_crossing, q9, ⟨by decide +kernel, by decide +kernel, by decide +kernel⟩, qi_yX12_crossing, qs_yX12_crossing⟩
abbrev RM_X12_crossing : Room := { frames := 4, cells := 0, slots := 0, locals := 89 }
set_option maxHeartbeats 4000000 in
set_option maxRecDepth 100000 in
theorem c_X12_crossing (l : Launch) (G : GP) (a_t : Nat) (t_thrown : Int32) (a_t_states : Nat) (t_stateMany : Int32) (a_t_snapshot : Nat) (t_hasSnapshot : Int32) (a_t_text : Nat) (t_length : Int32) (t_at : Int32) (t_isWell : Int32) (a_t_read : Nat) (t_readMany : Int32) (a_t_prices : Nat) (t_priceMany : Int32) (t_pieceMany : Int32) (t_coins : Int64) (a_t_s : Nat) (t_s : Nat → Int32) (x1 : Int32) (rr : Int32) (w_t_thrown : Int32) (hf : f_X12_crossing t_thrown t_s x1 = some (rr, w_t_thrown)) : WM l yX12_crossing cX12_crossing 2 (some .int) 4 89 G [.ref a_t, .int x1] [(a_t, .inr (8, [.int t_thrown, .ref a_t_s, .ref a_t_states, .int t_stateMany, .ref a_t_snapshot, .int t_hasSnapshot, .ref a_t_text, .int t_length, .int t_at, .int t_isWell, .ref a_t_read, .int t_readMany, .ref a_t_prices, .int t_priceMany, .int t_pieceMany, .long t_coins])), (a_t_s, .inl (G.2.1, 68, .inl t_s))] (some (.int rr)) [(a_t, .inr (8, [.int w_t_thrown, .ref a_t_s, .ref a_t_states, .int t_stateMany, .ref a_t_snapshot, .int t_hasSnapshot, .ref a_t_text, .int t_length, .int t_at, .int t_isWell, .ref a_t_read, .int t_readMany, .ref a_t_prices, .int t_priceMany, .int t_pieceMany, .long t_coins])), (a_t_s, .inl (G.2.1, 68, .inl t_s))] := by
  refine WM.ofW (C := RX12) (by decide) rfl (Nat.le_of_ble_eq_true rfl) ?_
  intro p e s m below meth c A hF hr hlk hG hA hP hD ls hl
  have hl : lv_has ls 2 [(0, .ref a_t), (1, .int x1)] := hl
  have hx := hF.1
  have hb := hF.2.1
  have hml := hF.2.2.1
  have hown := hF.2.2.2.1
  have hts := hF.2.2.2.2
  have hS : va_S A s.heap s.heap [] := va_S.rf
  unfold f_X12_crossing at hf
  refine lv_aload_n hx hb dX12_crossing_0 rfl (lv_at hl 0 rfl) ?_
  refine lv_iconst (v := 0) hx hb dX12_crossing_1 (by decide) ?_
  refine pf (C := RX12) (T := TX12) (N := 16) (ci := 8) (v := .int 0) (ty := .int) hF hG hP hD hS inX12 tyX12 tyX12_ok nmX12 0 rfl rfl 0 (by decide) q1020 rfl rfl (by decide +kernel) rfl rfl (Nat.le_of_ble_eq_true rfl) dX12_crossing_2 (fun H locs hP hD hS => ?_)
  replace hP : va_P G.1 vwCl [(a_t, .inr (8, [.int 0, .ref a_t_s, .ref a_t_states, .int t_stateMany, .ref a_t_snapshot, .int t_hasSnapshot, .ref a_t_text, .int t_length, .int t_at, .int t_isWell, .ref a_t_read, .int t_readMany, .ref a_t_prices, .int t_priceMany, .int t_pieceMany, .long t_coins])), (a_t_s, .inl (G.2.1, 68, .inl t_s))] H := hP
  replace hD : va_D A [(a_t, .inr (8, [.int 0, .ref a_t_s, .ref a_t_states, .int t_stateMany, .ref a_t_snapshot, .int t_hasSnapshot, .ref a_t_text, .int t_length, .int t_at, .int t_isWell, .ref a_t_read, .int t_readMany, .ref a_t_prices, .int t_priceMany, .int t_pieceMany, .long t_coins])), (a_t_s, .inl (G.2.1, 68, .inl t_s))] := hD
  refine lv_aload_n hx hb dX12_crossing_5 rfl (lv_at hl 0 rfl) ?_
  refine lv_iload_n hx hb dX12_crossing_6 rfl (lv_at hl 1 rfl) ?_
  obtain ⟨r_1, hq, hf⟩ := bd1_some hf
  refine rdV (As := [.int x1]) (rest := []) hF hG hP hl.1 (c_X12_isDay l G a_t 0 a_t_states t_stateMany a_t_snapshot t_hasSnapshot a_t_text t_length t_at t_isWell a_t_read t_readMany a_t_prices t_priceMany t_pieceMany t_coins a_t_s t_s x1 r_1 hq) k_X12_isDay q1099 [0, 1] rfl ⟨0, 8, _, _, rfl, rfl, rfl⟩ rfl rfl (Nat.le_of_ble_eq_true rfl) ⟨(Nat.le_of_ble_eq_true rfl), (Nat.le_of_ble_eq_true rfl)⟩ ⟨(Nat.zero_le _), (Nat.zero_le _)⟩ dX12_crossing_7 ?_
  refine lv_if_eq (tgt := 21) hx hb dX12_crossing_10 (by decide) (fun c0 => ?_) (fun c0 => ?_)
  · have hf := (if_pos c0).symm.trans hf
    refine lv_aload_n hx hb dX12_crossing_21 rfl (lv_at hl 0 rfl) ?_
    refine lv_iconst (v := 1) hx hb dX12_crossing_22 (by decide) ?_
    obtain ⟨r_2, t_thrown_3, hq, hf⟩ := bd2_some hf
    refine wrV (As := [.int 1]) (rest := []) (wn := [(a_t, .inr (8, [.int t_thrown_3, .ref a_t_s, .ref a_t_states, .int t_stateMany, .ref a_t_snapshot, .int t_hasSnapshot, .ref a_t_text, .int t_length, .int t_at, .int t_isWell, .ref a_t_read, .int t_readMany, .ref a_t_prices, .int t_priceMany, .int t_pieceMany, .long t_coins])), (a_t_s, .inl (G.2.1, 68, .inl t_s))]) hF hG hP hD hS hA hl.1 (c_X12_fails l G a_t 0 a_t_s a_t_states t_stateMany a_t_snapshot t_hasSnapshot a_t_text t_length t_at t_isWell a_t_read t_readMany a_t_prices t_priceMany t_pieceMany t_coins 1 r_2 t_thrown_3 hq) k_X12_fails q1083 [0] [1] [1, 0] rfl rfl rfl rfl ⟨rfl, rfl⟩ (by decide) ⟨0, 8, _, _, rfl, rfl, rfl⟩ rfl rfl (Nat.le_of_ble_eq_true rfl) ⟨(Nat.le_of_ble_eq_true rfl), (Nat.le_of_ble_eq_true rfl)⟩ ⟨(Nat.le_of_ble_eq_true rfl), (Nat.le_of_ble_eq_true rfl)⟩ dX12_crossing_23 (fun H locs hP hD hS => ?_)
    have hf : (some (r_2, t_thrown_3) : Option (Int32 × Int32)) = some (rr, w_t_thrown) := hf
    cases hf
    exact we_i hF hr hlk hP hD hS dX12_crossing_26 rfl
  · have hf := (if_neg c0).symm.trans hf
    refine lv_aload_n hx hb dX12_crossing_13 rfl (lv_at hl 0 rfl) ?_
    refine lv_iload_n hx hb dX12_crossing_14 rfl (lv_at hl 1 rfl) ?_
    obtain ⟨r_4, hq, hf⟩ := bd1_some hf
    refine rdV (As := [.int x1]) (rest := []) hF hG hP hl.1 (c_X12_crosses l G a_t 0 a_t_states t_stateMany a_t_snapshot t_hasSnapshot a_t_text t_length t_at t_isWell a_t_read t_readMany a_t_prices t_priceMany t_pieceMany t_coins a_t_s t_s x1 r_4 hq) k_X12_crosses q1327 [0, 1] rfl ⟨0, 8, _, _, rfl, rfl, rfl⟩ rfl rfl (Nat.le_of_ble_eq_true rfl) ⟨(Nat.le_of_ble_eq_true rfl), (Nat.le_of_ble_eq_true rfl)⟩ ⟨(Nat.zero_le _), (Nat.zero_le _)⟩ dX12_crossing_15 ?_
    refine lv_goto (tgt := 26) hx hb dX12_crossing_18 (by decide) ?_
    have hf : (some (r_4, 0) : Option (Int32 × Int32)) = some (rr, w_t_thrown) := hf
    cases hf
    exact we_i hF hr hlk hP hD hS dX12_crossing_26 rfl
def l_X12_crossMany_4 (t_s : Nat → Int32) : Nat → Int32 → Int32 → Option (Int32)
  | 0, _, _ => none
  | n + 1, i1_1, i2_2 => (if (t_s 0) ≤ i2_2 then some i1_1 else bd1 (f_X12_crosses t_s i2_2) (fun (r_4 : Int32) => (if r_4 = 0 then l_X12_crossMany_4 t_s n (i1_1 + 0) (i2_2 + 1) else l_X12_crossMany_4 t_s n (i1_1 + 1) (i2_2 + 1))))
def f_X12_crossMany (t_s : Nat → Int32) : Option (Int32) := bd1 (l_X12_crossMany_4 t_s 1000 0 0) (fun (o1_3 : Int32) => some o1_3)
theorem k_X12_crossMany : KV yX12_crossMany cX12_crossMany 3 (some .int) 0 := ⟨qc_yX12_crossMany, q9, ⟨by decide +kernel, by decide +kernel, by decide +kernel⟩, qi_yX12_crossMany, qs_yX12_crossMany⟩
abbrev RM_X12_crossMany : Room := { frames := 4, cells := 0, slots := 0, locals := 89 }
set_option maxHeartbeats 4000000 in
set_option maxRecDepth 100000 in
theorem c_X12_crossMany (l : Launch) (G : GP) (a_t : Nat) (t_thrown : Int32) (a_t_states : Nat) (t_stateMany : Int32) (a_t_snapshot : Nat) (t_hasSnapshot : Int32) (a_t_text : Nat) (t_length : Int32) (t_at : Int32) (t_isWell : Int32) (a_t_read : Nat) (t_readMany : Int32) (a_t_prices : Nat) (t_priceMany : Int32) (t_pieceMany : Int32) (t_coins : Int64) (a_t_s : Nat) (t_s : Nat → Int32) (rr : Int32) (hf : f_X12_crossMany t_s = some rr) : RM l yX12_crossMany cX12_crossMany 3 (some .int) 4 89 G [.ref a_t] [(a_t, .inr (8, [.int t_thrown, .ref a_t_s, .ref a_t_states, .int t_stateMany, .ref a_t_snapshot, .int t_hasSnapshot, .ref a_t_text, .int t_length, .int t_at, .int t_isWell, .ref a_t_read, .int t_readMany, .ref a_t_prices, .int t_priceMany, .int t_pieceMany, .long t_coins])), (a_t_s, .inl (G.2.1, 68, .inl t_s))] (some (.int rr)) := by
  refine RM.ofW (C := RX12) (by decide) rfl (Nat.le_of_ble_eq_true rfl) ?_
  intro p e s m below meth c hF hr hlk hG hP ls hl
  have hl : lv_has ls 3 [(0, .ref a_t)] := hl
  have hx := hF.1
  have hb := hF.2.1
  have hml := hF.2.2.1
  have hown := hF.2.2.2.1
  have hts := hF.2.2.2.2
  unfold f_X12_crossMany at hf
  refine lv_iconst (v := 0) hx hb dX12_crossMany_0 (by decide) ?_
  refine lv_istore_n (lv' := [(1, .int 0), (0, .ref a_t)]) hx hb dX12_crossMany_1 rfl hl (by decide) rfl (fun ls hl => ?_)
  refine lv_iconst (v := 0) hx hb dX12_crossMany_2 (by decide) ?_
  refine lv_istore_n (lv' := [(2, .int 0), (1, .int 0), (0, .ref a_t)]) hx hb dX12_crossMany_3 rfl hl (by decide) rfl (fun ls hl => ?_)
  obtain ⟨o1_3, hq, hf⟩ := bd1_some hf
  have K4 : ∀ ls : Array Slot, lv_has ls 3 [(1, .int o1_3)] → W p l e RM_X12_crossMany s m [.ref a_t].toArray below meth c s.heap [] 0 0 (MQ below (rdQ (some (.int rr))) [.ref a_t].toArray s 0 0 (fun _ => False)) (F0 m 36 ls []) := by
    intro ls hl
    refine lv_iload_n hx hb dX12_crossMany_36 rfl (lv_at hl 0 rfl) ?_
    have hf : (some o1_3 : Option (Int32)) = some rr := hf
    cases hf
    exact re_i hF hr hlk dX12_crossMany_37 rfl
  clear hf
  have L4 : ∀ (n : Nat) (i1_1 : Int32) (i2_2 : Int32), l_X12_crossMany_4 t_s n i1_1 i2_2 = some o1_3 → ∀ ls : Array Slot, lv_has ls 3 [(0, .ref a_t), (1, .int i1_1), (2, .int i2_2)] → W p l e RM_X12_crossMany s m [.ref a_t].toArray below meth c s.heap [] 0 0 (MQ below (rdQ (some (.int rr))) [.ref a_t].toArray s 0 0 (fun _ => False)) (F0 m 4 ls []) := by
    intro n
    induction n with
    | zero =>
      intro i1_1 i2_2 hf
      exact nomatch (show none = some o1_3 from hf)
    | succ n ih =>
      intro i1_1 i2_2 hf ls hl
      rw [l_X12_crossMany_4] at hf
      refine lv_iload_n hx hb dX12_crossMany_4 rfl (lv_at hl 2 rfl) ?_
      refine lv_aload_n hx hb dX12_crossMany_5 rfl (lv_at hl 0 rfl) ?_
      refine gf (C := RX12) (T := TX12) (N := 16) (ci := 8) (v := .ref a_t_s) hF hG hP inX12 0 rfl rfl 1 (by decide) q1021 rfl rfl dX12_crossMany_6 ?_
      refine lv_iconst (v := 0) hx hb dX12_crossMany_9 (by decide) ?_
      refine ald_i (k := 0) hF hG hP 1 rfl (by decide) (by decide) dX12_crossMany_10 ?_
      refine lv_icmp_ge (tgt := 36) hx hb dX12_crossMany_11 (by decide) (fun c0 => ?_) (fun c0 => ?_)
      · have hf := (if_pos c0).symm.trans hf
        have hf : (some i1_1 : Option (Int32)) = some o1_3 := hf
        cases hf
        exact K4 ls (lv_sub hl [1] rfl)
      · have hf := (if_neg c0).symm.trans hf
        refine lv_iload_n hx hb dX12_crossMany_14 rfl (lv_at hl 1 rfl) ?_
        refine lv_aload_n hx hb dX12_crossMany_15 rfl (lv_at hl 0 rfl) ?_
        refine lv_iload_n hx hb dX12_crossMany_16 rfl (lv_at hl 2 rfl) ?_
        obtain ⟨r_4, hq, hf⟩ := bd1_some hf
        refine rdV (As := [.int i2_2]) (rest := [.int i1_1]) hF hG hP hl.1 (c_X12_crosses l G a_t t_thrown a_t_states t_stateMany a_t_snapshot t_hasSnapshot a_t_text t_length t_at t_isWell a_t_read t_readMany a_t_prices t_priceMany t_pieceMany t_coins a_t_s t_s i2_2 r_4 hq) k_X12_crosses q1327 [0, 1] rfl ⟨0, 8, _, _, rfl, rfl, rfl⟩ rfl rfl (Nat.le_of_ble_eq_true rfl) ⟨(Nat.le_of_ble_eq_true rfl), (Nat.le_of_ble_eq_true rfl)⟩ ⟨(Nat.zero_le _), (Nat.zero_le _)⟩ dX12_crossMany_17 ?_
        refine lv_if_eq (tgt := 27) hx hb dX12_crossMany_20 (by decide) (fun c0 => ?_) (fun c0 => ?_)
        · have hf := (if_pos c0).symm.trans hf
          refine lv_iconst (v := 0) hx hb dX12_crossMany_27 (by decide) ?_
          refine lv_iadd hx hb dX12_crossMany_28 ?_
          refine lv_istore_n (lv' := [(1, .int (i1_1 + 0)), (0, .ref a_t), (2, .int i2_2)]) hx hb dX12_crossMany_29 rfl hl (by decide) rfl (fun ls hl => ?_)
          refine lv_iinc (v := (i2_2 + 1)) (lv' := [(2, .int (i2_2 + 1)), (1, .int (i1_1 + 0)), (0, .ref a_t)]) hx hb dX12_crossMany_30 hl (k := 2) rfl rfl (by decide) rfl (fun ls hl => ?_)
          refine lv_goto (tgt := 4) hx hb dX12_crossMany_33 (by decide) ?_
          exact ih (i1_1 + 0) (i2_2 + 1) hf ls (lv_sub hl [2, 1, 0] rfl)
        · have hf := (if_neg c0).symm.trans hf
          refine lv_iconst (v := 1) hx hb dX12_crossMany_23 (by decide) ?_
          refine lv_goto (tgt := 28) hx hb dX12_crossMany_24 (by decide) ?_
          refine lv_iadd hx hb dX12_crossMany_28 ?_
          refine lv_istore_n (lv' := [(1, .int (i1_1 + 1)), (0, .ref a_t), (2, .int i2_2)]) hx hb dX12_crossMany_29 rfl hl (by decide) rfl (fun ls hl => ?_)
          refine lv_iinc (v := (i2_2 + 1)) (lv' := [(2, .int (i2_2 + 1)), (1, .int (i1_1 + 1)), (0, .ref a_t)]) hx hb dX12_crossMany_30 hl (k := 2) rfl rfl (by decide) rfl (fun ls hl => ?_)
          refine lv_goto (tgt := 4) hx hb dX12_crossMany_33 (by decide) ?_
          exact ih (i1_1 + 1) (i2_2 + 1) hf ls (lv_sub hl [2, 1, 0] rfl)
  exact L4 1000 0 0 hq ls (lv_sub hl [2, 1, 0] rfl)
def f_X12_crossings (t_thrown : Int32) (t_s : Nat → Int32) : Option (Int32 × Int32) := bd1 (f_X12_crossMany t_s) (fun (r_1 : Int32) => some (r_1, 0))
theorem k_X12_crossings : KV yX12_crossings cX12_crossings 1 (some .int) 0 := ⟨qc_yX12_crossings, q9, ⟨by decide +kernel, by decide +kernel, by decide +kernel⟩, qi_yX12_crossings, qs_yX12_crossings⟩
abbrev RM_X12_crossings : Room := { frames := 5, cells := 0, slots := 0, locals := 111 }
set_option maxHeartbeats 4000000 in
set_option maxRecDepth 100000 in
theorem c_X12_crossings (l : Launch) (G : GP) (a_t : Nat) (t_thrown : Int32) (a_t_states : Nat) (t_stateMany : Int32) (a_t_snapshot : Nat) (t_hasSnapshot : Int32) (a_t_text : Nat) (t_length : Int32) (t_at : Int32) (t_isWell : Int32) (a_t_read : Nat) (t_readMany : Int32) (a_t_prices : Nat) (t_priceMany : Int32) (t_pieceMany : Int32) (t_coins : Int64) (a_t_s : Nat) (t_s : Nat → Int32) (rr : Int32) (w_t_thrown : Int32) (hf : f_X12_crossings t_thrown t_s = some (rr, w_t_thrown)) : WM l yX12_crossings cX12_crossings 1 (some .int) 5 111 G [.ref a_t] [(a_t, .inr (8, [.int t_thrown, .ref a_t_s, .ref a_t_states, .int t_stateMany, .ref a_t_snapshot, .int t_hasSnapshot, .ref a_t_text, .int t_length, .int t_at, .int t_isWell, .ref a_t_read, .int t_readMany, .ref a_t_prices, .int t_priceMany, .int t_pieceMany, .long t_coins])), (a_t_s, .inl (G.2.1, 68, .inl t_s))] (some (.int rr)) [(a_t, .inr (8, [.int w_t_thrown, .ref a_t_s, .ref a_t_states, .int t_stateMany, .ref a_t_snapshot, .int t_hasSnapshot, .ref a_t_text, .int t_length, .int t_at, .int t_isWell, .ref a_t_read, .int t_readMany, .ref a_t_prices, .int t_priceMany, .int t_pieceMany, .long t_coins])), (a_t_s, .inl (G.2.1, 68, .inl t_s))] := by
  refine WM.ofW (C := RX12) (by decide) rfl (Nat.le_of_ble_eq_true rfl) ?_
  intro p e s m below meth c A hF hr hlk hG hA hP hD ls hl
  have hl : lv_has ls 1 [(0, .ref a_t)] := hl
  have hx := hF.1
  have hb := hF.2.1
  have hml := hF.2.2.1
  have hown := hF.2.2.2.1
  have hts := hF.2.2.2.2
  have hS : va_S A s.heap s.heap [] := va_S.rf
  unfold f_X12_crossings at hf
  refine lv_aload_n hx hb dX12_crossings_0 rfl (lv_at hl 0 rfl) ?_
  refine lv_iconst (v := 0) hx hb dX12_crossings_1 (by decide) ?_
  refine pf (C := RX12) (T := TX12) (N := 16) (ci := 8) (v := .int 0) (ty := .int) hF hG hP hD hS inX12 tyX12 tyX12_ok nmX12 0 rfl rfl 0 (by decide) q1020 rfl rfl (by decide +kernel) rfl rfl (Nat.le_of_ble_eq_true rfl) dX12_crossings_2 (fun H locs hP hD hS => ?_)
  replace hP : va_P G.1 vwCl [(a_t, .inr (8, [.int 0, .ref a_t_s, .ref a_t_states, .int t_stateMany, .ref a_t_snapshot, .int t_hasSnapshot, .ref a_t_text, .int t_length, .int t_at, .int t_isWell, .ref a_t_read, .int t_readMany, .ref a_t_prices, .int t_priceMany, .int t_pieceMany, .long t_coins])), (a_t_s, .inl (G.2.1, 68, .inl t_s))] H := hP
  replace hD : va_D A [(a_t, .inr (8, [.int 0, .ref a_t_s, .ref a_t_states, .int t_stateMany, .ref a_t_snapshot, .int t_hasSnapshot, .ref a_t_text, .int t_length, .int t_at, .int t_isWell, .ref a_t_read, .int t_readMany, .ref a_t_prices, .int t_priceMany, .int t_pieceMany, .long t_coins])), (a_t_s, .inl (G.2.1, 68, .inl t_s))] := hD
  refine lv_aload_n hx hb dX12_crossings_5 rfl (lv_at hl 0 rfl) ?_
  obtain ⟨r_1, hq, hf⟩ := bd1_some hf
  refine rdV (As := []) (rest := []) hF hG hP hl.1 (c_X12_crossMany l G a_t 0 a_t_states t_stateMany a_t_snapshot t_hasSnapshot a_t_text t_length t_at t_isWell a_t_read t_readMany a_t_prices t_priceMany t_pieceMany t_coins a_t_s t_s r_1 hq) k_X12_crossMany q1339 [0, 1] rfl ⟨0, 8, _, _, rfl, rfl, rfl⟩ rfl rfl (Nat.le_of_ble_eq_true rfl) ⟨(Nat.le_of_ble_eq_true rfl), (Nat.le_of_ble_eq_true rfl)⟩ ⟨(Nat.zero_le _), (Nat.zero_le _)⟩ dX12_crossings_6 ?_
  have hf : (some (r_1, 0) : Option (Int32 × Int32)) = some (rr, w_t_thrown) := hf
  cases hf
  exact we_i hF hr hlk hP hD hS dX12_crossings_9 rfl
def l_X12_trades_14 (t_s : Nat → Int32) (x1 : Int32) : Nat → Int32 → Int32 → Int64 → Option (Int32 × Int64)
  | 0, _, _, _ => none
  | n + 1, i2_1, t_pieceMany_2, t_coins_3 => (if x1 < i2_1 then some (t_pieceMany_2, t_coins_3) else bd1 (f_X12_crosses t_s i2_1) (fun (r_6 : Int32) => bd1 (f_X12_of t_s i2_1) (fun (r_7 : Int32) => gd (¬ (Int32.toInt64 r_7) = 0) ((if r_6 = 1 then (if 0 ≤ (lg_cmp (t_coins_3 / (Int32.toInt64 r_7)) (999 - (Int32.toInt64 t_pieceMany_2))) then bd1 (f_X12_of t_s i2_1) (fun (r_10 : Int32) => l_X12_trades_14 t_s x1 n (i2_1 + 1) (t_pieceMany_2 + (Int64.toInt32 (999 - (Int32.toInt64 t_pieceMany_2)))) (t_coins_3 - ((Int32.toInt64 (Int64.toInt32 (999 - (Int32.toInt64 t_pieceMany_2)))) * (Int32.toInt64 r_10)))) else bd1 (f_X12_of t_s i2_1) (fun (r_11 : Int32) => l_X12_trades_14 t_s x1 n (i2_1 + 1) (t_pieceMany_2 + (Int64.toInt32 (t_coins_3 / (Int32.toInt64 r_7)))) (t_coins_3 - ((Int32.toInt64 (Int64.toInt32 (t_coins_3 / (Int32.toInt64 r_7)))) * (Int32.toInt64 r_11))))) else (if r_6 = (-1) then bd1 (f_X12_of t_s i2_1) (fun (r_9 : Int32) => l_X12_trades_14 t_s x1 n (i2_1 + 1) (t_pieceMany_2 + (-t_pieceMany_2)) (t_coins_3 - ((Int32.toInt64 (-t_pieceMany_2)) * (Int32.toInt64 r_9)))) else bd1 (f_X12_of t_s i2_1) (fun (r_8 : Int32) => l_X12_trades_14 t_s x1 n (i2_1 + 1) (t_pieceMany_2 + 0) (t_coins_3 - ((Int32.toInt64 (0 : Int32)) * (Int32.toInt64 r_8))))))))))
def f_X12_trades (t_pieceMany : Int32) (t_coins : Int64) (t_s : Nat → Int32) (x1 : Int32) : Option (Int32 × Int64) := bd2 (l_X12_trades_14 t_s x1 1000 1 0 10000) (fun (t_pieceMany_4 : Int32) (t_coins_5 : Int64) => some (t_pieceMany_4, t_coins_5))
theorem k_X12_trades : KV yX12_trades cX12_trades 9 none 1 := ⟨qc_yX12_trades, q9, ⟨by decide +kernel, by decide +kernel, by decide +kernel⟩, qi_yX12_trades, qs_yX12_trades⟩
abbrev RM_X12_trades : Room := { frames := 4, cells := 0, slots := 0, locals := 89 }
set_option maxHeartbeats 4000000 in
set_option maxRecDepth 100000 in
theorem c_X12_trades (l : Launch) (G : GP) (a_t : Nat) (t_thrown : Int32) (a_t_states : Nat) (t_stateMany : Int32) (a_t_snapshot : Nat) (t_hasSnapshot : Int32) (a_t_text : Nat) (t_length : Int32) (t_at : Int32) (t_isWell : Int32) (a_t_read : Nat) (t_readMany : Int32) (a_t_prices : Nat) (t_priceMany : Int32) (t_pieceMany : Int32) (t_coins : Int64) (a_t_s : Nat) (t_s : Nat → Int32) (x1 : Int32) (w_t_pieceMany : Int32) (w_t_coins : Int64) (hf : f_X12_trades t_pieceMany t_coins t_s x1 = some (w_t_pieceMany, w_t_coins)) : WM l yX12_trades cX12_trades 9 none 4 89 G [.ref a_t, .int x1] [(a_t, .inr (8, [.int t_thrown, .ref a_t_s, .ref a_t_states, .int t_stateMany, .ref a_t_snapshot, .int t_hasSnapshot, .ref a_t_text, .int t_length, .int t_at, .int t_isWell, .ref a_t_read, .int t_readMany, .ref a_t_prices, .int t_priceMany, .int t_pieceMany, .long t_coins])), (a_t_s, .inl (G.2.1, 68, .inl t_s))] none [(a_t, .inr (8, [.int t_thrown, .ref a_t_s, .ref a_t_states, .int t_stateMany, .ref a_t_snapshot, .int t_hasSnapshot, .ref a_t_text, .int t_length, .int t_at, .int t_isWell, .ref a_t_read, .int t_readMany, .ref a_t_prices, .int t_priceMany, .int w_t_pieceMany, .long w_t_coins])), (a_t_s, .inl (G.2.1, 68, .inl t_s))] := by
  refine WM.ofW (C := RX12) (by decide) rfl (Nat.le_of_ble_eq_true rfl) ?_
  intro p e s m below meth c A hF hr hlk hG hA hP hD ls hl
  have hl : lv_has ls 9 [(0, .ref a_t), (1, .int x1)] := hl
  have hx := hF.1
  have hb := hF.2.1
  have hml := hF.2.2.1
  have hown := hF.2.2.2.1
  have hts := hF.2.2.2.2
  have hS : va_S A s.heap s.heap [] := va_S.rf
  unfold f_X12_trades at hf
  refine lv_aload_n hx hb dX12_trades_0 rfl (lv_at hl 0 rfl) ?_
  refine lv_iconst (v := 0) hx hb dX12_trades_1 (by decide) ?_
  refine pf (C := RX12) (T := TX12) (N := 16) (ci := 8) (v := .int 0) (ty := .int) hF hG hP hD hS inX12 tyX12 tyX12_ok nmX12 0 rfl rfl 14 (by decide) q1034 rfl rfl (by decide +kernel) rfl rfl (Nat.le_of_ble_eq_true rfl) dX12_trades_2 (fun H locs hP hD hS => ?_)
  replace hP : va_P G.1 vwCl [(a_t, .inr (8, [.int t_thrown, .ref a_t_s, .ref a_t_states, .int t_stateMany, .ref a_t_snapshot, .int t_hasSnapshot, .ref a_t_text, .int t_length, .int t_at, .int t_isWell, .ref a_t_read, .int t_readMany, .ref a_t_prices, .int t_priceMany, .int 0, .long t_coins])), (a_t_s, .inl (G.2.1, 68, .inl t_s))] H := hP
  replace hD : va_D A [(a_t, .inr (8, [.int t_thrown, .ref a_t_s, .ref a_t_states, .int t_stateMany, .ref a_t_snapshot, .int t_hasSnapshot, .ref a_t_text, .int t_length, .int t_at, .int t_isWell, .ref a_t_read, .int t_readMany, .ref a_t_prices, .int t_priceMany, .int 0, .long t_coins])), (a_t_s, .inl (G.2.1, 68, .inl t_s))] := hD
  refine lv_aload_n hx hb dX12_trades_5 rfl (lv_at hl 0 rfl) ?_
  refine lv_ldc2 (v := 10000) hx hb hown (hts _ (List.mem_cons_of_mem _ q1355)) dX12_trades_6 ?_
  refine pf (C := RX12) (T := TX12) (N := 16) (ci := 8) (v := .long 10000) (ty := .long) hF hG hP hD hS inX12 tyX12 tyX12_ok nmX12 0 rfl rfl 15 (by decide) q1035 rfl rfl (by decide +kernel) rfl rfl (Nat.le_of_ble_eq_true rfl) dX12_trades_9 (fun H locs hP hD hS => ?_)
  replace hP : va_P G.1 vwCl [(a_t, .inr (8, [.int t_thrown, .ref a_t_s, .ref a_t_states, .int t_stateMany, .ref a_t_snapshot, .int t_hasSnapshot, .ref a_t_text, .int t_length, .int t_at, .int t_isWell, .ref a_t_read, .int t_readMany, .ref a_t_prices, .int t_priceMany, .int 0, .long 10000])), (a_t_s, .inl (G.2.1, 68, .inl t_s))] H := hP
  replace hD : va_D A [(a_t, .inr (8, [.int t_thrown, .ref a_t_s, .ref a_t_states, .int t_stateMany, .ref a_t_snapshot, .int t_hasSnapshot, .ref a_t_text, .int t_length, .int t_at, .int t_isWell, .ref a_t_read, .int t_readMany, .ref a_t_prices, .int t_priceMany, .int 0, .long 10000])), (a_t_s, .inl (G.2.1, 68, .inl t_s))] := hD
  refine lv_iconst (v := 1) hx hb dX12_trades_12 (by decide) ?_
  refine lv_istore_n (lv' := [(2, .int 1), (0, .ref a_t), (1, .int x1)]) hx hb dX12_trades_13 rfl hl (by decide) rfl (fun ls hl => ?_)
  obtain ⟨t_pieceMany_4, t_coins_5, hq, hf⟩ := bd2_some hf
  have K14 : ∀ (H : Heap) (locs : List Loc), va_P G.1 vwCl ([(a_t, .inr (8, [.int t_thrown, .ref a_t_s, .ref a_t_states, .int t_stateMany, .ref a_t_snapshot, .int t_hasSnapshot, .ref a_t_text, .int t_length, .int t_at, .int t_isWell, .ref a_t_read, .int t_readMany, .ref a_t_prices, .int t_priceMany, .int t_pieceMany_4, .long t_coins_5])), (a_t_s, .inl (G.2.1, 68, .inl t_s))] : va_W) H → va_D A ([(a_t, .inr (8, [.int t_thrown, .ref a_t_s, .ref a_t_states, .int t_stateMany, .ref a_t_snapshot, .int t_hasSnapshot, .ref a_t_text, .int t_length, .int t_at, .int t_isWell, .ref a_t_read, .int t_readMany, .ref a_t_prices, .int t_priceMany, .int t_pieceMany_4, .long t_coins_5])), (a_t_s, .inl (G.2.1, 68, .inl t_s))] : va_W) → va_S A s.heap H locs → ∀ ls : Array Slot, lv_has ls 9 [] → W p l e RM_X12_trades s m [.ref a_t, .int x1].toArray below meth c H locs 0 0 (MQ below (wrQ none G [(a_t, .inr (8, [.int t_thrown, .ref a_t_s, .ref a_t_states, .int t_stateMany, .ref a_t_snapshot, .int t_hasSnapshot, .ref a_t_text, .int t_length, .int t_at, .int t_isWell, .ref a_t_read, .int t_readMany, .ref a_t_prices, .int t_priceMany, .int w_t_pieceMany, .long w_t_coins])), (a_t_s, .inl (G.2.1, 68, .inl t_s))] A) [.ref a_t, .int x1].toArray s 0 0 A) (F0 m 125 ls []) := by
    intro H locs hP hD hS ls hl
    have hf : (some (t_pieceMany_4, t_coins_5) : Option (Int32 × Int64)) = some (w_t_pieceMany, w_t_coins) := hf
    cases hf
    exact we_v hF hr hlk hP hD hS dX12_trades_125 rfl
  clear hf
  have L14 : ∀ (n : Nat) (i2_1 : Int32) (t_pieceMany_2 : Int32) (t_coins_3 : Int64), l_X12_trades_14 t_s x1 n i2_1 t_pieceMany_2 t_coins_3 = some (t_pieceMany_4, t_coins_5) → ∀ (H : Heap) (locs : List Loc), va_P G.1 vwCl ([(a_t, .inr (8, [.int t_thrown, .ref a_t_s, .ref a_t_states, .int t_stateMany, .ref a_t_snapshot, .int t_hasSnapshot, .ref a_t_text, .int t_length, .int t_at, .int t_isWell, .ref a_t_read, .int t_readMany, .ref a_t_prices, .int t_priceMany, .int t_pieceMany_2, .long t_coins_3])), (a_t_s, .inl (G.2.1, 68, .inl t_s))] : va_W) H → va_D A ([(a_t, .inr (8, [.int t_thrown, .ref a_t_s, .ref a_t_states, .int t_stateMany, .ref a_t_snapshot, .int t_hasSnapshot, .ref a_t_text, .int t_length, .int t_at, .int t_isWell, .ref a_t_read, .int t_readMany, .ref a_t_prices, .int t_priceMany, .int t_pieceMany_2, .long t_coins_3])), (a_t_s, .inl (G.2.1, 68, .inl t_s))] : va_W) → va_S A s.heap H locs → ∀ ls : Array Slot, lv_has ls 9 [(0, .ref a_t), (1, .int x1), (2, .int i2_1)] → W p l e RM_X12_trades s m [.ref a_t, .int x1].toArray below meth c H locs 0 0 (MQ below (wrQ none G [(a_t, .inr (8, [.int t_thrown, .ref a_t_s, .ref a_t_states, .int t_stateMany, .ref a_t_snapshot, .int t_hasSnapshot, .ref a_t_text, .int t_length, .int t_at, .int t_isWell, .ref a_t_read, .int t_readMany, .ref a_t_prices, .int t_priceMany, .int w_t_pieceMany, .long w_t_coins])), (a_t_s, .inl (G.2.1, 68, .inl t_s))] A) [.ref a_t, .int x1].toArray s 0 0 A) (F0 m 14 ls []) := by
    intro n
    induction n with
    | zero =>
      intro i2_1 t_pieceMany_2 t_coins_3 hf
      exact nomatch (show none = some (t_pieceMany_4, t_coins_5) from hf)
    | succ n ih =>
      intro i2_1 t_pieceMany_2 t_coins_3 hf H locs hP hD hS ls hl
      rw [l_X12_trades_14] at hf
      refine lv_iload_n hx hb dX12_trades_14 rfl (lv_at hl 2 rfl) ?_
      refine lv_iload_n hx hb dX12_trades_15 rfl (lv_at hl 1 rfl) ?_
      refine lv_icmp_gt (tgt := 125) hx hb dX12_trades_16 (by decide) (fun c0 => ?_) (fun c0 => ?_)
      · have hf := (if_pos c0).symm.trans hf
        have hf : (some (t_pieceMany_2, t_coins_3) : Option (Int32 × Int64)) = some (t_pieceMany_4, t_coins_5) := hf
        cases hf
        exact K14 _ _ hP hD hS ls (lv_sub hl [] rfl)
      · have hf := (if_neg c0).symm.trans hf
        refine lv_aload_n hx hb dX12_trades_19 rfl (lv_at hl 0 rfl) ?_
        refine lv_iload_n hx hb dX12_trades_20 rfl (lv_at hl 2 rfl) ?_
        obtain ⟨r_6, hq, hf⟩ := bd1_some hf
        refine rdV (As := [.int i2_1]) (rest := []) hF hG hP hl.1 (c_X12_crosses l G a_t t_thrown a_t_states t_stateMany a_t_snapshot t_hasSnapshot a_t_text t_length t_at t_isWell a_t_read t_readMany a_t_prices t_priceMany t_pieceMany_2 t_coins_3 a_t_s t_s i2_1 r_6 hq) k_X12_crosses q1327 [0, 1] rfl ⟨0, 8, _, _, rfl, rfl, rfl⟩ rfl rfl (Nat.le_of_ble_eq_true rfl) ⟨(Nat.le_of_ble_eq_true rfl), (Nat.le_of_ble_eq_true rfl)⟩ ⟨(Nat.zero_le _), (Nat.zero_le _)⟩ dX12_trades_21 ?_
        refine lv_istore_n (lv' := [(3, .int r_6), (0, .ref a_t), (1, .int x1), (2, .int i2_1)]) hx hb dX12_trades_24 rfl hl (by decide) rfl (fun ls hl => ?_)
        refine lv_aload_n hx hb dX12_trades_25 rfl (lv_at hl 1 rfl) ?_
        refine gf (C := RX12) (T := TX12) (N := 16) (ci := 8) (v := .long t_coins_3) hF hG hP inX12 0 rfl rfl 15 (by decide) q1035 rfl rfl dX12_trades_26 ?_
        refine lv_aload_n hx hb dX12_trades_29 rfl (lv_at hl 1 rfl) ?_
        refine lv_iload_n hx hb dX12_trades_30 rfl (lv_at hl 3 rfl) ?_
        obtain ⟨r_7, hq, hf⟩ := bd1_some hf
        refine rdV (As := [.int i2_1]) (rest := [.long t_coins_3]) hF hG hP hl.1 (c_X12_of l G a_t t_thrown a_t_states t_stateMany a_t_snapshot t_hasSnapshot a_t_text t_length t_at t_isWell a_t_read t_readMany a_t_prices t_priceMany t_pieceMany_2 t_coins_3 a_t_s t_s i2_1 r_7 hq) k_X12_of q1111 [0, 1] rfl ⟨0, 8, _, _, rfl, rfl, rfl⟩ rfl rfl (Nat.le_of_ble_eq_true rfl) ⟨(Nat.le_of_ble_eq_true rfl), (Nat.le_of_ble_eq_true rfl)⟩ ⟨(Nat.zero_le _), (Nat.zero_le _)⟩ dX12_trades_31 ?_
        refine lv_i2l (v := (Int32.toInt64 r_7)) hx hb dX12_trades_34 rfl ?_
        obtain ⟨hg, hf⟩ := gd_some hf
        refine lv_ldiv hx hb dX12_trades_35 hg ?_
        refine lv_lstore (lv' := [(4, .long (t_coins_3 / (Int32.toInt64 r_7))), (3, .int r_6), (0, .ref a_t), (1, .int x1), (2, .int i2_1)]) hx hb dX12_trades_36 hl (by decide) rfl (fun ls hl => ?_)
        refine lv_ldc2 (v := 999) hx hb hown (hts _ (List.mem_cons_of_mem _ q1356)) dX12_trades_38 ?_
        refine lv_aload_n hx hb dX12_trades_41 rfl (lv_at hl 2 rfl) ?_
        refine gf (C := RX12) (T := TX12) (N := 16) (ci := 8) (v := .int t_pieceMany_2) hF hG hP inX12 0 rfl rfl 14 (by decide) q1034 rfl rfl dX12_trades_42 ?_
        refine lv_i2l (v := (Int32.toInt64 t_pieceMany_2)) hx hb dX12_trades_45 rfl ?_
        refine lv_lsub hx hb dX12_trades_46 ?_
        refine lv_lstore (lv' := [(6, .long (999 - (Int32.toInt64 t_pieceMany_2))), (4, .long (t_coins_3 / (Int32.toInt64 r_7))), (3, .int r_6), (0, .ref a_t), (1, .int x1), (2, .int i2_1)]) hx hb dX12_trades_47 hl (by decide) rfl (fun ls hl => ?_)
        refine lv_iload_n hx hb dX12_trades_49 rfl (lv_at hl 2 rfl) ?_
        refine lv_iconst (v := 1) hx hb dX12_trades_50 (by decide) ?_
        refine lv_icmp_ne (tgt := 73) hx hb dX12_trades_51 (by decide) (fun c0 => ?_) (fun c0 => ?_)
        · have hf := (if_neg c0).symm.trans hf
          refine lv_iload_n hx hb dX12_trades_73 rfl (lv_at hl 2 rfl) ?_
          refine lv_iconst (v := (-1)) hx hb dX12_trades_74 (by decide) ?_
          refine lv_icmp_ne (tgt := 86) hx hb dX12_trades_75 (by decide) (fun c0 => ?_) (fun c0 => ?_)
          · have hf := (if_neg c0).symm.trans hf
            refine lv_iconst (v := 0) hx hb dX12_trades_86 (by decide) ?_
            refine lv_istore (lv' := [(8, .int 0), (6, .long (999 - (Int32.toInt64 t_pieceMany_2))), (4, .long (t_coins_3 / (Int32.toInt64 r_7))), (3, .int r_6), (0, .ref a_t), (1, .int x1), (2, .int i2_1)]) hx hb dX12_trades_87 hl (by decide) rfl (fun ls hl => ?_)
            refine lv_aload_n hx hb dX12_trades_89 rfl (lv_at hl 4 rfl) ?_
            refine lv_dup hx hb dX12_trades_90 rfl ?_
            refine gf (C := RX12) (T := TX12) (N := 16) (ci := 8) (v := .int t_pieceMany_2) hF hG hP inX12 0 rfl rfl 14 (by decide) q1034 rfl rfl dX12_trades_91 ?_
            refine lv_iload hx hb dX12_trades_94 (lv_at hl 0 rfl) ?_
            refine lv_iadd hx hb dX12_trades_96 ?_
            refine pf (C := RX12) (T := TX12) (N := 16) (ci := 8) (v := .int (t_pieceMany_2 + 0)) (ty := .int) hF hG hP hD hS inX12 tyX12 tyX12_ok nmX12 0 rfl rfl 14 (by decide) q1034 rfl rfl (by decide +kernel) rfl rfl (Nat.le_of_ble_eq_true rfl) dX12_trades_97 (fun H locs hP hD hS => ?_)
            replace hP : va_P G.1 vwCl [(a_t, .inr (8, [.int t_thrown, .ref a_t_s, .ref a_t_states, .int t_stateMany, .ref a_t_snapshot, .int t_hasSnapshot, .ref a_t_text, .int t_length, .int t_at, .int t_isWell, .ref a_t_read, .int t_readMany, .ref a_t_prices, .int t_priceMany, .int (t_pieceMany_2 + 0), .long t_coins_3])), (a_t_s, .inl (G.2.1, 68, .inl t_s))] H := hP
            replace hD : va_D A [(a_t, .inr (8, [.int t_thrown, .ref a_t_s, .ref a_t_states, .int t_stateMany, .ref a_t_snapshot, .int t_hasSnapshot, .ref a_t_text, .int t_length, .int t_at, .int t_isWell, .ref a_t_read, .int t_readMany, .ref a_t_prices, .int t_priceMany, .int (t_pieceMany_2 + 0), .long t_coins_3])), (a_t_s, .inl (G.2.1, 68, .inl t_s))] := hD
            refine lv_aload_n hx hb dX12_trades_100 rfl (lv_at hl 4 rfl) ?_
            refine lv_dup hx hb dX12_trades_101 rfl ?_
            refine gf (C := RX12) (T := TX12) (N := 16) (ci := 8) (v := .long t_coins_3) hF hG hP inX12 0 rfl rfl 15 (by decide) q1035 rfl rfl dX12_trades_102 ?_
            refine lv_iload hx hb dX12_trades_105 (lv_at hl 0 rfl) ?_
            refine lv_i2l (v := (Int32.toInt64 (0 : Int32))) hx hb dX12_trades_107 rfl ?_
            refine lv_aload_n hx hb dX12_trades_108 rfl (lv_at hl 4 rfl) ?_
            refine lv_iload_n hx hb dX12_trades_109 rfl (lv_at hl 6 rfl) ?_
            obtain ⟨r_8, hq, hf⟩ := bd1_some hf
            refine rdV (As := [.int i2_1]) (rest := [.long (Int32.toInt64 (0 : Int32)), .long t_coins_3, .ref a_t]) hF hG hP hl.1 (c_X12_of l G a_t t_thrown a_t_states t_stateMany a_t_snapshot t_hasSnapshot a_t_text t_length t_at t_isWell a_t_read t_readMany a_t_prices t_priceMany (t_pieceMany_2 + 0) t_coins_3 a_t_s t_s i2_1 r_8 hq) k_X12_of q1111 [0, 1] rfl ⟨0, 8, _, _, rfl, rfl, rfl⟩ rfl rfl (Nat.le_of_ble_eq_true rfl) ⟨(Nat.le_of_ble_eq_true rfl), (Nat.le_of_ble_eq_true rfl)⟩ ⟨(Nat.zero_le _), (Nat.zero_le _)⟩ dX12_trades_110 ?_
            refine lv_i2l (v := (Int32.toInt64 r_8)) hx hb dX12_trades_113 rfl ?_
            refine lv_lmul hx hb dX12_trades_114 ?_
            refine lv_lsub hx hb dX12_trades_115 ?_
            refine pf (C := RX12) (T := TX12) (N := 16) (ci := 8) (v := .long (t_coins_3 - ((Int32.toInt64 (0 : Int32)) * (Int32.toInt64 r_8)))) (ty := .long) hF hG hP hD hS inX12 tyX12 tyX12_ok nmX12 0 rfl rfl 15 (by decide) q1035 rfl rfl (by decide +kernel) rfl rfl (Nat.le_of_ble_eq_true rfl) dX12_trades_116 (fun H locs hP hD hS => ?_)
            replace hP : va_P G.1 vwCl [(a_t, .inr (8, [.int t_thrown, .ref a_t_s, .ref a_t_states, .int t_stateMany, .ref a_t_snapshot, .int t_hasSnapshot, .ref a_t_text, .int t_length, .int t_at, .int t_isWell, .ref a_t_read, .int t_readMany, .ref a_t_prices, .int t_priceMany, .int (t_pieceMany_2 + 0), .long (t_coins_3 - ((Int32.toInt64 (0 : Int32)) * (Int32.toInt64 r_8)))])), (a_t_s, .inl (G.2.1, 68, .inl t_s))] H := hP
            replace hD : va_D A [(a_t, .inr (8, [.int t_thrown, .ref a_t_s, .ref a_t_states, .int t_stateMany, .ref a_t_snapshot, .int t_hasSnapshot, .ref a_t_text, .int t_length, .int t_at, .int t_isWell, .ref a_t_read, .int t_readMany, .ref a_t_prices, .int t_priceMany, .int (t_pieceMany_2 + 0), .long (t_coins_3 - ((Int32.toInt64 (0 : Int32)) * (Int32.toInt64 r_8)))])), (a_t_s, .inl (G.2.1, 68, .inl t_s))] := hD
            refine lv_iinc (v := (i2_1 + 1)) (lv' := [(2, .int (i2_1 + 1)), (8, .int 0), (6, .long (999 - (Int32.toInt64 t_pieceMany_2))), (4, .long (t_coins_3 / (Int32.toInt64 r_7))), (3, .int r_6), (0, .ref a_t), (1, .int x1)]) hx hb dX12_trades_119 hl (k := 6) rfl rfl (by decide) rfl (fun ls hl => ?_)
            refine lv_goto (tgt := 14) hx hb dX12_trades_122 (by decide) ?_
            exact ih (i2_1 + 1) (t_pieceMany_2 + 0) (t_coins_3 - ((Int32.toInt64 (0 : Int32)) * (Int32.toInt64 r_8))) hf _ _ hP hD hS ls (lv_sub hl [5, 6, 0] rfl)
          · have hf := (if_pos c0).symm.trans hf
            refine lv_aload_n hx hb dX12_trades_78 rfl (lv_at hl 3 rfl) ?_
            refine gf (C := RX12) (T := TX12) (N := 16) (ci := 8) (v := .int t_pieceMany_2) hF hG hP inX12 0 rfl rfl 14 (by decide) q1034 rfl rfl dX12_trades_79 ?_
            refine lv_ineg hx hb dX12_trades_82 ?_
            refine lv_goto (tgt := 87) hx hb dX12_trades_83 (by decide) ?_
            refine lv_istore (lv' := [(8, .int (-t_pieceMany_2)), (6, .long (999 - (Int32.toInt64 t_pieceMany_2))), (4, .long (t_coins_3 / (Int32.toInt64 r_7))), (3, .int r_6), (0, .ref a_t), (1, .int x1), (2, .int i2_1)]) hx hb dX12_trades_87 hl (by decide) rfl (fun ls hl => ?_)
            refine lv_aload_n hx hb dX12_trades_89 rfl (lv_at hl 4 rfl) ?_
            refine lv_dup hx hb dX12_trades_90 rfl ?_
            refine gf (C := RX12) (T := TX12) (N := 16) (ci := 8) (v := .int t_pieceMany_2) hF hG hP inX12 0 rfl rfl 14 (by decide) q1034 rfl rfl dX12_trades_91 ?_
            refine lv_iload hx hb dX12_trades_94 (lv_at hl 0 rfl) ?_
            refine lv_iadd hx hb dX12_trades_96 ?_
            refine pf (C := RX12) (T := TX12) (N := 16) (ci := 8) (v := .int (t_pieceMany_2 + (-t_pieceMany_2))) (ty := .int) hF hG hP hD hS inX12 tyX12 tyX12_ok nmX12 0 rfl rfl 14 (by decide) q1034 rfl rfl (by decide +kernel) rfl rfl (Nat.le_of_ble_eq_true rfl) dX12_trades_97 (fun H locs hP hD hS => ?_)
            replace hP : va_P G.1 vwCl [(a_t, .inr (8, [.int t_thrown, .ref a_t_s, .ref a_t_states, .int t_stateMany, .ref a_t_snapshot, .int t_hasSnapshot, .ref a_t_text, .int t_length, .int t_at, .int t_isWell, .ref a_t_read, .int t_readMany, .ref a_t_prices, .int t_priceMany, .int (t_pieceMany_2 + (-t_pieceMany_2)), .long t_coins_3])), (a_t_s, .inl (G.2.1, 68, .inl t_s))] H := hP
            replace hD : va_D A [(a_t, .inr (8, [.int t_thrown, .ref a_t_s, .ref a_t_states, .int t_stateMany, .ref a_t_snapshot, .int t_hasSnapshot, .ref a_t_text, .int t_length, .int t_at, .int t_isWell, .ref a_t_read, .int t_readMany, .ref a_t_prices, .int t_priceMany, .int (t_pieceMany_2 + (-t_pieceMany_2)), .long t_coins_3])), (a_t_s, .inl (G.2.1, 68, .inl t_s))] := hD
            refine lv_aload_n hx hb dX12_trades_100 rfl (lv_at hl 4 rfl) ?_
            refine lv_dup hx hb dX12_trades_101 rfl ?_
            refine gf (C := RX12) (T := TX12) (N := 16) (ci := 8) (v := .long t_coins_3) hF hG hP inX12 0 rfl rfl 15 (by decide) q1035 rfl rfl dX12_trades_102 ?_
            refine lv_iload hx hb dX12_trades_105 (lv_at hl 0 rfl) ?_
            refine lv_i2l (v := (Int32.toInt64 (-t_pieceMany_2))) hx hb dX12_trades_107 rfl ?_
            refine lv_aload_n hx hb dX12_trades_108 rfl (lv_at hl 4 rfl) ?_
            refine lv_iload_n hx hb dX12_trades_109 rfl (lv_at hl 6 rfl) ?_
            obtain ⟨r_9, hq, hf⟩ := bd1_some hf
            refine rdV (As := [.int i2_1]) (rest := [.long (Int32.toInt64 (-t_pieceMany_2)), .long t_coins_3, .ref a_t]) hF hG hP hl.1 (c_X12_of l G a_t t_thrown a_t_states t_stateMany a_t_snapshot t_hasSnapshot a_t_text t_length t_at t_isWell a_t_read t_readMany a_t_prices t_priceMany (t_pieceMany_2 + (-t_pieceMany_2)) t_coins_3 a_t_s t_s i2_1 r_9 hq) k_X12_of q1111 [0, 1] rfl ⟨0, 8, _, _, rfl, rfl, rfl⟩ rfl rfl (Nat.le_of_ble_eq_true rfl) ⟨(Nat.le_of_ble_eq_true rfl), (Nat.le_of_ble_eq_true rfl)⟩ ⟨(Nat.zero_le _), (Nat.zero_le _)⟩ dX12_trades_110 ?_
            refine lv_i2l (v := (Int32.toInt64 r_9)) hx hb dX12_trades_113 rfl ?_
            refine lv_lmul hx hb dX12_trades_114 ?_
            refine lv_lsub hx hb dX12_trades_115 ?_
            refine pf (C := RX12) (T := TX12) (N := 16) (ci := 8) (v := .long (t_coins_3 - ((Int32.toInt64 (-t_pieceMany_2)) * (Int32.toInt64 r_9)))) (ty := .long) hF hG hP hD hS inX12 tyX12 tyX12_ok nmX12 0 rfl rfl 15 (by decide) q1035 rfl rfl (by decide +kernel) rfl rfl (Nat.le_of_ble_eq_true rfl) dX12_trades_116 (fun H locs hP hD hS => ?_)
            replace hP : va_P G.1 vwCl [(a_t, .inr (8, [.int t_thrown, .ref a_t_s, .ref a_t_states, .int t_stateMany, .ref a_t_snapshot, .int t_hasSnapshot, .ref a_t_text, .int t_length, .int t_at, .int t_isWell, .ref a_t_read, .int t_readMany, .ref a_t_prices, .int t_priceMany, .int (t_pieceMany_2 + (-t_pieceMany_2)), .long (t_coins_3 - ((Int32.toInt64 (-t_pieceMany_2)) * (Int32.toInt64 r_9)))])), (a_t_s, .inl (G.2.1, 68, .inl t_s))] H := hP
            replace hD : va_D A [(a_t, .inr (8, [.int t_thrown, .ref a_t_s, .ref a_t_states, .int t_stateMany, .ref a_t_snapshot, .int t_hasSnapshot, .ref a_t_text, .int t_length, .int t_at, .int t_isWell, .ref a_t_read, .int t_readMany, .ref a_t_prices, .int t_priceMany, .int (t_pieceMany_2 + (-t_pieceMany_2)), .long (t_coins_3 - ((Int32.toInt64 (-t_pieceMany_2)) * (Int32.toInt64 r_9)))])), (a_t_s, .inl (G.2.1, 68, .inl t_s))] := hD
            refine lv_iinc (v := (i2_1 + 1)) (lv' := [(2, .int (i2_1 + 1)), (8, .int (-t_pieceMany_2)), (6, .long (999 - (Int32.toInt64 t_pieceMany_2))), (4, .long (t_coins_3 / (Int32.toInt64 r_7))), (3, .int r_6), (0, .ref a_t), (1, .int x1)]) hx hb dX12_trades_119 hl (k := 6) rfl rfl (by decide) rfl (fun ls hl => ?_)
            refine lv_goto (tgt := 14) hx hb dX12_trades_122 (by decide) ?_
            exact ih (i2_1 + 1) (t_pieceMany_2 + (-t_pieceMany_2)) (t_coins_3 - ((Int32.toInt64 (-t_pieceMany_2)) * (Int32.toInt64 r_9))) hf _ _ hP hD hS ls (lv_sub hl [5, 6, 0] rfl)
        · have hf := (if_pos c0).symm.trans hf
          refine lv_lload hx hb dX12_trades_54 (lv_at hl 1 rfl) ?_
          refine lv_lload hx hb dX12_trades_56 (lv_at hl 0 rfl) ?_
          refine W.lcmp hx hb dX12_trades_58 ?_
          refine lv_if_ge (tgt := 67) hx hb dX12_trades_59 (by decide) (fun c0 => ?_) (fun c0 => ?_)
          · have hf := (if_pos c0).symm.trans hf
            refine lv_lload hx hb dX12_trades_67 (lv_at hl 0 rfl) ?_
            refine lv_l2i (v := (Int64.toInt32 (999 - (Int32.toInt64 t_pieceMany_2)))) hx hb dX12_trades_69 rfl ?_
            refine lv_goto (tgt := 87) hx hb dX12_trades_70 (by decide) ?_
            refine lv_istore (lv' := [(8, .int (Int64.toInt32 (999 - (Int32.toInt64 t_pieceMany_2)))), (6, .long (999 - (Int32.toInt64 t_pieceMany_2))), (4, .long (t_coins_3 / (Int32.toInt64 r_7))), (3, .int r_6), (0, .ref a_t), (1, .int x1), (2, .int i2_1)]) hx hb dX12_trades_87 hl (by decide) rfl (fun ls hl => ?_)
            refine lv_aload_n hx hb dX12_trades_89 rfl (lv_at hl 4 rfl) ?_
            refine lv_dup hx hb dX12_trades_90 rfl ?_
            refine gf (C := RX12) (T := TX12) (N := 16) (ci := 8) (v := .int t_pieceMany_2) hF hG hP inX12 0 rfl rfl 14 (by decide) q1034 rfl rfl dX12_trades_91 ?_
            refine lv_iload hx hb dX12_trades_94 (lv_at hl 0 rfl) ?_
            refine lv_iadd hx hb dX12_trades_96 ?_
            refine pf (C := RX12) (T := TX12) (N := 16) (ci := 8) (v := .int (t_pieceMany_2 + (Int64.toInt32 (999 - (Int32.toInt64 t_pieceMany_2))))) (ty := .int) hF hG hP hD hS inX12 tyX12 tyX12_ok nmX12 0 rfl rfl 14 (by decide) q1034 rfl rfl (by decide +kernel) rfl rfl (Nat.le_of_ble_eq_true rfl) dX12_trades_97 (fun H locs hP hD hS => ?_)
            replace hP : va_P G.1 vwCl [(a_t, .inr (8, [.int t_thrown, .ref a_t_s, .ref a_t_states, .int t_stateMany, .ref a_t_snapshot, .int t_hasSnapshot, .ref a_t_text, .int t_length, .int t_at, .int t_isWell, .ref a_t_read, .int t_readMany, .ref a_t_prices, .int t_priceMany, .int (t_pieceMany_2 + (Int64.toInt32 (999 - (Int32.toInt64 t_pieceMany_2)))), .long t_coins_3])), (a_t_s, .inl (G.2.1, 68, .inl t_s))] H := hP
            replace hD : va_D A [(a_t, .inr (8, [.int t_thrown, .ref a_t_s, .ref a_t_states, .int t_stateMany, .ref a_t_snapshot, .int t_hasSnapshot, .ref a_t_text, .int t_length, .int t_at, .int t_isWell, .ref a_t_read, .int t_readMany, .ref a_t_prices, .int t_priceMany, .int (t_pieceMany_2 + (Int64.toInt32 (999 - (Int32.toInt64 t_pieceMany_2)))), .long t_coins_3])), (a_t_s, .inl (G.2.1, 68, .inl t_s))] := hD
            refine lv_aload_n hx hb dX12_trades_100 rfl (lv_at hl 4 rfl) ?_
            refine lv_dup hx hb dX12_trades_101 rfl ?_
            refine gf (C := RX12) (T := TX12) (N := 16) (ci := 8) (v := .long t_coins_3) hF hG hP inX12 0 rfl rfl 15 (by decide) q1035 rfl rfl dX12_trades_102 ?_
            refine lv_iload hx hb dX12_trades_105 (lv_at hl 0 rfl) ?_
            refine lv_i2l (v := (Int32.toInt64 (Int64.toInt32 (999 - (Int32.toInt64 t_pieceMany_2))))) hx hb dX12_trades_107 rfl ?_
            refine lv_aload_n hx hb dX12_trades_108 rfl (lv_at hl 4 rfl) ?_
            refine lv_iload_n hx hb dX12_trades_109 rfl (lv_at hl 6 rfl) ?_
            obtain ⟨r_10, hq, hf⟩ := bd1_some hf
            refine rdV (As := [.int i2_1]) (rest := [.long (Int32.toInt64 (Int64.toInt32 (999 - (Int32.toInt64 t_pieceMany_2)))), .long t_coins_3, .ref a_t]) hF hG hP hl.1 (c_X12_of l G a_t t_thrown a_t_states t_stateMany a_t_snapshot t_hasSnapshot a_t_text t_length t_at t_isWell a_t_read t_readMany a_t_prices t_priceMany (t_pieceMany_2 + (Int64.toInt32 (999 - (Int32.toInt64 t_pieceMany_2)))) t_coins_3 a_t_s t_s i2_1 r_10 hq) k_X12_of q1111 [0, 1] rfl ⟨0, 8, _, _, rfl, rfl, rfl⟩ rfl rfl (Nat.le_of_ble_eq_true rfl) ⟨(Nat.le_of_ble_eq_true rfl), (Nat.le_of_ble_eq_true rfl)⟩ ⟨(Nat.zero_le _), (Nat.zero_le _)⟩ dX12_trades_110 ?_
            refine lv_i2l (v := (Int32.toInt64 r_10)) hx hb dX12_trades_113 rfl ?_
            refine lv_lmul hx hb dX12_trades_114 ?_
            refine lv_lsub hx hb dX12_trades_115 ?_
            refine pf (C := RX12) (T := TX12) (N := 16) (ci := 8) (v := .long (t_coins_3 - ((Int32.toInt64 (Int64.toInt32 (999 - (Int32.toInt64 t_pieceMany_2)))) * (Int32.toInt64 r_10)))) (ty := .long) hF hG hP hD hS inX12 tyX12 tyX12_ok nmX12 0 rfl rfl 15 (by decide) q1035 rfl rfl (by decide +kernel) rfl rfl (Nat.le_of_ble_eq_true rfl) dX12_trades_116 (fun H locs hP hD hS => ?_)
            replace hP : va_P G.1 vwCl [(a_t, .inr (8, [.int t_thrown, .ref a_t_s, .ref a_t_states, .int t_stateMany, .ref a_t_snapshot, .int t_hasSnapshot, .ref a_t_text, .int t_length, .int t_at, .int t_isWell, .ref a_t_read, .int t_readMany, .ref a_t_prices, .int t_priceMany, .int (t_pieceMany_2 + (Int64.toInt32 (999 - (Int32.toInt64 t_pieceMany_2)))), .long (t_coins_3 - ((Int32.toInt64 (Int64.toInt32 (999 - (Int32.toInt64 t_pieceMany_2)))) * (Int32.toInt64 r_10)))])), (a_t_s, .inl (G.2.1, 68, .inl t_s))] H := hP
            replace hD : va_D A [(a_t, .inr (8, [.int t_thrown, .ref a_t_s, .ref a_t_states, .int t_stateMany, .ref a_t_snapshot, .int t_hasSnapshot, .ref a_t_text, .int t_length, .int t_at, .int t_isWell, .ref a_t_read, .int t_readMany, .ref a_t_prices, .int t_priceMany, .int (t_pieceMany_2 + (Int64.toInt32 (999 - (Int32.toInt64 t_pieceMany_2)))), .long (t_coins_3 - ((Int32.toInt64 (Int64.toInt32 (999 - (Int32.toInt64 t_pieceMany_2)))) * (Int32.toInt64 r_10)))])), (a_t_s, .inl (G.2.1, 68, .inl t_s))] := hD
            refine lv_iinc (v := (i2_1 + 1)) (lv' := [(2, .int (i2_1 + 1)), (8, .int (Int64.toInt32 (999 - (Int32.toInt64 t_pieceMany_2)))), (6, .long (999 - (Int32.toInt64 t_pieceMany_2))), (4, .long (t_coins_3 / (Int32.toInt64 r_7))), (3, .int r_6), (0, .ref a_t), (1, .int x1)]) hx hb dX12_trades_119 hl (k := 6) rfl rfl (by decide) rfl (fun ls hl => ?_)
            refine lv_goto (tgt := 14) hx hb dX12_trades_122 (by decide) ?_
            exact ih (i2_1 + 1) (t_pieceMany_2 + (Int64.toInt32 (999 - (Int32.toInt64 t_pieceMany_2)))) (t_coins_3 - ((Int32.toInt64 (Int64.toInt32 (999 - (Int32.toInt64 t_pieceMany_2)))) * (Int32.toInt64 r_10))) hf _ _ hP hD hS ls (lv_sub hl [5, 6, 0] rfl)
          · have hf := (if_neg c0).symm.trans hf
            refine lv_lload hx hb dX12_trades_62 (lv_at hl 1 rfl) ?_
            refine lv_goto (tgt := 69) hx hb dX12_trades_64 (by decide) ?_
            refine lv_l2i (v := (Int64.toInt32 (t_coins_3 / (Int32.toInt64 r_7)))) hx hb dX12_trades_69 rfl ?_
            refine lv_goto (tgt := 87) hx hb dX12_trades_70 (by decide) ?_
            refine lv_istore (lv' := [(8, .int (Int64.toInt32 (t_coins_3 / (Int32.toInt64 r_7)))), (6, .long (999 - (Int32.toInt64 t_pieceMany_2))), (4, .long (t_coins_3 / (Int32.toInt64 r_7))), (3, .int r_6), (0, .ref a_t), (1, .int x1), (2, .int i2_1)]) hx hb dX12_trades_87 hl (by decide) rfl (fun ls hl => ?_)
            refine lv_aload_n hx hb dX12_trades_89 rfl (lv_at hl 4 rfl) ?_
            refine lv_dup hx hb dX12_trades_90 rfl ?_
            refine gf (C := RX12) (T := TX12) (N := 16) (ci := 8) (v := .int t_pieceMany_2) hF hG hP inX12 0 rfl rfl 14 (by decide) q1034 rfl rfl dX12_trades_91 ?_
            refine lv_iload hx hb dX12_trades_94 (lv_at hl 0 rfl) ?_
            refine lv_iadd hx hb dX12_trades_96 ?_
            refine pf (C := RX12) (T := TX12) (N := 16) (ci := 8) (v := .int (t_pieceMany_2 + (Int64.toInt32 (t_coins_3 / (Int32.toInt64 r_7))))) (ty := .int) hF hG hP hD hS inX12 tyX12 tyX12_ok nmX12 0 rfl rfl 14 (by decide) q1034 rfl rfl (by decide +kernel) rfl rfl (Nat.le_of_ble_eq_true rfl) dX12_trades_97 (fun H locs hP hD hS => ?_)
            replace hP : va_P G.1 vwCl [(a_t, .inr (8, [.int t_thrown, .ref a_t_s, .ref a_t_states, .int t_stateMany, .ref a_t_snapshot, .int t_hasSnapshot, .ref a_t_text, .int t_length, .int t_at, .int t_isWell, .ref a_t_read, .int t_readMany, .ref a_t_prices, .int t_priceMany, .int (t_pieceMany_2 + (Int64.toInt32 (t_coins_3 / (Int32.toInt64 r_7)))), .long t_coins_3])), (a_t_s, .inl (G.2.1, 68, .inl t_s))] H := hP
            replace hD : va_D A [(a_t, .inr (8, [.int t_thrown, .ref a_t_s, .ref a_t_states, .int t_stateMany, .ref a_t_snapshot, .int t_hasSnapshot, .ref a_t_text, .int t_length, .int t_at, .int t_isWell, .ref a_t_read, .int t_readMany, .ref a_t_prices, .int t_priceMany, .int (t_pieceMany_2 + (Int64.toInt32 (t_coins_3 / (Int32.toInt64 r_7)))), .long t_coins_3])), (a_t_s, .inl (G.2.1, 68, .inl t_s))] := hD
            refine lv_aload_n hx hb dX12_trades_100 rfl (lv_at hl 4 rfl) ?_
            refine lv_dup hx hb dX12_trades_101 rfl ?_
            refine gf (C := RX12) (T := TX12) (N := 16) (ci := 8) (v := .long t_coins_3) hF hG hP inX12 0 rfl rfl 15 (by decide) q1035 rfl rfl dX12_trades_102 ?_
            refine lv_iload hx hb dX12_trades_105 (lv_at hl 0 rfl) ?_
            refine lv_i2l (v := (Int32.toInt64 (Int64.toInt32 (t_coins_3 / (Int32.toInt64 r_7))))) hx hb dX12_trades_107 rfl ?_
            refine lv_aload_n hx hb dX12_trades_108 rfl (lv_at hl 4 rfl) ?_
            refine lv_iload_n hx hb dX12_trades_109 rfl (lv_at hl 6 rfl) ?_
            obtain ⟨r_11, hq, hf⟩ := bd1_some hf
            refine rdV (As := [.int i2_1]) (rest := [.long (Int32.toInt64 (Int64.toInt32 (t_coins_3 / (Int32.toInt64 r_7)))), .long t_coins_3, .ref a_t]) hF hG hP hl.1 (c_X12_of l G a_t t_thrown a_t_states t_stateMany a_t_snapshot t_hasSnapshot a_t_text t_length t_at t_isWell a_t_read t_readMany a_t_prices t_priceMany (t_pieceMany_2 + (Int64.toInt32 (t_coins_3 / (Int32.toInt64 r_7)))) t_coins_3 a_t_s t_s i2_1 r_11 hq) k_X12_of q1111 [0, 1] rfl ⟨0, 8, _, _, rfl, rfl, rfl⟩ rfl rfl (Nat.le_of_ble_eq_true rfl) ⟨(Nat.le_of_ble_eq_true rfl), (Nat.le_of_ble_eq_true rfl)⟩ ⟨(Nat.zero_le _), (Nat.zero_le _)⟩ dX12_trades_110 ?_
            refine lv_i2l (v := (Int32.toInt64 r_11)) hx hb dX12_trades_113 rfl ?_
            refine lv_lmul hx hb dX12_trades_114 ?_
            refine lv_lsub hx hb dX12_trades_115 ?_
            refine pf (C := RX12) (T := TX12) (N := 16) (ci := 8) (v := .long (t_coins_3 - ((Int32.toInt64 (Int64.toInt32 (t_coins_3 / (Int32.toInt64 r_7)))) * (Int32.toInt64 r_11)))) (ty := .long) hF hG hP hD hS inX12 tyX12 tyX12_ok nmX12 0 rfl rfl 15 (by decide) q1035 rfl rfl (by decide +kernel) rfl rfl (Nat.le_of_ble_eq_true rfl) dX12_trades_116 (fun H locs hP hD hS => ?_)
            replace hP : va_P G.1 vwCl [(a_t, .inr (8, [.int t_thrown, .ref a_t_s, .ref a_t_states, .int t_stateMany, .ref a_t_snapshot, .int t_hasSnapshot, .ref a_t_text, .int t_length, .int t_at, .int t_isWell, .ref a_t_read, .int t_readMany, .ref a_t_prices, .int t_priceMany, .int (t_pieceMany_2 + (Int64.toInt32 (t_coins_3 / (Int32.toInt64 r_7)))), .long (t_coins_3 - ((Int32.toInt64 (Int64.toInt32 (t_coins_3 / (Int32.toInt64 r_7)))) * (Int32.toInt64 r_11)))])), (a_t_s, .inl (G.2.1, 68, .inl t_s))] H := hP
            replace hD : va_D A [(a_t, .inr (8, [.int t_thrown, .ref a_t_s, .ref a_t_states, .int t_stateMany, .ref a_t_snapshot, .int t_hasSnapshot, .ref a_t_text, .int t_length, .int t_at, .int t_isWell, .ref a_t_read, .int t_readMany, .ref a_t_prices, .int t_priceMany, .int (t_pieceMany_2 + (Int64.toInt32 (t_coins_3 / (Int32.toInt64 r_7)))), .long (t_coins_3 - ((Int32.toInt64 (Int64.toInt32 (t_coins_3 / (Int32.toInt64 r_7)))) * (Int32.toInt64 r_11)))])), (a_t_s, .inl (G.2.1, 68, .inl t_s))] := hD
            refine lv_iinc (v := (i2_1 + 1)) (lv' := [(2, .int (i2_1 + 1)), (8, .int (Int64.toInt32 (t_coins_3 / (Int32.toInt64 r_7)))), (6, .long (999 - (Int32.toInt64 t_pieceMany_2))), (4, .long (t_coins_3 / (Int32.toInt64 r_7))), (3, .int r_6), (0, .ref a_t), (1, .int x1)]) hx hb dX12_trades_119 hl (k := 6) rfl rfl (by decide) rfl (fun ls hl => ?_)
            refine lv_goto (tgt := 14) hx hb dX12_trades_122 (by decide) ?_
            exact ih (i2_1 + 1) (t_pieceMany_2 + (Int64.toInt32 (t_coins_3 / (Int32.toInt64 r_7)))) (t_coins_3 - ((Int32.toInt64 (Int64.toInt32 (t_coins_3 / (Int32.toInt64 r_7)))) * (Int32.toInt64 r_11))) hf _ _ hP hD hS ls (lv_sub hl [5, 6, 0] rfl)
  exact L14 1000 1 0 10000 hq _ _ hP hD hS ls (lv_sub hl [1, 2, 0] rfl)
def f_X12_piecesAt (t_pieceMany : Int32) (t_coins : Int64) (t_s : Nat → Int32) (x1 : Int32) : Option (Int32 × Int32 × Int64) := bd2 (f_X12_trades t_pieceMany t_coins t_s x1) (fun (t_pieceMany_1 : Int32) (t_coins_2 : Int64) => some (t_pieceMany_1, t_pieceMany_1, t_coins_2))
theorem k_X12_piecesAt : KV yX12_piecesAt cX12_piecesAt 2 (some .int) 1 := ⟨qc_yX12_piecesAt, q9, ⟨by decide +kernel, by decide +kernel, by decide +kernel⟩, qi_yX12_piecesAt, qs_yX12_piecesAt⟩
abbrev RM_X12_piecesAt : Room := { frames := 5, cells := 0, slots := 0, locals := 117 }
set_option maxHeartbeats 4000000 in
set_option maxRecDepth 100000 in
theorem c_X12_piecesAt (l : Launch) (G : GP) (a_t : Nat) (t_thrown : Int32) (a_t_states : Nat) (t_stateMany : Int32) (a_t_snapshot : Nat) (t_hasSnapshot : Int32) (a_t_text : Nat) (t_length : Int32) (t_at : Int32) (t_isWell : Int32) (a_t_read : Nat) (t_readMany : Int32) (a_t_prices : Nat) (t_priceMany : Int32) (t_pieceMany : Int32) (t_coins : Int64) (a_t_s : Nat) (t_s : Nat → Int32) (x1 : Int32) (rr : Int32) (w_t_pieceMany : Int32) (w_t_coins : Int64) (hf : f_X12_piecesAt t_pieceMany t_coins t_s x1 = some (rr, w_t_pieceMany, w_t_coins)) : WM l yX12_piecesAt cX12_piecesAt 2 (some .int) 5 117 G [.ref a_t, .int x1] [(a_t, .inr (8, [.int t_thrown, .ref a_t_s, .ref a_t_states, .int t_stateMany, .ref a_t_snapshot, .int t_hasSnapshot, .ref a_t_text, .int t_length, .int t_at, .int t_isWell, .ref a_t_read, .int t_readMany, .ref a_t_prices, .int t_priceMany, .int t_pieceMany, .long t_coins])), (a_t_s, .inl (G.2.1, 68, .inl t_s))] (some (.int rr)) [(a_t, .inr (8, [.int t_thrown, .ref a_t_s, .ref a_t_states, .int t_stateMany, .ref a_t_snapshot, .int t_hasSnapshot, .ref a_t_text, .int t_length, .int t_at, .int t_isWell, .ref a_t_read, .int t_readMany, .ref a_t_prices, .int t_priceMany, .int w_t_pieceMany, .long w_t_coins])), (a_t_s, .inl (G.2.1, 68, .inl t_s))] := by
  refine WM.ofW (C := RX12) (by decide) rfl (Nat.le_of_ble_eq_true rfl) ?_
  intro p e s m below meth c A hF hr hlk hG hA hP hD ls hl
  have hl : lv_has ls 2 [(0, .ref a_t), (1, .int x1)] := hl
  have hx := hF.1
  have hb := hF.2.1
  have hml := hF.2.2.1
  have hown := hF.2.2.2.1
  have hts := hF.2.2.2.2
  have hS : va_S A s.heap s.heap [] := va_S.rf
  unfold f_X12_piecesAt at hf
  refine lv_aload_n hx hb dX12_piecesAt_0 rfl (lv_at hl 0 rfl) ?_
  refine lv_iload_n hx hb dX12_piecesAt_1 rfl (lv_at hl 1 rfl) ?_
  obtain ⟨t_pieceMany_1, t_coins_2, hq, hf⟩ := bd2_some hf
  refine wrV (As := [.int x1]) (rest := []) (wn := [(a_t, .inr (8, [.int t_thrown, .ref a_t_s, .ref a_t_states, .int t_stateMany, .ref a_t_snapshot, .int t_hasSnapshot, .ref a_t_text, .int t_length, .int t_at, .int t_isWell, .ref a_t_read, .int t_readMany, .ref a_t_prices, .int t_priceMany, .int t_pieceMany_1, .long t_coins_2])), (a_t_s, .inl (G.2.1, 68, .inl t_s))]) hF hG hP hD hS hA hl.1 (c_X12_trades l G a_t t_thrown a_t_states t_stateMany a_t_snapshot t_hasSnapshot a_t_text t_length t_at t_isWell a_t_read t_readMany a_t_prices t_priceMany t_pieceMany t_coins a_t_s t_s x1 t_pieceMany_1 t_coins_2 hq) k_X12_trades q1351 [0, 1] [] [0, 1] rfl rfl rfl rfl ⟨rfl, rfl⟩ (by decide) ⟨0, 8, _, _, rfl, rfl, rfl⟩ rfl rfl (Nat.le_of_ble_eq_true rfl) ⟨(Nat.le_of_ble_eq_true rfl), (Nat.le_of_ble_eq_true rfl)⟩ ⟨(Nat.le_of_ble_eq_true rfl), (Nat.le_of_ble_eq_true rfl)⟩ dX12_piecesAt_2 (fun H locs hP hD hS => ?_)
  refine lv_aload_n hx hb dX12_piecesAt_5 rfl (lv_at hl 0 rfl) ?_
  refine gf (C := RX12) (T := TX12) (N := 16) (ci := 8) (v := .int t_pieceMany_1) hF hG hP inX12 0 rfl rfl 14 (by decide) q1034 rfl rfl dX12_piecesAt_6 ?_
  have hf : (some (t_pieceMany_1, t_pieceMany_1, t_coins_2) : Option (Int32 × Int32 × Int64)) = some (rr, w_t_pieceMany, w_t_coins) := hf
  cases hf
  exact we_i hF hr hlk hP hD hS dX12_piecesAt_9 rfl
def f_X12_pieces (t_thrown : Int32) (t_pieceMany : Int32) (t_coins : Int64) (t_s : Nat → Int32) (x1 : Int32) : Option (Int32 × Int32 × Int32 × Int64) := bd1 (f_X12_isDay t_s x1) (fun (r_1 : Int32) => (if r_1 = 0 then bd2 (f_X12_fails 0 1) (fun (r_2 : Int32) (t_thrown_3 : Int32) => some (r_2, t_thrown_3, t_pieceMany, t_coins)) else bd3 (f_X12_piecesAt t_pieceMany t_coins t_s x1) (fun (r_4 : Int32) (t_pieceMany_5 : Int32) (t_coins_6 : Int64) => some (r_4, 0, t_pieceMany_5, t_coins_6))))
theorem k_X12_pieces : KV yX12_pieces cX12_pieces 2 (some .int) 1 := ⟨qc_yX12_pieces, q9, ⟨by decide +kernel, by decide +kernel, by decide +kernel⟩, qi_yX12_pieces, qs_yX12_pieces⟩
abbrev RM_X12_pieces : Room := { frames := 6, cells := 0, slots := 0, locals := 138 }
set_option maxHeartbeats 4000000 in
set_option maxRecDepth 100000 in
theorem c_X12_pieces (l : Launch) (G : GP) (a_t : Nat) (t_thrown : Int32) (a_t_states : Nat) (t_stateMany : Int32) (a_t_snapshot : Nat) (t_hasSnapshot : Int32) (a_t_text : Nat) (t_length : Int32) (t_at : Int32) (t_isWell : Int32) (a_t_read : Nat) (t_readMany : Int32) (a_t_prices : Nat) (t_priceMany : Int32) (t_pieceMany : Int32) (t_coins : Int64) (a_t_s : Nat) (t_s : Nat → Int32) (x1 : Int32) (rr : Int32) (w_t_thrown : Int32) (w_t_pieceMany : Int32) (w_t_coins : Int64) (hf : f_X12_pieces t_thrown t_pieceMany t_coins t_s x1 = some (rr, w_t_thrown, w_t_pieceMany, w_t_coins)) : WM l yX12_pieces cX12_pieces 2 (some .int) 6 138 G [.ref a_t, .int x1] [(a_t, .inr (8, [.int t_thrown, .ref a_t_s, .ref a_t_states, .int t_stateMany, .ref a_t_snapshot, .int t_hasSnapshot, .ref a_t_text, .int t_length, .int t_at, .int t_isWell, .ref a_t_read, .int t_readMany, .ref a_t_prices, .int t_priceMany, .int t_pieceMany, .long t_coins])), (a_t_s, .inl (G.2.1, 68, .inl t_s))] (some (.int rr)) [(a_t, .inr (8, [.int w_t_thrown, .ref a_t_s, .ref a_t_states, .int t_stateMany, .ref a_t_snapshot, .int t_hasSnapshot, .ref a_t_text, .int t_length, .int t_at, .int t_isWell, .ref a_t_read, .int t_readMany, .ref a_t_prices, .int t_priceMany, .int w_t_pieceMany, .long w_t_coins])), (a_t_s, .inl (G.2.1, 68, .inl t_s))] := by
  refine WM.ofW (C := RX12) (by decide) rfl (Nat.le_of_ble_eq_true rfl) ?_
  intro p e s m below meth c A hF hr hlk hG hA hP hD ls hl
  have hl : lv_has ls 2 [(0, .ref a_t), (1, .int x1)] := hl
  have hx := hF.1
  have hb := hF.2.1
  have hml := hF.2.2.1
  have hown := hF.2.2.2.1
  have hts := hF.2.2.2.2
  have hS : va_S A s.heap s.heap [] := va_S.rf
  unfold f_X12_pieces at hf
  refine lv_aload_n hx hb dX12_pieces_0 rfl (lv_at hl 0 rfl) ?_
  refine lv_iconst (v := 0) hx hb dX12_pieces_1 (by decide) ?_
  refine pf (C := RX12) (T := TX12) (N := 16) (ci := 8) (v := .int 0) (ty := .int) hF hG hP hD hS inX12 tyX12 tyX12_ok nmX12 0 rfl rfl 0 (by decide) q1020 rfl rfl (by decide +kernel) rfl rfl (Nat.le_of_ble_eq_true rfl) dX12_pieces_2 (fun H locs hP hD hS => ?_)
  replace hP : va_P G.1 vwCl [(a_t, .inr (8, [.int 0, .ref a_t_s, .ref a_t_states, .int t_stateMany, .ref a_t_snapshot, .int t_hasSnapshot, .ref a_t_text, .int t_length, .int t_at, .int t_isWell, .ref a_t_read, .int t_readMany, .ref a_t_prices, .int t_priceMany, .int t_pieceMany, .long t_coins])), (a_t_s, .inl (G.2.1, 68, .inl t_s))] H := hP
  replace hD : va_D A [(a_t, .inr (8, [.int 0, .ref a_t_s, .ref a_t_states, .int t_stateMany, .ref a_t_snapshot, .int t_hasSnapshot, .ref a_t_text, .int t_length, .int t_at, .int t_isWell, .ref a_t_read, .int t_readMany, .ref a_t_prices, .int t_priceMany, .int t_pieceMany, .long t_coins])), (a_t_s, .inl (G.2.1, 68, .inl t_s))] := hD
  refine lv_aload_n hx hb dX12_pieces_5 rfl (lv_at hl 0 rfl) ?_
  refine lv_iload_n hx hb dX12_pieces_6 rfl (lv_at hl 1 rfl) ?_
  obtain ⟨r_1, hq, hf⟩ := bd1_some hf
  refine rdV (As := [.int x1]) (rest := []) hF hG hP hl.1 (c_X12_isDay l G a_t 0 a_t_states t_stateMany a_t_snapshot t_hasSnapshot a_t_text t_length t_at t_isWell a_t_read t_readMany a_t_prices t_priceMany t_pieceMany t_coins a_t_s t_s x1 r_1 hq) k_X12_isDay q1099 [0, 1] rfl ⟨0, 8, _, _, rfl, rfl, rfl⟩ rfl rfl (Nat.le_of_ble_eq_true rfl) ⟨(Nat.le_of_ble_eq_true rfl), (Nat.le_of_ble_eq_true rfl)⟩ ⟨(Nat.zero_le _), (Nat.zero_le _)⟩ dX12_pieces_7 ?_
  refine lv_if_eq (tgt := 21) hx hb dX12_pieces_10 (by decide) (fun c0 => ?_) (fun c0 => ?_)
  · have hf := (if_pos c0).symm.trans hf
    refine lv_aload_n hx hb dX12_pieces_21 rfl (lv_at hl 0 rfl) ?_
    refine lv_iconst (v := 1) hx hb dX12_pieces_22 (by decide) ?_
    obtain ⟨r_2, t_thrown_3, hq, hf⟩ := bd2_some hf
    refine wrV (As := [.int 1]) (rest := []) (wn := [(a_t, .inr (8, [.int t_thrown_3, .ref a_t_s, .ref a_t_states, .int t_stateMany, .ref a_t_snapshot, .int t_hasSnapshot, .ref a_t_text, .int t_length, .int t_at, .int t_isWell, .ref a_t_read, .int t_readMany, .ref a_t_prices, .int t_priceMany, .int t_pieceMany, .long t_coins])), (a_t_s, .inl (G.2.1, 68, .inl t_s))]) hF hG hP hD hS hA hl.1 (c_X12_fails l G a_t 0 a_t_s a_t_states t_stateMany a_t_snapshot t_hasSnapshot a_t_text t_length t_at t_isWell a_t_read t_readMany a_t_prices t_priceMany t_pieceMany t_coins 1 r_2 t_thrown_3 hq) k_X12_fails q1083 [0] [1] [1, 0] rfl rfl rfl rfl ⟨rfl, rfl⟩ (by decide) ⟨0, 8, _, _, rfl, rfl, rfl⟩ rfl rfl (Nat.le_of_ble_eq_true rfl) ⟨(Nat.le_of_ble_eq_true rfl), (Nat.le_of_ble_eq_true rfl)⟩ ⟨(Nat.le_of_ble_eq_true rfl), (Nat.le_of_ble_eq_true rfl)⟩ dX12_pieces_23 (fun H locs hP hD hS => ?_)
    have hf : (some (r_2, t_thrown_3, t_pieceMany, t_coins) : Option (Int32 × Int32 × Int32 × Int64)) = some (rr, w_t_thrown, w_t_pieceMany, w_t_coins) := hf
    cases hf
    exact we_i hF hr hlk hP hD hS dX12_pieces_26 rfl
  · have hf := (if_neg c0).symm.trans hf
    refine lv_aload_n hx hb dX12_pieces_13 rfl (lv_at hl 0 rfl) ?_
    refine lv_iload_n hx hb dX12_pieces_14 rfl (lv_at hl 1 rfl) ?_
    obtain ⟨r_4, t_pieceMany_5, t_coins_6, hq, hf⟩ := bd3_some hf
    refine wrV (As := [.int x1]) (rest := []) (wn := [(a_t, .inr (8, [.int 0, .ref a_t_s, .ref a_t_states, .int t_stateMany, .ref a_t_snapshot, .int t_hasSnapshot, .ref a_t_text, .int t_length, .int t_at, .int t_isWell, .ref a_t_read, .int t_readMany, .ref a_t_prices, .int t_priceMany, .int t_pieceMany_5, .long t_coins_6])), (a_t_s, .inl (G.2.1, 68, .inl t_s))]) hF hG hP hD hS hA hl.1 (c_X12_piecesAt l G a_t 0 a_t_states t_stateMany a_t_snapshot t_hasSnapshot a_t_text t_length t_at t_isWell a_t_read t_readMany a_t_prices t_priceMany t_pieceMany t_coins a_t_s t_s x1 r_4 t_pieceMany_5 t_coins_6 hq) k_X12_piecesAt q1347 [0, 1] [] [0, 1] rfl rfl rfl rfl ⟨rfl, rfl⟩ (by decide) ⟨0, 8, _, _, rfl, rfl, rfl⟩ rfl rfl (Nat.le_of_ble_eq_true rfl) ⟨(Nat.le_of_ble_eq_true rfl), (Nat.le_of_ble_eq_true rfl)⟩ ⟨(Nat.le_of_ble_eq_true rfl), (Nat.le_of_ble_eq_true rfl)⟩ dX12_pieces_15 (fun H locs hP hD hS => ?_)
    refine lv_goto (tgt := 26) hx hb dX12_pieces_18 (by decide) ?_
    have hf : (some (r_4, 0, t_pieceMany_5, t_coins_6) : Option (Int32 × Int32 × Int32 × Int64)) = some (rr, w_t_thrown, w_t_pieceMany, w_t_coins) := hf
    cases hf
    exact we_i hF hr hlk hP hD hS dX12_pieces_26 rfl
def f_X12_worthAt (t_pieceMany : Int32) (t_coins : Int64) (t_s : Nat → Int32) (x1 : Int32) : Option (Int64 × Int32 × Int64) := bd2 (f_X12_trades t_pieceMany t_coins t_s x1) (fun (t_pieceMany_1 : Int32) (t_coins_2 : Int64) => bd1 (f_X12_of t_s x1) (fun (r_3 : Int32) => some ((t_coins_2 + ((Int32.toInt64 t_pieceMany_1) * (Int32.toInt64 r_3))), t_pieceMany_1, t_coins_2)))
theorem k_X12_worthAt : KV yX12_worthAt cX12_worthAt 2 (some .long) 1 := ⟨qc_yX12_worthAt, q9, ⟨by decide +kernel, by decide +kernel, by decide +kernel⟩, qi_yX12_worthAt, qs_yX12_worthAt⟩
abbrev RM_X12_worthAt : Room := { frames := 5, cells := 0, slots := 0, locals := 117 }
set_option maxHeartbeats 4000000 in
set_option maxRecDepth 100000 in
theorem c_X12_worthAt (l : Launch) (G : GP) (a_t : Nat) (t_thrown : Int32) (a_t_states : Nat) (t_stateMany : Int32) (a_t_snapshot : Nat) (t_hasSnapshot : Int32) (a_t_text : Nat) (t_length : Int32) (t_at : Int32) (t_isWell : Int32) (a_t_read : Nat) (t_readMany : Int32) (a_t_prices : Nat) (t_priceMany : Int32) (t_pieceMany : Int32) (t_coins : Int64) (a_t_s : Nat) (t_s : Nat → Int32) (x1 : Int32) (rr : Int64) (w_t_pieceMany : Int32) (w_t_coins : Int64) (hf : f_X12_worthAt t_pieceMany t_coins t_s x1 = some (rr, w_t_pieceMany, w_t_coins)) : WM l yX12_worthAt cX12_worthAt 2 (some .long) 5 117 G [.ref a_t, .int x1] [(a_t, .inr (8, [.int t_thrown, .ref a_t_s, .ref a_t_states, .int t_stateMany, .ref a_t_snapshot, .int t_hasSnapshot, .ref a_t_text, .int t_length, .int t_at, .int t_isWell, .ref a_t_read, .int t_readMany, .ref a_t_prices, .int t_priceMany, .int t_pieceMany, .long t_coins])), (a_t_s, .inl (G.2.1, 68, .inl t_s))] (some (.long rr)) [(a_t, .inr (8, [.int t_thrown, .ref a_t_s, .ref a_t_states, .int t_stateMany, .ref a_t_snapshot, .int t_hasSnapshot, .ref a_t_text, .int t_length, .int t_at, .int t_isWell, .ref a_t_read, .int t_readMany, .ref a_t_prices, .int t_priceMany, .int w_t_pieceMany, .long w_t_coins])), (a_t_s, .inl (G.2.1, 68, .inl t_s))] := by
  refine WM.ofW (C := RX12) (by decide) rfl (Nat.le_of_ble_eq_true rfl) ?_
  intro p e s m below meth c A hF hr hlk hG hA hP hD ls hl
  have hl : lv_has ls 2 [(0, .ref a_t), (1, .int x1)] := hl
  have hx := hF.1
  have hb := hF.2.1
  have hml := hF.2.2.1
  have hown := hF.2.2.2.1
  have hts := hF.2.2.2.2
  have hS : va_S A s.heap s.heap [] := va_S.rf
  unfold f_X12_worthAt at hf
  refine lv_aload_n hx hb dX12_worthAt_0 rfl (lv_at hl 0 rfl) ?_
  refine lv_iload_n hx hb dX12_worthAt_1 rfl (lv_at hl 1 rfl) ?_
  obtain ⟨t_pieceMany_1, t_coins_2, hq, hf⟩ := bd2_some hf
  refine wrV (As := [.int x1]) (rest := []) (wn := [(a_t, .inr (8, [.int t_thrown, .ref a_t_s, .ref a_t_states, .int t_stateMany, .ref a_t_snapshot, .int t_hasSnapshot, .ref a_t_text, .int t_length, .int t_at, .int t_isWell, .ref a_t_read, .int t_readMany, .ref a_t_prices, .int t_priceMany, .int t_pieceMany_1, .long t_coins_2])), (a_t_s, .inl (G.2.1, 68, .inl t_s))]) hF hG hP hD hS hA hl.1 (c_X12_trades l G a_t t_thrown a_t_states t_stateMany a_t_snapshot t_hasSnapshot a_t_text t_length t_at t_isWell a_t_read t_readMany a_t_prices t_priceMany t_pieceMany t_coins a_t_s t_s x1 t_pieceMany_1 t_coins_2 hq) k_X12_trades q1351 [0, 1] [] [0, 1] rfl rfl rfl rfl ⟨rfl, rfl⟩ (by decide) ⟨0, 8, _, _, rfl, rfl, rfl⟩ rfl rfl (Nat.le_of_ble_eq_true rfl) ⟨(Nat.le_of_ble_eq_true rfl), (Nat.le_of_ble_eq_true rfl)⟩ ⟨(Nat.le_of_ble_eq_true rfl), (Nat.le_of_ble_eq_true rfl)⟩ dX12_worthAt_2 (fun H locs hP hD hS => ?_)
  refine lv_aload_n hx hb dX12_worthAt_5 rfl (lv_at hl 0 rfl) ?_
  refine gf (C := RX12) (T := TX12) (N := 16) (ci := 8) (v := .long t_coins_2) hF hG hP inX12 0 rfl rfl 15 (by decide) q1035 rfl rfl dX12_worthAt_6 ?_
  refine lv_aload_n hx hb dX12_worthAt_9 rfl (lv_at hl 0 rfl) ?_
  refine gf (C := RX12) (T := TX12) (N := 16) (ci := 8) (v := .int t_pieceMany_1) hF hG hP inX12 0 rfl rfl 14 (by decide) q1034 rfl rfl dX12_worthAt_10 ?_
  refine lv_i2l (v := (Int32.toInt64 t_pieceMany_1)) hx hb dX12_worthAt_13 rfl ?_
  refine lv_aload_n hx hb dX12_worthAt_14 rfl (lv_at hl 0 rfl) ?_
  refine lv_iload_n hx hb dX12_worthAt_15 rfl (lv_at hl 1 rfl) ?_
  obtain ⟨r_3, hq, hf⟩ := bd1_some hf
  refine rdV (As := [.int x1]) (rest := [.long (Int32.toInt64 t_pieceMany_1), .long t_coins_2]) hF hG hP hl.1 (c_X12_of l G a_t t_thrown a_t_states t_stateMany a_t_snapshot t_hasSnapshot a_t_text t_length t_at t_isWell a_t_read t_readMany a_t_prices t_priceMany t_pieceMany_1 t_coins_2 a_t_s t_s x1 r_3 hq) k_X12_of q1111 [0, 1] rfl ⟨0, 8, _, _, rfl, rfl, rfl⟩ rfl rfl (Nat.le_of_ble_eq_true rfl) ⟨(Nat.le_of_ble_eq_true rfl), (Nat.le_of_ble_eq_true rfl)⟩ ⟨(Nat.zero_le _), (Nat.zero_le _)⟩ dX12_worthAt_16 ?_
  refine lv_i2l (v := (Int32.toInt64 r_3)) hx hb dX12_worthAt_19 rfl ?_
  refine lv_lmul hx hb dX12_worthAt_20 ?_
  refine lv_ladd hx hb dX12_worthAt_21 ?_
  have hf : (some ((t_coins_2 + ((Int32.toInt64 t_pieceMany_1) * (Int32.toInt64 r_3))), t_pieceMany_1, t_coins_2) : Option (Int64 × Int32 × Int64)) = some (rr, w_t_pieceMany, w_t_coins) := hf
  cases hf
  exact we_l hF hr hlk hP hD hS dX12_worthAt_22 rfl
def f_X12_worth (t_thrown : Int32) (t_pieceMany : Int32) (t_coins : Int64) (t_s : Nat → Int32) (x1 : Int32) : Option (Int64 × Int32 × Int32 × Int64) := bd1 (f_X12_isDay t_s x1) (fun (r_1 : Int32) => (if r_1 = 0 then bd2 (f_X12_fails 0 1) (fun (r_2 : Int32) (t_thrown_3 : Int32) => some ((Int32.toInt64 r_2), t_thrown_3, t_pieceMany, t_coins)) else bd3 (f_X12_worthAt t_pieceMany t_coins t_s x1) (fun (r_4 : Int64) (t_pieceMany_5 : Int32) (t_coins_6 : Int64) => some (r_4, 0, t_pieceMany_5, t_coins_6))))
theorem k_X12_worth : KV yX12_worth cX12_worth 2 (some .long) 1 := ⟨qc_yX12_worth, q9, ⟨by decide +kernel, by decide +kernel, by decide +kernel⟩, qi_yX12_worth, qs_yX12_worth⟩
abbrev RM_X12_worth : Room := { frames := 6, cells := 0, slots := 0, locals := 138 }
set_option maxHeartbeats 4000000 in
set_option maxRecDepth 100000 in
theorem c_X12_worth (l : Launch) (G : GP) (a_t : Nat) (t_thrown : Int32) (a_t_states : Nat) (t_stateMany : Int32) (a_t_snapshot : Nat) (t_hasSnapshot : Int32) (a_t_text : Nat) (t_length : Int32) (t_at : Int32) (t_isWell : Int32) (a_t_read : Nat) (t_readMany : Int32) (a_t_prices : Nat) (t_priceMany : Int32) (t_pieceMany : Int32) (t_coins : Int64) (a_t_s : Nat) (t_s : Nat → Int32) (x1 : Int32) (rr : Int64) (w_t_thrown : Int32) (w_t_pieceMany : Int32) (w_t_coins : Int64) (hf : f_X12_worth t_thrown t_pieceMany t_coins t_s x1 = some (rr, w_t_thrown, w_t_pieceMany, w_t_coins)) : WM l yX12_worth cX12_worth 2 (some .long) 6 138 G [.ref a_t, .int x1] [(a_t, .inr (8, [.int t_thrown, .ref a_t_s, .ref a_t_states, .int t_stateMany, .ref a_t_snapshot, .int t_hasSnapshot, .ref a_t_text, .int t_length, .int t_at, .int t_isWell, .ref a_t_read, .int t_readMany, .ref a_t_prices, .int t_priceMany, .int t_pieceMany, .long t_coins])), (a_t_s, .inl (G.2.1, 68, .inl t_s))] (some (.long rr)) [(a_t, .inr (8, [.int w_t_thrown, .ref a_t_s, .ref a_t_states, .int t_stateMany, .ref a_t_snapshot, .int t_hasSnapshot, .ref a_t_text, .int t_length, .int t_at, .int t_isWell, .ref a_t_read, .int t_readMany, .ref a_t_prices, .int t_priceMany, .int w_t_pieceMany, .long w_t_coins])), (a_t_s, .inl (G.2.1, 68, .inl t_s))] := by
  refine WM.ofW (C := RX12) (by decide) rfl (Nat.le_of_ble_eq_true rfl) ?_
  intro p e s m below meth c A hF hr hlk hG hA hP hD ls hl
  have hl : lv_has ls 2 [(0, .ref a_t), (1, .int x1)] := hl
  have hx := hF.1
  have hb := hF.2.1
  have hml := hF.2.2.1
  have hown := hF.2.2.2.1
  have hts := hF.2.2.2.2
  have hS : va_S A s.heap s.heap [] := va_S.rf
  unfold f_X12_worth at hf
  refine lv_aload_n hx hb dX12_worth_0 rfl (lv_at hl 0 rfl) ?_
  refine lv_iconst (v := 0) hx hb dX12_worth_1 (by decide) ?_
  refine pf (C := RX12) (T := TX12) (N := 16) (ci := 8) (v := .int 0) (ty := .int) hF hG hP hD hS inX12 tyX12 tyX12_ok nmX12 0 rfl rfl 0 (by decide) q1020 rfl rfl (by decide +kernel) rfl rfl (Nat.le_of_ble_eq_true rfl) dX12_worth_2 (fun H locs hP hD hS => ?_)
  replace hP : va_P G.1 vwCl [(a_t, .inr (8, [.int 0, .ref a_t_s, .ref a_t_states, .int t_stateMany, .ref a_t_snapshot, .int t_hasSnapshot, .ref a_t_text, .int t_length, .int t_at, .int t_isWell, .ref a_t_read, .int t_readMany, .ref a_t_prices, .int t_priceMany, .int t_pieceMany, .long t_coins])), (a_t_s, .inl (G.2.1, 68, .inl t_s))] H := hP
  replace hD : va_D A [(a_t, .inr (8, [.int 0, .ref a_t_s, .ref a_t_states, .int t_stateMany, .ref a_t_snapshot, .int t_hasSnapshot, .ref a_t_text, .int t_length, .int t_at, .int t_isWell, .ref a_t_read, .int t_readMany, .ref a_t_prices, .int t_priceMany, .int t_pieceMany, .long t_coins])), (a_t_s, .inl (G.2.1, 68, .inl t_s))] := hD
  refine lv_aload_n hx hb dX12_worth_5 rfl (lv_at hl 0 rfl) ?_
  refine lv_iload_n hx hb dX12_worth_6 rfl (lv_at hl 1 rfl) ?_
  obtain ⟨r_1, hq, hf⟩ := bd1_some hf
  refine rdV (As := [.int x1]) (rest := []) hF hG hP hl.1 (c_X12_isDay l G a_t 0 a_t_states t_stateMany a_t_snapshot t_hasSnapshot a_t_text t_length t_at t_isWell a_t_read t_readMany a_t_prices t_priceMany t_pieceMany t_coins a_t_s t_s x1 r_1 hq) k_X12_isDay q1099 [0, 1] rfl ⟨0, 8, _, _, rfl, rfl, rfl⟩ rfl rfl (Nat.le_of_ble_eq_true rfl) ⟨(Nat.le_of_ble_eq_true rfl), (Nat.le_of_ble_eq_true rfl)⟩ ⟨(Nat.zero_le _), (Nat.zero_le _)⟩ dX12_worth_7 ?_
  refine lv_if_eq (tgt := 21) hx hb dX12_worth_10 (by decide) (fun c0 => ?_) (fun c0 => ?_)
  · have hf := (if_pos c0).symm.trans hf
    refine lv_aload_n hx hb dX12_worth_21 rfl (lv_at hl 0 rfl) ?_
    refine lv_iconst (v := 1) hx hb dX12_worth_22 (by decide) ?_
    obtain ⟨r_2, t_thrown_3, hq, hf⟩ := bd2_some hf
    refine wrV (As := [.int 1]) (rest := []) (wn := [(a_t, .inr (8, [.int t_thrown_3, .ref a_t_s, .ref a_t_states, .int t_stateMany, .ref a_t_snapshot, .int t_hasSnapshot, .ref a_t_text, .int t_length, .int t_at, .int t_isWell, .ref a_t_read, .int t_readMany, .ref a_t_prices, .int t_priceMany, .int t_pieceMany, .long t_coins])), (a_t_s, .inl (G.2.1, 68, .inl t_s))]) hF hG hP hD hS hA hl.1 (c_X12_fails l G a_t 0 a_t_s a_t_states t_stateMany a_t_snapshot t_hasSnapshot a_t_text t_length t_at t_isWell a_t_read t_readMany a_t_prices t_priceMany t_pieceMany t_coins 1 r_2 t_thrown_3 hq) k_X12_fails q1083 [0] [1] [1, 0] rfl rfl rfl rfl ⟨rfl, rfl⟩ (by decide) ⟨0, 8, _, _, rfl, rfl, rfl⟩ rfl rfl (Nat.le_of_ble_eq_true rfl) ⟨(Nat.le_of_ble_eq_true rfl), (Nat.le_of_ble_eq_true rfl)⟩ ⟨(Nat.le_of_ble_eq_true rfl), (Nat.le_of_ble_eq_true rfl)⟩ dX12_worth_23 (fun H locs hP hD hS => ?_)
    refine lv_i2l (v := (Int32.toInt64 r_2)) hx hb dX12_worth_26 rfl ?_
    have hf : (some ((Int32.toInt64 r_2), t_thrown_3, t_pieceMany, t_coins) : Option (Int64 × Int32 × Int32 × Int64)) = some (rr, w_t_thrown, w_t_pieceMany, w_t_coins) := hf
    cases hf
    exact we_l hF hr hlk hP hD hS dX12_worth_27 rfl
  · have hf := (if_neg c0).symm.trans hf
    refine lv_aload_n hx hb dX12_worth_13 rfl (lv_at hl 0 rfl) ?_
    refine lv_iload_n hx hb dX12_worth_14 rfl (lv_at hl 1 rfl) ?_
    obtain ⟨r_4, t_pieceMany_5, t_coins_6, hq, hf⟩ := bd3_some hf
    refine wrV (As := [.int x1]) (rest := []) (wn := [(a_t, .inr (8, [.int 0, .ref a_t_s, .ref a_t_states, .int t_stateMany, .ref a_t_snapshot, .int t_hasSnapshot, .ref a_t_text, .int t_length, .int t_at, .int t_isWell, .ref a_t_read, .int t_readMany, .ref a_t_prices, .int t_priceMany, .int t_pieceMany_5, .long t_coins_6])), (a_t_s, .inl (G.2.1, 68, .inl t_s))]) hF hG hP hD hS hA hl.1 (c_X12_worthAt l G a_t 0 a_t_states t_stateMany a_t_snapshot t_hasSnapshot a_t_text t_length t_at t_isWell a_t_read t_readMany a_t_prices t_priceMany t_pieceMany t_coins a_t_s t_s x1 r_4 t_pieceMany_5 t_coins_6 hq) k_X12_worthAt q1361 [0, 1] [] [0, 1] rfl rfl rfl rfl ⟨rfl, rfl⟩ (by decide) ⟨0, 8, _, _, rfl, rfl, rfl⟩ rfl rfl (Nat.le_of_ble_eq_true rfl) ⟨(Nat.le_of_ble_eq_true rfl), (Nat.le_of_ble_eq_true rfl)⟩ ⟨(Nat.le_of_ble_eq_true rfl), (Nat.le_of_ble_eq_true rfl)⟩ dX12_worth_15 (fun H locs hP hD hS => ?_)
    refine lv_goto (tgt := 27) hx hb dX12_worth_18 (by decide) ?_
    have hf : (some (r_4, 0, t_pieceMany_5, t_coins_6) : Option (Int64 × Int32 × Int32 × Int64)) = some (rr, w_t_thrown, w_t_pieceMany, w_t_coins) := hf
    cases hf
    exact we_l hF hr hlk hP hD hS dX12_worth_27 rfl
def l_X12_fall_6 (t_s : Nat → Int32) : Nat → Int32 → Int32 → Int32 → Option (Int32)
  | 0, _, _, _ => none
  | n + 1, i1_1, i2_2, i3_3 => (if (t_s 0) ≤ i3_3 then some i1_1 else bd1 (f_X12_of t_s i3_3) (fun (r_5 : Int32) => (if r_5 ≤ i2_2 then bd1 (f_X12_of t_s i3_3) (fun (r_6 : Int32) => (if (i2_2 - r_6) ≤ i1_1 then l_X12_fall_6 t_s n i1_1 i2_2 (i3_3 + 1) else bd1 (f_X12_of t_s i3_3) (fun (r_7 : Int32) => l_X12_fall_6 t_s n (i2_2 - r_7) i2_2 (i3_3 + 1)))) else bd1 (f_X12_of t_s i3_3) (fun (r_8 : Int32) => bd1 (f_X12_of t_s i3_3) (fun (r_9 : Int32) => (if (r_8 - r_9) ≤ i1_1 then l_X12_fall_6 t_s n i1_1 r_8 (i3_3 + 1) else bd1 (f_X12_of t_s i3_3) (fun (r_10 : Int32) => l_X12_fall_6 t_s n (r_8 - r_10) r_8 (i3_3 + 1))))))))
def f_X12_fall (t_s : Nat → Int32) : Option (Int32) := bd1 (l_X12_fall_6 t_s 1000 0 0 0) (fun (o1_4 : Int32) => some o1_4)
theorem k_X12_fall : KV yX12_fall cX12_fall 4 (some .int) 0 := ⟨qc_yX12_fall, q9, ⟨by decide +kernel, by decide +kernel, by decide +kernel⟩, qi_yX12_fall, qs_yX12_fall⟩
abbrev RM_X12_fall : Room := { frames := 1, cells := 0, slots := 0, locals := 21 }
set_option maxHeartbeats 4000000 in
set_option maxRecDepth 100000 in
theorem c_X12_fall (l : Launch) (G : GP) (a_t : Nat) (t_thrown : Int32) (a_t_states : Nat) (t_stateMany : Int32) (a_t_snapshot : Nat) (t_hasSnapshot : Int32) (a_t_text : Nat) (t_length : Int32) (t_at : Int32) (t_isWell : Int32) (a_t_read : Nat) (t_readMany : Int32) (a_t_prices : Nat) (t_priceMany : Int32) (t_pieceMany : Int32) (t_coins : Int64) (a_t_s : Nat) (t_s : Nat → Int32) (rr : Int32) (hf : f_X12_fall t_s = some rr) : RM l yX12_fall cX12_fall 4 (some .int) 1 21 G [.ref a_t] [(a_t, .inr (8, [.int t_thrown, .ref a_t_s, .ref a_t_states, .int t_stateMany, .ref a_t_snapshot, .int t_hasSnapshot, .ref a_t_text, .int t_length, .int t_at, .int t_isWell, .ref a_t_read, .int t_readMany, .ref a_t_prices, .int t_priceMany, .int t_pieceMany, .long t_coins])), (a_t_s, .inl (G.2.1, 68, .inl t_s))] (some (.int rr)) := by
  refine RM.ofW (C := RX12) (by decide) rfl (Nat.le_of_ble_eq_true rfl) ?_
  intro p e s m below meth c hF hr hlk hG hP ls hl
  have hl : lv_has ls 4 [(0, .ref a_t)] := hl
  have hx := hF.1
  have hb := hF.2.1
  have hml := hF.2.2.1
  have hown := hF.2.2.2.1
  have hts := hF.2.2.2.2
  unfold f_X12_fall at hf
  refine lv_iconst (v := 0) hx hb dX12_fall_0 (by decide) ?_
  refine lv_istore_n (lv' := [(1, .int 0), (0, .ref a_t)]) hx hb dX12_fall_1 rfl hl (by decide) rfl (fun ls hl => ?_)
  refine lv_iconst (v := 0) hx hb dX12_fall_2 (by decide) ?_
  refine lv_istore_n (lv' := [(2, .int 0), (1, .int 0), (0, .ref a_t)]) hx hb dX12_fall_3 rfl hl (by decide) rfl (fun ls hl => ?_)
  refine lv_iconst (v := 0) hx hb dX12_fall_4 (by decide) ?_
  refine lv_istore_n (lv' := [(3, .int 0), (2, .int 0), (1, .int 0), (0, .ref a_t)]) hx hb dX12_fall_5 rfl hl (by decide) rfl (fun ls hl => ?_)
  obtain ⟨o1_4, hq, hf⟩ := bd1_some hf
  have K6 : ∀ ls : Array Slot, lv_has ls 4 [(1, .int o1_4)] → W p l e RM_X12_fall s m [.ref a_t].toArray below meth c s.heap [] 0 0 (MQ below (rdQ (some (.int rr))) [.ref a_t].toArray s 0 0 (fun _ => False)) (F0 m 64 ls []) := by
    intro ls hl
    refine lv_iload_n hx hb dX12_fall_64 rfl (lv_at hl 0 rfl) ?_
    have hf : (some o1_4 : Option (Int32)) = some rr := hf
    cases hf
    exact re_i hF hr hlk dX12_fall_65 rfl
  clear hf
  have L6 : ∀ (n : Nat) (i1_1 : Int32) (i2_2 : Int32) (i3_3 : Int32), l_X12_fall_6 t_s n i1_1 i2_2 i3_3 = some o1_4 → ∀ ls : Array Slot, lv_has ls 4 [(0, .ref a_t), (1, .int i1_1), (2, .int i2_2), (3, .int i3_3)] → W p l e RM_X12_fall s m [.ref a_t].toArray below meth c s.heap [] 0 0 (MQ below (rdQ (some (.int rr))) [.ref a_t].toArray s 0 0 (fun _ => False)) (F0 m 6 ls []) := by
    intro n
    induction n with
    | zero =>
      intro i1_1 i2_2 i3_3 hf
      exact nomatch (show none = some o1_4 from hf)
    | succ n ih =>
      intro i1_1 i2_2 i3_3 hf ls hl
      rw [l_X12_fall_6] at hf
      refine lv_iload_n hx hb dX12_fall_6 rfl (lv_at hl 3 rfl) ?_
      refine lv_aload_n hx hb dX12_fall_7 rfl (lv_at hl 0 rfl) ?_
      refine gf (C := RX12) (T := TX12) (N := 16) (ci := 8) (v := .ref a_t_s) hF hG hP inX12 0 rfl rfl 1 (by decide) q1021 rfl rfl dX12_fall_8 ?_
      refine lv_iconst (v := 0) hx hb dX12_fall_11 (by decide) ?_
      refine ald_i (k := 0) hF hG hP 1 rfl (by decide) (by decide) dX12_fall_12 ?_
      refine lv_icmp_ge (tgt := 64) hx hb dX12_fall_13 (by decide) (fun c0 => ?_) (fun c0 => ?_)
      · have hf := (if_pos c0).symm.trans hf
        have hf : (some i1_1 : Option (Int32)) = some o1_4 := hf
        cases hf
        exact K6 ls (lv_sub hl [1] rfl)
      · have hf := (if_neg c0).symm.trans hf
        refine lv_aload_n hx hb dX12_fall_16 rfl (lv_at hl 0 rfl) ?_
        refine lv_iload_n hx hb dX12_fall_17 rfl (lv_at hl 3 rfl) ?_
        obtain ⟨r_5, hq, hf⟩ := bd1_some hf
        refine rdV (As := [.int i3_3]) (rest := []) hF hG hP hl.1 (c_X12_of l G a_t t_thrown a_t_states t_stateMany a_t_snapshot t_hasSnapshot a_t_text t_length t_at t_isWell a_t_read t_readMany a_t_prices t_priceMany t_pieceMany t_coins a_t_s t_s i3_3 r_5 hq) k_X12_of q1111 [0, 1] rfl ⟨0, 8, _, _, rfl, rfl, rfl⟩ rfl rfl (Nat.le_of_ble_eq_true rfl) ⟨(Nat.le_of_ble_eq_true rfl), (Nat.le_of_ble_eq_true rfl)⟩ ⟨(Nat.zero_le _), (Nat.zero_le _)⟩ dX12_fall_18 ?_
        refine lv_iload_n hx hb dX12_fall_21 rfl (lv_at hl 2 rfl) ?_
        refine lv_icmp_le (tgt := 33) hx hb dX12_fall_22 (by decide) (fun c0 => ?_) (fun c0 => ?_)
        · have hf := (if_pos c0).symm.trans hf
          refine lv_iload_n hx hb dX12_fall_33 rfl (lv_at hl 2 rfl) ?_
          refine lv_istore_n (lv' := [(2, .int i2_2), (0, .ref a_t), (1, .int i1_1), (3, .int i3_3)]) hx hb dX12_fall_34 rfl hl (by decide) rfl (fun ls hl => ?_)
          refine lv_iload_n hx hb dX12_fall_35 rfl (lv_at hl 0 rfl) ?_
          refine lv_aload_n hx hb dX12_fall_36 rfl (lv_at hl 1 rfl) ?_
          refine lv_iload_n hx hb dX12_fall_37 rfl (lv_at hl 3 rfl) ?_
          obtain ⟨r_6, hq, hf⟩ := bd1_some hf
          refine rdV (As := [.int i3_3]) (rest := [.int i2_2]) hF hG hP hl.1 (c_X12_of l G a_t t_thrown a_t_states t_stateMany a_t_snapshot t_hasSnapshot a_t_text t_length t_at t_isWell a_t_read t_readMany a_t_prices t_priceMany t_pieceMany t_coins a_t_s t_s i3_3 r_6 hq) k_X12_of q1111 [0, 1] rfl ⟨0, 8, _, _, rfl, rfl, rfl⟩ rfl rfl (Nat.le_of_ble_eq_true rfl) ⟨(Nat.le_of_ble_eq_true rfl), (Nat.le_of_ble_eq_true rfl)⟩ ⟨(Nat.zero_le _), (Nat.zero_le _)⟩ dX12_fall_38 ?_
          refine lv_isub hx hb dX12_fall_41 ?_
          refine lv_iload_n hx hb dX12_fall_42 rfl (lv_at hl 2 rfl) ?_
          refine lv_icmp_le (tgt := 56) hx hb dX12_fall_43 (by decide) (fun c0 => ?_) (fun c0 => ?_)
          · have hf := (if_pos c0).symm.trans hf
            refine lv_iload_n hx hb dX12_fall_56 rfl (lv_at hl 2 rfl) ?_
            refine lv_istore_n (lv' := [(1, .int i1_1), (2, .int i2_2), (0, .ref a_t), (3, .int i3_3)]) hx hb dX12_fall_57 rfl hl (by decide) rfl (fun ls hl => ?_)
            refine lv_iinc (v := (i3_3 + 1)) (lv' := [(3, .int (i3_3 + 1)), (1, .int i1_1), (2, .int i2_2), (0, .ref a_t)]) hx hb dX12_fall_58 hl (k := 3) rfl rfl (by decide) rfl (fun ls hl => ?_)
            refine lv_goto (tgt := 6) hx hb dX12_fall_61 (by decide) ?_
            exact ih i1_1 i2_2 (i3_3 + 1) hf ls (lv_sub hl [3, 1, 2, 0] rfl)
          · have hf := (if_neg c0).symm.trans hf
            refine lv_iload_n hx hb dX12_fall_46 rfl (lv_at hl 0 rfl) ?_
            refine lv_aload_n hx hb dX12_fall_47 rfl (lv_at hl 1 rfl) ?_
            refine lv_iload_n hx hb dX12_fall_48 rfl (lv_at hl 3 rfl) ?_
            obtain ⟨r_7, hq, hf⟩ := bd1_some hf
            refine rdV (As := [.int i3_3]) (rest := [.int i2_2]) hF hG hP hl.1 (c_X12_of l G a_t t_thrown a_t_states t_stateMany a_t_snapshot t_hasSnapshot a_t_text t_length t_at t_isWell a_t_read t_readMany a_t_prices t_priceMany t_pieceMany t_coins a_t_s t_s i3_3 r_7 hq) k_X12_of q1111 [0, 1] rfl ⟨0, 8, _, _, rfl, rfl, rfl⟩ rfl rfl (Nat.le_of_ble_eq_true rfl) ⟨(Nat.le_of_ble_eq_true rfl), (Nat.le_of_ble_eq_true rfl)⟩ ⟨(Nat.zero_le _), (Nat.zero_le _)⟩ dX12_fall_49 ?_
            refine lv_isub hx hb dX12_fall_52 ?_
            refine lv_goto (tgt := 57) hx hb dX12_fall_53 (by decide) ?_
            refine lv_istore_n (lv' := [(1, .int (i2_2 - r_7)), (2, .int i2_2), (0, .ref a_t), (3, .int i3_3)]) hx hb dX12_fall_57 rfl hl (by decide) rfl (fun ls hl => ?_)
            refine lv_iinc (v := (i3_3 + 1)) (lv' := [(3, .int (i3_3 + 1)), (1, .int (i2_2 - r_7)), (2, .int i2_2), (0, .ref a_t)]) hx hb dX12_fall_58 hl (k := 3) rfl rfl (by decide) rfl (fun ls hl => ?_)
            refine lv_goto (tgt := 6) hx hb dX12_fall_61 (by decide) ?_
            exact ih (i2_2 - r_7) i2_2 (i3_3 + 1) hf ls (lv_sub hl [3, 1, 2, 0] rfl)
        · have hf := (if_neg c0).symm.trans hf
          refine lv_aload_n hx hb dX12_fall_25 rfl (lv_at hl 0 rfl) ?_
          refine lv_iload_n hx hb dX12_fall_26 rfl (lv_at hl 3 rfl) ?_
          obtain ⟨r_8, hq, hf⟩ := bd1_some hf
          refine rdV (As := [.int i3_3]) (rest := []) hF hG hP hl.1 (c_X12_of l G a_t t_thrown a_t_states t_stateMany a_t_snapshot t_hasSnapshot a_t_text t_length t_at t_isWell a_t_read t_readMany a_t_prices t_priceMany t_pieceMany t_coins a_t_s t_s i3_3 r_8 hq) k_X12_of q1111 [0, 1] rfl ⟨0, 8, _, _, rfl, rfl, rfl⟩ rfl rfl (Nat.le_of_ble_eq_true rfl) ⟨(Nat.le_of_ble_eq_true rfl), (Nat.le_of_ble_eq_true rfl)⟩ ⟨(Nat.zero_le _), (Nat.zero_le _)⟩ dX12_fall_27 ?_
          refine lv_goto (tgt := 34) hx hb dX12_fall_30 (by decide) ?_
          refine lv_istore_n (lv' := [(2, .int r_8), (0, .ref a_t), (1, .int i1_1), (3, .int i3_3)]) hx hb dX12_fall_34 rfl hl (by decide) rfl (fun ls hl => ?_)
          refine lv_iload_n hx hb dX12_fall_35 rfl (lv_at hl 0 rfl) ?_
          refine lv_aload_n hx hb dX12_fall_36 rfl (lv_at hl 1 rfl) ?_
          refine lv_iload_n hx hb dX12_fall_37 rfl (lv_at hl 3 rfl) ?_
          obtain ⟨r_9, hq, hf⟩ := bd1_some hf
          refine rdV (As := [.int i3_3]) (rest := [.int r_8]) hF hG hP hl.1 (c_X12_of l G a_t t_thrown a_t_states t_stateMany a_t_snapshot t_hasSnapshot a_t_text t_length t_at t_isWell a_t_read t_readMany a_t_prices t_priceMany t_pieceMany t_coins a_t_s t_s i3_3 r_9 hq) k_X12_of q1111 [0, 1] rfl ⟨0, 8, _, _, rfl, rfl, rfl⟩ rfl rfl (Nat.le_of_ble_eq_true rfl) ⟨(Nat.le_of_ble_eq_true rfl), (Nat.le_of_ble_eq_true rfl)⟩ ⟨(Nat.zero_le _), (Nat.zero_le _)⟩ dX12_fall_38 ?_
          refine lv_isub hx hb dX12_fall_41 ?_
          refine lv_iload_n hx hb dX12_fall_42 rfl (lv_at hl 2 rfl) ?_
          refine lv_icmp_le (tgt := 56) hx hb dX12_fall_43 (by decide) (fun c0 => ?_) (fun c0 => ?_)
          · have hf := (if_pos c0).symm.trans hf
            refine lv_iload_n hx hb dX12_fall_56 rfl (lv_at hl 2 rfl) ?_
            refine lv_istore_n (lv' := [(1, .int i1_1), (2, .int r_8), (0, .ref a_t), (3, .int i3_3)]) hx hb dX12_fall_57 rfl hl (by decide) rfl (fun ls hl => ?_)
            refine lv_iinc (v := (i3_3 + 1)) (lv' := [(3, .int (i3_3 + 1)), (1, .int i1_1), (2, .int r_8), (0, .ref a_t)]) hx hb dX12_fall_58 hl (k := 3) rfl rfl (by decide) rfl (fun ls hl => ?_)
            refine lv_goto (tgt := 6) hx hb dX12_fall_61 (by decide) ?_
            exact ih i1_1 r_8 (i3_3 + 1) hf ls (lv_sub hl [3, 1, 2, 0] rfl)
          · have hf := (if_neg c0).symm.trans hf
            refine lv_iload_n hx hb dX12_fall_46 rfl (lv_at hl 0 rfl) ?_
            refine lv_aload_n hx hb dX12_fall_47 rfl (lv_at hl 1 rfl) ?_
            refine lv_iload_n hx hb dX12_fall_48 rfl (lv_at hl 3 rfl) ?_
            obtain ⟨r_10, hq, hf⟩ := bd1_some hf
            refine rdV (As := [.int i3_3]) (rest := [.int r_8]) hF hG hP hl.1 (c_X12_of l G a_t t_thrown a_t_states t_stateMany a_t_snapshot t_hasSnapshot a_t_text t_length t_at t_isWell a_t_read t_readMany a_t_prices t_priceMany t_pieceMany t_coins a_t_s t_s i3_3 r_10 hq) k_X12_of q1111 [0, 1] rfl ⟨0, 8, _, _, rfl, rfl, rfl⟩ rfl rfl (Nat.le_of_ble_eq_true rfl) ⟨(Nat.le_of_ble_eq_true rfl), (Nat.le_of_ble_eq_true rfl)⟩ ⟨(Nat.zero_le _), (Nat.zero_le _)⟩ dX12_fall_49 ?_
            refine lv_isub hx hb dX12_fall_52 ?_
            refine lv_goto (tgt := 57) hx hb dX12_fall_53 (by decide) ?_
            refine lv_istore_n (lv' := [(1, .int (r_8 - r_10)), (2, .int r_8), (0, .ref a_t), (3, .int i3_3)]) hx hb dX12_fall_57 rfl hl (by decide) rfl (fun ls hl => ?_)
            refine lv_iinc (v := (i3_3 + 1)) (lv' := [(3, .int (i3_3 + 1)), (1, .int (r_8 - r_10)), (2, .int r_8), (0, .ref a_t)]) hx hb dX12_fall_58 hl (k := 3) rfl rfl (by decide) rfl (fun ls hl => ?_)
            refine lv_goto (tgt := 6) hx hb dX12_fall_61 (by decide) ?_
            exact ih (r_8 - r_10) r_8 (i3_3 + 1) hf ls (lv_sub hl [3, 1, 2, 0] rfl)
  exact L6 1000 0 0 0 hq ls (lv_sub hl [3, 2, 1, 0] rfl)
def f_X12_greatestFall (t_thrown : Int32) (t_s : Nat → Int32) : Option (Int32 × Int32) := bd1 (f_X12_fall t_s) (fun (r_1 : Int32) => some (r_1, 0))
theorem k_X12_greatestFall : KV yX12_greatestFall cX12_greatestFall 1 (some .int) 0 := ⟨qc_yX12_greatestFall, q9, ⟨by decide +kernel, by decide +kernel, by decide +kernel⟩, qi_yX12_greatestFall, qs_yX12_greatestFall⟩
abbrev RM_X12_greatestFall : Room := { frames := 2, cells := 0, slots := 0, locals := 44 }
set_option maxHeartbeats 4000000 in
set_option maxRecDepth 100000 in
theorem c_X12_greatestFall (l : Launch) (G : GP) (a_t : Nat) (t_thrown : Int32) (a_t_states : Nat) (t_stateMany : Int32) (a_t_snapshot : Nat) (t_hasSnapshot : Int32) (a_t_text : Nat) (t_length : Int32) (t_at : Int32) (t_isWell : Int32) (a_t_read : Nat) (t_readMany : Int32) (a_t_prices : Nat) (t_priceMany : Int32) (t_pieceMany : Int32) (t_coins : Int64) (a_t_s : Nat) (t_s : Nat → Int32) (rr : Int32) (w_t_thrown : Int32) (hf : f_X12_greatestFall t_thrown t_s = some (rr, w_t_thrown)) : WM l yX12_greatestFall cX12_greatestFall 1 (some .int) 2 44 G [.ref a_t] [(a_t, .inr (8, [.int t_thrown, .ref a_t_s, .ref a_t_states, .int t_stateMany, .ref a_t_snapshot, .int t_hasSnapshot, .ref a_t_text, .int t_length, .int t_at, .int t_isWell, .ref a_t_read, .int t_readMany, .ref a_t_prices, .int t_priceMany, .int t_pieceMany, .long t_coins])), (a_t_s, .inl (G.2.1, 68, .inl t_s))] (some (.int rr)) [(a_t, .inr (8, [.int w_t_thrown, .ref a_t_s, .ref a_t_states, .int t_stateMany, .ref a_t_snapshot, .int t_hasSnapshot, .ref a_t_text, .int t_length, .int t_at, .int t_isWell, .ref a_t_read, .int t_readMany, .ref a_t_prices, .int t_priceMany, .int t_pieceMany, .long t_coins])), (a_t_s, .inl (G.2.1, 68, .inl t_s))] := by
  refine WM.ofW (C := RX12) (by decide) rfl (Nat.le_of_ble_eq_true rfl) ?_
  intro p e s m below meth c A hF hr hlk hG hA hP hD ls hl
  have hl : lv_has ls 1 [(0, .ref a_t)] := hl
  have hx := hF.1
  have hb := hF.2.1
  have hml := hF.2.2.1
  have hown := hF.2.2.2.1
  have hts := hF.2.2.2.2
  have hS : va_S A s.heap s.heap [] := va_S.rf
  unfold f_X12_greatestFall at hf
  refine lv_aload_n hx hb dX12_greatestFall_0 rfl (lv_at hl 0 rfl) ?_
  refine lv_iconst (v := 0) hx hb dX12_greatestFall_1 (by decide) ?_
  refine pf (C := RX12) (T := TX12) (N := 16) (ci := 8) (v := .int 0) (ty := .int) hF hG hP hD hS inX12 tyX12 tyX12_ok nmX12 0 rfl rfl 0 (by decide) q1020 rfl rfl (by decide +kernel) rfl rfl (Nat.le_of_ble_eq_true rfl) dX12_greatestFall_2 (fun H locs hP hD hS => ?_)
  replace hP : va_P G.1 vwCl [(a_t, .inr (8, [.int 0, .ref a_t_s, .ref a_t_states, .int t_stateMany, .ref a_t_snapshot, .int t_hasSnapshot, .ref a_t_text, .int t_length, .int t_at, .int t_isWell, .ref a_t_read, .int t_readMany, .ref a_t_prices, .int t_priceMany, .int t_pieceMany, .long t_coins])), (a_t_s, .inl (G.2.1, 68, .inl t_s))] H := hP
  replace hD : va_D A [(a_t, .inr (8, [.int 0, .ref a_t_s, .ref a_t_states, .int t_stateMany, .ref a_t_snapshot, .int t_hasSnapshot, .ref a_t_text, .int t_length, .int t_at, .int t_isWell, .ref a_t_read, .int t_readMany, .ref a_t_prices, .int t_priceMany, .int t_pieceMany, .long t_coins])), (a_t_s, .inl (G.2.1, 68, .inl t_s))] := hD
  refine lv_aload_n hx hb dX12_greatestFall_5 rfl (lv_at hl 0 rfl) ?_
  obtain ⟨r_1, hq, hf⟩ := bd1_some hf
  refine rdV (As := []) (rest := []) hF hG hP hl.1 (c_X12_fall l G a_t 0 a_t_states t_stateMany a_t_snapshot t_hasSnapshot a_t_text t_length t_at t_isWell a_t_read t_readMany a_t_prices t_priceMany t_pieceMany t_coins a_t_s t_s r_1 hq) k_X12_fall q1369 [0, 1] rfl ⟨0, 8, _, _, rfl, rfl, rfl⟩ rfl rfl (Nat.le_of_ble_eq_true rfl) ⟨(Nat.le_of_ble_eq_true rfl), (Nat.le_of_ble_eq_true rfl)⟩ ⟨(Nat.zero_le _), (Nat.zero_le _)⟩ dX12_greatestFall_6 ?_
  have hf : (some (r_1, 0) : Option (Int32 × Int32)) = some (rr, w_t_thrown) := hf
  cases hf
  exact we_i hF hr hlk hP hD hS dX12_greatestFall_9 rfl
def f_X12_greatestFallByPairs (t_thrown : Int32) (t_s : Nat → Int32) : Option (Int32 × Int32) := bd1 (f_X12_fall t_s) (fun (r_1 : Int32) => some (r_1, 0))
theorem k_X12_greatestFallByPairs : KV yX12_greatestFallByPairs cX12_greatestFallByPairs 1 (some .int) 0 := ⟨qc_yX12_greatestFallByPairs, q9, ⟨by decide +kernel, by decide +kernel, by decide +kernel⟩, qi_yX12_greatestFallByPairs, qs_yX12_greatestFallByPairs⟩
abbrev RM_X12_greatestFallByPairs : Room := { frames := 2, cells := 0, slots := 0, locals := 44 }
set_option maxHeartbeats 4000000 in
set_option maxRecDepth 100000 in
theorem c_X12_greatestFallByPairs (l : Launch) (G : GP) (a_t : Nat) (t_thrown : Int32) (a_t_states : Nat) (t_stateMany : Int32) (a_t_snapshot : Nat) (t_hasSnapshot : Int32) (a_t_text : Nat) (t_length : Int32) (t_at : Int32) (t_isWell : Int32) (a_t_read : Nat) (t_readMany : Int32) (a_t_prices : Nat) (t_priceMany : Int32) (t_pieceMany : Int32) (t_coins : Int64) (a_t_s : Nat) (t_s : Nat → Int32) (rr : Int32) (w_t_thrown : Int32) (hf : f_X12_greatestFallByPairs t_thrown t_s = some (rr, w_t_thrown)) : WM l yX12_greatestFallByPairs cX12_greatestFallByPairs 1 (some .int) 2 44 G [.ref a_t] [(a_t, .inr (8, [.int t_thrown, .ref a_t_s, .ref a_t_states, .int t_stateMany, .ref a_t_snapshot, .int t_hasSnapshot, .ref a_t_text, .int t_length, .int t_at, .int t_isWell, .ref a_t_read, .int t_readMany, .ref a_t_prices, .int t_priceMany, .int t_pieceMany, .long t_coins])), (a_t_s, .inl (G.2.1, 68, .inl t_s))] (some (.int rr)) [(a_t, .inr (8, [.int w_t_thrown, .ref a_t_s, .ref a_t_states, .int t_stateMany, .ref a_t_snapshot, .int t_hasSnapshot, .ref a_t_text, .int t_length, .int t_at, .int t_isWell, .ref a_t_read, .int t_readMany, .ref a_t_prices, .int t_priceMany, .int t_pieceMany, .long t_coins])), (a_t_s, .inl (G.2.1, 68, .inl t_s))] := by
  refine WM.ofW (C := RX12) (by decide) rfl (Nat.le_of_ble_eq_true rfl) ?_
  intro p e s m below meth c A hF hr hlk hG hA hP hD ls hl
  have hl : lv_has ls 1 [(0, .ref a_t)] := hl
  have hx := hF.1
  have hb := hF.2.1
  have hml := hF.2.2.1
  have hown := hF.2.2.2.1
  have hts := hF.2.2.2.2
  have hS : va_S A s.heap s.heap [] := va_S.rf
  unfold f_X12_greatestFallByPairs at hf
  refine lv_aload_n hx hb dX12_greatestFallByPairs_0 rfl (lv_at hl 0 rfl) ?_
  refine lv_iconst (v := 0) hx hb dX12_greatestFallByPairs_1 (by decide) ?_
  refine pf (C := RX12) (T := TX12) (N := 16) (ci := 8) (v := .int 0) (ty := .int) hF hG hP hD hS inX12 tyX12 tyX12_ok nmX12 0 rfl rfl 0 (by decide) q1020 rfl rfl (by decide +kernel) rfl rfl (Nat.le_of_ble_eq_true rfl) dX12_greatestFallByPairs_2 (fun H locs hP hD hS => ?_)
  replace hP : va_P G.1 vwCl [(a_t, .inr (8, [.int 0, .ref a_t_s, .ref a_t_states, .int t_stateMany, .ref a_t_snapshot, .int t_hasSnapshot, .ref a_t_text, .int t_length, .int t_at, .int t_isWell, .ref a_t_read, .int t_readMany, .ref a_t_prices, .int t_priceMany, .int t_pieceMany, .long t_coins])), (a_t_s, .inl (G.2.1, 68, .inl t_s))] H := hP
  replace hD : va_D A [(a_t, .inr (8, [.int 0, .ref a_t_s, .ref a_t_states, .int t_stateMany, .ref a_t_snapshot, .int t_hasSnapshot, .ref a_t_text, .int t_length, .int t_at, .int t_isWell, .ref a_t_read, .int t_readMany, .ref a_t_prices, .int t_priceMany, .int t_pieceMany, .long t_coins])), (a_t_s, .inl (G.2.1, 68, .inl t_s))] := hD
  refine lv_aload_n hx hb dX12_greatestFallByPairs_5 rfl (lv_at hl 0 rfl) ?_
  obtain ⟨r_1, hq, hf⟩ := bd1_some hf
  refine rdV (As := []) (rest := []) hF hG hP hl.1 (c_X12_fall l G a_t 0 a_t_states t_stateMany a_t_snapshot t_hasSnapshot a_t_text t_length t_at t_isWell a_t_read t_readMany a_t_prices t_priceMany t_pieceMany t_coins a_t_s t_s r_1 hq) k_X12_fall q1369 [0, 1] rfl ⟨0, 8, _, _, rfl, rfl, rfl⟩ rfl rfl (Nat.le_of_ble_eq_true rfl) ⟨(Nat.le_of_ble_eq_true rfl), (Nat.le_of_ble_eq_true rfl)⟩ ⟨(Nat.zero_le _), (Nat.zero_le _)⟩ dX12_greatestFallByPairs_6 ?_
  have hf : (some (r_1, 0) : Option (Int32 × Int32)) = some (rr, w_t_thrown) := hf
  cases hf
  exact we_i hF hr hlk hP hD hS dX12_greatestFallByPairs_9 rfl
def l_X12_rise_6 (t_s : Nat → Int32) : Nat → Int32 → Int32 → Int32 → Option (Int32)
  | 0, _, _, _ => none
  | n + 1, i1_1, i2_2, i3_3 => (if (t_s 0) ≤ i3_3 then some i1_1 else bd1 (f_X12_of t_s i3_3) (fun (r_5 : Int32) => bd1 (f_X12_of t_s (i3_3 - 1)) (fun (r_6 : Int32) => (if r_5 ≤ r_6 then (if 0 ≤ i1_1 then l_X12_rise_6 t_s n i1_1 0 (i3_3 + 1) else l_X12_rise_6 t_s n 0 0 (i3_3 + 1)) else (if (i2_2 + 1) ≤ i1_1 then l_X12_rise_6 t_s n i1_1 (i2_2 + 1) (i3_3 + 1) else l_X12_rise_6 t_s n (i2_2 + 1) (i2_2 + 1) (i3_3 + 1))))))
def f_X12_rise (t_s : Nat → Int32) : Option (Int32) := bd1 (l_X12_rise_6 t_s 1000 0 0 1) (fun (o1_4 : Int32) => some o1_4)
theorem k_X12_rise : KV yX12_rise cX12_rise 4 (some .int) 0 := ⟨qc_yX12_rise, q9, ⟨by decide +kernel, by decide +kernel, by decide +kernel⟩, qi_yX12_rise, qs_yX12_rise⟩
abbrev RM_X12_rise : Room := { frames := 1, cells := 0, slots := 0, locals := 21 }
set_option maxHeartbeats 4000000 in
set_option maxRecDepth 100000 in
theorem c_X12_rise (l : Launch) (G : GP) (a_t : Nat) (t_thrown : Int32) (a_t_states : Nat) (t_stateMany : Int32) (a_t_snapshot : Nat) (t_hasSnapshot : Int32) (a_t_text : Nat) (t_length : Int32) (t_at : Int32) (t_isWell : Int32) (a_t_read : Nat) (t_readMany : Int32) (a_t_prices : Nat) (t_priceMany : Int32) (t_pieceMany : Int32) (t_coins : Int64) (a_t_s : Nat) (t_s : Nat → Int32) (rr : Int32) (hf : f_X12_rise t_s = some rr) : RM l yX12_rise cX12_rise 4 (some .int) 1 21 G [.ref a_t] [(a_t, .inr (8, [.int t_thrown, .ref a_t_s, .ref a_t_states, .int t_stateMany, .ref a_t_snapshot, .int t_hasSnapshot, .ref a_t_text, .int t_length, .int t_at, .int t_isWell, .ref a_t_read, .int t_readMany, .ref a_t_prices, .int t_priceMany, .int t_pieceMany, .long t_coins])), (a_t_s, .inl (G.2.1, 68, .inl t_s))] (some (.int rr)) := by
  refine RM.ofW (C := RX12) (by decide) rfl (Nat.le_of_ble_eq_true rfl) ?_
  intro p e s m below meth c hF hr hlk hG hP ls hl
  have hl : lv_has ls 4 [(0, .ref a_t)] := hl
  have hx := hF.1
  have hb := hF.2.1
  have hml := hF.2.2.1
  have hown := hF.2.2.2.1
  have hts := hF.2.2.2.2
  unfold f_X12_rise at hf
  refine lv_iconst (v := 0) hx hb dX12_rise_0 (by decide) ?_
  refine lv_istore_n (lv' := [(1, .int 0), (0, .ref a_t)]) hx hb dX12_rise_1 rfl hl (by decide) rfl (fun ls hl => ?_)
  refine lv_iconst (v := 0) hx hb dX12_rise_2 (by decide) ?_
  refine lv_istore_n (lv' := [(2, .int 0), (1, .int 0), (0, .ref a_t)]) hx hb dX12_rise_3 rfl hl (by decide) rfl (fun ls hl => ?_)
  refine lv_iconst (v := 1) hx hb dX12_rise_4 (by decide) ?_
  refine lv_istore_n (lv' := [(3, .int 1), (2, .int 0), (1, .int 0), (0, .ref a_t)]) hx hb dX12_rise_5 rfl hl (by decide) rfl (fun ls hl => ?_)
  obtain ⟨o1_4, hq, hf⟩ := bd1_some hf
  have K6 : ∀ ls : Array Slot, lv_has ls 4 [(1, .int o1_4)] → W p l e RM_X12_rise s m [.ref a_t].toArray below meth c s.heap [] 0 0 (MQ below (rdQ (some (.int rr))) [.ref a_t].toArray s 0 0 (fun _ => False)) (F0 m 56 ls []) := by
    intro ls hl
    refine lv_iload_n hx hb dX12_rise_56 rfl (lv_at hl 0 rfl) ?_
    have hf : (some o1_4 : Option (Int32)) = some rr := hf
    cases hf
    exact re_i hF hr hlk dX12_rise_57 rfl
  clear hf
  have L6 : ∀ (n : Nat) (i1_1 : Int32) (i2_2 : Int32) (i3_3 : Int32), l_X12_rise_6 t_s n i1_1 i2_2 i3_3 = some o1_4 → ∀ ls : Array Slot, lv_has ls 4 [(0, .ref a_t), (1, .int i1_1), (2, .int i2_2), (3, .int i3_3)] → W p l e RM_X12_rise s m [.ref a_t].toArray below meth c s.heap [] 0 0 (MQ below (rdQ (some (.int rr))) [.ref a_t].toArray s 0 0 (fun _ => False)) (F0 m 6 ls []) := by
    intro n
    induction n with
    | zero =>
      intro i1_1 i2_2 i3_3 hf
      exact nomatch (show none = some o1_4 from hf)
    | succ n ih =>
      intro i1_1 i2_2 i3_3 hf ls hl
      rw [l_X12_rise_6] at hf
      refine lv_iload_n hx hb dX12_rise_6 rfl (lv_at hl 3 rfl) ?_
      refine lv_aload_n hx hb dX12_rise_7 rfl (lv_at hl 0 rfl) ?_
      refine gf (C := RX12) (T := TX12) (N := 16) (ci := 8) (v := .ref a_t_s) hF hG hP inX12 0 rfl rfl 1 (by decide) q1021 rfl rfl dX12_rise_8 ?_
      refine lv_iconst (v := 0) hx hb dX12_rise_11 (by decide) ?_
      refine ald_i (k := 0) hF hG hP 1 rfl (by decide) (by decide) dX12_rise_12 ?_
      refine lv_icmp_ge (tgt := 56) hx hb dX12_rise_13 (by decide) (fun c0 => ?_) (fun c0 => ?_)
      · have hf := (if_pos c0).symm.trans hf
        have hf : (some i1_1 : Option (Int32)) = some o1_4 := hf
        cases hf
        exact K6 ls (lv_sub hl [1] rfl)
      · have hf := (if_neg c0).symm.trans hf
        refine lv_aload_n hx hb dX12_rise_16 rfl (lv_at hl 0 rfl) ?_
        refine lv_iload_n hx hb dX12_rise_17 rfl (lv_at hl 3 rfl) ?_
        obtain ⟨r_5, hq, hf⟩ := bd1_some hf
        refine rdV (As := [.int i3_3]) (rest := []) hF hG hP hl.1 (c_X12_of l G a_t t_thrown a_t_states t_stateMany a_t_snapshot t_hasSnapshot a_t_text t_length t_at t_isWell a_t_read t_readMany a_t_prices t_priceMany t_pieceMany t_coins a_t_s t_s i3_3 r_5 hq) k_X12_of q1111 [0, 1] rfl ⟨0, 8, _, _, rfl, rfl, rfl⟩ rfl rfl (Nat.le_of_ble_eq_true rfl) ⟨(Nat.le_of_ble_eq_true rfl), (Nat.le_of_ble_eq_true rfl)⟩ ⟨(Nat.zero_le _), (Nat.zero_le _)⟩ dX12_rise_18 ?_
        refine lv_aload_n hx hb dX12_rise_21 rfl (lv_at hl 0 rfl) ?_
        refine lv_iload_n hx hb dX12_rise_22 rfl (lv_at hl 3 rfl) ?_
        refine lv_iconst (v := 1) hx hb dX12_rise_23 (by decide) ?_
        refine lv_isub hx hb dX12_rise_24 ?_
        obtain ⟨r_6, hq, hf⟩ := bd1_some hf
        refine rdV (As := [.int (i3_3 - 1)]) (rest := [.int r_5]) hF hG hP hl.1 (c_X12_of l G a_t t_thrown a_t_states t_stateMany a_t_snapshot t_hasSnapshot a_t_text t_length t_at t_isWell a_t_read t_readMany a_t_prices t_priceMany t_pieceMany t_coins a_t_s t_s (i3_3 - 1) r_6 hq) k_X12_of q1111 [0, 1] rfl ⟨0, 8, _, _, rfl, rfl, rfl⟩ rfl rfl (Nat.le_of_ble_eq_true rfl) ⟨(Nat.le_of_ble_eq_true rfl), (Nat.le_of_ble_eq_true rfl)⟩ ⟨(Nat.zero_le _), (Nat.zero_le _)⟩ dX12_rise_25 ?_
        refine lv_icmp_le (tgt := 37) hx hb dX12_rise_28 (by decide) (fun c0 => ?_) (fun c0 => ?_)
        · have hf := (if_pos c0).symm.trans hf
          refine lv_iconst (v := 0) hx hb dX12_rise_37 (by decide) ?_
          refine lv_istore_n (lv' := [(2, .int 0), (0, .ref a_t), (1, .int i1_1), (3, .int i3_3)]) hx hb dX12_rise_38 rfl hl (by decide) rfl (fun ls hl => ?_)
          refine lv_iload_n hx hb dX12_rise_39 rfl (lv_at hl 0 rfl) ?_
          refine lv_iload_n hx hb dX12_rise_40 rfl (lv_at hl 2 rfl) ?_
          refine lv_icmp_le (tgt := 48) hx hb dX12_rise_41 (by decide) (fun c0 => ?_) (fun c0 => ?_)
          · have hf := (if_pos c0).symm.trans hf
            refine lv_iload_n hx hb dX12_rise_48 rfl (lv_at hl 2 rfl) ?_
            refine lv_istore_n (lv' := [(1, .int i1_1), (2, .int 0), (0, .ref a_t), (3, .int i3_3)]) hx hb dX12_rise_49 rfl hl (by decide) rfl (fun ls hl => ?_)
            refine lv_iinc (v := (i3_3 + 1)) (lv' := [(3, .int (i3_3 + 1)), (1, .int i1_1), (2, .int 0), (0, .ref a_t)]) hx hb dX12_rise_50 hl (k := 3) rfl rfl (by decide) rfl (fun ls hl => ?_)
            refine lv_goto (tgt := 6) hx hb dX12_rise_53 (by decide) ?_
            exact ih i1_1 0 (i3_3 + 1) hf ls (lv_sub hl [3, 1, 2, 0] rfl)
          · have hf := (if_neg c0).symm.trans hf
            refine lv_iload_n hx hb dX12_rise_44 rfl (lv_at hl 0 rfl) ?_
            refine lv_goto (tgt := 49) hx hb dX12_rise_45 (by decide) ?_
            refine lv_istore_n (lv' := [(1, .int 0), (2, .int 0), (0, .ref a_t), (3, .int i3_3)]) hx hb dX12_rise_49 rfl hl (by decide) rfl (fun ls hl => ?_)
            refine lv_iinc (v := (i3_3 + 1)) (lv' := [(3, .int (i3_3 + 1)), (1, .int 0), (2, .int 0), (0, .ref a_t)]) hx hb dX12_rise_50 hl (k := 3) rfl rfl (by decide) rfl (fun ls hl => ?_)
            refine lv_goto (tgt := 6) hx hb dX12_rise_53 (by decide) ?_
            exact ih 0 0 (i3_3 + 1) hf ls (lv_sub hl [3, 1, 2, 0] rfl)
        · have hf := (if_neg c0).symm.trans hf
          refine lv_iload_n hx hb dX12_rise_31 rfl (lv_at hl 2 rfl) ?_
          refine lv_iconst (v := 1) hx hb dX12_rise_32 (by decide) ?_
          refine lv_iadd hx hb dX12_rise_33 ?_
          refine lv_goto (tgt := 38) hx hb dX12_rise_34 (by decide) ?_
          refine lv_istore_n (lv' := [(2, .int (i2_2 + 1)), (0, .ref a_t), (1, .int i1_1), (3, .int i3_3)]) hx hb dX12_rise_38 rfl hl (by decide) rfl (fun ls hl => ?_)
          refine lv_iload_n hx hb dX12_rise_39 rfl (lv_at hl 0 rfl) ?_
          refine lv_iload_n hx hb dX12_rise_40 rfl (lv_at hl 2 rfl) ?_
          refine lv_icmp_le (tgt := 48) hx hb dX12_rise_41 (by decide) (fun c0 => ?_) (fun c0 => ?_)
          · have hf := (if_pos c0).symm.trans hf
            refine lv_iload_n hx hb dX12_rise_48 rfl (lv_at hl 2 rfl) ?_
            refine lv_istore_n (lv' := [(1, .int i1_1), (2, .int (i2_2 + 1)), (0, .ref a_t), (3, .int i3_3)]) hx hb dX12_rise_49 rfl hl (by decide) rfl (fun ls hl => ?_)
            refine lv_iinc (v := (i3_3 + 1)) (lv' := [(3, .int (i3_3 + 1)), (1, .int i1_1), (2, .int (i2_2 + 1)), (0, .ref a_t)]) hx hb dX12_rise_50 hl (k := 3) rfl rfl (by decide) rfl (fun ls hl => ?_)
            refine lv_goto (tgt := 6) hx hb dX12_rise_53 (by decide) ?_
            exact ih i1_1 (i2_2 + 1) (i3_3 + 1) hf ls (lv_sub hl [3, 1, 2, 0] rfl)
          · have hf := (if_neg c0).symm.trans hf
            refine lv_iload_n hx hb dX12_rise_44 rfl (lv_at hl 0 rfl) ?_
            refine lv_goto (tgt := 49) hx hb dX12_rise_45 (by decide) ?_
            refine lv_istore_n (lv' := [(1, .int (i2_2 + 1)), (2, .int (i2_2 + 1)), (0, .ref a_t), (3, .int i3_3)]) hx hb dX12_rise_49 rfl hl (by decide) rfl (fun ls hl => ?_)
            refine lv_iinc (v := (i3_3 + 1)) (lv' := [(3, .int (i3_3 + 1)), (1, .int (i2_2 + 1)), (2, .int (i2_2 + 1)), (0, .ref a_t)]) hx hb dX12_rise_50 hl (k := 3) rfl rfl (by decide) rfl (fun ls hl => ?_)
            refine lv_goto (tgt := 6) hx hb dX12_rise_53 (by decide) ?_
            exact ih (i2_2 + 1) (i2_2 + 1) (i3_3 + 1) hf ls (lv_sub hl [3, 1, 2, 0] rfl)
  exact L6 1000 0 0 1 hq ls (lv_sub hl [3, 2, 1, 0] rfl)
def f_X12_longestRise (t_thrown : Int32) (t_s : Nat → Int32) : Option (Int32 × Int32) := bd1 (f_X12_rise t_s) (fun (r_1 : Int32) => some (r_1, 0))
theorem k_X12_longestRise : KV yX12_longestRise cX12_longestRise 1 (some .int) 0 := ⟨qc_yX12_longestRise, q9, ⟨by decide +kernel, by decide +kernel, by decide +kernel⟩, qi_yX12_longestRise, qs_yX12_longestRise⟩
abbrev RM_X12_longestRise : Room := { frames := 2, cells := 0, slots := 0, locals := 44 }
set_option maxHeartbeats 4000000 in
set_option maxRecDepth 100000 in
theorem c_X12_longestRise (l : Launch) (G : GP) (a_t : Nat) (t_thrown : Int32) (a_t_states : Nat) (t_stateMany : Int32) (a_t_snapshot : Nat) (t_hasSnapshot : Int32) (a_t_text : Nat) (t_length : Int32) (t_at : Int32) (t_isWell : Int32) (a_t_read : Nat) (t_readMany : Int32) (a_t_prices : Nat) (t_priceMany : Int32) (t_pieceMany : Int32) (t_coins : Int64) (a_t_s : Nat) (t_s : Nat → Int32) (rr : Int32) (w_t_thrown : Int32) (hf : f_X12_longestRise t_thrown t_s = some (rr, w_t_thrown)) : WM l yX12_longestRise cX12_longestRise 1 (some .int) 2 44 G [.ref a_t] [(a_t, .inr (8, [.int t_thrown, .ref a_t_s, .ref a_t_states, .int t_stateMany, .ref a_t_snapshot, .int t_hasSnapshot, .ref a_t_text, .int t_length, .int t_at, .int t_isWell, .ref a_t_read, .int t_readMany, .ref a_t_prices, .int t_priceMany, .int t_pieceMany, .long t_coins])), (a_t_s, .inl (G.2.1, 68, .inl t_s))] (some (.int rr)) [(a_t, .inr (8, [.int w_t_thrown, .ref a_t_s, .ref a_t_states, .int t_stateMany, .ref a_t_snapshot, .int t_hasSnapshot, .ref a_t_text, .int t_length, .int t_at, .int t_isWell, .ref a_t_read, .int t_readMany, .ref a_t_prices, .int t_priceMany, .int t_pieceMany, .long t_coins])), (a_t_s, .inl (G.2.1, 68, .inl t_s))] := by
  refine WM.ofW (C := RX12) (by decide) rfl (Nat.le_of_ble_eq_true rfl) ?_
  intro p e s m below meth c A hF hr hlk hG hA hP hD ls hl
  have hl : lv_has ls 1 [(0, .ref a_t)] := hl
  have hx := hF.1
  have hb := hF.2.1
  have hml := hF.2.2.1
  have hown := hF.2.2.2.1
  have hts := hF.2.2.2.2
  have hS : va_S A s.heap s.heap [] := va_S.rf
  unfold f_X12_longestRise at hf
  refine lv_aload_n hx hb dX12_longestRise_0 rfl (lv_at hl 0 rfl) ?_
  refine lv_iconst (v := 0) hx hb dX12_longestRise_1 (by decide) ?_
  refine pf (C := RX12) (T := TX12) (N := 16) (ci := 8) (v := .int 0) (ty := .int) hF hG hP hD hS inX12 tyX12 tyX12_ok nmX12 0 rfl rfl 0 (by decide) q1020 rfl rfl (by decide +kernel) rfl rfl (Nat.le_of_ble_eq_true rfl) dX12_longestRise_2 (fun H locs hP hD hS => ?_)
  replace hP : va_P G.1 vwCl [(a_t, .inr (8, [.int 0, .ref a_t_s, .ref a_t_states, .int t_stateMany, .ref a_t_snapshot, .int t_hasSnapshot, .ref a_t_text, .int t_length, .int t_at, .int t_isWell, .ref a_t_read, .int t_readMany, .ref a_t_prices, .int t_priceMany, .int t_pieceMany, .long t_coins])), (a_t_s, .inl (G.2.1, 68, .inl t_s))] H := hP
  replace hD : va_D A [(a_t, .inr (8, [.int 0, .ref a_t_s, .ref a_t_states, .int t_stateMany, .ref a_t_snapshot, .int t_hasSnapshot, .ref a_t_text, .int t_length, .int t_at, .int t_isWell, .ref a_t_read, .int t_readMany, .ref a_t_prices, .int t_priceMany, .int t_pieceMany, .long t_coins])), (a_t_s, .inl (G.2.1, 68, .inl t_s))] := hD
  refine lv_aload_n hx hb dX12_longestRise_5 rfl (lv_at hl 0 rfl) ?_
  obtain ⟨r_1, hq, hf⟩ := bd1_some hf
  refine rdV (As := []) (rest := []) hF hG hP hl.1 (c_X12_rise l G a_t 0 a_t_states t_stateMany a_t_snapshot t_hasSnapshot a_t_text t_length t_at t_isWell a_t_read t_readMany a_t_prices t_priceMany t_pieceMany t_coins a_t_s t_s r_1 hq) k_X12_rise q1381 [0, 1] rfl ⟨0, 8, _, _, rfl, rfl, rfl⟩ rfl rfl (Nat.le_of_ble_eq_true rfl) ⟨(Nat.le_of_ble_eq_true rfl), (Nat.le_of_ble_eq_true rfl)⟩ ⟨(Nat.zero_le _), (Nat.zero_le _)⟩ dX12_longestRise_6 ?_
  have hf : (some (r_1, 0) : Option (Int32 × Int32)) = some (rr, w_t_thrown) := hf
  cases hf
  exact we_i hF hr hlk hP hD hS dX12_longestRise_9 rfl
def f_X12_season (t_thrown : Int32) (t_s : Nat → Int32) : Option (Int32 × Int32) := some ((t_s 5), 0)
theorem k_X12_season : KV yX12_season cX12_season 1 (some .int) 0 := ⟨qc_yX12_season, q9, ⟨by decide +kernel, by decide +kernel, by decide +kernel⟩, qi_yX12_season, qs_yX12_season⟩
abbrev RM_X12_season : Room := { frames := 0, cells := 0, slots := 0, locals := 0 }
set_option maxHeartbeats 4000000 in
set_option maxRecDepth 100000 in
theorem c_X12_season (l : Launch) (G : GP) (a_t : Nat) (t_thrown : Int32) (a_t_states : Nat) (t_stateMany : Int32) (a_t_snapshot : Nat) (t_hasSnapshot : Int32) (a_t_text : Nat) (t_length : Int32) (t_at : Int32) (t_isWell : Int32) (a_t_read : Nat) (t_readMany : Int32) (a_t_prices : Nat) (t_priceMany : Int32) (t_pieceMany : Int32) (t_coins : Int64) (a_t_s : Nat) (t_s : Nat → Int32) (rr : Int32) (w_t_thrown : Int32) (hf : f_X12_season t_thrown t_s = some (rr, w_t_thrown)) : WM l yX12_season cX12_season 1 (some .int) 0 0 G [.ref a_t] [(a_t, .inr (8, [.int t_thrown, .ref a_t_s, .ref a_t_states, .int t_stateMany, .ref a_t_snapshot, .int t_hasSnapshot, .ref a_t_text, .int t_length, .int t_at, .int t_isWell, .ref a_t_read, .int t_readMany, .ref a_t_prices, .int t_priceMany, .int t_pieceMany, .long t_coins])), (a_t_s, .inl (G.2.1, 68, .inl t_s))] (some (.int rr)) [(a_t, .inr (8, [.int w_t_thrown, .ref a_t_s, .ref a_t_states, .int t_stateMany, .ref a_t_snapshot, .int t_hasSnapshot, .ref a_t_text, .int t_length, .int t_at, .int t_isWell, .ref a_t_read, .int t_readMany, .ref a_t_prices, .int t_priceMany, .int t_pieceMany, .long t_coins])), (a_t_s, .inl (G.2.1, 68, .inl t_s))] := by
  refine WM.ofW (C := RX12) (by decide) rfl (Nat.le_of_ble_eq_true rfl) ?_
  intro p e s m below meth c A hF hr hlk hG hA hP hD ls hl
  have hl : lv_has ls 1 [(0, .ref a_t)] := hl
  have hx := hF.1
  have hb := hF.2.1
  have hml := hF.2.2.1
  have hown := hF.2.2.2.1
  have hts := hF.2.2.2.2
  have hS : va_S A s.heap s.heap [] := va_S.rf
  unfold f_X12_season at hf
  refine lv_aload_n hx hb dX12_season_0 rfl (lv_at hl 0 rfl) ?_
  refine lv_iconst (v := 0) hx hb dX12_season_1 (by decide) ?_
  refine pf (C := RX12) (T := TX12) (N := 16) (ci := 8) (v := .int 0) (ty := .int) hF hG hP hD hS inX12 tyX12 tyX12_ok nmX12 0 rfl rfl 0 (by decide) q1020 rfl rfl (by decide +kernel) rfl rfl (Nat.le_of_ble_eq_true rfl) dX12_season_2 (fun H locs hP hD hS => ?_)
  replace hP : va_P G.1 vwCl [(a_t, .inr (8, [.int 0, .ref a_t_s, .ref a_t_states, .int t_stateMany, .ref a_t_snapshot, .int t_hasSnapshot, .ref a_t_text, .int t_length, .int t_at, .int t_isWell, .ref a_t_read, .int t_readMany, .ref a_t_prices, .int t_priceMany, .int t_pieceMany, .long t_coins])), (a_t_s, .inl (G.2.1, 68, .inl t_s))] H := hP
  replace hD : va_D A [(a_t, .inr (8, [.int 0, .ref a_t_s, .ref a_t_states, .int t_stateMany, .ref a_t_snapshot, .int t_hasSnapshot, .ref a_t_text, .int t_length, .int t_at, .int t_isWell, .ref a_t_read, .int t_readMany, .ref a_t_prices, .int t_priceMany, .int t_pieceMany, .long t_coins])), (a_t_s, .inl (G.2.1, 68, .inl t_s))] := hD
  refine lv_aload_n hx hb dX12_season_5 rfl (lv_at hl 0 rfl) ?_
  refine gf (C := RX12) (T := TX12) (N := 16) (ci := 8) (v := .ref a_t_s) hF hG hP inX12 0 rfl rfl 1 (by decide) q1021 rfl rfl dX12_season_6 ?_
  refine lv_iconst (v := 5) hx hb dX12_season_9 (by decide) ?_
  refine ald_i (k := 5) hF hG hP 1 rfl (by decide) (by decide) dX12_season_10 ?_
  have hf : (some ((t_s 5), 0) : Option (Int32 × Int32)) = some (rr, w_t_thrown) := hf
  cases hf
  exact we_i hF hr hlk hP hD hS dX12_season_11 rfl
def l_X12_partSum_5 (t_s : Nat → Int32) (x2 : Int32) : Nat → Int64 → Int32 → Option (Int64)
  | 0, _, _ => none
  | n + 1, i3_1, i5_2 => (if x2 ≤ i5_2 then some i3_1 else bd1 (f_X12_of t_s i5_2) (fun (r_4 : Int32) => l_X12_partSum_5 t_s x2 n (i3_1 + (Int32.toInt64 r_4)) (i5_2 + (t_s 5))))
def f_X12_partSum (t_s : Nat → Int32) (x1 : Int32) (x2 : Int32) : Option (Int64) := bd1 (l_X12_partSum_5 t_s x2 1000 0 x1) (fun (o3_3 : Int64) => some o3_3)
theorem k_X12_partSum : KV yX12_partSum cX12_partSum 6 (some .long) 2 := ⟨qc_yX12_partSum, q9, ⟨by decide +kernel, by decide +kernel, by decide +kernel⟩, qi_yX12_partSum, qs_yX12_partSum⟩
abbrev RM_X12_partSum : Room := { frames := 1, cells := 0, slots := 0, locals := 21 }
set_option maxHeartbeats 4000000 in
set_option maxRecDepth 100000 in
theorem c_X12_partSum (l : Launch) (G : GP) (a_t : Nat) (t_thrown : Int32) (a_t_states : Nat) (t_stateMany : Int32) (a_t_snapshot : Nat) (t_hasSnapshot : Int32) (a_t_text : Nat) (t_length : Int32) (t_at : Int32) (t_isWell : Int32) (a_t_read : Nat) (t_readMany : Int32) (a_t_prices : Nat) (t_priceMany : Int32) (t_pieceMany : Int32) (t_coins : Int64) (a_t_s : Nat) (t_s : Nat → Int32) (x1 : Int32) (x2 : Int32) (rr : Int64) (hf : f_X12_partSum t_s x1 x2 = some rr) : RM l yX12_partSum cX12_partSum 6 (some .long) 1 21 G [.ref a_t, .int x1, .int x2] [(a_t, .inr (8, [.int t_thrown, .ref a_t_s, .ref a_t_states, .int t_stateMany, .ref a_t_snapshot, .int t_hasSnapshot, .ref a_t_text, .int t_length, .int t_at, .int t_isWell, .ref a_t_read, .int t_readMany, .ref a_t_prices, .int t_priceMany, .int t_pieceMany, .long t_coins])), (a_t_s, .inl (G.2.1, 68, .inl t_s))] (some (.long rr)) := by
  refine RM.ofW (C := RX12) (by decide) rfl (Nat.le_of_ble_eq_true rfl) ?_
  intro p e s m below meth c hF hr hlk hG hP ls hl
  have hl : lv_has ls 6 [(0, .ref a_t), (1, .int x1), (2, .int x2)] := hl
  have hx := hF.1
  have hb := hF.2.1
  have hml := hF.2.2.1
  have hown := hF.2.2.2.1
  have hts := hF.2.2.2.2
  unfold f_X12_partSum at hf
  refine lv_lconst (v := 0) hx hb dX12_partSum_0 (by decide) ?_
  refine lv_lstore_n (lv' := [(3, .long 0), (0, .ref a_t), (1, .int x1), (2, .int x2)]) hx hb dX12_partSum_1 rfl hl (by decide) rfl (fun ls hl => ?_)
  refine lv_iload_n hx hb dX12_partSum_2 rfl (lv_at hl 2 rfl) ?_
  refine lv_istore (lv' := [(5, .int x1), (3, .long 0), (0, .ref a_t), (1, .int x1), (2, .int x2)]) hx hb dX12_partSum_3 hl (by decide) rfl (fun ls hl => ?_)
  obtain ⟨o3_3, hq, hf⟩ := bd1_some hf
  have K5 : ∀ ls : Array Slot, lv_has ls 6 [(3, .long o3_3)] → W p l e RM_X12_partSum s m [.ref a_t, .int x1, .int x2].toArray below meth c s.heap [] 0 0 (MQ below (rdQ (some (.long rr))) [.ref a_t, .int x1, .int x2].toArray s 0 0 (fun _ => False)) (F0 m 35 ls []) := by
    intro ls hl
    refine lv_lload_n hx hb dX12_partSum_35 rfl (lv_at hl 0 rfl) ?_
    have hf : (some o3_3 : Option (Int64)) = some rr := hf
    cases hf
    exact re_l hF hr hlk dX12_partSum_36 rfl
  clear hf
  have L5 : ∀ (n : Nat) (i3_1 : Int64) (i5_2 : Int32), l_X12_partSum_5 t_s x2 n i3_1 i5_2 = some o3_3 → ∀ ls : Array Slot, lv_has ls 6 [(0, .ref a_t), (2, .int x2), (3, .long i3_1), (5, .int i5_2)] → W p l e RM_X12_partSum s m [.ref a_t, .int x1, .int x2].toArray below meth c s.heap [] 0 0 (MQ below (rdQ (some (.long rr))) [.ref a_t, .int x1, .int x2].toArray s 0 0 (fun _ => False)) (F0 m 5 ls []) := by
    intro n
    induction n with
    | zero =>
      intro i3_1 i5_2 hf
      exact nomatch (show none = some o3_3 from hf)
    | succ n ih =>
      intro i3_1 i5_2 hf ls hl
      rw [l_X12_partSum_5] at hf
      refine lv_iload hx hb dX12_partSum_5 (lv_at hl 3 rfl) ?_
      refine lv_iload_n hx hb dX12_partSum_7 rfl (lv_at hl 1 rfl) ?_
      refine lv_icmp_ge (tgt := 35) hx hb dX12_partSum_8 (by decide) (fun c0 => ?_) (fun c0 => ?_)
      · have hf := (if_pos c0).symm.trans hf
        have hf : (some i3_1 : Option (Int64)) = some o3_3 := hf
        cases hf
        exact K5 ls (lv_sub hl [2] rfl)
      · have hf := (if_neg c0).symm.trans hf
        refine lv_lload_n hx hb dX12_partSum_11 rfl (lv_at hl 2 rfl) ?_
        refine lv_aload_n hx hb dX12_partSum_12 rfl (lv_at hl 0 rfl) ?_
        refine lv_iload hx hb dX12_partSum_13 (lv_at hl 3 rfl) ?_
        obtain ⟨r_4, hq, hf⟩ := bd1_some hf
        refine rdV (As := [.int i5_2]) (rest := [.long i3_1]) hF hG hP hl.1 (c_X12_of l G a_t t_thrown a_t_states t_stateMany a_t_snapshot t_hasSnapshot a_t_text t_length t_at t_isWell a_t_read t_readMany a_t_prices t_priceMany t_pieceMany t_coins a_t_s t_s i5_2 r_4 hq) k_X12_of q1111 [0, 1] rfl ⟨0, 8, _, _, rfl, rfl, rfl⟩ rfl rfl (Nat.le_of_ble_eq_true rfl) ⟨(Nat.le_of_ble_eq_true rfl), (Nat.le_of_ble_eq_true rfl)⟩ ⟨(Nat.zero_le _), (Nat.zero_le _)⟩ dX12_partSum_15 ?_
        refine lv_i2l (v := (Int32.toInt64 r_4)) hx hb dX12_partSum_18 rfl ?_
        refine lv_ladd hx hb dX12_partSum_19 ?_
        refine lv_lstore_n (lv' := [(3, .long (i3_1 + (Int32.toInt64 r_4))), (0, .ref a_t), (2, .int x2), (5, .int i5_2)]) hx hb dX12_partSum_20 rfl hl (by decide) rfl (fun ls hl => ?_)
        refine lv_iload hx hb dX12_partSum_21 (lv_at hl 3 rfl) ?_
        refine lv_aload_n hx hb dX12_partSum_23 rfl (lv_at hl 1 rfl) ?_
        refine gf (C := RX12) (T := TX12) (N := 16) (ci := 8) (v := .ref a_t_s) hF hG hP inX12 0 rfl rfl 1 (by decide) q1021 rfl rfl dX12_partSum_24 ?_
        refine lv_iconst (v := 5) hx hb dX12_partSum_27 (by decide) ?_
        refine ald_i (k := 5) hF hG hP 1 rfl (by decide) (by decide) dX12_partSum_28 ?_
        refine lv_iadd hx hb dX12_partSum_29 ?_
        refine lv_istore (lv' := [(5, .int (i5_2 + (t_s 5))), (3, .long (i3_1 + (Int32.toInt64 r_4))), (0, .ref a_t), (2, .int x2)]) hx hb dX12_partSum_30 hl (by decide) rfl (fun ls hl => ?_)
        refine lv_goto (tgt := 5) hx hb dX12_partSum_32 (by decide) ?_
        exact ih (i3_1 + (Int32.toInt64 r_4)) (i5_2 + (t_s 5)) hf ls (lv_sub hl [2, 3, 1, 0] rfl)
  exact L5 1000 0 x1 hq ls (lv_sub hl [2, 4, 1, 0] rfl)
