def f_X12_longNumber (t_length : Int32) (t_at : Int32) (t_isWell : Int32) (t_text : Nat → Int32) : Option (Int32 × Int32 × Int32) := bd3 (f_X12_takes t_length t_at t_isWell t_text 49 57) (fun (r_1 : Int32) (t_at_2 : Int32) (t_isWell_3 : Int32) => (if t_isWell_3 = 0 then (if t_isWell_3 = 0 then some (r_1, t_at_2, t_isWell_3) else (if r_1 = 2 then bd1 (f_X12_sign t_length t_at_2 t_text) (fun (r_4 : Int32) => (if r_4 = 48 then some (20, (t_at_2 + 1), t_isWell_3) else some (r_1, t_at_2, t_isWell_3))) else some (r_1, t_at_2, t_isWell_3))) else (if r_1 = 1 then bd3 (f_X12_takes t_length t_at_2 t_isWell_3 t_text 48 57) (fun (r_6 : Int32) (t_at_7 : Int32) (t_isWell_8 : Int32) => some ((10 + r_6), t_at_7, t_isWell_8)) else (if t_isWell_3 = 0 then some (r_1, t_at_2, t_isWell_3) else (if r_1 = 2 then bd1 (f_X12_sign t_length t_at_2 t_text) (fun (r_5 : Int32) => (if r_5 = 48 then some (20, (t_at_2 + 1), t_isWell_3) else some (r_1, t_at_2, t_isWell_3))) else some (r_1, t_at_2, t_isWell_3))))))
theorem k_X12_longNumber : KV yX12_longNumber cX12_longNumber 2 (some .int) 0 := ⟨qc_yX12_longNumber, q9, ⟨by decide +kernel, by decide +kernel, by decide +kernel⟩, qi_yX12_longNumber, qs_yX12_longNumber⟩
abbrev RM_X12_longNumber : Room := { frames := 2, cells := 0, slots := 0, locals := 45 }
set_option maxHeartbeats 4000000 in
set_option maxRecDepth 100000 in
theorem c_X12_longNumber (l : Launch) (G : GP) (a_t : Nat) (t_thrown : Int32) (a_t_s : Nat) (a_t_states : Nat) (t_stateMany : Int32) (a_t_snapshot : Nat) (t_hasSnapshot : Int32) (t_length : Int32) (t_at : Int32) (t_isWell : Int32) (a_t_read : Nat) (t_readMany : Int32) (a_t_prices : Nat) (t_priceMany : Int32) (t_pieceMany : Int32) (t_coins : Int64) (a_t_text : Nat) (t_text : Nat → Int32) (rr : Int32) (w_t_at : Int32) (w_t_isWell : Int32) (hf : f_X12_longNumber t_length t_at t_isWell t_text = some (rr, w_t_at, w_t_isWell)) : WM l yX12_longNumber cX12_longNumber 2 (some .int) 2 45 G [.ref a_t] [(a_t, .inr (8, [.int t_thrown, .ref a_t_s, .ref a_t_states, .int t_stateMany, .ref a_t_snapshot, .int t_hasSnapshot, .ref a_t_text, .int t_length, .int t_at, .int t_isWell, .ref a_t_read, .int t_readMany, .ref a_t_prices, .int t_priceMany, .int t_pieceMany, .long t_coins])), (a_t_text, .inl (G.2.1, 60, .inl t_text))] (some (.int rr)) [(a_t, .inr (8, [.int t_thrown, .ref a_t_s, .ref a_t_states, .int t_stateMany, .ref a_t_snapshot, .int t_hasSnapshot, .ref a_t_text, .int t_length, .int w_t_at, .int w_t_isWell, .ref a_t_read, .int t_readMany, .ref a_t_prices, .int t_priceMany, .int t_pieceMany, .long t_coins])), (a_t_text, .inl (G.2.1, 60, .inl t_text))] := by
  refine WM.ofW (C := RX12) (by decide) rfl (Nat.le_of_ble_eq_true rfl) ?_
  intro p e s m below meth c A hF hr hlk hG hA hP hD ls hl
  have hl : lv_has ls 2 [(0, .ref a_t)] := hl
  have hx := hF.1
  have hb := hF.2.1
  have hml := hF.2.2.1
  have hown := hF.2.2.2.1
  have hts := hF.2.2.2.2
  have hS : va_S A s.heap s.heap [] := va_S.rf
  unfold f_X12_longNumber at hf
  refine lv_aload_n hx hb dX12_longNumber_0 rfl (lv_at hl 0 rfl) ?_
  refine lv_bipush (v := 49) hx hb dX12_longNumber_1 (by decide) ?_
  refine lv_bipush (v := 57) hx hb dX12_longNumber_3 (by decide) ?_
  obtain ⟨r_1, t_at_2, t_isWell_3, hq, hf⟩ := bd3_some hf
  refine wrV (As := [.int 49, .int 57]) (rest := []) (wn := [(a_t, .inr (8, [.int t_thrown, .ref a_t_s, .ref a_t_states, .int t_stateMany, .ref a_t_snapshot, .int t_hasSnapshot, .ref a_t_text, .int t_length, .int t_at_2, .int t_isWell_3, .ref a_t_read, .int t_readMany, .ref a_t_prices, .int t_priceMany, .int t_pieceMany, .long t_coins])), (a_t_text, .inl (G.2.1, 60, .inl t_text))]) hF hG hP hD hS hA hl.1 (c_X12_takes l G a_t t_thrown a_t_s a_t_states t_stateMany a_t_snapshot t_hasSnapshot t_length t_at t_isWell a_t_read t_readMany a_t_prices t_priceMany t_pieceMany t_coins a_t_text t_text 49 57 r_1 t_at_2 t_isWell_3 hq) k_X12_takes q1190 [0, 1] [] [0, 1] rfl rfl rfl rfl ⟨rfl, rfl⟩ (by decide) ⟨0, 8, _, _, rfl, rfl, rfl⟩ rfl rfl (Nat.le_of_ble_eq_true rfl) ⟨(Nat.le_of_ble_eq_true rfl), (Nat.le_of_ble_eq_true rfl)⟩ ⟨(Nat.le_of_ble_eq_true rfl), (Nat.le_of_ble_eq_true rfl)⟩ dX12_longNumber_5 (fun H locs hP hD hS => ?_)
  refine lv_istore_n (lv' := [(1, .int r_1), (0, .ref a_t)]) hx hb dX12_longNumber_8 rfl hl (by decide) rfl (fun ls hl => ?_)
  refine lv_aload_n hx hb dX12_longNumber_9 rfl (lv_at hl 1 rfl) ?_
  refine gf (C := RX12) (T := TX12) (N := 16) (ci := 8) (v := .int t_isWell_3) hF hG hP inX12 0 rfl rfl 9 (by decide) q1029 rfl rfl dX12_longNumber_10 ?_
  refine lv_if_eq (tgt := 36) hx hb dX12_longNumber_13 (by decide) (fun c0 => ?_) (fun c0 => ?_)
  · have hf := (if_pos c0).symm.trans hf
    refine lv_aload_n hx hb dX12_longNumber_36 rfl (lv_at hl 1 rfl) ?_
    refine gf (C := RX12) (T := TX12) (N := 16) (ci := 8) (v := .int t_isWell_3) hF hG hP inX12 0 rfl rfl 9 (by decide) q1029 rfl rfl dX12_longNumber_37 ?_
    refine lv_if_eq (tgt := 70) hx hb dX12_longNumber_40 (by decide) (fun c0 => ?_) (fun c0 => ?_)
    · have hf := (if_pos c0).symm.trans hf
      refine lv_iload_n hx hb dX12_longNumber_70 rfl (lv_at hl 0 rfl) ?_
      have hf : (some (r_1, t_at_2, t_isWell_3) : Option (Int32 × Int32 × Int32)) = some (rr, w_t_at, w_t_isWell) := hf
      cases hf
      exact we_i hF hr hlk hP hD hS dX12_longNumber_71 rfl
    · have hf := (if_neg c0).symm.trans hf
      refine lv_iload_n hx hb dX12_longNumber_43 rfl (lv_at hl 0 rfl) ?_
      refine lv_iconst (v := 2) hx hb dX12_longNumber_44 (by decide) ?_
      refine lv_icmp_ne (tgt := 70) hx hb dX12_longNumber_45 (by decide) (fun c0 => ?_) (fun c0 => ?_)
      · have hf := (if_neg c0).symm.trans hf
        refine lv_iload_n hx hb dX12_longNumber_70 rfl (lv_at hl 0 rfl) ?_
        have hf : (some (r_1, t_at_2, t_isWell_3) : Option (Int32 × Int32 × Int32)) = some (rr, w_t_at, w_t_isWell) := hf
        cases hf
        exact we_i hF hr hlk hP hD hS dX12_longNumber_71 rfl
      · have hf := (if_pos c0).symm.trans hf
        refine lv_aload_n hx hb dX12_longNumber_48 rfl (lv_at hl 1 rfl) ?_
        obtain ⟨r_4, hq, hf⟩ := bd1_some hf
        refine rdV (As := []) (rest := []) hF hG hP hl.1 (c_X12_sign l G a_t t_thrown a_t_s a_t_states t_stateMany a_t_snapshot t_hasSnapshot t_length t_at_2 t_isWell_3 a_t_read t_readMany a_t_prices t_priceMany t_pieceMany t_coins a_t_text t_text r_4 hq) k_X12_sign q1178 [0, 1] rfl ⟨0, 8, _, _, rfl, rfl, rfl⟩ rfl rfl (Nat.le_of_ble_eq_true rfl) ⟨(Nat.le_of_ble_eq_true rfl), (Nat.le_of_ble_eq_true rfl)⟩ ⟨(Nat.zero_le _), (Nat.zero_le _)⟩ dX12_longNumber_49 ?_
        refine lv_bipush (v := 48) hx hb dX12_longNumber_52 (by decide) ?_
        refine lv_icmp_ne (tgt := 70) hx hb dX12_longNumber_54 (by decide) (fun c0 => ?_) (fun c0 => ?_)
        · have hf := (if_neg c0).symm.trans hf
          refine lv_iload_n hx hb dX12_longNumber_70 rfl (lv_at hl 0 rfl) ?_
          have hf : (some (r_1, t_at_2, t_isWell_3) : Option (Int32 × Int32 × Int32)) = some (rr, w_t_at, w_t_isWell) := hf
          cases hf
          exact we_i hF hr hlk hP hD hS dX12_longNumber_71 rfl
        · have hf := (if_pos c0).symm.trans hf
          refine lv_bipush (v := 20) hx hb dX12_longNumber_57 (by decide) ?_
          refine lv_istore_n (lv' := [(1, .int 20), (0, .ref a_t)]) hx hb dX12_longNumber_59 rfl hl (by decide) rfl (fun ls hl => ?_)
          refine lv_aload_n hx hb dX12_longNumber_60 rfl (lv_at hl 1 rfl) ?_
          refine lv_dup hx hb dX12_longNumber_61 rfl ?_
          refine gf (C := RX12) (T := TX12) (N := 16) (ci := 8) (v := .int t_at_2) hF hG hP inX12 0 rfl rfl 8 (by decide) q1028 rfl rfl dX12_longNumber_62 ?_
          refine lv_iconst (v := 1) hx hb dX12_longNumber_65 (by decide) ?_
          refine lv_iadd hx hb dX12_longNumber_66 ?_
          refine pf (C := RX12) (T := TX12) (N := 16) (ci := 8) (v := .int (t_at_2 + 1)) (ty := .int) hF hG hP hD hS inX12 tyX12 tyX12_ok nmX12 0 rfl rfl 8 (by decide) q1028 rfl rfl (by decide +kernel) rfl rfl (Nat.le_of_ble_eq_true rfl) dX12_longNumber_67 (fun H locs hP hD hS => ?_)
          replace hP : va_P G.1 vwCl [(a_t, .inr (8, [.int t_thrown, .ref a_t_s, .ref a_t_states, .int t_stateMany, .ref a_t_snapshot, .int t_hasSnapshot, .ref a_t_text, .int t_length, .int (t_at_2 + 1), .int t_isWell_3, .ref a_t_read, .int t_readMany, .ref a_t_prices, .int t_priceMany, .int t_pieceMany, .long t_coins])), (a_t_text, .inl (G.2.1, 60, .inl t_text))] H := hP
          replace hD : va_D A [(a_t, .inr (8, [.int t_thrown, .ref a_t_s, .ref a_t_states, .int t_stateMany, .ref a_t_snapshot, .int t_hasSnapshot, .ref a_t_text, .int t_length, .int (t_at_2 + 1), .int t_isWell_3, .ref a_t_read, .int t_readMany, .ref a_t_prices, .int t_priceMany, .int t_pieceMany, .long t_coins])), (a_t_text, .inl (G.2.1, 60, .inl t_text))] := hD
          refine lv_iload_n hx hb dX12_longNumber_70 rfl (lv_at hl 0 rfl) ?_
          have hf : (some (20, (t_at_2 + 1), t_isWell_3) : Option (Int32 × Int32 × Int32)) = some (rr, w_t_at, w_t_isWell) := hf
          cases hf
          exact we_i hF hr hlk hP hD hS dX12_longNumber_71 rfl
  · have hf := (if_neg c0).symm.trans hf
    refine lv_iload_n hx hb dX12_longNumber_16 rfl (lv_at hl 0 rfl) ?_
    refine lv_iconst (v := 1) hx hb dX12_longNumber_17 (by decide) ?_
    refine lv_icmp_ne (tgt := 36) hx hb dX12_longNumber_18 (by decide) (fun c0 => ?_) (fun c0 => ?_)
    · have hf := (if_neg c0).symm.trans hf
      refine lv_aload_n hx hb dX12_longNumber_36 rfl (lv_at hl 1 rfl) ?_
      refine gf (C := RX12) (T := TX12) (N := 16) (ci := 8) (v := .int t_isWell_3) hF hG hP inX12 0 rfl rfl 9 (by decide) q1029 rfl rfl dX12_longNumber_37 ?_
      refine lv_if_eq (tgt := 70) hx hb dX12_longNumber_40 (by decide) (fun c0 => ?_) (fun c0 => ?_)
      · have hf := (if_pos c0).symm.trans hf
        refine lv_iload_n hx hb dX12_longNumber_70 rfl (lv_at hl 0 rfl) ?_
        have hf : (some (r_1, t_at_2, t_isWell_3) : Option (Int32 × Int32 × Int32)) = some (rr, w_t_at, w_t_isWell) := hf
        cases hf
        exact we_i hF hr hlk hP hD hS dX12_longNumber_71 rfl
      · have hf := (if_neg c0).symm.trans hf
        refine lv_iload_n hx hb dX12_longNumber_43 rfl (lv_at hl 0 rfl) ?_
        refine lv_iconst (v := 2) hx hb dX12_longNumber_44 (by decide) ?_
        refine lv_icmp_ne (tgt := 70) hx hb dX12_longNumber_45 (by decide) (fun c0 => ?_) (fun c0 => ?_)
        · have hf := (if_neg c0).symm.trans hf
          refine lv_iload_n hx hb dX12_longNumber_70 rfl (lv_at hl 0 rfl) ?_
          have hf : (some (r_1, t_at_2, t_isWell_3) : Option (Int32 × Int32 × Int32)) = some (rr, w_t_at, w_t_isWell) := hf
          cases hf
          exact we_i hF hr hlk hP hD hS dX12_longNumber_71 rfl
        · have hf := (if_pos c0).symm.trans hf
          refine lv_aload_n hx hb dX12_longNumber_48 rfl (lv_at hl 1 rfl) ?_
          obtain ⟨r_5, hq, hf⟩ := bd1_some hf
          refine rdV (As := []) (rest := []) hF hG hP hl.1 (c_X12_sign l G a_t t_thrown a_t_s a_t_states t_stateMany a_t_snapshot t_hasSnapshot t_length t_at_2 t_isWell_3 a_t_read t_readMany a_t_prices t_priceMany t_pieceMany t_coins a_t_text t_text r_5 hq) k_X12_sign q1178 [0, 1] rfl ⟨0, 8, _, _, rfl, rfl, rfl⟩ rfl rfl (Nat.le_of_ble_eq_true rfl) ⟨(Nat.le_of_ble_eq_true rfl), (Nat.le_of_ble_eq_true rfl)⟩ ⟨(Nat.zero_le _), (Nat.zero_le _)⟩ dX12_longNumber_49 ?_
          refine lv_bipush (v := 48) hx hb dX12_longNumber_52 (by decide) ?_
          refine lv_icmp_ne (tgt := 70) hx hb dX12_longNumber_54 (by decide) (fun c0 => ?_) (fun c0 => ?_)
          · have hf := (if_neg c0).symm.trans hf
            refine lv_iload_n hx hb dX12_longNumber_70 rfl (lv_at hl 0 rfl) ?_
            have hf : (some (r_1, t_at_2, t_isWell_3) : Option (Int32 × Int32 × Int32)) = some (rr, w_t_at, w_t_isWell) := hf
            cases hf
            exact we_i hF hr hlk hP hD hS dX12_longNumber_71 rfl
          · have hf := (if_pos c0).symm.trans hf
            refine lv_bipush (v := 20) hx hb dX12_longNumber_57 (by decide) ?_
            refine lv_istore_n (lv' := [(1, .int 20), (0, .ref a_t)]) hx hb dX12_longNumber_59 rfl hl (by decide) rfl (fun ls hl => ?_)
            refine lv_aload_n hx hb dX12_longNumber_60 rfl (lv_at hl 1 rfl) ?_
            refine lv_dup hx hb dX12_longNumber_61 rfl ?_
            refine gf (C := RX12) (T := TX12) (N := 16) (ci := 8) (v := .int t_at_2) hF hG hP inX12 0 rfl rfl 8 (by decide) q1028 rfl rfl dX12_longNumber_62 ?_
            refine lv_iconst (v := 1) hx hb dX12_longNumber_65 (by decide) ?_
            refine lv_iadd hx hb dX12_longNumber_66 ?_
            refine pf (C := RX12) (T := TX12) (N := 16) (ci := 8) (v := .int (t_at_2 + 1)) (ty := .int) hF hG hP hD hS inX12 tyX12 tyX12_ok nmX12 0 rfl rfl 8 (by decide) q1028 rfl rfl (by decide +kernel) rfl rfl (Nat.le_of_ble_eq_true rfl) dX12_longNumber_67 (fun H locs hP hD hS => ?_)
            replace hP : va_P G.1 vwCl [(a_t, .inr (8, [.int t_thrown, .ref a_t_s, .ref a_t_states, .int t_stateMany, .ref a_t_snapshot, .int t_hasSnapshot, .ref a_t_text, .int t_length, .int (t_at_2 + 1), .int t_isWell_3, .ref a_t_read, .int t_readMany, .ref a_t_prices, .int t_priceMany, .int t_pieceMany, .long t_coins])), (a_t_text, .inl (G.2.1, 60, .inl t_text))] H := hP
            replace hD : va_D A [(a_t, .inr (8, [.int t_thrown, .ref a_t_s, .ref a_t_states, .int t_stateMany, .ref a_t_snapshot, .int t_hasSnapshot, .ref a_t_text, .int t_length, .int (t_at_2 + 1), .int t_isWell_3, .ref a_t_read, .int t_readMany, .ref a_t_prices, .int t_priceMany, .int t_pieceMany, .long t_coins])), (a_t_text, .inl (G.2.1, 60, .inl t_text))] := hD
            refine lv_iload_n hx hb dX12_longNumber_70 rfl (lv_at hl 0 rfl) ?_
            have hf : (some (20, (t_at_2 + 1), t_isWell_3) : Option (Int32 × Int32 × Int32)) = some (rr, w_t_at, w_t_isWell) := hf
            cases hf
            exact we_i hF hr hlk hP hD hS dX12_longNumber_71 rfl
    · have hf := (if_pos c0).symm.trans hf
      refine lv_bipush (v := 10) hx hb dX12_longNumber_21 (by decide) ?_
      refine lv_aload_n hx hb dX12_longNumber_23 rfl (lv_at hl 1 rfl) ?_
      refine lv_bipush (v := 48) hx hb dX12_longNumber_24 (by decide) ?_
      refine lv_bipush (v := 57) hx hb dX12_longNumber_26 (by decide) ?_
      obtain ⟨r_6, t_at_7, t_isWell_8, hq, hf⟩ := bd3_some hf
      refine wrV (As := [.int 48, .int 57]) (rest := [.int 10]) (wn := [(a_t, .inr (8, [.int t_thrown, .ref a_t_s, .ref a_t_states, .int t_stateMany, .ref a_t_snapshot, .int t_hasSnapshot, .ref a_t_text, .int t_length, .int t_at_7, .int t_isWell_8, .ref a_t_read, .int t_readMany, .ref a_t_prices, .int t_priceMany, .int t_pieceMany, .long t_coins])), (a_t_text, .inl (G.2.1, 60, .inl t_text))]) hF hG hP hD hS hA hl.1 (c_X12_takes l G a_t t_thrown a_t_s a_t_states t_stateMany a_t_snapshot t_hasSnapshot t_length t_at_2 t_isWell_3 a_t_read t_readMany a_t_prices t_priceMany t_pieceMany t_coins a_t_text t_text 48 57 r_6 t_at_7 t_isWell_8 hq) k_X12_takes q1190 [0, 1] [] [0, 1] rfl rfl rfl rfl ⟨rfl, rfl⟩ (by decide) ⟨0, 8, _, _, rfl, rfl, rfl⟩ rfl rfl (Nat.le_of_ble_eq_true rfl) ⟨(Nat.le_of_ble_eq_true rfl), (Nat.le_of_ble_eq_true rfl)⟩ ⟨(Nat.le_of_ble_eq_true rfl), (Nat.le_of_ble_eq_true rfl)⟩ dX12_longNumber_28 (fun H locs hP hD hS => ?_)
      refine lv_iadd hx hb dX12_longNumber_31 ?_
      refine lv_istore_n (lv' := [(1, .int (10 + r_6)), (0, .ref a_t)]) hx hb dX12_longNumber_32 rfl hl (by decide) rfl (fun ls hl => ?_)
      refine lv_goto (tgt := 70) hx hb dX12_longNumber_33 (by decide) ?_
      refine lv_iload_n hx hb dX12_longNumber_70 rfl (lv_at hl 0 rfl) ?_
      have hf : (some ((10 + r_6), t_at_7, t_isWell_8) : Option (Int32 × Int32 × Int32)) = some (rr, w_t_at, w_t_isWell) := hf
      cases hf
      exact we_i hF hr hlk hP hD hS dX12_longNumber_71 rfl
def f_X12_readsPart (t_length : Int32) (t_at : Int32) (t_isWell : Int32) (t_readMany : Int32) (t_priceMany : Int32) (t_text : Nat → Int32) (t_read : Nat → Int32) (t_prices : Nat → Int32) : Option (Int32 × Int32 × Int32 × Int32 × (Nat → Int32) × (Nat → Int32)) := bd1 (f_X12_sign t_length t_at t_text) (fun (r_1 : Int32) => bd1 (if r_1 = 112 then some 1 else (if r_1 = 119 then some 1 else (if r_1 = 109 then some 1 else (if r_1 = 108 then some 1 else (if r_1 = 120 then some 1 else (if r_1 = 97 then some 1 else some 0)))))) (fun (j_2 : Int32) => gd (j_2 &&& 1 = j_2) (bd1 (if j_2 = 0 then some 0 else some 1) (fun (j_3 : Int32) => gd (¬ ((5 * t_readMany) < 0 ∨ 160 ≤ Int32.toNatClampNeg (5 * t_readMany))) (gd (¬ (((5 * t_readMany) + 3) < 0 ∨ 160 ≤ Int32.toNatClampNeg ((5 * t_readMany) + 3))) (gd (¬ (((5 * t_readMany) + 4) < 0 ∨ 160 ≤ Int32.toNatClampNeg ((5 * t_readMany) + 4))) (bd5 (if r_1 = 112 then bd5 (f_X12_readsPrices t_length (t_at + j_3) j_2 t_priceMany t_text (upd (upd (upd t_read (Int32.toNatClampNeg (5 * t_readMany)) r_1) (Int32.toNatClampNeg ((5 * t_readMany) + 3)) t_priceMany) (Int32.toNatClampNeg ((5 * t_readMany) + 4)) 0) t_prices (5 * t_readMany)) (fun (t_at_27 : Int32) (t_isWell_28 : Int32) (t_priceMany_29 : Int32) (t_read_30 : Nat → Int32) (t_prices_31 : Nat → Int32) => some (t_at_27, t_isWell_28, t_priceMany_29, t_read_30, t_prices_31)) else (if r_1 = 119 then bd3 (f_X12_number t_length (t_at + j_3) j_2 t_text 1 10) (fun (r_18 : Int32) (t_at_19 : Int32) (t_isWell_20 : Int32) => gd (¬ (((5 * t_readMany) + 1) < 0 ∨ 160 ≤ Int32.toNatClampNeg ((5 * t_readMany) + 1))) (bd3 (f_X12_takes t_length t_at_19 t_isWell_20 t_text 58 58) (fun (r_21 : Int32) (t_at_22 : Int32) (t_isWell_23 : Int32) => bd3 (f_X12_longNumber t_length t_at_22 t_isWell_23 t_text) (fun (r_24 : Int32) (t_at_25 : Int32) (t_isWell_26 : Int32) => gd (¬ (((5 * t_readMany) + 2) < 0 ∨ 160 ≤ Int32.toNatClampNeg ((5 * t_readMany) + 2))) (some (t_at_25, t_isWell_26, t_priceMany, (upd (upd (upd (upd (upd t_read (Int32.toNatClampNeg (5 * t_readMany)) r_1) (Int32.toNatClampNeg ((5 * t_readMany) + 3)) t_priceMany) (Int32.toNatClampNeg ((5 * t_readMany) + 4)) 0) (Int32.toNatClampNeg ((5 * t_readMany) + 1)) r_18) (Int32.toNatClampNeg ((5 * t_readMany) + 2)) r_24), t_prices)))))) else (if r_1 = 109 then bd3 (f_X12_takes t_length (t_at + j_3) j_2 t_text 48 57) (fun (r_15 : Int32) (t_at_16 : Int32) (t_isWell_17 : Int32) => gd (¬ (((5 * t_readMany) + 1) < 0 ∨ 160 ≤ Int32.toNatClampNeg ((5 * t_readMany) + 1))) (some (t_at_16, t_isWell_17, t_priceMany, (upd (upd (upd (upd t_read (Int32.toNatClampNeg (5 * t_readMany)) r_1) (Int32.toNatClampNeg ((5 * t_readMany) + 3)) t_priceMany) (Int32.toNatClampNeg ((5 * t_readMany) + 4)) 0) (Int32.toNatClampNeg ((5 * t_readMany) + 1)) r_15), t_prices))) else (if r_1 = 108 then bd3 (f_X12_number t_length (t_at + j_3) j_2 t_text 0 9999) (fun (r_12 : Int32) (t_at_13 : Int32) (t_isWell_14 : Int32) => gd (¬ (((5 * t_readMany) + 1) < 0 ∨ 160 ≤ Int32.toNatClampNeg ((5 * t_readMany) + 1))) (some (t_at_13, t_isWell_14, t_priceMany, (upd (upd (upd (upd t_read (Int32.toNatClampNeg (5 * t_readMany)) r_1) (Int32.toNatClampNeg ((5 * t_readMany) + 3)) t_priceMany) (Int32.toNatClampNeg ((5 * t_readMany) + 4)) 0) (Int32.toNatClampNeg ((5 * t_readMany) + 1)) r_12), t_prices))) else (if r_1 = 120 then bd3 (f_X12_number t_length (t_at + j_3) j_2 t_text 0 59) (fun (r_9 : Int32) (t_at_10 : Int32) (t_isWell_11 : Int32) => gd (¬ (((5 * t_readMany) + 1) < 0 ∨ 160 ≤ Int32.toNatClampNeg ((5 * t_readMany) + 1))) (some (t_at_10, t_isWell_11, t_priceMany, (upd (upd (upd (upd t_read (Int32.toNatClampNeg (5 * t_readMany)) r_1) (Int32.toNatClampNeg ((5 * t_readMany) + 3)) t_priceMany) (Int32.toNatClampNeg ((5 * t_readMany) + 4)) 0) (Int32.toNatClampNeg ((5 * t_readMany) + 1)) r_9), t_prices))) else some ((t_at + j_3), j_2, t_priceMany, (upd (upd (upd t_read (Int32.toNatClampNeg (5 * t_readMany)) r_1) (Int32.toNatClampNeg ((5 * t_readMany) + 3)) t_priceMany) (Int32.toNatClampNeg ((5 * t_readMany) + 4)) 0), t_prices)))))) (fun (t_at_4 : Int32) (t_isWell_5 : Int32) (t_priceMany_6 : Int32) (t_read_7 : Nat → Int32) (t_prices_8 : Nat → Int32) => bd1 (if t_isWell_5 = 0 then some 0 else some 1) (fun (j_32 : Int32) => some (t_at_4, t_isWell_5, (t_readMany + j_32), t_priceMany_6, t_read_7, t_prices_8))))))))))
theorem k_X12_readsPart : KV yX12_readsPart cX12_readsPart 3 none 0 := ⟨qc_yX12_readsPart, q9, ⟨by decide +kernel, by decide +kernel, by decide +kernel⟩, qi_yX12_readsPart, qs_yX12_readsPart⟩
abbrev RM_X12_readsPart : Room := { frames := 4, cells := 0, slots := 0, locals := 91 }
set_option maxHeartbeats 4000000 in
set_option maxRecDepth 100000 in
theorem c_X12_readsPart (l : Launch) (G : GP) (a_t : Nat) (t_thrown : Int32) (a_t_s : Nat) (a_t_states : Nat) (t_stateMany : Int32) (a_t_snapshot : Nat) (t_hasSnapshot : Int32) (t_length : Int32) (t_at : Int32) (t_isWell : Int32) (t_readMany : Int32) (t_priceMany : Int32) (t_pieceMany : Int32) (t_coins : Int64) (a_t_text : Nat) (t_text : Nat → Int32) (a_t_read : Nat) (t_read : Nat → Int32) (a_t_prices : Nat) (t_prices : Nat → Int32) (w_t_at : Int32) (w_t_isWell : Int32) (w_t_readMany : Int32) (w_t_priceMany : Int32) (w_t_read : Nat → Int32) (w_t_prices : Nat → Int32) (hf : f_X12_readsPart t_length t_at t_isWell t_readMany t_priceMany t_text t_read t_prices = some (w_t_at, w_t_isWell, w_t_readMany, w_t_priceMany, w_t_read, w_t_prices)) : WM l yX12_readsPart cX12_readsPart 3 none 4 91 G [.ref a_t] [(a_t, .inr (8, [.int t_thrown, .ref a_t_s, .ref a_t_states, .int t_stateMany, .ref a_t_snapshot, .int t_hasSnapshot, .ref a_t_text, .int t_length, .int t_at, .int t_isWell, .ref a_t_read, .int t_readMany, .ref a_t_prices, .int t_priceMany, .int t_pieceMany, .long t_coins])), (a_t_text, .inl (G.2.1, 60, .inl t_text)), (a_t_read, .inl (G.2.1, 160, .inl t_read)), (a_t_prices, .inl (G.2.1, 60, .inl t_prices))] none [(a_t, .inr (8, [.int t_thrown, .ref a_t_s, .ref a_t_states, .int t_stateMany, .ref a_t_snapshot, .int t_hasSnapshot, .ref a_t_text, .int t_length, .int w_t_at, .int w_t_isWell, .ref a_t_read, .int w_t_readMany, .ref a_t_prices, .int w_t_priceMany, .int t_pieceMany, .long t_coins])), (a_t_text, .inl (G.2.1, 60, .inl t_text)), (a_t_read, .inl (G.2.1, 160, .inl w_t_read)), (a_t_prices, .inl (G.2.1, 60, .inl w_t_prices))] := by
  refine WM.ofW (C := RX12) (by decide) rfl (Nat.le_of_ble_eq_true rfl) ?_
  intro p e s m below meth c A hF hr hlk hG hA hP hD ls hl
  have hl : lv_has ls 3 [(0, .ref a_t)] := hl
  have hx := hF.1
  have hb := hF.2.1
  have hml := hF.2.2.1
  have hown := hF.2.2.2.1
  have hts := hF.2.2.2.2
  have hS : va_S A s.heap s.heap [] := va_S.rf
  unfold f_X12_readsPart at hf
  refine lv_iconst (v := 5) hx hb dX12_readsPart_0 (by decide) ?_
  refine lv_aload_n hx hb dX12_readsPart_1 rfl (lv_at hl 0 rfl) ?_
  refine gf (C := RX12) (T := TX12) (N := 16) (ci := 8) (v := .int t_readMany) hF hG hP inX12 0 rfl rfl 11 (by decide) q1031 rfl rfl dX12_readsPart_2 ?_
  refine lv_imul hx hb dX12_readsPart_5 ?_
  refine lv_istore_n (lv' := [(1, .int (5 * t_readMany)), (0, .ref a_t)]) hx hb dX12_readsPart_6 rfl hl (by decide) rfl (fun ls hl => ?_)
  refine lv_aload_n hx hb dX12_readsPart_7 rfl (lv_at hl 1 rfl) ?_
  obtain ⟨r_1, hq, hf⟩ := bd1_some hf
  refine rdV (As := []) (rest := []) hF hG hP hl.1 (c_X12_sign l G a_t t_thrown a_t_s a_t_states t_stateMany a_t_snapshot t_hasSnapshot t_length t_at t_isWell a_t_read t_readMany a_t_prices t_priceMany t_pieceMany t_coins a_t_text t_text r_1 hq) k_X12_sign q1178 [0, 1] rfl ⟨0, 8, _, _, rfl, rfl, rfl⟩ rfl rfl (Nat.le_of_ble_eq_true rfl) ⟨(Nat.le_of_ble_eq_true rfl), (Nat.le_of_ble_eq_true rfl)⟩ ⟨(Nat.zero_le _), (Nat.zero_le _)⟩ dX12_readsPart_8 ?_
  refine lv_istore_n (lv' := [(2, .int r_1), (1, .int (5 * t_readMany)), (0, .ref a_t)]) hx hb dX12_readsPart_11 rfl hl (by decide) rfl (fun ls hl => ?_)
  refine lv_aload_n hx hb dX12_readsPart_12 rfl (lv_at hl 2 rfl) ?_
  refine lv_iload_n hx hb dX12_readsPart_13 rfl (lv_at hl 0 rfl) ?_
  refine lv_bipush (v := 112) hx hb dX12_readsPart_14 (by decide) ?_
  obtain ⟨j_2, hq, hf⟩ := bd1_some hf
  have J54 : ∀ (H : Heap) (locs : List Loc), va_P G.1 vwCl ([(a_t, .inr (8, [.int t_thrown, .ref a_t_s, .ref a_t_states, .int t_stateMany, .ref a_t_snapshot, .int t_hasSnapshot, .ref a_t_text, .int t_length, .int t_at, .int t_isWell, .ref a_t_read, .int t_readMany, .ref a_t_prices, .int t_priceMany, .int t_pieceMany, .long t_coins])), (a_t_text, .inl (G.2.1, 60, .inl t_text)), (a_t_read, .inl (G.2.1, 160, .inl t_read)), (a_t_prices, .inl (G.2.1, 60, .inl t_prices))] : va_W) H → va_D A ([(a_t, .inr (8, [.int t_thrown, .ref a_t_s, .ref a_t_states, .int t_stateMany, .ref a_t_snapshot, .int t_hasSnapshot, .ref a_t_text, .int t_length, .int t_at, .int t_isWell, .ref a_t_read, .int t_readMany, .ref a_t_prices, .int t_priceMany, .int t_pieceMany, .long t_coins])), (a_t_text, .inl (G.2.1, 60, .inl t_text)), (a_t_read, .inl (G.2.1, 160, .inl t_read)), (a_t_prices, .inl (G.2.1, 60, .inl t_prices))] : va_W) → va_S A s.heap H locs → ∀ ls : Array Slot, lv_has ls 3 [(0, .ref a_t), (1, .int (5 * t_readMany)), (2, .int r_1)] → W p l e RM_X12_readsPart s m [.ref a_t].toArray below meth c H locs 0 0 (MQ below (wrQ none G [(a_t, .inr (8, [.int t_thrown, .ref a_t_s, .ref a_t_states, .int t_stateMany, .ref a_t_snapshot, .int t_hasSnapshot, .ref a_t_text, .int t_length, .int w_t_at, .int w_t_isWell, .ref a_t_read, .int w_t_readMany, .ref a_t_prices, .int w_t_priceMany, .int t_pieceMany, .long t_coins])), (a_t_text, .inl (G.2.1, 60, .inl t_text)), (a_t_read, .inl (G.2.1, 160, .inl w_t_read)), (a_t_prices, .inl (G.2.1, 60, .inl w_t_prices))] A) [.ref a_t].toArray s 0 0 A) (F0 m 54 ls [.int j_2, .ref a_t]) := by
    intro H locs hP hD hS ls hl
    obtain ⟨hz, hf⟩ := gd_some hf
    refine pf (C := RX12) (T := TX12) (N := 16) (ci := 8) (v := .int j_2) (ty := .boolean) hF hG hP hD hS inX12 tyX12 tyX12_ok nmX12 0 rfl rfl 9 (by decide) q1029 rfl rfl (by decide +kernel) (nar_z hz) (fit_z hz) (Nat.le_of_ble_eq_true rfl) dX12_readsPart_54 (fun H locs hP hD hS => ?_)
    replace hP : va_P G.1 vwCl [(a_t, .inr (8, [.int t_thrown, .ref a_t_s, .ref a_t_states, .int t_stateMany, .ref a_t_snapshot, .int t_hasSnapshot, .ref a_t_text, .int t_length, .int t_at, .int j_2, .ref a_t_read, .int t_readMany, .ref a_t_prices, .int t_priceMany, .int t_pieceMany, .long t_coins])), (a_t_text, .inl (G.2.1, 60, .inl t_text)), (a_t_read, .inl (G.2.1, 160, .inl t_read)), (a_t_prices, .inl (G.2.1, 60, .inl t_prices))] H := hP
    replace hD : va_D A [(a_t, .inr (8, [.int t_thrown, .ref a_t_s, .ref a_t_states, .int t_stateMany, .ref a_t_snapshot, .int t_hasSnapshot, .ref a_t_text, .int t_length, .int t_at, .int j_2, .ref a_t_read, .int t_readMany, .ref a_t_prices, .int t_priceMany, .int t_pieceMany, .long t_coins])), (a_t_text, .inl (G.2.1, 60, .inl t_text)), (a_t_read, .inl (G.2.1, 160, .inl t_read)), (a_t_prices, .inl (G.2.1, 60, .inl t_prices))] := hD
    refine lv_aload_n hx hb dX12_readsPart_57 rfl (lv_at hl 0 rfl) ?_
    refine lv_dup hx hb dX12_readsPart_58 rfl ?_
    refine gf (C := RX12) (T := TX12) (N := 16) (ci := 8) (v := .int t_at) hF hG hP inX12 0 rfl rfl 8 (by decide) q1028 rfl rfl dX12_readsPart_59 ?_
    refine lv_aload_n hx hb dX12_readsPart_62 rfl (lv_at hl 0 rfl) ?_
    refine gf (C := RX12) (T := TX12) (N := 16) (ci := 8) (v := .int j_2) hF hG hP inX12 0 rfl rfl 9 (by decide) q1029 rfl rfl dX12_readsPart_63 ?_
    obtain ⟨j_3, hq, hf⟩ := bd1_some hf
    have J74 : ∀ (H : Heap) (locs : List Loc), va_P G.1 vwCl ([(a_t, .inr (8, [.int t_thrown, .ref a_t_s, .ref a_t_states, .int t_stateMany, .ref a_t_snapshot, .int t_hasSnapshot, .ref a_t_text, .int t_length, .int t_at, .int j_2, .ref a_t_read, .int t_readMany, .ref a_t_prices, .int t_priceMany, .int t_pieceMany, .long t_coins])), (a_t_text, .inl (G.2.1, 60, .inl t_text)), (a_t_read, .inl (G.2.1, 160, .inl t_read)), (a_t_prices, .inl (G.2.1, 60, .inl t_prices))] : va_W) H → va_D A ([(a_t, .inr (8, [.int t_thrown, .ref a_t_s, .ref a_t_states, .int t_stateMany, .ref a_t_snapshot, .int t_hasSnapshot, .ref a_t_text, .int t_length, .int t_at, .int j_2, .ref a_t_read, .int t_readMany, .ref a_t_prices, .int t_priceMany, .int t_pieceMany, .long t_coins])), (a_t_text, .inl (G.2.1, 60, .inl t_text)), (a_t_read, .inl (G.2.1, 160, .inl t_read)), (a_t_prices, .inl (G.2.1, 60, .inl t_prices))] : va_W) → va_S A s.heap H locs → ∀ ls : Array Slot, lv_has ls 3 [(0, .ref a_t), (1, .int (5 * t_readMany)), (2, .int r_1)] → W p l e RM_X12_readsPart s m [.ref a_t].toArray below meth c H locs 0 0 (MQ below (wrQ none G [(a_t, .inr (8, [.int t_thrown, .ref a_t_s, .ref a_t_states, .int t_stateMany, .ref a_t_snapshot, .int t_hasSnapshot, .ref a_t_text, .int t_length, .int w_t_at, .int w_t_isWell, .ref a_t_read, .int w_t_readMany, .ref a_t_prices, .int w_t_priceMany, .int t_pieceMany, .long t_coins])), (a_t_text, .inl (G.2.1, 60, .inl t_text)), (a_t_read, .inl (G.2.1, 160, .inl w_t_read)), (a_t_prices, .inl (G.2.1, 60, .inl w_t_prices))] A) [.ref a_t].toArray s 0 0 A) (F0 m 74 ls [.int j_3, .int t_at, .ref a_t]) := by
      intro H locs hP hD hS ls hl
      refine lv_iadd hx hb dX12_readsPart_74 ?_
      refine pf (C := RX12) (T := TX12) (N := 16) (ci := 8) (v := .int (t_at + j_3)) (ty := .int) hF hG hP hD hS inX12 tyX12 tyX12_ok nmX12 0 rfl rfl 8 (by decide) q1028 rfl rfl (by decide +kernel) rfl rfl (Nat.le_of_ble_eq_true rfl) dX12_readsPart_75 (fun H locs hP hD hS => ?_)
      replace hP : va_P G.1 vwCl [(a_t, .inr (8, [.int t_thrown, .ref a_t_s, .ref a_t_states, .int t_stateMany, .ref a_t_snapshot, .int t_hasSnapshot, .ref a_t_text, .int t_length, .int (t_at + j_3), .int j_2, .ref a_t_read, .int t_readMany, .ref a_t_prices, .int t_priceMany, .int t_pieceMany, .long t_coins])), (a_t_text, .inl (G.2.1, 60, .inl t_text)), (a_t_read, .inl (G.2.1, 160, .inl t_read)), (a_t_prices, .inl (G.2.1, 60, .inl t_prices))] H := hP
      replace hD : va_D A [(a_t, .inr (8, [.int t_thrown, .ref a_t_s, .ref a_t_states, .int t_stateMany, .ref a_t_snapshot, .int t_hasSnapshot, .ref a_t_text, .int t_length, .int (t_at + j_3), .int j_2, .ref a_t_read, .int t_readMany, .ref a_t_prices, .int t_priceMany, .int t_pieceMany, .long t_coins])), (a_t_text, .inl (G.2.1, 60, .inl t_text)), (a_t_read, .inl (G.2.1, 160, .inl t_read)), (a_t_prices, .inl (G.2.1, 60, .inl t_prices))] := hD
      refine lv_aload_n hx hb dX12_readsPart_78 rfl (lv_at hl 0 rfl) ?_
      refine gf (C := RX12) (T := TX12) (N := 16) (ci := 8) (v := .ref a_t_read) hF hG hP inX12 0 rfl rfl 10 (by decide) q1030 rfl rfl dX12_readsPart_79 ?_
      refine lv_iload_n hx hb dX12_readsPart_82 rfl (lv_at hl 1 rfl) ?_
      refine lv_iload_n hx hb dX12_readsPart_83 rfl (lv_at hl 2 rfl) ?_
      obtain ⟨hg, hf⟩ := gd_some hf
      refine ast_i (k := Int32.toNatClampNeg (5 * t_readMany)) hF hG hP hD hS 2 rfl rfl hg dX12_readsPart_84 (fun H locs hP hD hS => ?_)
      replace hP : va_P G.1 vwCl [(a_t, .inr (8, [.int t_thrown, .ref a_t_s, .ref a_t_states, .int t_stateMany, .ref a_t_snapshot, .int t_hasSnapshot, .ref a_t_text, .int t_length, .int (t_at + j_3), .int j_2, .ref a_t_read, .int t_readMany, .ref a_t_prices, .int t_priceMany, .int t_pieceMany, .long t_coins])), (a_t_text, .inl (G.2.1, 60, .inl t_text)), (a_t_read, .inl (G.2.1, 160, .inl (upd t_read (Int32.toNatClampNeg (5 * t_readMany)) r_1))), (a_t_prices, .inl (G.2.1, 60, .inl t_prices))] H := hP
      replace hD : va_D A [(a_t, .inr (8, [.int t_thrown, .ref a_t_s, .ref a_t_states, .int t_stateMany, .ref a_t_snapshot, .int t_hasSnapshot, .ref a_t_text, .int t_length, .int (t_at + j_3), .int j_2, .ref a_t_read, .int t_readMany, .ref a_t_prices, .int t_priceMany, .int t_pieceMany, .long t_coins])), (a_t_text, .inl (G.2.1, 60, .inl t_text)), (a_t_read, .inl (G.2.1, 160, .inl (upd t_read (Int32.toNatClampNeg (5 * t_readMany)) r_1))), (a_t_prices, .inl (G.2.1, 60, .inl t_prices))] := hD
      refine lv_aload_n hx hb dX12_readsPart_85 rfl (lv_at hl 0 rfl) ?_
      refine gf (C := RX12) (T := TX12) (N := 16) (ci := 8) (v := .ref a_t_read) hF hG hP inX12 0 rfl rfl 10 (by decide) q1030 rfl rfl dX12_readsPart_86 ?_
      refine lv_iload_n hx hb dX12_readsPart_89 rfl (lv_at hl 1 rfl) ?_
      refine lv_iconst (v := 3) hx hb dX12_readsPart_90 (by decide) ?_
      refine lv_iadd hx hb dX12_readsPart_91 ?_
      refine lv_aload_n hx hb dX12_readsPart_92 rfl (lv_at hl 0 rfl) ?_
      refine gf (C := RX12) (T := TX12) (N := 16) (ci := 8) (v := .int t_priceMany) hF hG hP inX12 0 rfl rfl 13 (by decide) q1033 rfl rfl dX12_readsPart_93 ?_
      obtain ⟨hg, hf⟩ := gd_some hf
      refine ast_i (k := Int32.toNatClampNeg ((5 * t_readMany) + 3)) hF hG hP hD hS 2 rfl rfl hg dX12_readsPart_96 (fun H locs hP hD hS => ?_)
      replace hP : va_P G.1 vwCl [(a_t, .inr (8, [.int t_thrown, .ref a_t_s, .ref a_t_states, .int t_stateMany, .ref a_t_snapshot, .int t_hasSnapshot, .ref a_t_text, .int t_length, .int (t_at + j_3), .int j_2, .ref a_t_read, .int t_readMany, .ref a_t_prices, .int t_priceMany, .int t_pieceMany, .long t_coins])), (a_t_text, .inl (G.2.1, 60, .inl t_text)), (a_t_read, .inl (G.2.1, 160, .inl (upd (upd t_read (Int32.toNatClampNeg (5 * t_readMany)) r_1) (Int32.toNatClampNeg ((5 * t_readMany) + 3)) t_priceMany))), (a_t_prices, .inl (G.2.1, 60, .inl t_prices))] H := hP
      replace hD : va_D A [(a_t, .inr (8, [.int t_thrown, .ref a_t_s, .ref a_t_states, .int t_stateMany, .ref a_t_snapshot, .int t_hasSnapshot, .ref a_t_text, .int t_length, .int (t_at + j_3), .int j_2, .ref a_t_read, .int t_readMany, .ref a_t_prices, .int t_priceMany, .int t_pieceMany, .long t_coins])), (a_t_text, .inl (G.2.1, 60, .inl t_text)), (a_t_read, .inl (G.2.1, 160, .inl (upd (upd t_read (Int32.toNatClampNeg (5 * t_readMany)) r_1) (Int32.toNatClampNeg ((5 * t_readMany) + 3)) t_priceMany))), (a_t_prices, .inl (G.2.1, 60, .inl t_prices))] := hD
      refine lv_aload_n hx hb dX12_readsPart_97 rfl (lv_at hl 0 rfl) ?_
      refine gf (C := RX12) (T := TX12) (N := 16) (ci := 8) (v := .ref a_t_read) hF hG hP inX12 0 rfl rfl 10 (by decide) q1030 rfl rfl dX12_readsPart_98 ?_
      refine lv_iload_n hx hb dX12_readsPart_101 rfl (lv_at hl 1 rfl) ?_
      refine lv_iconst (v := 4) hx hb dX12_readsPart_102 (by decide) ?_
      refine lv_iadd hx hb dX12_readsPart_103 ?_
      refine lv_iconst (v := 0) hx hb dX12_readsPart_104 (by decide) ?_
      obtain ⟨hg, hf⟩ := gd_some hf
      refine ast_i (k := Int32.toNatClampNeg ((5 * t_readMany) + 4)) hF hG hP hD hS 2 rfl rfl hg dX12_readsPart_105 (fun H locs hP hD hS => ?_)
      replace hP : va_P G.1 vwCl [(a_t, .inr (8, [.int t_thrown, .ref a_t_s, .ref a_t_states, .int t_stateMany, .ref a_t_snapshot, .int t_hasSnapshot, .ref a_t_text, .int t_length, .int (t_at + j_3), .int j_2, .ref a_t_read, .int t_readMany, .ref a_t_prices, .int t_priceMany, .int t_pieceMany, .long t_coins])), (a_t_text, .inl (G.2.1, 60, .inl t_text)), (a_t_read, .inl (G.2.1, 160, .inl (upd (upd (upd t_read (Int32.toNatClampNeg (5 * t_readMany)) r_1) (Int32.toNatClampNeg ((5 * t_readMany) + 3)) t_priceMany) (Int32.toNatClampNeg ((5 * t_readMany) + 4)) 0))), (a_t_prices, .inl (G.2.1, 60, .inl t_prices))] H := hP
      replace hD : va_D A [(a_t, .inr (8, [.int t_thrown, .ref a_t_s, .ref a_t_states, .int t_stateMany, .ref a_t_snapshot, .int t_hasSnapshot, .ref a_t_text, .int t_length, .int (t_at + j_3), .int j_2, .ref a_t_read, .int t_readMany, .ref a_t_prices, .int t_priceMany, .int t_pieceMany, .long t_coins])), (a_t_text, .inl (G.2.1, 60, .inl t_text)), (a_t_read, .inl (G.2.1, 160, .inl (upd (upd (upd t_read (Int32.toNatClampNeg (5 * t_readMany)) r_1) (Int32.toNatClampNeg ((5 * t_readMany) + 3)) t_priceMany) (Int32.toNatClampNeg ((5 * t_readMany) + 4)) 0))), (a_t_prices, .inl (G.2.1, 60, .inl t_prices))] := hD
      refine lv_iload_n hx hb dX12_readsPart_106 rfl (lv_at hl 2 rfl) ?_
      refine lv_bipush (v := 112) hx hb dX12_readsPart_107 (by decide) ?_
      obtain ⟨t_at_4, t_isWell_5, t_priceMany_6, t_read_7, t_prices_8, hq, hf⟩ := bd5_some hf
      have J236 : ∀ (H : Heap) (locs : List Loc), va_P G.1 vwCl ([(a_t, .inr (8, [.int t_thrown, .ref a_t_s, .ref a_t_states, .int t_stateMany, .ref a_t_snapshot, .int t_hasSnapshot, .ref a_t_text, .int t_length, .int t_at_4, .int t_isWell_5, .ref a_t_read, .int t_readMany, .ref a_t_prices, .int t_priceMany_6, .int t_pieceMany, .long t_coins])), (a_t_text, .inl (G.2.1, 60, .inl t_text)), (a_t_read, .inl (G.2.1, 160, .inl t_read_7)), (a_t_prices, .inl (G.2.1, 60, .inl t_prices_8))] : va_W) H → va_D A ([(a_t, .inr (8, [.int t_thrown, .ref a_t_s, .ref a_t_states, .int t_stateMany, .ref a_t_snapshot, .int t_hasSnapshot, .ref a_t_text, .int t_length, .int t_at_4, .int t_isWell_5, .ref a_t_read, .int t_readMany, .ref a_t_prices, .int t_priceMany_6, .int t_pieceMany, .long t_coins])), (a_t_text, .inl (G.2.1, 60, .inl t_text)), (a_t_read, .inl (G.2.1, 160, .inl t_read_7)), (a_t_prices, .inl (G.2.1, 60, .inl t_prices_8))] : va_W) → va_S A s.heap H locs → ∀ ls : Array Slot, lv_has ls 3 [(0, .ref a_t)] → W p l e RM_X12_readsPart s m [.ref a_t].toArray below meth c H locs 0 0 (MQ below (wrQ none G [(a_t, .inr (8, [.int t_thrown, .ref a_t_s, .ref a_t_states, .int t_stateMany, .ref a_t_snapshot, .int t_hasSnapshot, .ref a_t_text, .int t_length, .int w_t_at, .int w_t_isWell, .ref a_t_read, .int w_t_readMany, .ref a_t_prices, .int w_t_priceMany, .int t_pieceMany, .long t_coins])), (a_t_text, .inl (G.2.1, 60, .inl t_text)), (a_t_read, .inl (G.2.1, 160, .inl w_t_read)), (a_t_prices, .inl (G.2.1, 60, .inl w_t_prices))] A) [.ref a_t].toArray s 0 0 A) (F0 m 236 ls []) := by
        intro H locs hP hD hS ls hl
        refine lv_aload_n hx hb dX12_readsPart_236 rfl (lv_at hl 0 rfl) ?_
        refine lv_dup hx hb dX12_readsPart_237 rfl ?_
        refine gf (C := RX12) (T := TX12) (N := 16) (ci := 8) (v := .int t_readMany) hF hG hP inX12 0 rfl rfl 11 (by decide) q1031 rfl rfl dX12_readsPart_238 ?_
        refine lv_aload_n hx hb dX12_readsPart_241 rfl (lv_at hl 0 rfl) ?_
        refine gf (C := RX12) (T := TX12) (N := 16) (ci := 8) (v := .int t_isWell_5) hF hG hP inX12 0 rfl rfl 9 (by decide) q1029 rfl rfl dX12_readsPart_242 ?_
        obtain ⟨j_32, hq, hf⟩ := bd1_some hf
        have J253 : ∀ (H : Heap) (locs : List Loc), va_P G.1 vwCl ([(a_t, .inr (8, [.int t_thrown, .ref a_t_s, .ref a_t_states, .int t_stateMany, .ref a_t_snapshot, .int t_hasSnapshot, .ref a_t_text, .int t_length, .int t_at_4, .int t_isWell_5, .ref a_t_read, .int t_readMany, .ref a_t_prices, .int t_priceMany_6, .int t_pieceMany, .long t_coins])), (a_t_text, .inl (G.2.1, 60, .inl t_text)), (a_t_read, .inl (G.2.1, 160, .inl t_read_7)), (a_t_prices, .inl (G.2.1, 60, .inl t_prices_8))] : va_W) H → va_D A ([(a_t, .inr (8, [.int t_thrown, .ref a_t_s, .ref a_t_states, .int t_stateMany, .ref a_t_snapshot, .int t_hasSnapshot, .ref a_t_text, .int t_length, .int t_at_4, .int t_isWell_5, .ref a_t_read, .int t_readMany, .ref a_t_prices, .int t_priceMany_6, .int t_pieceMany, .long t_coins])), (a_t_text, .inl (G.2.1, 60, .inl t_text)), (a_t_read, .inl (G.2.1, 160, .inl t_read_7)), (a_t_prices, .inl (G.2.1, 60, .inl t_prices_8))] : va_W) → va_S A s.heap H locs → ∀ ls : Array Slot, lv_has ls 3 [] → W p l e RM_X12_readsPart s m [.ref a_t].toArray below meth c H locs 0 0 (MQ below (wrQ none G [(a_t, .inr (8, [.int t_thrown, .ref a_t_s, .ref a_t_states, .int t_stateMany, .ref a_t_snapshot, .int t_hasSnapshot, .ref a_t_text, .int t_length, .int w_t_at, .int w_t_isWell, .ref a_t_read, .int w_t_readMany, .ref a_t_prices, .int w_t_priceMany, .int t_pieceMany, .long t_coins])), (a_t_text, .inl (G.2.1, 60, .inl t_text)), (a_t_read, .inl (G.2.1, 160, .inl w_t_read)), (a_t_prices, .inl (G.2.1, 60, .inl w_t_prices))] A) [.ref a_t].toArray s 0 0 A) (F0 m 253 ls [.int j_32, .int t_readMany, .ref a_t]) := by
          intro H locs hP hD hS ls hl
          refine lv_iadd hx hb dX12_readsPart_253 ?_
          refine pf (C := RX12) (T := TX12) (N := 16) (ci := 8) (v := .int (t_readMany + j_32)) (ty := .int) hF hG hP hD hS inX12 tyX12 tyX12_ok nmX12 0 rfl rfl 11 (by decide) q1031 rfl rfl (by decide +kernel) rfl rfl (Nat.le_of_ble_eq_true rfl) dX12_readsPart_254 (fun H locs hP hD hS => ?_)
          replace hP : va_P G.1 vwCl [(a_t, .inr (8, [.int t_thrown, .ref a_t_s, .ref a_t_states, .int t_stateMany, .ref a_t_snapshot, .int t_hasSnapshot, .ref a_t_text, .int t_length, .int t_at_4, .int t_isWell_5, .ref a_t_read, .int (t_readMany + j_32), .ref a_t_prices, .int t_priceMany_6, .int t_pieceMany, .long t_coins])), (a_t_text, .inl (G.2.1, 60, .inl t_text)), (a_t_read, .inl (G.2.1, 160, .inl t_read_7)), (a_t_prices, .inl (G.2.1, 60, .inl t_prices_8))] H := hP
          replace hD : va_D A [(a_t, .inr (8, [.int t_thrown, .ref a_t_s, .ref a_t_states, .int t_stateMany, .ref a_t_snapshot, .int t_hasSnapshot, .ref a_t_text, .int t_length, .int t_at_4, .int t_isWell_5, .ref a_t_read, .int (t_readMany + j_32), .ref a_t_prices, .int t_priceMany_6, .int t_pieceMany, .long t_coins])), (a_t_text, .inl (G.2.1, 60, .inl t_text)), (a_t_read, .inl (G.2.1, 160, .inl t_read_7)), (a_t_prices, .inl (G.2.1, 60, .inl t_prices_8))] := hD
          have hf : (some (t_at_4, t_isWell_5, (t_readMany + j_32), t_priceMany_6, t_read_7, t_prices_8) : Option (Int32 × Int32 × Int32 × Int32 × (Nat → Int32) × (Nat → Int32))) = some (w_t_at, w_t_isWell, w_t_readMany, w_t_priceMany, w_t_read, w_t_prices) := hf
          cases hf
          exact we_v hF hr hlk hP hD hS dX12_readsPart_257 rfl
        clear hf
        have hf := hq
        clear hq
        refine lv_if_eq (tgt := 252) hx hb dX12_readsPart_245 (by decide) (fun c0 => ?_) (fun c0 => ?_)
        · have hf := (if_pos c0).symm.trans hf
          refine lv_iconst (v := 0) hx hb dX12_readsPart_252 (by decide) ?_
          have hf : (some 0 : Option (Int32)) = some j_32 := hf
          cases hf
          exact J253 _ _ hP hD hS ls (lv_sub hl [] rfl)
        · have hf := (if_neg c0).symm.trans hf
          refine lv_iconst (v := 1) hx hb dX12_readsPart_248 (by decide) ?_
          refine lv_goto (tgt := 253) hx hb dX12_readsPart_249 (by decide) ?_
          have hf : (some 1 : Option (Int32)) = some j_32 := hf
          cases hf
          exact J253 _ _ hP hD hS ls (lv_sub hl [] rfl)
      clear hf
      have hf := hq
      clear hq
      refine lv_icmp_ne (tgt := 120) hx hb dX12_readsPart_109 (by decide) (fun c0 => ?_) (fun c0 => ?_)
      · have hf := (if_neg c0).symm.trans hf
        refine lv_iload_n hx hb dX12_readsPart_120 rfl (lv_at hl 2 rfl) ?_
        refine lv_bipush (v := 119) hx hb dX12_readsPart_121 (by decide) ?_
        refine lv_icmp_ne (tgt := 165) hx hb dX12_readsPart_123 (by decide) (fun c0 => ?_) (fun c0 => ?_)
        · have hf := (if_neg c0).symm.trans hf
          refine lv_iload_n hx hb dX12_readsPart_165 rfl (lv_at hl 2 rfl) ?_
          refine lv_bipush (v := 109) hx hb dX12_readsPart_166 (by decide) ?_
          refine lv_icmp_ne (tgt := 190) hx hb dX12_readsPart_168 (by decide) (fun c0 => ?_) (fun c0 => ?_)
          · have hf := (if_neg c0).symm.trans hf
            refine lv_iload_n hx hb dX12_readsPart_190 rfl (lv_at hl 2 rfl) ?_
            refine lv_bipush (v := 108) hx hb dX12_readsPart_191 (by decide) ?_
            refine lv_icmp_ne (tgt := 215) hx hb dX12_readsPart_193 (by decide) (fun c0 => ?_) (fun c0 => ?_)
            · have hf := (if_neg c0).symm.trans hf
              refine lv_iload_n hx hb dX12_readsPart_215 rfl (lv_at hl 2 rfl) ?_
              refine lv_bipush (v := 120) hx hb dX12_readsPart_216 (by decide) ?_
              refine lv_icmp_ne (tgt := 236) hx hb dX12_readsPart_218 (by decide) (fun c0 => ?_) (fun c0 => ?_)
              · have hf := (if_neg c0).symm.trans hf
                have hf : (some ((t_at + j_3), j_2, t_priceMany, (upd (upd (upd t_read (Int32.toNatClampNeg (5 * t_readMany)) r_1) (Int32.toNatClampNeg ((5 * t_readMany) + 3)) t_priceMany) (Int32.toNatClampNeg ((5 * t_readMany) + 4)) 0), t_prices) : Option (Int32 × Int32 × Int32 × (Nat → Int32) × (Nat → Int32))) = some (t_at_4, t_isWell_5, t_priceMany_6, t_read_7, t_prices_8) := hf
                cases hf
                exact J236 _ _ hP hD hS ls (lv_sub hl [0] rfl)
              · have hf := (if_pos c0).symm.trans hf
                refine lv_aload_n hx hb dX12_readsPart_221 rfl (lv_at hl 0 rfl) ?_
                refine gf (C := RX12) (T := TX12) (N := 16) (ci := 8) (v := .ref a_t_read) hF hG hP inX12 0 rfl rfl 10 (by decide) q1030 rfl rfl dX12_readsPart_222 ?_
                refine lv_iload_n hx hb dX12_readsPart_225 rfl (lv_at hl 1 rfl) ?_
                refine lv_iconst (v := 1) hx hb dX12_readsPart_226 (by decide) ?_
                refine lv_iadd hx hb dX12_readsPart_227 ?_
                refine lv_aload_n hx hb dX12_readsPart_228 rfl (lv_at hl 0 rfl) ?_
                refine lv_iconst (v := 0) hx hb dX12_readsPart_229 (by decide) ?_
                refine lv_bipush (v := 59) hx hb dX12_readsPart_230 (by decide) ?_
                obtain ⟨r_9, t_at_10, t_isWell_11, hq, hf⟩ := bd3_some hf
                refine wrV (As := [.int 0, .int 59]) (rest := [.int ((5 * t_readMany) + 1), .ref a_t_read]) (wn := [(a_t, .inr (8, [.int t_thrown, .ref a_t_s, .ref a_t_states, .int t_stateMany, .ref a_t_snapshot, .int t_hasSnapshot, .ref a_t_text, .int t_length, .int t_at_10, .int t_isWell_11, .ref a_t_read, .int t_readMany, .ref a_t_prices, .int t_priceMany, .int t_pieceMany, .long t_coins])), (a_t_text, .inl (G.2.1, 60, .inl t_text)), (a_t_read, .inl (G.2.1, 160, .inl (upd (upd (upd t_read (Int32.toNatClampNeg (5 * t_readMany)) r_1) (Int32.toNatClampNeg ((5 * t_readMany) + 3)) t_priceMany) (Int32.toNatClampNeg ((5 * t_readMany) + 4)) 0))), (a_t_prices, .inl (G.2.1, 60, .inl t_prices))]) hF hG hP hD hS hA hl.1 (c_X12_number l G a_t t_thrown a_t_s a_t_states t_stateMany a_t_snapshot t_hasSnapshot t_length (t_at + j_3) j_2 a_t_read t_readMany a_t_prices t_priceMany t_pieceMany t_coins a_t_text t_text 0 59 r_9 t_at_10 t_isWell_11 hq) k_X12_number q1186 [0, 1] [2, 3] [2, 3, 0, 1] rfl rfl rfl rfl ⟨rfl, rfl⟩ (by decide) ⟨0, 8, _, _, rfl, rfl, rfl⟩ rfl rfl (Nat.le_of_ble_eq_true rfl) ⟨(Nat.le_of_ble_eq_true rfl), (Nat.le_of_ble_eq_true rfl)⟩ ⟨(Nat.le_of_ble_eq_true rfl), (Nat.le_of_ble_eq_true rfl)⟩ dX12_readsPart_232 (fun H locs hP hD hS => ?_)
                obtain ⟨hg, hf⟩ := gd_some hf
                refine ast_i (k := Int32.toNatClampNeg ((5 * t_readMany) + 1)) hF hG hP hD hS 2 rfl rfl hg dX12_readsPart_235 (fun H locs hP hD hS => ?_)
                replace hP : va_P G.1 vwCl [(a_t, .inr (8, [.int t_thrown, .ref a_t_s, .ref a_t_states, .int t_stateMany, .ref a_t_snapshot, .int t_hasSnapshot, .ref a_t_text, .int t_length, .int t_at_10, .int t_isWell_11, .ref a_t_read, .int t_readMany, .ref a_t_prices, .int t_priceMany, .int t_pieceMany, .long t_coins])), (a_t_text, .inl (G.2.1, 60, .inl t_text)), (a_t_read, .inl (G.2.1, 160, .inl (upd (upd (upd (upd t_read (Int32.toNatClampNeg (5 * t_readMany)) r_1) (Int32.toNatClampNeg ((5 * t_readMany) + 3)) t_priceMany) (Int32.toNatClampNeg ((5 * t_readMany) + 4)) 0) (Int32.toNatClampNeg ((5 * t_readMany) + 1)) r_9))), (a_t_prices, .inl (G.2.1, 60, .inl t_prices))] H := hP
                replace hD : va_D A [(a_t, .inr (8, [.int t_thrown, .ref a_t_s, .ref a_t_states, .int t_stateMany, .ref a_t_snapshot, .int t_hasSnapshot, .ref a_t_text, .int t_length, .int t_at_10, .int t_isWell_11, .ref a_t_read, .int t_readMany, .ref a_t_prices, .int t_priceMany, .int t_pieceMany, .long t_coins])), (a_t_text, .inl (G.2.1, 60, .inl t_text)), (a_t_read, .inl (G.2.1, 160, .inl (upd (upd (upd (upd t_read (Int32.toNatClampNeg (5 * t_readMany)) r_1) (Int32.toNatClampNeg ((5 * t_readMany) + 3)) t_priceMany) (Int32.toNatClampNeg ((5 * t_readMany) + 4)) 0) (Int32.toNatClampNeg ((5 * t_readMany) + 1)) r_9))), (a_t_prices, .inl (G.2.1, 60, .inl t_prices))] := hD
                have hf : (some (t_at_10, t_isWell_11, t_priceMany, (upd (upd (upd (upd t_read (Int32.toNatClampNeg (5 * t_readMany)) r_1) (Int32.toNatClampNeg ((5 * t_readMany) + 3)) t_priceMany) (Int32.toNatClampNeg ((5 * t_readMany) + 4)) 0) (Int32.toNatClampNeg ((5 * t_readMany) + 1)) r_9), t_prices) : Option (Int32 × Int32 × Int32 × (Nat → Int32) × (Nat → Int32))) = some (t_at_4, t_isWell_5, t_priceMany_6, t_read_7, t_prices_8) := hf
                cases hf
                exact J236 _ _ hP hD hS ls (lv_sub hl [0] rfl)
            · have hf := (if_pos c0).symm.trans hf
              refine lv_aload_n hx hb dX12_readsPart_196 rfl (lv_at hl 0 rfl) ?_
              refine gf (C := RX12) (T := TX12) (N := 16) (ci := 8) (v := .ref a_t_read) hF hG hP inX12 0 rfl rfl 10 (by decide) q1030 rfl rfl dX12_readsPart_197 ?_
              refine lv_iload_n hx hb dX12_readsPart_200 rfl (lv_at hl 1 rfl) ?_
              refine lv_iconst (v := 1) hx hb dX12_readsPart_201 (by decide) ?_
              refine lv_iadd hx hb dX12_readsPart_202 ?_
              refine lv_aload_n hx hb dX12_readsPart_203 rfl (lv_at hl 0 rfl) ?_
              refine lv_iconst (v := 0) hx hb dX12_readsPart_204 (by decide) ?_
              refine lv_sipush (v := 9999) hx hb dX12_readsPart_205 (by decide) ?_
              obtain ⟨r_12, t_at_13, t_isWell_14, hq, hf⟩ := bd3_some hf
              refine wrV (As := [.int 0, .int 9999]) (rest := [.int ((5 * t_readMany) + 1), .ref a_t_read]) (wn := [(a_t, .inr (8, [.int t_thrown, .ref a_t_s, .ref a_t_states, .int t_stateMany, .ref a_t_snapshot, .int t_hasSnapshot, .ref a_t_text, .int t_length, .int t_at_13, .int t_isWell_14, .ref a_t_read, .int t_readMany, .ref a_t_prices, .int t_priceMany, .int t_pieceMany, .long t_coins])), (a_t_text, .inl (G.2.1, 60, .inl t_text)), (a_t_read, .inl (G.2.1, 160, .inl (upd (upd (upd t_read (Int32.toNatClampNeg (5 * t_readMany)) r_1) (Int32.toNatClampNeg ((5 * t_readMany) + 3)) t_priceMany) (Int32.toNatClampNeg ((5 * t_readMany) + 4)) 0))), (a_t_prices, .inl (G.2.1, 60, .inl t_prices))]) hF hG hP hD hS hA hl.1 (c_X12_number l G a_t t_thrown a_t_s a_t_states t_stateMany a_t_snapshot t_hasSnapshot t_length (t_at + j_3) j_2 a_t_read t_readMany a_t_prices t_priceMany t_pieceMany t_coins a_t_text t_text 0 9999 r_12 t_at_13 t_isWell_14 hq) k_X12_number q1186 [0, 1] [2, 3] [2, 3, 0, 1] rfl rfl rfl rfl ⟨rfl, rfl⟩ (by decide) ⟨0, 8, _, _, rfl, rfl, rfl⟩ rfl rfl (Nat.le_of_ble_eq_true rfl) ⟨(Nat.le_of_ble_eq_true rfl), (Nat.le_of_ble_eq_true rfl)⟩ ⟨(Nat.le_of_ble_eq_true rfl), (Nat.le_of_ble_eq_true rfl)⟩ dX12_readsPart_208 (fun H locs hP hD hS => ?_)
              obtain ⟨hg, hf⟩ := gd_some hf
              refine ast_i (k := Int32.toNatClampNeg ((5 * t_readMany) + 1)) hF hG hP hD hS 2 rfl rfl hg dX12_readsPart_211 (fun H locs hP hD hS => ?_)
              replace hP : va_P G.1 vwCl [(a_t, .inr (8, [.int t_thrown, .ref a_t_s, .ref a_t_states, .int t_stateMany, .ref a_t_snapshot, .int t_hasSnapshot, .ref a_t_text, .int t_length, .int t_at_13, .int t_isWell_14, .ref a_t_read, .int t_readMany, .ref a_t_prices, .int t_priceMany, .int t_pieceMany, .long t_coins])), (a_t_text, .inl (G.2.1, 60, .inl t_text)), (a_t_read, .inl (G.2.1, 160, .inl (upd (upd (upd (upd t_read (Int32.toNatClampNeg (5 * t_readMany)) r_1) (Int32.toNatClampNeg ((5 * t_readMany) + 3)) t_priceMany) (Int32.toNatClampNeg ((5 * t_readMany) + 4)) 0) (Int32.toNatClampNeg ((5 * t_readMany) + 1)) r_12))), (a_t_prices, .inl (G.2.1, 60, .inl t_prices))] H := hP
              replace hD : va_D A [(a_t, .inr (8, [.int t_thrown, .ref a_t_s, .ref a_t_states, .int t_stateMany, .ref a_t_snapshot, .int t_hasSnapshot, .ref a_t_text, .int t_length, .int t_at_13, .int t_isWell_14, .ref a_t_read, .int t_readMany, .ref a_t_prices, .int t_priceMany, .int t_pieceMany, .long t_coins])), (a_t_text, .inl (G.2.1, 60, .inl t_text)), (a_t_read, .inl (G.2.1, 160, .inl (upd (upd (upd (upd t_read (Int32.toNatClampNeg (5 * t_readMany)) r_1) (Int32.toNatClampNeg ((5 * t_readMany) + 3)) t_priceMany) (Int32.toNatClampNeg ((5 * t_readMany) + 4)) 0) (Int32.toNatClampNeg ((5 * t_readMany) + 1)) r_12))), (a_t_prices, .inl (G.2.1, 60, .inl t_prices))] := hD
              refine lv_goto (tgt := 236) hx hb dX12_readsPart_212 (by decide) ?_
              have hf : (some (t_at_13, t_isWell_14, t_priceMany, (upd (upd (upd (upd t_read (Int32.toNatClampNeg (5 * t_readMany)) r_1) (Int32.toNatClampNeg ((5 * t_readMany) + 3)) t_priceMany) (Int32.toNatClampNeg ((5 * t_readMany) + 4)) 0) (Int32.toNatClampNeg ((5 * t_readMany) + 1)) r_12), t_prices) : Option (Int32 × Int32 × Int32 × (Nat → Int32) × (Nat → Int32))) = some (t_at_4, t_isWell_5, t_priceMany_6, t_read_7, t_prices_8) := hf
              cases hf
              exact J236 _ _ hP hD hS ls (lv_sub hl [0] rfl)
          · have hf := (if_pos c0).symm.trans hf
            refine lv_aload_n hx hb dX12_readsPart_171 rfl (lv_at hl 0 rfl) ?_
            refine gf (C := RX12) (T := TX12) (N := 16) (ci := 8) (v := .ref a_t_read) hF hG hP inX12 0 rfl rfl 10 (by decide) q1030 rfl rfl dX12_readsPart_172 ?_
            refine lv_iload_n hx hb dX12_readsPart_175 rfl (lv_at hl 1 rfl) ?_
            refine lv_iconst (v := 1) hx hb dX12_readsPart_176 (by decide) ?_
            refine lv_iadd hx hb dX12_readsPart_177 ?_
            refine lv_aload_n hx hb dX12_readsPart_178 rfl (lv_at hl 0 rfl) ?_
            refine lv_bipush (v := 48) hx hb dX12_readsPart_179 (by decide) ?_
            refine lv_bipush (v := 57) hx hb dX12_readsPart_181 (by decide) ?_
            obtain ⟨r_15, t_at_16, t_isWell_17, hq, hf⟩ := bd3_some hf
            refine wrV (As := [.int 48, .int 57]) (rest := [.int ((5 * t_readMany) + 1), .ref a_t_read]) (wn := [(a_t, .inr (8, [.int t_thrown, .ref a_t_s, .ref a_t_states, .int t_stateMany, .ref a_t_snapshot, .int t_hasSnapshot, .ref a_t_text, .int t_length, .int t_at_16, .int t_isWell_17, .ref a_t_read, .int t_readMany, .ref a_t_prices, .int t_priceMany, .int t_pieceMany, .long t_coins])), (a_t_text, .inl (G.2.1, 60, .inl t_text)), (a_t_read, .inl (G.2.1, 160, .inl (upd (upd (upd t_read (Int32.toNatClampNeg (5 * t_readMany)) r_1) (Int32.toNatClampNeg ((5 * t_readMany) + 3)) t_priceMany) (Int32.toNatClampNeg ((5 * t_readMany) + 4)) 0))), (a_t_prices, .inl (G.2.1, 60, .inl t_prices))]) hF hG hP hD hS hA hl.1 (c_X12_takes l G a_t t_thrown a_t_s a_t_states t_stateMany a_t_snapshot t_hasSnapshot t_length (t_at + j_3) j_2 a_t_read t_readMany a_t_prices t_priceMany t_pieceMany t_coins a_t_text t_text 48 57 r_15 t_at_16 t_isWell_17 hq) k_X12_takes q1190 [0, 1] [2, 3] [2, 3, 0, 1] rfl rfl rfl rfl ⟨rfl, rfl⟩ (by decide) ⟨0, 8, _, _, rfl, rfl, rfl⟩ rfl rfl (Nat.le_of_ble_eq_true rfl) ⟨(Nat.le_of_ble_eq_true rfl), (Nat.le_of_ble_eq_true rfl)⟩ ⟨(Nat.le_of_ble_eq_true rfl), (Nat.le_of_ble_eq_true rfl)⟩ dX12_readsPart_183 (fun H locs hP hD hS => ?_)
            obtain ⟨hg, hf⟩ := gd_some hf
            refine ast_i (k := Int32.toNatClampNeg ((5 * t_readMany) + 1)) hF hG hP hD hS 2 rfl rfl hg dX12_readsPart_186 (fun H locs hP hD hS => ?_)
            replace hP : va_P G.1 vwCl [(a_t, .inr (8, [.int t_thrown, .ref a_t_s, .ref a_t_states, .int t_stateMany, .ref a_t_snapshot, .int t_hasSnapshot, .ref a_t_text, .int t_length, .int t_at_16, .int t_isWell_17, .ref a_t_read, .int t_readMany, .ref a_t_prices, .int t_priceMany, .int t_pieceMany, .long t_coins])), (a_t_text, .inl (G.2.1, 60, .inl t_text)), (a_t_read, .inl (G.2.1, 160, .inl (upd (upd (upd (upd t_read (Int32.toNatClampNeg (5 * t_readMany)) r_1) (Int32.toNatClampNeg ((5 * t_readMany) + 3)) t_priceMany) (Int32.toNatClampNeg ((5 * t_readMany) + 4)) 0) (Int32.toNatClampNeg ((5 * t_readMany) + 1)) r_15))), (a_t_prices, .inl (G.2.1, 60, .inl t_prices))] H := hP
            replace hD : va_D A [(a_t, .inr (8, [.int t_thrown, .ref a_t_s, .ref a_t_states, .int t_stateMany, .ref a_t_snapshot, .int t_hasSnapshot, .ref a_t_text, .int t_length, .int t_at_16, .int t_isWell_17, .ref a_t_read, .int t_readMany, .ref a_t_prices, .int t_priceMany, .int t_pieceMany, .long t_coins])), (a_t_text, .inl (G.2.1, 60, .inl t_text)), (a_t_read, .inl (G.2.1, 160, .inl (upd (upd (upd (upd t_read (Int32.toNatClampNeg (5 * t_readMany)) r_1) (Int32.toNatClampNeg ((5 * t_readMany) + 3)) t_priceMany) (Int32.toNatClampNeg ((5 * t_readMany) + 4)) 0) (Int32.toNatClampNeg ((5 * t_readMany) + 1)) r_15))), (a_t_prices, .inl (G.2.1, 60, .inl t_prices))] := hD
            refine lv_goto (tgt := 236) hx hb dX12_readsPart_187 (by decide) ?_
            have hf : (some (t_at_16, t_isWell_17, t_priceMany, (upd (upd (upd (upd t_read (Int32.toNatClampNeg (5 * t_readMany)) r_1) (Int32.toNatClampNeg ((5 * t_readMany) + 3)) t_priceMany) (Int32.toNatClampNeg ((5 * t_readMany) + 4)) 0) (Int32.toNatClampNeg ((5 * t_readMany) + 1)) r_15), t_prices) : Option (Int32 × Int32 × Int32 × (Nat → Int32) × (Nat → Int32))) = some (t_at_4, t_isWell_5, t_priceMany_6, t_read_7, t_prices_8) := hf
            cases hf
            exact J236 _ _ hP hD hS ls (lv_sub hl [0] rfl)
        · have hf := (if_pos c0).symm.trans hf
          refine lv_aload_n hx hb dX12_readsPart_126 rfl (lv_at hl 0 rfl) ?_
          refine gf (C := RX12) (T := TX12) (N := 16) (ci := 8) (v := .ref a_t_read) hF hG hP inX12 0 rfl rfl 10 (by decide) q1030 rfl rfl dX12_readsPart_127 ?_
          refine lv_iload_n hx hb dX12_readsPart_130 rfl (lv_at hl 1 rfl) ?_
          refine lv_iconst (v := 1) hx hb dX12_readsPart_131 (by decide) ?_
          refine lv_iadd hx hb dX12_readsPart_132 ?_
          refine lv_aload_n hx hb dX12_readsPart_133 rfl (lv_at hl 0 rfl) ?_
          refine lv_iconst (v := 1) hx hb dX12_readsPart_134 (by decide) ?_
          refine lv_bipush (v := 10) hx hb dX12_readsPart_135 (by decide) ?_
          obtain ⟨r_18, t_at_19, t_isWell_20, hq, hf⟩ := bd3_some hf
          refine wrV (As := [.int 1, .int 10]) (rest := [.int ((5 * t_readMany) + 1), .ref a_t_read]) (wn := [(a_t, .inr (8, [.int t_thrown, .ref a_t_s, .ref a_t_states, .int t_stateMany, .ref a_t_snapshot, .int t_hasSnapshot, .ref a_t_text, .int t_length, .int t_at_19, .int t_isWell_20, .ref a_t_read, .int t_readMany, .ref a_t_prices, .int t_priceMany, .int t_pieceMany, .long t_coins])), (a_t_text, .inl (G.2.1, 60, .inl t_text)), (a_t_read, .inl (G.2.1, 160, .inl (upd (upd (upd t_read (Int32.toNatClampNeg (5 * t_readMany)) r_1) (Int32.toNatClampNeg ((5 * t_readMany) + 3)) t_priceMany) (Int32.toNatClampNeg ((5 * t_readMany) + 4)) 0))), (a_t_prices, .inl (G.2.1, 60, .inl t_prices))]) hF hG hP hD hS hA hl.1 (c_X12_number l G a_t t_thrown a_t_s a_t_states t_stateMany a_t_snapshot t_hasSnapshot t_length (t_at + j_3) j_2 a_t_read t_readMany a_t_prices t_priceMany t_pieceMany t_coins a_t_text t_text 1 10 r_18 t_at_19 t_isWell_20 hq) k_X12_number q1186 [0, 1] [2, 3] [2, 3, 0, 1] rfl rfl rfl rfl ⟨rfl, rfl⟩ (by decide) ⟨0, 8, _, _, rfl, rfl, rfl⟩ rfl rfl (Nat.le_of_ble_eq_true rfl) ⟨(Nat.le_of_ble_eq_true rfl), (Nat.le_of_ble_eq_true rfl)⟩ ⟨(Nat.le_of_ble_eq_true rfl), (Nat.le_of_ble_eq_true rfl)⟩ dX12_readsPart_137 (fun H locs hP hD hS => ?_)
          obtain ⟨hg, hf⟩ := gd_some hf
          refine ast_i (k := Int32.toNatClampNeg ((5 * t_readMany) + 1)) hF hG hP hD hS 2 rfl rfl hg dX12_readsPart_140 (fun H locs hP hD hS => ?_)
          replace hP : va_P G.1 vwCl [(a_t, .inr (8, [.int t_thrown, .ref a_t_s, .ref a_t_states, .int t_stateMany, .ref a_t_snapshot, .int t_hasSnapshot, .ref a_t_text, .int t_length, .int t_at_19, .int t_isWell_20, .ref a_t_read, .int t_readMany, .ref a_t_prices, .int t_priceMany, .int t_pieceMany, .long t_coins])), (a_t_text, .inl (G.2.1, 60, .inl t_text)), (a_t_read, .inl (G.2.1, 160, .inl (upd (upd (upd (upd t_read (Int32.toNatClampNeg (5 * t_readMany)) r_1) (Int32.toNatClampNeg ((5 * t_readMany) + 3)) t_priceMany) (Int32.toNatClampNeg ((5 * t_readMany) + 4)) 0) (Int32.toNatClampNeg ((5 * t_readMany) + 1)) r_18))), (a_t_prices, .inl (G.2.1, 60, .inl t_prices))] H := hP
          replace hD : va_D A [(a_t, .inr (8, [.int t_thrown, .ref a_t_s, .ref a_t_states, .int t_stateMany, .ref a_t_snapshot, .int t_hasSnapshot, .ref a_t_text, .int t_length, .int t_at_19, .int t_isWell_20, .ref a_t_read, .int t_readMany, .ref a_t_prices, .int t_priceMany, .int t_pieceMany, .long t_coins])), (a_t_text, .inl (G.2.1, 60, .inl t_text)), (a_t_read, .inl (G.2.1, 160, .inl (upd (upd (upd (upd t_read (Int32.toNatClampNeg (5 * t_readMany)) r_1) (Int32.toNatClampNeg ((5 * t_readMany) + 3)) t_priceMany) (Int32.toNatClampNeg ((5 * t_readMany) + 4)) 0) (Int32.toNatClampNeg ((5 * t_readMany) + 1)) r_18))), (a_t_prices, .inl (G.2.1, 60, .inl t_prices))] := hD
          refine lv_aload_n hx hb dX12_readsPart_141 rfl (lv_at hl 0 rfl) ?_
          refine lv_bipush (v := 58) hx hb dX12_readsPart_142 (by decide) ?_
          refine lv_bipush (v := 58) hx hb dX12_readsPart_144 (by decide) ?_
          obtain ⟨r_21, t_at_22, t_isWell_23, hq, hf⟩ := bd3_some hf
          refine wrV (As := [.int 58, .int 58]) (rest := []) (wn := [(a_t, .inr (8, [.int t_thrown, .ref a_t_s, .ref a_t_states, .int t_stateMany, .ref a_t_snapshot, .int t_hasSnapshot, .ref a_t_text, .int t_length, .int t_at_22, .int t_isWell_23, .ref a_t_read, .int t_readMany, .ref a_t_prices, .int t_priceMany, .int t_pieceMany, .long t_coins])), (a_t_text, .inl (G.2.1, 60, .inl t_text)), (a_t_read, .inl (G.2.1, 160, .inl (upd (upd (upd (upd t_read (Int32.toNatClampNeg (5 * t_readMany)) r_1) (Int32.toNatClampNeg ((5 * t_readMany) + 3)) t_priceMany) (Int32.toNatClampNeg ((5 * t_readMany) + 4)) 0) (Int32.toNatClampNeg ((5 * t_readMany) + 1)) r_18))), (a_t_prices, .inl (G.2.1, 60, .inl t_prices))]) hF hG hP hD hS hA hl.1 (c_X12_takes l G a_t t_thrown a_t_s a_t_states t_stateMany a_t_snapshot t_hasSnapshot t_length t_at_19 t_isWell_20 a_t_read t_readMany a_t_prices t_priceMany t_pieceMany t_coins a_t_text t_text 58 58 r_21 t_at_22 t_isWell_23 hq) k_X12_takes q1190 [0, 1] [2, 3] [2, 3, 0, 1] rfl rfl rfl rfl ⟨rfl, rfl⟩ (by decide) ⟨0, 8, _, _, rfl, rfl, rfl⟩ rfl rfl (Nat.le_of_ble_eq_true rfl) ⟨(Nat.le_of_ble_eq_true rfl), (Nat.le_of_ble_eq_true rfl)⟩ ⟨(Nat.le_of_ble_eq_true rfl), (Nat.le_of_ble_eq_true rfl)⟩ dX12_readsPart_146 (fun H locs hP hD hS => ?_)
          refine lv_pop hx hb dX12_readsPart_149 rfl ?_
          refine lv_aload_n hx hb dX12_readsPart_150 rfl (lv_at hl 0 rfl) ?_
          refine gf (C := RX12) (T := TX12) (N := 16) (ci := 8) (v := .ref a_t_read) hF hG hP inX12 0 rfl rfl 10 (by decide) q1030 rfl rfl dX12_readsPart_151 ?_
          refine lv_iload_n hx hb dX12_readsPart_154 rfl (lv_at hl 1 rfl) ?_
          refine lv_iconst (v := 2) hx hb dX12_readsPart_155 (by decide) ?_
          refine lv_iadd hx hb dX12_readsPart_156 ?_
          refine lv_aload_n hx hb dX12_readsPart_157 rfl (lv_at hl 0 rfl) ?_
          obtain ⟨r_24, t_at_25, t_isWell_26, hq, hf⟩ := bd3_some hf
          refine wrV (As := []) (rest := [.int ((5 * t_readMany) + 2), .ref a_t_read]) (wn := [(a_t, .inr (8, [.int t_thrown, .ref a_t_s, .ref a_t_states, .int t_stateMany, .ref a_t_snapshot, .int t_hasSnapshot, .ref a_t_text, .int t_length, .int t_at_25, .int t_isWell_26, .ref a_t_read, .int t_readMany, .ref a_t_prices, .int t_priceMany, .int t_pieceMany, .long t_coins])), (a_t_text, .inl (G.2.1, 60, .inl t_text)), (a_t_read, .inl (G.2.1, 160, .inl (upd (upd (upd (upd t_read (Int32.toNatClampNeg (5 * t_readMany)) r_1) (Int32.toNatClampNeg ((5 * t_readMany) + 3)) t_priceMany) (Int32.toNatClampNeg ((5 * t_readMany) + 4)) 0) (Int32.toNatClampNeg ((5 * t_readMany) + 1)) r_18))), (a_t_prices, .inl (G.2.1, 60, .inl t_prices))]) hF hG hP hD hS hA hl.1 (c_X12_longNumber l G a_t t_thrown a_t_s a_t_states t_stateMany a_t_snapshot t_hasSnapshot t_length t_at_22 t_isWell_23 a_t_read t_readMany a_t_prices t_priceMany t_pieceMany t_coins a_t_text t_text r_24 t_at_25 t_isWell_26 hq) k_X12_longNumber q1194 [0, 1] [2, 3] [2, 3, 0, 1] rfl rfl rfl rfl ⟨rfl, rfl⟩ (by decide) ⟨0, 8, _, _, rfl, rfl, rfl⟩ rfl rfl (Nat.le_of_ble_eq_true rfl) ⟨(Nat.le_of_ble_eq_true rfl), (Nat.le_of_ble_eq_true rfl)⟩ ⟨(Nat.le_of_ble_eq_true rfl), (Nat.le_of_ble_eq_true rfl)⟩ dX12_readsPart_158 (fun H locs hP hD hS => ?_)
          obtain ⟨hg, hf⟩ := gd_some hf
          refine ast_i (k := Int32.toNatClampNeg ((5 * t_readMany) + 2)) hF hG hP hD hS 2 rfl rfl hg dX12_readsPart_161 (fun H locs hP hD hS => ?_)
          replace hP : va_P G.1 vwCl [(a_t, .inr (8, [.int t_thrown, .ref a_t_s, .ref a_t_states, .int t_stateMany, .ref a_t_snapshot, .int t_hasSnapshot, .ref a_t_text, .int t_length, .int t_at_25, .int t_isWell_26, .ref a_t_read, .int t_readMany, .ref a_t_prices, .int t_priceMany, .int t_pieceMany, .long t_coins])), (a_t_text, .inl (G.2.1, 60, .inl t_text)), (a_t_read, .inl (G.2.1, 160, .inl (upd (upd (upd (upd (upd t_read (Int32.toNatClampNeg (5 * t_readMany)) r_1) (Int32.toNatClampNeg ((5 * t_readMany) + 3)) t_priceMany) (Int32.toNatClampNeg ((5 * t_readMany) + 4)) 0) (Int32.toNatClampNeg ((5 * t_readMany) + 1)) r_18) (Int32.toNatClampNeg ((5 * t_readMany) + 2)) r_24))), (a_t_prices, .inl (G.2.1, 60, .inl t_prices))] H := hP
          replace hD : va_D A [(a_t, .inr (8, [.int t_thrown, .ref a_t_s, .ref a_t_states, .int t_stateMany, .ref a_t_snapshot, .int t_hasSnapshot, .ref a_t_text, .int t_length, .int t_at_25, .int t_isWell_26, .ref a_t_read, .int t_readMany, .ref a_t_prices, .int t_priceMany, .int t_pieceMany, .long t_coins])), (a_t_text, .inl (G.2.1, 60, .inl t_text)), (a_t_read, .inl (G.2.1, 160, .inl (upd (upd (upd (upd (upd t_read (Int32.toNatClampNeg (5 * t_readMany)) r_1) (Int32.toNatClampNeg ((5 * t_readMany) + 3)) t_priceMany) (Int32.toNatClampNeg ((5 * t_readMany) + 4)) 0) (Int32.toNatClampNeg ((5 * t_readMany) + 1)) r_18) (Int32.toNatClampNeg ((5 * t_readMany) + 2)) r_24))), (a_t_prices, .inl (G.2.1, 60, .inl t_prices))] := hD
          refine lv_goto (tgt := 236) hx hb dX12_readsPart_162 (by decide) ?_
          have hf : (some (t_at_25, t_isWell_26, t_priceMany, (upd (upd (upd (upd (upd t_read (Int32.toNatClampNeg (5 * t_readMany)) r_1) (Int32.toNatClampNeg ((5 * t_readMany) + 3)) t_priceMany) (Int32.toNatClampNeg ((5 * t_readMany) + 4)) 0) (Int32.toNatClampNeg ((5 * t_readMany) + 1)) r_18) (Int32.toNatClampNeg ((5 * t_readMany) + 2)) r_24), t_prices) : Option (Int32 × Int32 × Int32 × (Nat → Int32) × (Nat → Int32))) = some (t_at_4, t_isWell_5, t_priceMany_6, t_read_7, t_prices_8) := hf
          cases hf
          exact J236 _ _ hP hD hS ls (lv_sub hl [0] rfl)
      · have hf := (if_pos c0).symm.trans hf
        refine lv_aload_n hx hb dX12_readsPart_112 rfl (lv_at hl 0 rfl) ?_
        refine lv_iload_n hx hb dX12_readsPart_113 rfl (lv_at hl 1 rfl) ?_
        obtain ⟨t_at_27, t_isWell_28, t_priceMany_29, t_read_30, t_prices_31, hq, hf⟩ := bd5_some hf
        refine wrV (As := [.int (5 * t_readMany)]) (rest := []) (wn := [(a_t, .inr (8, [.int t_thrown, .ref a_t_s, .ref a_t_states, .int t_stateMany, .ref a_t_snapshot, .int t_hasSnapshot, .ref a_t_text, .int t_length, .int t_at_27, .int t_isWell_28, .ref a_t_read, .int t_readMany, .ref a_t_prices, .int t_priceMany_29, .int t_pieceMany, .long t_coins])), (a_t_text, .inl (G.2.1, 60, .inl t_text)), (a_t_read, .inl (G.2.1, 160, .inl t_read_30)), (a_t_prices, .inl (G.2.1, 60, .inl t_prices_31))]) hF hG hP hD hS hA hl.1 (c_X12_readsPrices l G a_t t_thrown a_t_s a_t_states t_stateMany a_t_snapshot t_hasSnapshot t_length (t_at + j_3) j_2 t_readMany t_priceMany t_pieceMany t_coins a_t_text t_text a_t_read (upd (upd (upd t_read (Int32.toNatClampNeg (5 * t_readMany)) r_1) (Int32.toNatClampNeg ((5 * t_readMany) + 3)) t_priceMany) (Int32.toNatClampNeg ((5 * t_readMany) + 4)) 0) a_t_prices t_prices (5 * t_readMany) t_at_27 t_isWell_28 t_priceMany_29 t_read_30 t_prices_31 hq) k_X12_readsPrices q1182 [0, 1, 2, 3] [] [0, 1, 2, 3] rfl rfl rfl rfl ⟨rfl, rfl⟩ (by decide) ⟨0, 8, _, _, rfl, rfl, rfl⟩ rfl rfl (Nat.le_of_ble_eq_true rfl) ⟨(Nat.le_of_ble_eq_true rfl), (Nat.le_of_ble_eq_true rfl)⟩ ⟨(Nat.le_of_ble_eq_true rfl), (Nat.le_of_ble_eq_true rfl)⟩ dX12_readsPart_114 (fun H locs hP hD hS => ?_)
        refine lv_goto (tgt := 236) hx hb dX12_readsPart_117 (by decide) ?_
        have hf : (some (t_at_27, t_isWell_28, t_priceMany_29, t_read_30, t_prices_31) : Option (Int32 × Int32 × Int32 × (Nat → Int32) × (Nat → Int32))) = some (t_at_4, t_isWell_5, t_priceMany_6, t_read_7, t_prices_8) := hf
        cases hf
        exact J236 _ _ hP hD hS ls (lv_sub hl [0] rfl)
    clear hf
    have hf := hq
    clear hq
    refine lv_if_eq (tgt := 73) hx hb dX12_readsPart_66 (by decide) (fun c0 => ?_) (fun c0 => ?_)
    · have hf := (if_pos c0).symm.trans hf
      refine lv_iconst (v := 0) hx hb dX12_readsPart_73 (by decide) ?_
      have hf : (some 0 : Option (Int32)) = some j_3 := hf
      cases hf
      exact J74 _ _ hP hD hS ls (lv_sub hl [0, 1, 2] rfl)
    · have hf := (if_neg c0).symm.trans hf
      refine lv_iconst (v := 1) hx hb dX12_readsPart_69 (by decide) ?_
      refine lv_goto (tgt := 74) hx hb dX12_readsPart_70 (by decide) ?_
      have hf : (some 1 : Option (Int32)) = some j_3 := hf
      cases hf
      exact J74 _ _ hP hD hS ls (lv_sub hl [0, 1, 2] rfl)
  clear hf
  have hf := hq
  clear hq
  refine lv_icmp_eq (tgt := 49) hx hb dX12_readsPart_16 (by decide) (fun c0 => ?_) (fun c0 => ?_)
  · have hf := (if_pos c0).symm.trans hf
    refine lv_iconst (v := 1) hx hb dX12_readsPart_49 (by decide) ?_
    refine lv_goto (tgt := 54) hx hb dX12_readsPart_50 (by decide) ?_
    have hf : (some 1 : Option (Int32)) = some j_2 := hf
    cases hf
    exact J54 _ _ hP hD hS ls (lv_sub hl [2, 1, 0] rfl)
  · have hf := (if_neg c0).symm.trans hf
    refine lv_iload_n hx hb dX12_readsPart_19 rfl (lv_at hl 0 rfl) ?_
    refine lv_bipush (v := 119) hx hb dX12_readsPart_20 (by decide) ?_
    refine lv_icmp_eq (tgt := 49) hx hb dX12_readsPart_22 (by decide) (fun c0 => ?_) (fun c0 => ?_)
    · have hf := (if_pos c0).symm.trans hf
      refine lv_iconst (v := 1) hx hb dX12_readsPart_49 (by decide) ?_
      refine lv_goto (tgt := 54) hx hb dX12_readsPart_50 (by decide) ?_
      have hf : (some 1 : Option (Int32)) = some j_2 := hf
      cases hf
      exact J54 _ _ hP hD hS ls (lv_sub hl [2, 1, 0] rfl)
    · have hf := (if_neg c0).symm.trans hf
      refine lv_iload_n hx hb dX12_readsPart_25 rfl (lv_at hl 0 rfl) ?_
      refine lv_bipush (v := 109) hx hb dX12_readsPart_26 (by decide) ?_
      refine lv_icmp_eq (tgt := 49) hx hb dX12_readsPart_28 (by decide) (fun c0 => ?_) (fun c0 => ?_)
      · have hf := (if_pos c0).symm.trans hf
        refine lv_iconst (v := 1) hx hb dX12_readsPart_49 (by decide) ?_
        refine lv_goto (tgt := 54) hx hb dX12_readsPart_50 (by decide) ?_
        have hf : (some 1 : Option (Int32)) = some j_2 := hf
        cases hf
        exact J54 _ _ hP hD hS ls (lv_sub hl [2, 1, 0] rfl)
      · have hf := (if_neg c0).symm.trans hf
        refine lv_iload_n hx hb dX12_readsPart_31 rfl (lv_at hl 0 rfl) ?_
        refine lv_bipush (v := 108) hx hb dX12_readsPart_32 (by decide) ?_
        refine lv_icmp_eq (tgt := 49) hx hb dX12_readsPart_34 (by decide) (fun c0 => ?_) (fun c0 => ?_)
        · have hf := (if_pos c0).symm.trans hf
          refine lv_iconst (v := 1) hx hb dX12_readsPart_49 (by decide) ?_
          refine lv_goto (tgt := 54) hx hb dX12_readsPart_50 (by decide) ?_
          have hf : (some 1 : Option (Int32)) = some j_2 := hf
          cases hf
          exact J54 _ _ hP hD hS ls (lv_sub hl [2, 1, 0] rfl)
        · have hf := (if_neg c0).symm.trans hf
          refine lv_iload_n hx hb dX12_readsPart_37 rfl (lv_at hl 0 rfl) ?_
          refine lv_bipush (v := 120) hx hb dX12_readsPart_38 (by decide) ?_
          refine lv_icmp_eq (tgt := 49) hx hb dX12_readsPart_40 (by decide) (fun c0 => ?_) (fun c0 => ?_)
          · have hf := (if_pos c0).symm.trans hf
            refine lv_iconst (v := 1) hx hb dX12_readsPart_49 (by decide) ?_
            refine lv_goto (tgt := 54) hx hb dX12_readsPart_50 (by decide) ?_
            have hf : (some 1 : Option (Int32)) = some j_2 := hf
            cases hf
            exact J54 _ _ hP hD hS ls (lv_sub hl [2, 1, 0] rfl)
          · have hf := (if_neg c0).symm.trans hf
            refine lv_iload_n hx hb dX12_readsPart_43 rfl (lv_at hl 0 rfl) ?_
            refine lv_bipush (v := 97) hx hb dX12_readsPart_44 (by decide) ?_
            refine lv_icmp_ne (tgt := 53) hx hb dX12_readsPart_46 (by decide) (fun c0 => ?_) (fun c0 => ?_)
            · have hf := (if_neg c0).symm.trans hf
              refine lv_iconst (v := 0) hx hb dX12_readsPart_53 (by decide) ?_
              have hf : (some 0 : Option (Int32)) = some j_2 := hf
              cases hf
              exact J54 _ _ hP hD hS ls (lv_sub hl [2, 1, 0] rfl)
            · have hf := (if_pos c0).symm.trans hf
              refine lv_iconst (v := 1) hx hb dX12_readsPart_49 (by decide) ?_
              refine lv_goto (tgt := 54) hx hb dX12_readsPart_50 (by decide) ?_
              have hf : (some 1 : Option (Int32)) = some j_2 := hf
              cases hf
              exact J54 _ _ hP hD hS ls (lv_sub hl [2, 1, 0] rfl)
def l_X12_readsWorks_19 (t_length : Int32) (t_text : Nat → Int32) : Nat → Int32 → Int32 → Int32 → Int32 → (Nat → Int32) → (Nat → Int32) → Option (Int32 × Int32 × Int32 × Int32 × (Nat → Int32) × (Nat → Int32))
  | 0, _, _, _, _, _, _ => none
  | n + 1, t_at_7, t_isWell_8, t_readMany_9, t_priceMany_10, t_read_11, t_prices_12 => (if t_isWell_8 = 0 then some (t_at_7, t_isWell_8, t_readMany_9, t_priceMany_10, t_read_11, t_prices_12) else (if t_length ≤ t_at_7 then some (t_at_7, t_isWell_8, t_readMany_9, t_priceMany_10, t_read_11, t_prices_12) else bd3 (f_X12_takes t_length t_at_7 t_isWell_8 t_text 59 59) (fun (r_19 : Int32) (t_at_20 : Int32) (t_isWell_21 : Int32) => (if t_isWell_21 = 0 then l_X12_readsWorks_19 t_length t_text n t_at_20 t_isWell_21 t_readMany_9 t_priceMany_10 t_read_11 t_prices_12 else bd6 (f_X12_readsPart t_length t_at_20 t_isWell_21 t_readMany_9 t_priceMany_10 t_text t_read_11 t_prices_12) (fun (t_at_22 : Int32) (t_isWell_23 : Int32) (t_readMany_24 : Int32) (t_priceMany_25 : Int32) (t_read_26 : Nat → Int32) (t_prices_27 : Nat → Int32) => l_X12_readsWorks_19 t_length t_text n t_at_22 t_isWell_23 t_readMany_24 t_priceMany_25 t_read_26 t_prices_27)))))
def f_X12_readsWorks (t_length : Int32) (t_at : Int32) (t_isWell : Int32) (t_readMany : Int32) (t_priceMany : Int32) (t_text : Nat → Int32) (t_read : Nat → Int32) (t_prices : Nat → Int32) : Option (Int32 × Int32 × Int32 × Int32 × Int32 × (Nat → Int32) × (Nat → Int32)) := bd6 (f_X12_readsPart t_length 0 t_isWell 0 0 t_text t_read t_prices) (fun (t_at_1 : Int32) (t_isWell_2 : Int32) (t_readMany_3 : Int32) (t_priceMany_4 : Int32) (t_read_5 : Nat → Int32) (t_prices_6 : Nat → Int32) => bd6 (l_X12_readsWorks_19 t_length t_text 1000 t_at_1 t_isWell_2 t_readMany_3 t_priceMany_4 t_read_5 t_prices_6) (fun (t_at_13 : Int32) (t_isWell_14 : Int32) (t_readMany_15 : Int32) (t_priceMany_16 : Int32) (t_read_17 : Nat → Int32) (t_prices_18 : Nat → Int32) => gd (t_isWell_14 &&& 1 = t_isWell_14) (some (t_isWell_14, t_at_13, t_isWell_14, t_readMany_15, t_priceMany_16, t_read_17, t_prices_18))))
theorem k_X12_readsWorks : KV yX12_readsWorks cX12_readsWorks 1 (some .boolean) 0 := ⟨qc_yX12_readsWorks, q9, ⟨by decide +kernel, by decide +kernel, by decide +kernel⟩, qi_yX12_readsWorks, qs_yX12_readsWorks⟩
abbrev RM_X12_readsWorks : Room := { frames := 5, cells := 0, slots := 0, locals := 113 }
set_option maxHeartbeats 4000000 in
set_option maxRecDepth 100000 in
theorem c_X12_readsWorks (l : Launch) (G : GP) (a_t : Nat) (t_thrown : Int32) (a_t_s : Nat) (a_t_states : Nat) (t_stateMany : Int32) (a_t_snapshot : Nat) (t_hasSnapshot : Int32) (t_length : Int32) (t_at : Int32) (t_isWell : Int32) (t_readMany : Int32) (t_priceMany : Int32) (t_pieceMany : Int32) (t_coins : Int64) (a_t_text : Nat) (t_text : Nat → Int32) (a_t_read : Nat) (t_read : Nat → Int32) (a_t_prices : Nat) (t_prices : Nat → Int32) (rr : Int32) (w_t_at : Int32) (w_t_isWell : Int32) (w_t_readMany : Int32) (w_t_priceMany : Int32) (w_t_read : Nat → Int32) (w_t_prices : Nat → Int32) (hf : f_X12_readsWorks t_length t_at t_isWell t_readMany t_priceMany t_text t_read t_prices = some (rr, w_t_at, w_t_isWell, w_t_readMany, w_t_priceMany, w_t_read, w_t_prices)) : WM l yX12_readsWorks cX12_readsWorks 1 (some .boolean) 5 113 G [.ref a_t] [(a_t, .inr (8, [.int t_thrown, .ref a_t_s, .ref a_t_states, .int t_stateMany, .ref a_t_snapshot, .int t_hasSnapshot, .ref a_t_text, .int t_length, .int t_at, .int t_isWell, .ref a_t_read, .int t_readMany, .ref a_t_prices, .int t_priceMany, .int t_pieceMany, .long t_coins])), (a_t_text, .inl (G.2.1, 60, .inl t_text)), (a_t_read, .inl (G.2.1, 160, .inl t_read)), (a_t_prices, .inl (G.2.1, 60, .inl t_prices))] (some (.int rr)) [(a_t, .inr (8, [.int t_thrown, .ref a_t_s, .ref a_t_states, .int t_stateMany, .ref a_t_snapshot, .int t_hasSnapshot, .ref a_t_text, .int t_length, .int w_t_at, .int w_t_isWell, .ref a_t_read, .int w_t_readMany, .ref a_t_prices, .int w_t_priceMany, .int t_pieceMany, .long t_coins])), (a_t_text, .inl (G.2.1, 60, .inl t_text)), (a_t_read, .inl (G.2.1, 160, .inl w_t_read)), (a_t_prices, .inl (G.2.1, 60, .inl w_t_prices))] := by
  refine WM.ofW (C := RX12) (by decide) rfl (Nat.le_of_ble_eq_true rfl) ?_
  intro p e s m below meth c A hF hr hlk hG hA hP hD ls hl
  have hl : lv_has ls 1 [(0, .ref a_t)] := hl
  have hx := hF.1
  have hb := hF.2.1
  have hml := hF.2.2.1
  have hown := hF.2.2.2.1
  have hts := hF.2.2.2.2
  have hS : va_S A s.heap s.heap [] := va_S.rf
  unfold f_X12_readsWorks at hf
  refine lv_aload_n hx hb dX12_readsWorks_0 rfl (lv_at hl 0 rfl) ?_
  refine lv_iconst (v := 0) hx hb dX12_readsWorks_1 (by decide) ?_
  refine pf (C := RX12) (T := TX12) (N := 16) (ci := 8) (v := .int 0) (ty := .int) hF hG hP hD hS inX12 tyX12 tyX12_ok nmX12 0 rfl rfl 8 (by decide) q1028 rfl rfl (by decide +kernel) rfl rfl (Nat.le_of_ble_eq_true rfl) dX12_readsWorks_2 (fun H locs hP hD hS => ?_)
  replace hP : va_P G.1 vwCl [(a_t, .inr (8, [.int t_thrown, .ref a_t_s, .ref a_t_states, .int t_stateMany, .ref a_t_snapshot, .int t_hasSnapshot, .ref a_t_text, .int t_length, .int 0, .int t_isWell, .ref a_t_read, .int t_readMany, .ref a_t_prices, .int t_priceMany, .int t_pieceMany, .long t_coins])), (a_t_text, .inl (G.2.1, 60, .inl t_text)), (a_t_read, .inl (G.2.1, 160, .inl t_read)), (a_t_prices, .inl (G.2.1, 60, .inl t_prices))] H := hP
  replace hD : va_D A [(a_t, .inr (8, [.int t_thrown, .ref a_t_s, .ref a_t_states, .int t_stateMany, .ref a_t_snapshot, .int t_hasSnapshot, .ref a_t_text, .int t_length, .int 0, .int t_isWell, .ref a_t_read, .int t_readMany, .ref a_t_prices, .int t_priceMany, .int t_pieceMany, .long t_coins])), (a_t_text, .inl (G.2.1, 60, .inl t_text)), (a_t_read, .inl (G.2.1, 160, .inl t_read)), (a_t_prices, .inl (G.2.1, 60, .inl t_prices))] := hD
  refine lv_aload_n hx hb dX12_readsWorks_5 rfl (lv_at hl 0 rfl) ?_
  refine lv_iconst (v := 0) hx hb dX12_readsWorks_6 (by decide) ?_
  refine pf (C := RX12) (T := TX12) (N := 16) (ci := 8) (v := .int 0) (ty := .int) hF hG hP hD hS inX12 tyX12 tyX12_ok nmX12 0 rfl rfl 11 (by decide) q1031 rfl rfl (by decide +kernel) rfl rfl (Nat.le_of_ble_eq_true rfl) dX12_readsWorks_7 (fun H locs hP hD hS => ?_)
  replace hP : va_P G.1 vwCl [(a_t, .inr (8, [.int t_thrown, .ref a_t_s, .ref a_t_states, .int t_stateMany, .ref a_t_snapshot, .int t_hasSnapshot, .ref a_t_text, .int t_length, .int 0, .int t_isWell, .ref a_t_read, .int 0, .ref a_t_prices, .int t_priceMany, .int t_pieceMany, .long t_coins])), (a_t_text, .inl (G.2.1, 60, .inl t_text)), (a_t_read, .inl (G.2.1, 160, .inl t_read)), (a_t_prices, .inl (G.2.1, 60, .inl t_prices))] H := hP
  replace hD : va_D A [(a_t, .inr (8, [.int t_thrown, .ref a_t_s, .ref a_t_states, .int t_stateMany, .ref a_t_snapshot, .int t_hasSnapshot, .ref a_t_text, .int t_length, .int 0, .int t_isWell, .ref a_t_read, .int 0, .ref a_t_prices, .int t_priceMany, .int t_pieceMany, .long t_coins])), (a_t_text, .inl (G.2.1, 60, .inl t_text)), (a_t_read, .inl (G.2.1, 160, .inl t_read)), (a_t_prices, .inl (G.2.1, 60, .inl t_prices))] := hD
  refine lv_aload_n hx hb dX12_readsWorks_10 rfl (lv_at hl 0 rfl) ?_
  refine lv_iconst (v := 0) hx hb dX12_readsWorks_11 (by decide) ?_
  refine pf (C := RX12) (T := TX12) (N := 16) (ci := 8) (v := .int 0) (ty := .int) hF hG hP hD hS inX12 tyX12 tyX12_ok nmX12 0 rfl rfl 13 (by decide) q1033 rfl rfl (by decide +kernel) rfl rfl (Nat.le_of_ble_eq_true rfl) dX12_readsWorks_12 (fun H locs hP hD hS => ?_)
  replace hP : va_P G.1 vwCl [(a_t, .inr (8, [.int t_thrown, .ref a_t_s, .ref a_t_states, .int t_stateMany, .ref a_t_snapshot, .int t_hasSnapshot, .ref a_t_text, .int t_length, .int 0, .int t_isWell, .ref a_t_read, .int 0, .ref a_t_prices, .int 0, .int t_pieceMany, .long t_coins])), (a_t_text, .inl (G.2.1, 60, .inl t_text)), (a_t_read, .inl (G.2.1, 160, .inl t_read)), (a_t_prices, .inl (G.2.1, 60, .inl t_prices))] H := hP
  replace hD : va_D A [(a_t, .inr (8, [.int t_thrown, .ref a_t_s, .ref a_t_states, .int t_stateMany, .ref a_t_snapshot, .int t_hasSnapshot, .ref a_t_text, .int t_length, .int 0, .int t_isWell, .ref a_t_read, .int 0, .ref a_t_prices, .int 0, .int t_pieceMany, .long t_coins])), (a_t_text, .inl (G.2.1, 60, .inl t_text)), (a_t_read, .inl (G.2.1, 160, .inl t_read)), (a_t_prices, .inl (G.2.1, 60, .inl t_prices))] := hD
  refine lv_aload_n hx hb dX12_readsWorks_15 rfl (lv_at hl 0 rfl) ?_
  obtain ⟨t_at_1, t_isWell_2, t_readMany_3, t_priceMany_4, t_read_5, t_prices_6, hq, hf⟩ := bd6_some hf
  refine wrV (As := []) (rest := []) (wn := [(a_t, .inr (8, [.int t_thrown, .ref a_t_s, .ref a_t_states, .int t_stateMany, .ref a_t_snapshot, .int t_hasSnapshot, .ref a_t_text, .int t_length, .int t_at_1, .int t_isWell_2, .ref a_t_read, .int t_readMany_3, .ref a_t_prices, .int t_priceMany_4, .int t_pieceMany, .long t_coins])), (a_t_text, .inl (G.2.1, 60, .inl t_text)), (a_t_read, .inl (G.2.1, 160, .inl t_read_5)), (a_t_prices, .inl (G.2.1, 60, .inl t_prices_6))]) hF hG hP hD hS hA hl.1 (c_X12_readsPart l G a_t t_thrown a_t_s a_t_states t_stateMany a_t_snapshot t_hasSnapshot t_length 0 t_isWell 0 0 t_pieceMany t_coins a_t_text t_text a_t_read t_read a_t_prices t_prices t_at_1 t_isWell_2 t_readMany_3 t_priceMany_4 t_read_5 t_prices_6 hq) k_X12_readsPart q1174 [0, 1, 2, 3] [] [0, 1, 2, 3] rfl rfl rfl rfl ⟨rfl, rfl⟩ (by decide) ⟨0, 8, _, _, rfl, rfl, rfl⟩ rfl rfl (Nat.le_of_ble_eq_true rfl) ⟨(Nat.le_of_ble_eq_true rfl), (Nat.le_of_ble_eq_true rfl)⟩ ⟨(Nat.le_of_ble_eq_true rfl), (Nat.le_of_ble_eq_true rfl)⟩ dX12_readsWorks_16 (fun H locs hP hD hS => ?_)
  obtain ⟨t_at_13, t_isWell_14, t_readMany_15, t_priceMany_16, t_read_17, t_prices_18, hq, hf⟩ := bd6_some hf
  have K19 : ∀ (H : Heap) (locs : List Loc), va_P G.1 vwCl ([(a_t, .inr (8, [.int t_thrown, .ref a_t_s, .ref a_t_states, .int t_stateMany, .ref a_t_snapshot, .int t_hasSnapshot, .ref a_t_text, .int t_length, .int t_at_13, .int t_isWell_14, .ref a_t_read, .int t_readMany_15, .ref a_t_prices, .int t_priceMany_16, .int t_pieceMany, .long t_coins])), (a_t_text, .inl (G.2.1, 60, .inl t_text)), (a_t_read, .inl (G.2.1, 160, .inl t_read_17)), (a_t_prices, .inl (G.2.1, 60, .inl t_prices_18))] : va_W) H → va_D A ([(a_t, .inr (8, [.int t_thrown, .ref a_t_s, .ref a_t_states, .int t_stateMany, .ref a_t_snapshot, .int t_hasSnapshot, .ref a_t_text, .int t_length, .int t_at_13, .int t_isWell_14, .ref a_t_read, .int t_readMany_15, .ref a_t_prices, .int t_priceMany_16, .int t_pieceMany, .long t_coins])), (a_t_text, .inl (G.2.1, 60, .inl t_text)), (a_t_read, .inl (G.2.1, 160, .inl t_read_17)), (a_t_prices, .inl (G.2.1, 60, .inl t_prices_18))] : va_W) → va_S A s.heap H locs → ∀ ls : Array Slot, lv_has ls 1 [(0, .ref a_t)] → W p l e RM_X12_readsWorks s m [.ref a_t].toArray below meth c H locs 0 0 (MQ below (wrQ (some (.int rr)) G [(a_t, .inr (8, [.int t_thrown, .ref a_t_s, .ref a_t_states, .int t_stateMany, .ref a_t_snapshot, .int t_hasSnapshot, .ref a_t_text, .int t_length, .int w_t_at, .int w_t_isWell, .ref a_t_read, .int w_t_readMany, .ref a_t_prices, .int w_t_priceMany, .int t_pieceMany, .long t_coins])), (a_t_text, .inl (G.2.1, 60, .inl t_text)), (a_t_read, .inl (G.2.1, 160, .inl w_t_read)), (a_t_prices, .inl (G.2.1, 60, .inl w_t_prices))] A) [.ref a_t].toArray s 0 0 A) (F0 m 60 ls []) := by
    intro H locs hP hD hS ls hl
    refine lv_aload_n hx hb dX12_readsWorks_60 rfl (lv_at hl 0 rfl) ?_
    refine gf (C := RX12) (T := TX12) (N := 16) (ci := 8) (v := .int t_isWell_14) hF hG hP inX12 0 rfl rfl 9 (by decide) q1029 rfl rfl dX12_readsWorks_61 ?_
    obtain ⟨hz, hf⟩ := gd_some hf
    have hf : (some (t_isWell_14, t_at_13, t_isWell_14, t_readMany_15, t_priceMany_16, t_read_17, t_prices_18) : Option (Int32 × Int32 × Int32 × Int32 × Int32 × (Nat → Int32) × (Nat → Int32))) = some (rr, w_t_at, w_t_isWell, w_t_readMany, w_t_priceMany, w_t_read, w_t_prices) := hf
    cases hf
    exact we_z hF hr hlk hP hD hS dX12_readsWorks_64 hz rfl
  clear hf
  have L19 : ∀ (n : Nat) (t_at_7 : Int32) (t_isWell_8 : Int32) (t_readMany_9 : Int32) (t_priceMany_10 : Int32) (t_read_11 : Nat → Int32) (t_prices_12 : Nat → Int32), l_X12_readsWorks_19 t_length t_text n t_at_7 t_isWell_8 t_readMany_9 t_priceMany_10 t_read_11 t_prices_12 = some (t_at_13, t_isWell_14, t_readMany_15, t_priceMany_16, t_read_17, t_prices_18) → ∀ (H : Heap) (locs : List Loc), va_P G.1 vwCl ([(a_t, .inr (8, [.int t_thrown, .ref a_t_s, .ref a_t_states, .int t_stateMany, .ref a_t_snapshot, .int t_hasSnapshot, .ref a_t_text, .int t_length, .int t_at_7, .int t_isWell_8, .ref a_t_read, .int t_readMany_9, .ref a_t_prices, .int t_priceMany_10, .int t_pieceMany, .long t_coins])), (a_t_text, .inl (G.2.1, 60, .inl t_text)), (a_t_read, .inl (G.2.1, 160, .inl t_read_11)), (a_t_prices, .inl (G.2.1, 60, .inl t_prices_12))] : va_W) H → va_D A ([(a_t, .inr (8, [.int t_thrown, .ref a_t_s, .ref a_t_states, .int t_stateMany, .ref a_t_snapshot, .int t_hasSnapshot, .ref a_t_text, .int t_length, .int t_at_7, .int t_isWell_8, .ref a_t_read, .int t_readMany_9, .ref a_t_prices, .int t_priceMany_10, .int t_pieceMany, .long t_coins])), (a_t_text, .inl (G.2.1, 60, .inl t_text)), (a_t_read, .inl (G.2.1, 160, .inl t_read_11)), (a_t_prices, .inl (G.2.1, 60, .inl t_prices_12))] : va_W) → va_S A s.heap H locs → ∀ ls : Array Slot, lv_has ls 1 [(0, .ref a_t)] → W p l e RM_X12_readsWorks s m [.ref a_t].toArray below meth c H locs 0 0 (MQ below (wrQ (some (.int rr)) G [(a_t, .inr (8, [.int t_thrown, .ref a_t_s, .ref a_t_states, .int t_stateMany, .ref a_t_snapshot, .int t_hasSnapshot, .ref a_t_text, .int t_length, .int w_t_at, .int w_t_isWell, .ref a_t_read, .int w_t_readMany, .ref a_t_prices, .int w_t_priceMany, .int t_pieceMany, .long t_coins])), (a_t_text, .inl (G.2.1, 60, .inl t_text)), (a_t_read, .inl (G.2.1, 160, .inl w_t_read)), (a_t_prices, .inl (G.2.1, 60, .inl w_t_prices))] A) [.ref a_t].toArray s 0 0 A) (F0 m 19 ls []) := by
    intro n
    induction n with
    | zero =>
      intro t_at_7 t_isWell_8 t_readMany_9 t_priceMany_10 t_read_11 t_prices_12 hf
      exact nomatch (show none = some (t_at_13, t_isWell_14, t_readMany_15, t_priceMany_16, t_read_17, t_prices_18) from hf)
    | succ n ih =>
      intro t_at_7 t_isWell_8 t_readMany_9 t_priceMany_10 t_read_11 t_prices_12 hf H locs hP hD hS ls hl
      rw [l_X12_readsWorks_19] at hf
      refine lv_aload_n hx hb dX12_readsWorks_19 rfl (lv_at hl 0 rfl) ?_
      refine gf (C := RX12) (T := TX12) (N := 16) (ci := 8) (v := .int t_isWell_8) hF hG hP inX12 0 rfl rfl 9 (by decide) q1029 rfl rfl dX12_readsWorks_20 ?_
      refine lv_if_eq (tgt := 60) hx hb dX12_readsWorks_23 (by decide) (fun c0 => ?_) (fun c0 => ?_)
      · have hf := (if_pos c0).symm.trans hf
        have hf : (some (t_at_7, t_isWell_8, t_readMany_9, t_priceMany_10, t_read_11, t_prices_12) : Option (Int32 × Int32 × Int32 × Int32 × (Nat → Int32) × (Nat → Int32))) = some (t_at_13, t_isWell_14, t_readMany_15, t_priceMany_16, t_read_17, t_prices_18) := hf
        cases hf
        exact K19 _ _ hP hD hS ls (lv_sub hl [0] rfl)
      · have hf := (if_neg c0).symm.trans hf
        refine lv_aload_n hx hb dX12_readsWorks_26 rfl (lv_at hl 0 rfl) ?_
        refine gf (C := RX12) (T := TX12) (N := 16) (ci := 8) (v := .int t_at_7) hF hG hP inX12 0 rfl rfl 8 (by decide) q1028 rfl rfl dX12_readsWorks_27 ?_
        refine lv_aload_n hx hb dX12_readsWorks_30 rfl (lv_at hl 0 rfl) ?_
        refine gf (C := RX12) (T := TX12) (N := 16) (ci := 8) (v := .int t_length) hF hG hP inX12 0 rfl rfl 7 (by decide) q1027 rfl rfl dX12_readsWorks_31 ?_
        refine lv_icmp_ge (tgt := 60) hx hb dX12_readsWorks_34 (by decide) (fun c0 => ?_) (fun c0 => ?_)
        · have hf := (if_pos c0).symm.trans hf
          have hf : (some (t_at_7, t_isWell_8, t_readMany_9, t_priceMany_10, t_read_11, t_prices_12) : Option (Int32 × Int32 × Int32 × Int32 × (Nat → Int32) × (Nat → Int32))) = some (t_at_13, t_isWell_14, t_readMany_15, t_priceMany_16, t_read_17, t_prices_18) := hf
          cases hf
          exact K19 _ _ hP hD hS ls (lv_sub hl [0] rfl)
        · have hf := (if_neg c0).symm.trans hf
          refine lv_aload_n hx hb dX12_readsWorks_37 rfl (lv_at hl 0 rfl) ?_
          refine lv_bipush (v := 59) hx hb dX12_readsWorks_38 (by decide) ?_
          refine lv_bipush (v := 59) hx hb dX12_readsWorks_40 (by decide) ?_
          obtain ⟨r_19, t_at_20, t_isWell_21, hq, hf⟩ := bd3_some hf
          refine wrV (As := [.int 59, .int 59]) (rest := []) (wn := [(a_t, .inr (8, [.int t_thrown, .ref a_t_s, .ref a_t_states, .int t_stateMany, .ref a_t_snapshot, .int t_hasSnapshot, .ref a_t_text, .int t_length, .int t_at_20, .int t_isWell_21, .ref a_t_read, .int t_readMany_9, .ref a_t_prices, .int t_priceMany_10, .int t_pieceMany, .long t_coins])), (a_t_text, .inl (G.2.1, 60, .inl t_text)), (a_t_read, .inl (G.2.1, 160, .inl t_read_11)), (a_t_prices, .inl (G.2.1, 60, .inl t_prices_12))]) hF hG hP hD hS hA hl.1 (c_X12_takes l G a_t t_thrown a_t_s a_t_states t_stateMany a_t_snapshot t_hasSnapshot t_length t_at_7 t_isWell_8 a_t_read t_readMany_9 a_t_prices t_priceMany_10 t_pieceMany t_coins a_t_text t_text 59 59 r_19 t_at_20 t_isWell_21 hq) k_X12_takes q1190 [0, 1] [2, 3] [2, 3, 0, 1] rfl rfl rfl rfl ⟨rfl, rfl⟩ (by decide) ⟨0, 8, _, _, rfl, rfl, rfl⟩ rfl rfl (Nat.le_of_ble_eq_true rfl) ⟨(Nat.le_of_ble_eq_true rfl), (Nat.le_of_ble_eq_true rfl)⟩ ⟨(Nat.le_of_ble_eq_true rfl), (Nat.le_of_ble_eq_true rfl)⟩ dX12_readsWorks_42 (fun H locs hP hD hS => ?_)
          refine lv_pop hx hb dX12_readsWorks_45 rfl ?_
          refine lv_aload_n hx hb dX12_readsWorks_46 rfl (lv_at hl 0 rfl) ?_
          refine gf (C := RX12) (T := TX12) (N := 16) (ci := 8) (v := .int t_isWell_21) hF hG hP inX12 0 rfl rfl 9 (by decide) q1029 rfl rfl dX12_readsWorks_47 ?_
          refine lv_if_eq (tgt := 19) hx hb dX12_readsWorks_50 (by decide) (fun c0 => ?_) (fun c0 => ?_)
          · have hf := (if_pos c0).symm.trans hf
            exact ih t_at_20 t_isWell_21 t_readMany_9 t_priceMany_10 t_read_11 t_prices_12 hf _ _ hP hD hS ls (lv_sub hl [0] rfl)
          · have hf := (if_neg c0).symm.trans hf
            refine lv_aload_n hx hb dX12_readsWorks_53 rfl (lv_at hl 0 rfl) ?_
            obtain ⟨t_at_22, t_isWell_23, t_readMany_24, t_priceMany_25, t_read_26, t_prices_27, hq, hf⟩ := bd6_some hf
            refine wrV (As := []) (rest := []) (wn := [(a_t, .inr (8, [.int t_thrown, .ref a_t_s, .ref a_t_states, .int t_stateMany, .ref a_t_snapshot, .int t_hasSnapshot, .ref a_t_text, .int t_length, .int t_at_22, .int t_isWell_23, .ref a_t_read, .int t_readMany_24, .ref a_t_prices, .int t_priceMany_25, .int t_pieceMany, .long t_coins])), (a_t_text, .inl (G.2.1, 60, .inl t_text)), (a_t_read, .inl (G.2.1, 160, .inl t_read_26)), (a_t_prices, .inl (G.2.1, 60, .inl t_prices_27))]) hF hG hP hD hS hA hl.1 (c_X12_readsPart l G a_t t_thrown a_t_s a_t_states t_stateMany a_t_snapshot t_hasSnapshot t_length t_at_20 t_isWell_21 t_readMany_9 t_priceMany_10 t_pieceMany t_coins a_t_text t_text a_t_read t_read_11 a_t_prices t_prices_12 t_at_22 t_isWell_23 t_readMany_24 t_priceMany_25 t_read_26 t_prices_27 hq) k_X12_readsPart q1174 [0, 1, 2, 3] [] [0, 1, 2, 3] rfl rfl rfl rfl ⟨rfl, rfl⟩ (by decide) ⟨0, 8, _, _, rfl, rfl, rfl⟩ rfl rfl (Nat.le_of_ble_eq_true rfl) ⟨(Nat.le_of_ble_eq_true rfl), (Nat.le_of_ble_eq_true rfl)⟩ ⟨(Nat.le_of_ble_eq_true rfl), (Nat.le_of_ble_eq_true rfl)⟩ dX12_readsWorks_54 (fun H locs hP hD hS => ?_)
            refine lv_goto (tgt := 19) hx hb dX12_readsWorks_57 (by decide) ?_
            exact ih t_at_22 t_isWell_23 t_readMany_24 t_priceMany_25 t_read_26 t_prices_27 hf _ _ hP hD hS ls (lv_sub hl [0] rfl)
  exact L19 1000 t_at_1 t_isWell_2 t_readMany_3 t_priceMany_4 t_read_5 t_prices_6 hq _ _ hP hD hS ls (lv_sub hl [0] rfl)
def f_X12_firstError (t_thrown : Int32) (t_length : Int32) (t_at : Int32) (t_isWell : Int32) (t_readMany : Int32) (t_priceMany : Int32) (t_text : Nat → Int32) (t_read : Nat → Int32) (t_prices : Nat → Int32) : Option (Int32 × Int32 × Int32 × Int32 × Int32 × Int32 × (Nat → Int32) × (Nat → Int32)) := bd7 (f_X12_readsWorks t_length t_at t_isWell t_readMany t_priceMany t_text t_read t_prices) (fun (r_1 : Int32) (t_at_2 : Int32) (t_isWell_3 : Int32) (t_readMany_4 : Int32) (t_priceMany_5 : Int32) (t_read_6 : Nat → Int32) (t_prices_7 : Nat → Int32) => (if r_1 = 0 then some (t_at_2, 0, t_at_2, t_isWell_3, t_readMany_4, t_priceMany_5, t_read_6, t_prices_7) else some (t_length, 0, t_at_2, t_isWell_3, t_readMany_4, t_priceMany_5, t_read_6, t_prices_7)))
theorem k_X12_firstError : KV yX12_firstError cX12_firstError 1 (some .int) 0 := ⟨qc_yX12_firstError, q9, ⟨by decide +kernel, by decide +kernel, by decide +kernel⟩, qi_yX12_firstError, qs_yX12_firstError⟩
abbrev RM_X12_firstError : Room := { frames := 6, cells := 0, slots := 0, locals := 133 }
set_option maxHeartbeats 4000000 in
set_option maxRecDepth 100000 in
theorem c_X12_firstError (l : Launch) (G : GP) (a_t : Nat) (t_thrown : Int32) (a_t_s : Nat) (a_t_states : Nat) (t_stateMany : Int32) (a_t_snapshot : Nat) (t_hasSnapshot : Int32) (t_length : Int32) (t_at : Int32) (t_isWell : Int32) (t_readMany : Int32) (t_priceMany : Int32) (t_pieceMany : Int32) (t_coins : Int64) (a_t_text : Nat) (t_text : Nat → Int32) (a_t_read : Nat) (t_read : Nat → Int32) (a_t_prices : Nat) (t_prices : Nat → Int32) (rr : Int32) (w_t_thrown : Int32) (w_t_at : Int32) (w_t_isWell : Int32) (w_t_readMany : Int32) (w_t_priceMany : Int32) (w_t_read : Nat → Int32) (w_t_prices : Nat → Int32) (hf : f_X12_firstError t_thrown t_length t_at t_isWell t_readMany t_priceMany t_text t_read t_prices = some (rr, w_t_thrown, w_t_at, w_t_isWell, w_t_readMany, w_t_priceMany, w_t_read, w_t_prices)) : WM l yX12_firstError cX12_firstError 1 (some .int) 6 133 G [.ref a_t] [(a_t, .inr (8, [.int t_thrown, .ref a_t_s, .ref a_t_states, .int t_stateMany, .ref a_t_snapshot, .int t_hasSnapshot, .ref a_t_text, .int t_length, .int t_at, .int t_isWell, .ref a_t_read, .int t_readMany, .ref a_t_prices, .int t_priceMany, .int t_pieceMany, .long t_coins])), (a_t_text, .inl (G.2.1, 60, .inl t_text)), (a_t_read, .inl (G.2.1, 160, .inl t_read)), (a_t_prices, .inl (G.2.1, 60, .inl t_prices))] (some (.int rr)) [(a_t, .inr (8, [.int w_t_thrown, .ref a_t_s, .ref a_t_states, .int t_stateMany, .ref a_t_snapshot, .int t_hasSnapshot, .ref a_t_text, .int t_length, .int w_t_at, .int w_t_isWell, .ref a_t_read, .int w_t_readMany, .ref a_t_prices, .int w_t_priceMany, .int t_pieceMany, .long t_coins])), (a_t_text, .inl (G.2.1, 60, .inl t_text)), (a_t_read, .inl (G.2.1, 160, .inl w_t_read)), (a_t_prices, .inl (G.2.1, 60, .inl w_t_prices))] := by
  refine WM.ofW (C := RX12) (by decide) rfl (Nat.le_of_ble_eq_true rfl) ?_
  intro p e s m below meth c A hF hr hlk hG hA hP hD ls hl
  have hl : lv_has ls 1 [(0, .ref a_t)] := hl
  have hx := hF.1
  have hb := hF.2.1
  have hml := hF.2.2.1
  have hown := hF.2.2.2.1
  have hts := hF.2.2.2.2
  have hS : va_S A s.heap s.heap [] := va_S.rf
  unfold f_X12_firstError at hf
  refine lv_aload_n hx hb dX12_firstError_0 rfl (lv_at hl 0 rfl) ?_
  refine lv_iconst (v := 0) hx hb dX12_firstError_1 (by decide) ?_
  refine pf (C := RX12) (T := TX12) (N := 16) (ci := 8) (v := .int 0) (ty := .int) hF hG hP hD hS inX12 tyX12 tyX12_ok nmX12 0 rfl rfl 0 (by decide) q1020 rfl rfl (by decide +kernel) rfl rfl (Nat.le_of_ble_eq_true rfl) dX12_firstError_2 (fun H locs hP hD hS => ?_)
  replace hP : va_P G.1 vwCl [(a_t, .inr (8, [.int 0, .ref a_t_s, .ref a_t_states, .int t_stateMany, .ref a_t_snapshot, .int t_hasSnapshot, .ref a_t_text, .int t_length, .int t_at, .int t_isWell, .ref a_t_read, .int t_readMany, .ref a_t_prices, .int t_priceMany, .int t_pieceMany, .long t_coins])), (a_t_text, .inl (G.2.1, 60, .inl t_text)), (a_t_read, .inl (G.2.1, 160, .inl t_read)), (a_t_prices, .inl (G.2.1, 60, .inl t_prices))] H := hP
  replace hD : va_D A [(a_t, .inr (8, [.int 0, .ref a_t_s, .ref a_t_states, .int t_stateMany, .ref a_t_snapshot, .int t_hasSnapshot, .ref a_t_text, .int t_length, .int t_at, .int t_isWell, .ref a_t_read, .int t_readMany, .ref a_t_prices, .int t_priceMany, .int t_pieceMany, .long t_coins])), (a_t_text, .inl (G.2.1, 60, .inl t_text)), (a_t_read, .inl (G.2.1, 160, .inl t_read)), (a_t_prices, .inl (G.2.1, 60, .inl t_prices))] := hD
  refine lv_aload_n hx hb dX12_firstError_5 rfl (lv_at hl 0 rfl) ?_
  obtain ⟨r_1, t_at_2, t_isWell_3, t_readMany_4, t_priceMany_5, t_read_6, t_prices_7, hq, hf⟩ := bd7_some hf
  refine wrV (As := []) (rest := []) (wn := [(a_t, .inr (8, [.int 0, .ref a_t_s, .ref a_t_states, .int t_stateMany, .ref a_t_snapshot, .int t_hasSnapshot, .ref a_t_text, .int t_length, .int t_at_2, .int t_isWell_3, .ref a_t_read, .int t_readMany_4, .ref a_t_prices, .int t_priceMany_5, .int t_pieceMany, .long t_coins])), (a_t_text, .inl (G.2.1, 60, .inl t_text)), (a_t_read, .inl (G.2.1, 160, .inl t_read_6)), (a_t_prices, .inl (G.2.1, 60, .inl t_prices_7))]) hF hG hP hD hS hA hl.1 (c_X12_readsWorks l G a_t 0 a_t_s a_t_states t_stateMany a_t_snapshot t_hasSnapshot t_length t_at t_isWell t_readMany t_priceMany t_pieceMany t_coins a_t_text t_text a_t_read t_read a_t_prices t_prices r_1 t_at_2 t_isWell_3 t_readMany_4 t_priceMany_5 t_read_6 t_prices_7 hq) k_X12_readsWorks q1170 [0, 1, 2, 3] [] [0, 1, 2, 3] rfl rfl rfl rfl ⟨rfl, rfl⟩ (by decide) ⟨0, 8, _, _, rfl, rfl, rfl⟩ rfl rfl (Nat.le_of_ble_eq_true rfl) ⟨(Nat.le_of_ble_eq_true rfl), (Nat.le_of_ble_eq_true rfl)⟩ ⟨(Nat.le_of_ble_eq_true rfl), (Nat.le_of_ble_eq_true rfl)⟩ dX12_firstError_6 (fun H locs hP hD hS => ?_)
  refine lv_if_eq (tgt := 19) hx hb dX12_firstError_9 (by decide) (fun c0 => ?_) (fun c0 => ?_)
  · have hf := (if_pos c0).symm.trans hf
    refine lv_aload_n hx hb dX12_firstError_19 rfl (lv_at hl 0 rfl) ?_
    refine gf (C := RX12) (T := TX12) (N := 16) (ci := 8) (v := .int t_at_2) hF hG hP inX12 0 rfl rfl 8 (by decide) q1028 rfl rfl dX12_firstError_20 ?_
    have hf : (some (t_at_2, 0, t_at_2, t_isWell_3, t_readMany_4, t_priceMany_5, t_read_6, t_prices_7) : Option (Int32 × Int32 × Int32 × Int32 × Int32 × Int32 × (Nat → Int32) × (Nat → Int32))) = some (rr, w_t_thrown, w_t_at, w_t_isWell, w_t_readMany, w_t_priceMany, w_t_read, w_t_prices) := hf
    cases hf
    exact we_i hF hr hlk hP hD hS dX12_firstError_23 rfl
  · have hf := (if_neg c0).symm.trans hf
    refine lv_aload_n hx hb dX12_firstError_12 rfl (lv_at hl 0 rfl) ?_
    refine gf (C := RX12) (T := TX12) (N := 16) (ci := 8) (v := .int t_length) hF hG hP inX12 0 rfl rfl 7 (by decide) q1027 rfl rfl dX12_firstError_13 ?_
    refine lv_goto (tgt := 23) hx hb dX12_firstError_16 (by decide) ?_
    have hf : (some (t_length, 0, t_at_2, t_isWell_3, t_readMany_4, t_priceMany_5, t_read_6, t_prices_7) : Option (Int32 × Int32 × Int32 × Int32 × Int32 × Int32 × (Nat → Int32) × (Nat → Int32))) = some (rr, w_t_thrown, w_t_at, w_t_isWell, w_t_readMany, w_t_priceMany, w_t_read, w_t_prices) := hf
    cases hf
    exact we_i hF hr hlk hP hD hS dX12_firstError_23 rfl
def l_X12_does_122 (t_read : Nat → Int32) (t_prices : Nat → Int32) (x1 : Int32) (j_1 : Int32) : Nat → Int32 → (Nat → Int32) → Option ((Nat → Int32))
  | 0, _, _ => none
  | n + 1, i5_2, t_s_3 => gd (¬ ((x1 + 4) < 0 ∨ 160 ≤ Int32.toNatClampNeg (x1 + 4))) ((if (t_read (Int32.toNatClampNeg (x1 + 4))) ≤ i5_2 then some t_s_3 else (if j_1 = 0 then gd (¬ ((x1 + 3) < 0 ∨ 160 ≤ Int32.toNatClampNeg (x1 + 3))) (gd (¬ (((t_read (Int32.toNatClampNeg (x1 + 3))) + i5_2) < 0 ∨ 60 ≤ Int32.toNatClampNeg ((t_read (Int32.toNatClampNeg (x1 + 3))) + i5_2))) (bd1 (f_X12_adds t_s_3 (t_prices (Int32.toNatClampNeg ((t_read (Int32.toNatClampNeg (x1 + 3))) + i5_2)))) (fun (t_s_5 : Nat → Int32) => l_X12_does_122 t_read t_prices x1 j_1 n (i5_2 + 1) t_s_5))) else some t_s_3)))
def f_X12_does (t_s : Nat → Int32) (t_read : Nat → Int32) (t_prices : Nat → Int32) (x1 : Int32) : Option (Int32 × (Nat → Int32)) := gd (¬ ((x1 + 1) < 0 ∨ 160 ≤ Int32.toNatClampNeg (x1 + 1))) (gd (¬ ((x1 + 2) < 0 ∨ 160 ≤ Int32.toNatClampNeg (x1 + 2))) (gd (¬ (x1 < 0 ∨ 160 ≤ Int32.toNatClampNeg x1)) ((if (t_read (Int32.toNatClampNeg x1)) = 108 then some (0, (upd t_s 4 (t_read (Int32.toNatClampNeg (x1 + 1))))) else (if (t_read (Int32.toNatClampNeg x1)) = 109 then some (0, (upd t_s 3 (t_read (Int32.toNatClampNeg (x1 + 1))))) else (if (t_read (Int32.toNatClampNeg x1)) = 112 then gd (¬ ((x1 + 4) < 0 ∨ 160 ≤ Int32.toNatClampNeg (x1 + 4))) (bd1 (if ((t_s 0) + (t_read (Int32.toNatClampNeg (x1 + 4)))) ≤ 60 then some 0 else some 1) (fun (j_1 : Int32) => bd1 (l_X12_does_122 t_read t_prices x1 j_1 1000 0 t_s) (fun (t_s_4 : Nat → Int32) => some (j_1, t_s_4)))) else (if (t_read (Int32.toNatClampNeg x1)) = 119 then bd1 (if (t_read (Int32.toNatClampNeg (x1 + 2))) ≤ (t_read (Int32.toNatClampNeg (x1 + 1))) then some 4 else some 0) (fun (j_6 : Int32) => (if j_6 = 0 then some (j_6, (upd (upd t_s 1 (t_read (Int32.toNatClampNeg (x1 + 1)))) 2 (t_read (Int32.toNatClampNeg (x1 + 2))))) else some (j_6, t_s))) else (if (t_read (Int32.toNatClampNeg x1)) = 120 then bd1 (f_X12_isDay t_s (t_read (Int32.toNatClampNeg (x1 + 1)))) (fun (r_7 : Int32) => bd1 (if r_7 = 0 then some 2 else bd1 (f_X12_creased t_s (t_read (Int32.toNatClampNeg (x1 + 1)))) (fun (r_9 : Int32) => (if r_9 = 0 then some 3 else some 0))) (fun (j_8 : Int32) => (if j_8 = 0 then bd2 (f_X12_presses t_s (t_read (Int32.toNatClampNeg (x1 + 1)))) (fun (r_10 : Int32) (t_s_11 : Nat → Int32) => some (j_8, t_s_11)) else some (j_8, t_s)))) else bd2 (f_X12_pressesAll t_s) (fun (r_12 : Int32) (t_s_13 : Nat → Int32) => some (0, t_s_13))))))))))
theorem k_X12_does : KV yX12_does cX12_does 6 (some .int) 1 := ⟨qc_yX12_does, q9, ⟨by decide +kernel, by decide +kernel, by decide +kernel⟩, qi_yX12_does, qs_yX12_does⟩
abbrev RM_X12_does : Room := { frames := 4, cells := 0, slots := 0, locals := 92 }
set_option maxHeartbeats 4000000 in
set_option maxRecDepth 100000 in
theorem c_X12_does (l : Launch) (G : GP) (a_t : Nat) (t_thrown : Int32) (a_t_states : Nat) (t_stateMany : Int32) (a_t_snapshot : Nat) (t_hasSnapshot : Int32) (a_t_text : Nat) (t_length : Int32) (t_at : Int32) (t_isWell : Int32) (t_readMany : Int32) (t_priceMany : Int32) (t_pieceMany : Int32) (t_coins : Int64) (a_t_s : Nat) (t_s : Nat → Int32) (a_t_read : Nat) (t_read : Nat → Int32) (a_t_prices : Nat) (t_prices : Nat → Int32) (x1 : Int32) (rr : Int32) (w_t_s : Nat → Int32) (hf : f_X12_does t_s t_read t_prices x1 = some (rr, w_t_s)) : WM l yX12_does cX12_does 6 (some .int) 4 92 G [.ref a_t, .int x1] [(a_t, .inr (8, [.int t_thrown, .ref a_t_s, .ref a_t_states, .int t_stateMany, .ref a_t_snapshot, .int t_hasSnapshot, .ref a_t_text, .int t_length, .int t_at, .int t_isWell, .ref a_t_read, .int t_readMany, .ref a_t_prices, .int t_priceMany, .int t_pieceMany, .long t_coins])), (a_t_s, .inl (G.2.1, 68, .inl t_s)), (a_t_read, .inl (G.2.1, 160, .inl t_read)), (a_t_prices, .inl (G.2.1, 60, .inl t_prices))] (some (.int rr)) [(a_t, .inr (8, [.int t_thrown, .ref a_t_s, .ref a_t_states, .int t_stateMany, .ref a_t_snapshot, .int t_hasSnapshot, .ref a_t_text, .int t_length, .int t_at, .int t_isWell, .ref a_t_read, .int t_readMany, .ref a_t_prices, .int t_priceMany, .int t_pieceMany, .long t_coins])), (a_t_s, .inl (G.2.1, 68, .inl w_t_s)), (a_t_read, .inl (G.2.1, 160, .inl t_read)), (a_t_prices, .inl (G.2.1, 60, .inl t_prices))] := by
  refine WM.ofW (C := RX12) (by decide) rfl (Nat.le_of_ble_eq_true rfl) ?_
  intro p e s m below meth c A hF hr hlk hG hA hP hD ls hl
  have hl : lv_has ls 6 [(0, .ref a_t), (1, .int x1)] := hl
  have hx := hF.1
  have hb := hF.2.1
  have hml := hF.2.2.1
  have hown := hF.2.2.2.1
  have hts := hF.2.2.2.2
  have hS : va_S A s.heap s.heap [] := va_S.rf
  unfold f_X12_does at hf
  refine lv_aload_n hx hb dX12_does_0 rfl (lv_at hl 0 rfl) ?_
  refine gf (C := RX12) (T := TX12) (N := 16) (ci := 8) (v := .ref a_t_read) hF hG hP inX12 0 rfl rfl 10 (by decide) q1030 rfl rfl dX12_does_1 ?_
  refine lv_iload_n hx hb dX12_does_4 rfl (lv_at hl 1 rfl) ?_
  refine lv_iconst (v := 1) hx hb dX12_does_5 (by decide) ?_
  refine lv_iadd hx hb dX12_does_6 ?_
  obtain ⟨hg, hf⟩ := gd_some hf
  refine ald_i (k := Int32.toNatClampNeg (x1 + 1)) hF hG hP 2 rfl rfl hg dX12_does_7 ?_
  refine lv_istore_n (lv' := [(2, .int (t_read (Int32.toNatClampNeg (x1 + 1)))), (0, .ref a_t), (1, .int x1)]) hx hb dX12_does_8 rfl hl (by decide) rfl (fun ls hl => ?_)
  refine lv_aload_n hx hb dX12_does_9 rfl (lv_at hl 1 rfl) ?_
  refine gf (C := RX12) (T := TX12) (N := 16) (ci := 8) (v := .ref a_t_read) hF hG hP inX12 0 rfl rfl 10 (by decide) q1030 rfl rfl dX12_does_10 ?_
  refine lv_iload_n hx hb dX12_does_13 rfl (lv_at hl 2 rfl) ?_
  refine lv_iconst (v := 2) hx hb dX12_does_14 (by decide) ?_
  refine lv_iadd hx hb dX12_does_15 ?_
  obtain ⟨hg, hf⟩ := gd_some hf
  refine ald_i (k := Int32.toNatClampNeg (x1 + 2)) hF hG hP 2 rfl rfl hg dX12_does_16 ?_
  refine lv_istore_n (lv' := [(3, .int (t_read (Int32.toNatClampNeg (x1 + 2)))), (2, .int (t_read (Int32.toNatClampNeg (x1 + 1)))), (0, .ref a_t), (1, .int x1)]) hx hb dX12_does_17 rfl hl (by decide) rfl (fun ls hl => ?_)
  refine lv_iconst (v := 0) hx hb dX12_does_18 (by decide) ?_
  refine lv_istore (lv' := [(4, .int 0), (3, .int (t_read (Int32.toNatClampNeg (x1 + 2)))), (2, .int (t_read (Int32.toNatClampNeg (x1 + 1)))), (0, .ref a_t), (1, .int x1)]) hx hb dX12_does_19 hl (by decide) rfl (fun ls hl => ?_)
  refine lv_aload_n hx hb dX12_does_21 rfl (lv_at hl 3 rfl) ?_
  refine gf (C := RX12) (T := TX12) (N := 16) (ci := 8) (v := .ref a_t_read) hF hG hP inX12 0 rfl rfl 10 (by decide) q1030 rfl rfl dX12_does_22 ?_
  refine lv_iload_n hx hb dX12_does_25 rfl (lv_at hl 4 rfl) ?_
  obtain ⟨hg, hf⟩ := gd_some hf
  refine ald_i (k := Int32.toNatClampNeg x1) hF hG hP 2 rfl rfl hg dX12_does_26 ?_
  rcases Classical.em ((t_read (Int32.toNatClampNeg x1)) = (108 : Int32)) with c0 | c0
  · have hf := (if_pos c0).symm.trans hf
    refine lv_tableIn (off := 185) (tgt := 212) hx hb dX12_does_27 (by rw [c0] <;> decide) (by rw [c0] <;> decide) (by rw [c0] <;> rfl) (by decide) ?_
    refine lv_aload_n hx hb dX12_does_212 rfl (lv_at hl 3 rfl) ?_
    refine gf (C := RX12) (T := TX12) (N := 16) (ci := 8) (v := .ref a_t_s) hF hG hP inX12 0 rfl rfl 1 (by decide) q1021 rfl rfl dX12_does_213 ?_
    refine lv_iconst (v := 4) hx hb dX12_does_216 (by decide) ?_
    refine lv_iload_n hx hb dX12_does_217 rfl (lv_at hl 2 rfl) ?_
    refine ast_i (k := 4) hF hG hP hD hS 1 rfl (by decide) (by decide) dX12_does_218 (fun H locs hP hD hS => ?_)
    replace hP : va_P G.1 vwCl [(a_t, .inr (8, [.int t_thrown, .ref a_t_s, .ref a_t_states, .int t_stateMany, .ref a_t_snapshot, .int t_hasSnapshot, .ref a_t_text, .int t_length, .int t_at, .int t_isWell, .ref a_t_read, .int t_readMany, .ref a_t_prices, .int t_priceMany, .int t_pieceMany, .long t_coins])), (a_t_s, .inl (G.2.1, 68, .inl (upd t_s 4 (t_read (Int32.toNatClampNeg (x1 + 1)))))), (a_t_read, .inl (G.2.1, 160, .inl t_read)), (a_t_prices, .inl (G.2.1, 60, .inl t_prices))] H := hP
    replace hD : va_D A [(a_t, .inr (8, [.int t_thrown, .ref a_t_s, .ref a_t_states, .int t_stateMany, .ref a_t_snapshot, .int t_hasSnapshot, .ref a_t_text, .int t_length, .int t_at, .int t_isWell, .ref a_t_read, .int t_readMany, .ref a_t_prices, .int t_priceMany, .int t_pieceMany, .long t_coins])), (a_t_s, .inl (G.2.1, 68, .inl (upd t_s 4 (t_read (Int32.toNatClampNeg (x1 + 1)))))), (a_t_read, .inl (G.2.1, 160, .inl t_read)), (a_t_prices, .inl (G.2.1, 60, .inl t_prices))] := hD
    refine lv_iconst (v := 0) hx hb dX12_does_219 (by decide) ?_
    have hf : (some (0, (upd t_s 4 (t_read (Int32.toNatClampNeg (x1 + 1))))) : Option (Int32 × (Nat → Int32))) = some (rr, w_t_s) := hf
    cases hf
    exact we_i hF hr hlk hP hD hS dX12_does_220 rfl
  · have hf := (if_neg c0).symm.trans hf
    rcases Classical.em ((t_read (Int32.toNatClampNeg x1)) = (109 : Int32)) with c1 | c1
    · have hf := (if_pos c1).symm.trans hf
      refine lv_tableIn (off := 176) (tgt := 203) hx hb dX12_does_27 (by rw [c1] <;> decide) (by rw [c1] <;> decide) (by rw [c1] <;> rfl) (by decide) ?_
      refine lv_aload_n hx hb dX12_does_203 rfl (lv_at hl 3 rfl) ?_
      refine gf (C := RX12) (T := TX12) (N := 16) (ci := 8) (v := .ref a_t_s) hF hG hP inX12 0 rfl rfl 1 (by decide) q1021 rfl rfl dX12_does_204 ?_
      refine lv_iconst (v := 3) hx hb dX12_does_207 (by decide) ?_
      refine lv_iload_n hx hb dX12_does_208 rfl (lv_at hl 2 rfl) ?_
      refine ast_i (k := 3) hF hG hP hD hS 1 rfl (by decide) (by decide) dX12_does_209 (fun H locs hP hD hS => ?_)
      replace hP : va_P G.1 vwCl [(a_t, .inr (8, [.int t_thrown, .ref a_t_s, .ref a_t_states, .int t_stateMany, .ref a_t_snapshot, .int t_hasSnapshot, .ref a_t_text, .int t_length, .int t_at, .int t_isWell, .ref a_t_read, .int t_readMany, .ref a_t_prices, .int t_priceMany, .int t_pieceMany, .long t_coins])), (a_t_s, .inl (G.2.1, 68, .inl (upd t_s 3 (t_read (Int32.toNatClampNeg (x1 + 1)))))), (a_t_read, .inl (G.2.1, 160, .inl t_read)), (a_t_prices, .inl (G.2.1, 60, .inl t_prices))] H := hP
      replace hD : va_D A [(a_t, .inr (8, [.int t_thrown, .ref a_t_s, .ref a_t_states, .int t_stateMany, .ref a_t_snapshot, .int t_hasSnapshot, .ref a_t_text, .int t_length, .int t_at, .int t_isWell, .ref a_t_read, .int t_readMany, .ref a_t_prices, .int t_priceMany, .int t_pieceMany, .long t_coins])), (a_t_s, .inl (G.2.1, 68, .inl (upd t_s 3 (t_read (Int32.toNatClampNeg (x1 + 1)))))), (a_t_read, .inl (G.2.1, 160, .inl t_read)), (a_t_prices, .inl (G.2.1, 60, .inl t_prices))] := hD
      refine lv_iconst (v := 0) hx hb dX12_does_210 (by decide) ?_
      have hf : (some (0, (upd t_s 3 (t_read (Int32.toNatClampNeg (x1 + 1))))) : Option (Int32 × (Nat → Int32))) = some (rr, w_t_s) := hf
      cases hf
      exact we_i hF hr hlk hP hD hS dX12_does_211 rfl
    · have hf := (if_neg c1).symm.trans hf
      rcases Classical.em ((t_read (Int32.toNatClampNeg x1)) = (112 : Int32)) with c2 | c2
      · have hf := (if_pos c2).symm.trans hf
        refine lv_tableIn (off := 65) (tgt := 92) hx hb dX12_does_27 (by rw [c2] <;> decide) (by rw [c2] <;> decide) (by rw [c2] <;> rfl) (by decide) ?_
        refine lv_aload_n hx hb dX12_does_92 rfl (lv_at hl 3 rfl) ?_
        refine gf (C := RX12) (T := TX12) (N := 16) (ci := 8) (v := .ref a_t_s) hF hG hP inX12 0 rfl rfl 1 (by decide) q1021 rfl rfl dX12_does_93 ?_
        refine lv_iconst (v := 0) hx hb dX12_does_96 (by decide) ?_
        refine ald_i (k := 0) hF hG hP 1 rfl (by decide) (by decide) dX12_does_97 ?_
        refine lv_aload_n hx hb dX12_does_98 rfl (lv_at hl 3 rfl) ?_
        refine gf (C := RX12) (T := TX12) (N := 16) (ci := 8) (v := .ref a_t_read) hF hG hP inX12 0 rfl rfl 10 (by decide) q1030 rfl rfl dX12_does_99 ?_
        refine lv_iload_n hx hb dX12_does_102 rfl (lv_at hl 4 rfl) ?_
        refine lv_iconst (v := 4) hx hb dX12_does_103 (by decide) ?_
        refine lv_iadd hx hb dX12_does_104 ?_
        obtain ⟨hg, hf⟩ := gd_some hf
        refine ald_i (k := Int32.toNatClampNeg (x1 + 4)) hF hG hP 2 rfl rfl hg dX12_does_105 ?_
        refine lv_iadd hx hb dX12_does_106 ?_
        refine lv_bipush (v := 60) hx hb dX12_does_107 (by decide) ?_
        obtain ⟨j_1, hq, hf⟩ := bd1_some hf
        have J117 : ∀ (H : Heap) (locs : List Loc), va_P G.1 vwCl ([(a_t, .inr (8, [.int t_thrown, .ref a_t_s, .ref a_t_states, .int t_stateMany, .ref a_t_snapshot, .int t_hasSnapshot, .ref a_t_text, .int t_length, .int t_at, .int t_isWell, .ref a_t_read, .int t_readMany, .ref a_t_prices, .int t_priceMany, .int t_pieceMany, .long t_coins])), (a_t_s, .inl (G.2.1, 68, .inl t_s)), (a_t_read, .inl (G.2.1, 160, .inl t_read)), (a_t_prices, .inl (G.2.1, 60, .inl t_prices))] : va_W) H → va_D A ([(a_t, .inr (8, [.int t_thrown, .ref a_t_s, .ref a_t_states, .int t_stateMany, .ref a_t_snapshot, .int t_hasSnapshot, .ref a_t_text, .int t_length, .int t_at, .int t_isWell, .ref a_t_read, .int t_readMany, .ref a_t_prices, .int t_priceMany, .int t_pieceMany, .long t_coins])), (a_t_s, .inl (G.2.1, 68, .inl t_s)), (a_t_read, .inl (G.2.1, 160, .inl t_read)), (a_t_prices, .inl (G.2.1, 60, .inl t_prices))] : va_W) → va_S A s.heap H locs → ∀ ls : Array Slot, lv_has ls 6 [(0, .ref a_t), (1, .int x1)] → W p l e RM_X12_does s m [.ref a_t, .int x1].toArray below meth c H locs 0 0 (MQ below (wrQ (some (.int rr)) G [(a_t, .inr (8, [.int t_thrown, .ref a_t_s, .ref a_t_states, .int t_stateMany, .ref a_t_snapshot, .int t_hasSnapshot, .ref a_t_text, .int t_length, .int t_at, .int t_isWell, .ref a_t_read, .int t_readMany, .ref a_t_prices, .int t_priceMany, .int t_pieceMany, .long t_coins])), (a_t_s, .inl (G.2.1, 68, .inl w_t_s)), (a_t_read, .inl (G.2.1, 160, .inl t_read)), (a_t_prices, .inl (G.2.1, 60, .inl t_prices))] A) [.ref a_t, .int x1].toArray s 0 0 A) (F0 m 117 ls [.int j_1]) := by
          intro H locs hP hD hS ls hl
          refine lv_istore (lv' := [(4, .int j_1), (0, .ref a_t), (1, .int x1)]) hx hb dX12_does_117 hl (by decide) rfl (fun ls hl => ?_)
          refine lv_iconst (v := 0) hx hb dX12_does_119 (by decide) ?_
          refine lv_istore (lv' := [(5, .int 0), (4, .int j_1), (0, .ref a_t), (1, .int x1)]) hx hb dX12_does_120 hl (by decide) rfl (fun ls hl => ?_)
          obtain ⟨t_s_4, hq, hf⟩ := bd1_some hf
          have K122 : ∀ (H : Heap) (locs : List Loc), va_P G.1 vwCl ([(a_t, .inr (8, [.int t_thrown, .ref a_t_s, .ref a_t_states, .int t_stateMany, .ref a_t_snapshot, .int t_hasSnapshot, .ref a_t_text, .int t_length, .int t_at, .int t_isWell, .ref a_t_read, .int t_readMany, .ref a_t_prices, .int t_priceMany, .int t_pieceMany, .long t_coins])), (a_t_s, .inl (G.2.1, 68, .inl t_s_4)), (a_t_read, .inl (G.2.1, 160, .inl t_read)), (a_t_prices, .inl (G.2.1, 60, .inl t_prices))] : va_W) H → va_D A ([(a_t, .inr (8, [.int t_thrown, .ref a_t_s, .ref a_t_states, .int t_stateMany, .ref a_t_snapshot, .int t_hasSnapshot, .ref a_t_text, .int t_length, .int t_at, .int t_isWell, .ref a_t_read, .int t_readMany, .ref a_t_prices, .int t_priceMany, .int t_pieceMany, .long t_coins])), (a_t_s, .inl (G.2.1, 68, .inl t_s_4)), (a_t_read, .inl (G.2.1, 160, .inl t_read)), (a_t_prices, .inl (G.2.1, 60, .inl t_prices))] : va_W) → va_S A s.heap H locs → ∀ ls : Array Slot, lv_has ls 6 [(4, .int j_1)] → W p l e RM_X12_does s m [.ref a_t, .int x1].toArray below meth c H locs 0 0 (MQ below (wrQ (some (.int rr)) G [(a_t, .inr (8, [.int t_thrown, .ref a_t_s, .ref a_t_states, .int t_stateMany, .ref a_t_snapshot, .int t_hasSnapshot, .ref a_t_text, .int t_length, .int t_at, .int t_isWell, .ref a_t_read, .int t_readMany, .ref a_t_prices, .int t_priceMany, .int t_pieceMany, .long t_coins])), (a_t_s, .inl (G.2.1, 68, .inl w_t_s)), (a_t_read, .inl (G.2.1, 160, .inl t_read)), (a_t_prices, .inl (G.2.1, 60, .inl t_prices))] A) [.ref a_t, .int x1].toArray s 0 0 A) (F0 m 166 ls []) := by
            intro H locs hP hD hS ls hl
            refine lv_iload hx hb dX12_does_166 (lv_at hl 0 rfl) ?_
            have hf : (some (j_1, t_s_4) : Option (Int32 × (Nat → Int32))) = some (rr, w_t_s) := hf
            cases hf
            exact we_i hF hr hlk hP hD hS dX12_does_168 rfl
          clear hf
          have L122 : ∀ (n : Nat) (i5_2 : Int32) (t_s_3 : Nat → Int32), l_X12_does_122 t_read t_prices x1 j_1 n i5_2 t_s_3 = some t_s_4 → ∀ (H : Heap) (locs : List Loc), va_P G.1 vwCl ([(a_t, .inr (8, [.int t_thrown, .ref a_t_s, .ref a_t_states, .int t_stateMany, .ref a_t_snapshot, .int t_hasSnapshot, .ref a_t_text, .int t_length, .int t_at, .int t_isWell, .ref a_t_read, .int t_readMany, .ref a_t_prices, .int t_priceMany, .int t_pieceMany, .long t_coins])), (a_t_s, .inl (G.2.1, 68, .inl t_s_3)), (a_t_read, .inl (G.2.1, 160, .inl t_read)), (a_t_prices, .inl (G.2.1, 60, .inl t_prices))] : va_W) H → va_D A ([(a_t, .inr (8, [.int t_thrown, .ref a_t_s, .ref a_t_states, .int t_stateMany, .ref a_t_snapshot, .int t_hasSnapshot, .ref a_t_text, .int t_length, .int t_at, .int t_isWell, .ref a_t_read, .int t_readMany, .ref a_t_prices, .int t_priceMany, .int t_pieceMany, .long t_coins])), (a_t_s, .inl (G.2.1, 68, .inl t_s_3)), (a_t_read, .inl (G.2.1, 160, .inl t_read)), (a_t_prices, .inl (G.2.1, 60, .inl t_prices))] : va_W) → va_S A s.heap H locs → ∀ ls : Array Slot, lv_has ls 6 [(0, .ref a_t), (1, .int x1), (4, .int j_1), (5, .int i5_2)] → W p l e RM_X12_does s m [.ref a_t, .int x1].toArray below meth c H locs 0 0 (MQ below (wrQ (some (.int rr)) G [(a_t, .inr (8, [.int t_thrown, .ref a_t_s, .ref a_t_states, .int t_stateMany, .ref a_t_snapshot, .int t_hasSnapshot, .ref a_t_text, .int t_length, .int t_at, .int t_isWell, .ref a_t_read, .int t_readMany, .ref a_t_prices, .int t_priceMany, .int t_pieceMany, .long t_coins])), (a_t_s, .inl (G.2.1, 68, .inl w_t_s)), (a_t_read, .inl (G.2.1, 160, .inl t_read)), (a_t_prices, .inl (G.2.1, 60, .inl t_prices))] A) [.ref a_t, .int x1].toArray s 0 0 A) (F0 m 122 ls []) := by
            intro n
            induction n with
            | zero =>
              intro i5_2 t_s_3 hf
              exact nomatch (show none = some t_s_4 from hf)
            | succ n ih =>
              intro i5_2 t_s_3 hf H locs hP hD hS ls hl
              rw [l_X12_does_122] at hf
              refine lv_iload hx hb dX12_does_122 (lv_at hl 3 rfl) ?_
              refine lv_aload_n hx hb dX12_does_124 rfl (lv_at hl 0 rfl) ?_
              refine gf (C := RX12) (T := TX12) (N := 16) (ci := 8) (v := .ref a_t_read) hF hG hP inX12 0 rfl rfl 10 (by decide) q1030 rfl rfl dX12_does_125 ?_
              refine lv_iload_n hx hb dX12_does_128 rfl (lv_at hl 1 rfl) ?_
              refine lv_iconst (v := 4) hx hb dX12_does_129 (by decide) ?_
              refine lv_iadd hx hb dX12_does_130 ?_
              obtain ⟨hg, hf⟩ := gd_some hf
              refine ald_i (k := Int32.toNatClampNeg (x1 + 4)) hF hG hP 2 rfl rfl hg dX12_does_131 ?_
              refine lv_icmp_ge (tgt := 166) hx hb dX12_does_132 (by decide) (fun c0 => ?_) (fun c0 => ?_)
              · have hf := (if_pos c0).symm.trans hf
                have hf : (some t_s_3 : Option ((Nat → Int32))) = some t_s_4 := hf
                cases hf
                exact K122 _ _ hP hD hS ls (lv_sub hl [2] rfl)
              · have hf := (if_neg c0).symm.trans hf
                refine lv_iload hx hb dX12_does_135 (lv_at hl 2 rfl) ?_
                refine lv_if_ne (tgt := 166) hx hb dX12_does_137 (by decide) (fun c0 => ?_) (fun c0 => ?_)
                · have hf := (if_neg c0).symm.trans hf
                  have hf : (some t_s_3 : Option ((Nat → Int32))) = some t_s_4 := hf
                  cases hf
                  exact K122 _ _ hP hD hS ls (lv_sub hl [2] rfl)
                · have hf := (if_pos c0).symm.trans hf
                  refine lv_aload_n hx hb dX12_does_140 rfl (lv_at hl 0 rfl) ?_
                  refine lv_aload_n hx hb dX12_does_141 rfl (lv_at hl 0 rfl) ?_
                  refine gf (C := RX12) (T := TX12) (N := 16) (ci := 8) (v := .ref a_t_prices) hF hG hP inX12 0 rfl rfl 12 (by decide) q1032 rfl rfl dX12_does_142 ?_
                  refine lv_aload_n hx hb dX12_does_145 rfl (lv_at hl 0 rfl) ?_
                  refine gf (C := RX12) (T := TX12) (N := 16) (ci := 8) (v := .ref a_t_read) hF hG hP inX12 0 rfl rfl 10 (by decide) q1030 rfl rfl dX12_does_146 ?_
                  refine lv_iload_n hx hb dX12_does_149 rfl (lv_at hl 1 rfl) ?_
                  refine lv_iconst (v := 3) hx hb dX12_does_150 (by decide) ?_
                  refine lv_iadd hx hb dX12_does_151 ?_
                  obtain ⟨hg, hf⟩ := gd_some hf
                  refine ald_i (k := Int32.toNatClampNeg (x1 + 3)) hF hG hP 2 rfl rfl hg dX12_does_152 ?_
                  refine lv_iload hx hb dX12_does_153 (lv_at hl 3 rfl) ?_
                  refine lv_iadd hx hb dX12_does_155 ?_
                  obtain ⟨hg, hf⟩ := gd_some hf
                  refine ald_i (k := Int32.toNatClampNeg ((t_read (Int32.toNatClampNeg (x1 + 3))) + i5_2)) hF hG hP 3 rfl rfl hg dX12_does_156 ?_
                  obtain ⟨t_s_5, hq, hf⟩ := bd1_some hf
                  refine wrV (As := [.int (t_prices (Int32.toNatClampNeg ((t_read (Int32.toNatClampNeg (x1 + 3))) + i5_2)))]) (rest := []) (wn := [(a_t, .inr (8, [.int t_thrown, .ref a_t_s, .ref a_t_states, .int t_stateMany, .ref a_t_snapshot, .int t_hasSnapshot, .ref a_t_text, .int t_length, .int t_at, .int t_isWell, .ref a_t_read, .int t_readMany, .ref a_t_prices, .int t_priceMany, .int t_pieceMany, .long t_coins])), (a_t_s, .inl (G.2.1, 68, .inl t_s_5)), (a_t_read, .inl (G.2.1, 160, .inl t_read)), (a_t_prices, .inl (G.2.1, 60, .inl t_prices))]) hF hG hP hD hS hA hl.1 (c_X12_adds l G a_t t_thrown a_t_states t_stateMany a_t_snapshot t_hasSnapshot a_t_text t_length t_at t_isWell a_t_read t_readMany a_t_prices t_priceMany t_pieceMany t_coins a_t_s t_s_3 (t_prices (Int32.toNatClampNeg ((t_read (Int32.toNatClampNeg (x1 + 3))) + i5_2))) t_s_5 hq) k_X12_adds q1091 [0, 1] [2, 3] [2, 3, 0, 1] rfl rfl rfl rfl ⟨rfl, rfl⟩ (by decide) ⟨0, 8, _, _, rfl, rfl, rfl⟩ rfl rfl (Nat.le_of_ble_eq_true rfl) ⟨(Nat.le_of_ble_eq_true rfl), (Nat.le_of_ble_eq_true rfl)⟩ ⟨(Nat.le_of_ble_eq_true rfl), (Nat.le_of_ble_eq_true rfl)⟩ dX12_does_157 (fun H locs hP hD hS => ?_)
                  refine lv_iinc (v := (i5_2 + 1)) (lv' := [(5, .int (i5_2 + 1)), (0, .ref a_t), (1, .int x1), (4, .int j_1)]) hx hb dX12_does_160 hl (k := 3) rfl rfl (by decide) rfl (fun ls hl => ?_)
                  refine lv_goto (tgt := 122) hx hb dX12_does_163 (by decide) ?_
                  exact ih (i5_2 + 1) t_s_5 hf _ _ hP hD hS ls (lv_sub hl [1, 2, 3, 0] rfl)
          exact L122 1000 0 t_s hq _ _ hP hD hS ls (lv_sub hl [2, 3, 1, 0] rfl)
        clear hf
        have hf := hq
        clear hq
        refine lv_icmp_le (tgt := 116) hx hb dX12_does_109 (by decide) (fun c0 => ?_) (fun c0 => ?_)
        · have hf := (if_pos c0).symm.trans hf
          refine lv_iconst (v := 0) hx hb dX12_does_116 (by decide) ?_
          have hf : (some 0 : Option (Int32)) = some j_1 := hf
          cases hf
          exact J117 _ _ hP hD hS ls (lv_sub hl [3, 4] rfl)
        · have hf := (if_neg c0).symm.trans hf
          refine lv_iconst (v := 1) hx hb dX12_does_112 (by decide) ?_
          refine lv_goto (tgt := 117) hx hb dX12_does_113 (by decide) ?_
          have hf : (some 1 : Option (Int32)) = some j_1 := hf
          cases hf
          exact J117 _ _ hP hD hS ls (lv_sub hl [3, 4] rfl)
      · have hf := (if_neg c2).symm.trans hf
        rcases Classical.em ((t_read (Int32.toNatClampNeg x1)) = (119 : Int32)) with c3 | c3
        · have hf := (if_pos c3).symm.trans hf
          refine lv_tableIn (off := 142) (tgt := 169) hx hb dX12_does_27 (by rw [c3] <;> decide) (by rw [c3] <;> decide) (by rw [c3] <;> rfl) (by decide) ?_
          refine lv_iload_n hx hb dX12_does_169 rfl (lv_at hl 2 rfl) ?_
          refine lv_iload_n hx hb dX12_does_170 rfl (lv_at hl 1 rfl) ?_
          obtain ⟨j_6, hq, hf⟩ := bd1_some hf
          have J179 : ∀ (H : Heap) (locs : List Loc), va_P G.1 vwCl ([(a_t, .inr (8, [.int t_thrown, .ref a_t_s, .ref a_t_states, .int t_stateMany, .ref a_t_snapshot, .int t_hasSnapshot, .ref a_t_text, .int t_length, .int t_at, .int t_isWell, .ref a_t_read, .int t_readMany, .ref a_t_prices, .int t_priceMany, .int t_pieceMany, .long t_coins])), (a_t_s, .inl (G.2.1, 68, .inl t_s)), (a_t_read, .inl (G.2.1, 160, .inl t_read)), (a_t_prices, .inl (G.2.1, 60, .inl t_prices))] : va_W) H → va_D A ([(a_t, .inr (8, [.int t_thrown, .ref a_t_s, .ref a_t_states, .int t_stateMany, .ref a_t_snapshot, .int t_hasSnapshot, .ref a_t_text, .int t_length, .int t_at, .int t_isWell, .ref a_t_read, .int t_readMany, .ref a_t_prices, .int t_priceMany, .int t_pieceMany, .long t_coins])), (a_t_s, .inl (G.2.1, 68, .inl t_s)), (a_t_read, .inl (G.2.1, 160, .inl t_read)), (a_t_prices, .inl (G.2.1, 60, .inl t_prices))] : va_W) → va_S A s.heap H locs → ∀ ls : Array Slot, lv_has ls 6 [(0, .ref a_t), (2, .int (t_read (Int32.toNatClampNeg (x1 + 1)))), (3, .int (t_read (Int32.toNatClampNeg (x1 + 2))))] → W p l e RM_X12_does s m [.ref a_t, .int x1].toArray below meth c H locs 0 0 (MQ below (wrQ (some (.int rr)) G [(a_t, .inr (8, [.int t_thrown, .ref a_t_s, .ref a_t_states, .int t_stateMany, .ref a_t_snapshot, .int t_hasSnapshot, .ref a_t_text, .int t_length, .int t_at, .int t_isWell, .ref a_t_read, .int t_readMany, .ref a_t_prices, .int t_priceMany, .int t_pieceMany, .long t_coins])), (a_t_s, .inl (G.2.1, 68, .inl w_t_s)), (a_t_read, .inl (G.2.1, 160, .inl t_read)), (a_t_prices, .inl (G.2.1, 60, .inl t_prices))] A) [.ref a_t, .int x1].toArray s 0 0 A) (F0 m 179 ls [.int j_6]) := by
            intro H locs hP hD hS ls hl
            refine lv_istore (lv' := [(4, .int j_6), (0, .ref a_t), (2, .int (t_read (Int32.toNatClampNeg (x1 + 1)))), (3, .int (t_read (Int32.toNatClampNeg (x1 + 2))))]) hx hb dX12_does_179 hl (by decide) rfl (fun ls hl => ?_)
            refine lv_iload hx hb dX12_does_181 (lv_at hl 0 rfl) ?_
            refine lv_if_ne (tgt := 200) hx hb dX12_does_183 (by decide) (fun c0 => ?_) (fun c0 => ?_)
            · have hf := (if_neg c0).symm.trans hf
              refine lv_iload hx hb dX12_does_200 (lv_at hl 0 rfl) ?_
              have hf : (some (j_6, t_s) : Option (Int32 × (Nat → Int32))) = some (rr, w_t_s) := hf
              cases hf
              exact we_i hF hr hlk hP hD hS dX12_does_202 rfl
            · have hf := (if_pos c0).symm.trans hf
              refine lv_aload_n hx hb dX12_does_186 rfl (lv_at hl 1 rfl) ?_
              refine gf (C := RX12) (T := TX12) (N := 16) (ci := 8) (v := .ref a_t_s) hF hG hP inX12 0 rfl rfl 1 (by decide) q1021 rfl rfl dX12_does_187 ?_
              refine lv_iconst (v := 1) hx hb dX12_does_190 (by decide) ?_
              refine lv_iload_n hx hb dX12_does_191 rfl (lv_at hl 2 rfl) ?_
              refine ast_i (k := 1) hF hG hP hD hS 1 rfl (by decide) (by decide) dX12_does_192 (fun H locs hP hD hS => ?_)
              replace hP : va_P G.1 vwCl [(a_t, .inr (8, [.int t_thrown, .ref a_t_s, .ref a_t_states, .int t_stateMany, .ref a_t_snapshot, .int t_hasSnapshot, .ref a_t_text, .int t_length, .int t_at, .int t_isWell, .ref a_t_read, .int t_readMany, .ref a_t_prices, .int t_priceMany, .int t_pieceMany, .long t_coins])), (a_t_s, .inl (G.2.1, 68, .inl (upd t_s 1 (t_read (Int32.toNatClampNeg (x1 + 1)))))), (a_t_read, .inl (G.2.1, 160, .inl t_read)), (a_t_prices, .inl (G.2.1, 60, .inl t_prices))] H := hP
              replace hD : va_D A [(a_t, .inr (8, [.int t_thrown, .ref a_t_s, .ref a_t_states, .int t_stateMany, .ref a_t_snapshot, .int t_hasSnapshot, .ref a_t_text, .int t_length, .int t_at, .int t_isWell, .ref a_t_read, .int t_readMany, .ref a_t_prices, .int t_priceMany, .int t_pieceMany, .long t_coins])), (a_t_s, .inl (G.2.1, 68, .inl (upd t_s 1 (t_read (Int32.toNatClampNeg (x1 + 1)))))), (a_t_read, .inl (G.2.1, 160, .inl t_read)), (a_t_prices, .inl (G.2.1, 60, .inl t_prices))] := hD
              refine lv_aload_n hx hb dX12_does_193 rfl (lv_at hl 1 rfl) ?_
              refine gf (C := RX12) (T := TX12) (N := 16) (ci := 8) (v := .ref a_t_s) hF hG hP inX12 0 rfl rfl 1 (by decide) q1021 rfl rfl dX12_does_194 ?_
              refine lv_iconst (v := 2) hx hb dX12_does_197 (by decide) ?_
              refine lv_iload_n hx hb dX12_does_198 rfl (lv_at hl 3 rfl) ?_
              refine ast_i (k := 2) hF hG hP hD hS 1 rfl (by decide) (by decide) dX12_does_199 (fun H locs hP hD hS => ?_)
              replace hP : va_P G.1 vwCl [(a_t, .inr (8, [.int t_thrown, .ref a_t_s, .ref a_t_states, .int t_stateMany, .ref a_t_snapshot, .int t_hasSnapshot, .ref a_t_text, .int t_length, .int t_at, .int t_isWell, .ref a_t_read, .int t_readMany, .ref a_t_prices, .int t_priceMany, .int t_pieceMany, .long t_coins])), (a_t_s, .inl (G.2.1, 68, .inl (upd (upd t_s 1 (t_read (Int32.toNatClampNeg (x1 + 1)))) 2 (t_read (Int32.toNatClampNeg (x1 + 2)))))), (a_t_read, .inl (G.2.1, 160, .inl t_read)), (a_t_prices, .inl (G.2.1, 60, .inl t_prices))] H := hP
              replace hD : va_D A [(a_t, .inr (8, [.int t_thrown, .ref a_t_s, .ref a_t_states, .int t_stateMany, .ref a_t_snapshot, .int t_hasSnapshot, .ref a_t_text, .int t_length, .int t_at, .int t_isWell, .ref a_t_read, .int t_readMany, .ref a_t_prices, .int t_priceMany, .int t_pieceMany, .long t_coins])), (a_t_s, .inl (G.2.1, 68, .inl (upd (upd t_s 1 (t_read (Int32.toNatClampNeg (x1 + 1)))) 2 (t_read (Int32.toNatClampNeg (x1 + 2)))))), (a_t_read, .inl (G.2.1, 160, .inl t_read)), (a_t_prices, .inl (G.2.1, 60, .inl t_prices))] := hD
              refine lv_iload hx hb dX12_does_200 (lv_at hl 0 rfl) ?_
              have hf : (some (j_6, (upd (upd t_s 1 (t_read (Int32.toNatClampNeg (x1 + 1)))) 2 (t_read (Int32.toNatClampNeg (x1 + 2))))) : Option (Int32 × (Nat → Int32))) = some (rr, w_t_s) := hf
              cases hf
              exact we_i hF hr hlk hP hD hS dX12_does_202 rfl
          clear hf
          have hf := hq
          clear hq
          refine lv_icmp_ge (tgt := 178) hx hb dX12_does_171 (by decide) (fun c0 => ?_) (fun c0 => ?_)
          · have hf := (if_pos c0).symm.trans hf
            refine lv_iconst (v := 4) hx hb dX12_does_178 (by decide) ?_
            have hf : (some 4 : Option (Int32)) = some j_6 := hf
            cases hf
            exact J179 _ _ hP hD hS ls (lv_sub hl [3, 2, 1] rfl)
          · have hf := (if_neg c0).symm.trans hf
            refine lv_iconst (v := 0) hx hb dX12_does_174 (by decide) ?_
            refine lv_goto (tgt := 179) hx hb dX12_does_175 (by decide) ?_
            have hf : (some 0 : Option (Int32)) = some j_6 := hf
            cases hf
            exact J179 _ _ hP hD hS ls (lv_sub hl [3, 2, 1] rfl)
        · have hf := (if_neg c3).symm.trans hf
          rcases Classical.em ((t_read (Int32.toNatClampNeg x1)) = (120 : Int32)) with c4 | c4
          · have hf := (if_pos c4).symm.trans hf
            refine lv_tableIn (off := 194) (tgt := 221) hx hb dX12_does_27 (by rw [c4] <;> decide) (by rw [c4] <;> decide) (by rw [c4] <;> rfl) (by decide) ?_
            refine lv_aload_n hx hb dX12_does_221 rfl (lv_at hl 3 rfl) ?_
            refine lv_iload_n hx hb dX12_does_222 rfl (lv_at hl 2 rfl) ?_
            obtain ⟨r_7, hq, hf⟩ := bd1_some hf
            refine rdV (As := [.int (t_read (Int32.toNatClampNeg (x1 + 1)))]) (rest := []) hF hG hP hl.1 (c_X12_isDay l G a_t t_thrown a_t_states t_stateMany a_t_snapshot t_hasSnapshot a_t_text t_length t_at t_isWell a_t_read t_readMany a_t_prices t_priceMany t_pieceMany t_coins a_t_s t_s (t_read (Int32.toNatClampNeg (x1 + 1))) r_7 hq) k_X12_isDay q1099 [0, 1] rfl ⟨0, 8, _, _, rfl, rfl, rfl⟩ rfl rfl (Nat.le_of_ble_eq_true rfl) ⟨(Nat.le_of_ble_eq_true rfl), (Nat.le_of_ble_eq_true rfl)⟩ ⟨(Nat.zero_le _), (Nat.zero_le _)⟩ dX12_does_223 ?_
            obtain ⟨j_8, hq, hf⟩ := bd1_some hf
            have J246 : ∀ (H : Heap) (locs : List Loc), va_P G.1 vwCl ([(a_t, .inr (8, [.int t_thrown, .ref a_t_s, .ref a_t_states, .int t_stateMany, .ref a_t_snapshot, .int t_hasSnapshot, .ref a_t_text, .int t_length, .int t_at, .int t_isWell, .ref a_t_read, .int t_readMany, .ref a_t_prices, .int t_priceMany, .int t_pieceMany, .long t_coins])), (a_t_s, .inl (G.2.1, 68, .inl t_s)), (a_t_read, .inl (G.2.1, 160, .inl t_read)), (a_t_prices, .inl (G.2.1, 60, .inl t_prices))] : va_W) H → va_D A ([(a_t, .inr (8, [.int t_thrown, .ref a_t_s, .ref a_t_states, .int t_stateMany, .ref a_t_snapshot, .int t_hasSnapshot, .ref a_t_text, .int t_length, .int t_at, .int t_isWell, .ref a_t_read, .int t_readMany, .ref a_t_prices, .int t_priceMany, .int t_pieceMany, .long t_coins])), (a_t_s, .inl (G.2.1, 68, .inl t_s)), (a_t_read, .inl (G.2.1, 160, .inl t_read)), (a_t_prices, .inl (G.2.1, 60, .inl t_prices))] : va_W) → va_S A s.heap H locs → ∀ ls : Array Slot, lv_has ls 6 [(0, .ref a_t), (2, .int (t_read (Int32.toNatClampNeg (x1 + 1))))] → W p l e RM_X12_does s m [.ref a_t, .int x1].toArray below meth c H locs 0 0 (MQ below (wrQ (some (.int rr)) G [(a_t, .inr (8, [.int t_thrown, .ref a_t_s, .ref a_t_states, .int t_stateMany, .ref a_t_snapshot, .int t_hasSnapshot, .ref a_t_text, .int t_length, .int t_at, .int t_isWell, .ref a_t_read, .int t_readMany, .ref a_t_prices, .int t_priceMany, .int t_pieceMany, .long t_coins])), (a_t_s, .inl (G.2.1, 68, .inl w_t_s)), (a_t_read, .inl (G.2.1, 160, .inl t_read)), (a_t_prices, .inl (G.2.1, 60, .inl t_prices))] A) [.ref a_t, .int x1].toArray s 0 0 A) (F0 m 246 ls [.int j_8]) := by
              intro H locs hP hD hS ls hl
              refine lv_istore (lv' := [(4, .int j_8), (0, .ref a_t), (2, .int (t_read (Int32.toNatClampNeg (x1 + 1))))]) hx hb dX12_does_246 hl (by decide) rfl (fun ls hl => ?_)
              refine lv_iload hx hb dX12_does_248 (lv_at hl 0 rfl) ?_
              refine lv_if_ne (tgt := 259) hx hb dX12_does_250 (by decide) (fun c0 => ?_) (fun c0 => ?_)
              · have hf := (if_neg c0).symm.trans hf
                refine lv_iload hx hb dX12_does_259 (lv_at hl 0 rfl) ?_
                have hf : (some (j_8, t_s) : Option (Int32 × (Nat → Int32))) = some (rr, w_t_s) := hf
                cases hf
                exact we_i hF hr hlk hP hD hS dX12_does_261 rfl
              · have hf := (if_pos c0).symm.trans hf
                refine lv_aload_n hx hb dX12_does_253 rfl (lv_at hl 1 rfl) ?_
                refine lv_iload_n hx hb dX12_does_254 rfl (lv_at hl 2 rfl) ?_
                obtain ⟨r_10, t_s_11, hq, hf⟩ := bd2_some hf
                refine wrV (As := [.int (t_read (Int32.toNatClampNeg (x1 + 1)))]) (rest := []) (wn := [(a_t, .inr (8, [.int t_thrown, .ref a_t_s, .ref a_t_states, .int t_stateMany, .ref a_t_snapshot, .int t_hasSnapshot, .ref a_t_text, .int t_length, .int t_at, .int t_isWell, .ref a_t_read, .int t_readMany, .ref a_t_prices, .int t_priceMany, .int t_pieceMany, .long t_coins])), (a_t_s, .inl (G.2.1, 68, .inl t_s_11)), (a_t_read, .inl (G.2.1, 160, .inl t_read)), (a_t_prices, .inl (G.2.1, 60, .inl t_prices))]) hF hG hP hD hS hA hl.1 (c_X12_presses l G a_t t_thrown a_t_states t_stateMany a_t_snapshot t_hasSnapshot a_t_text t_length t_at t_isWell a_t_read t_readMany a_t_prices t_priceMany t_pieceMany t_coins a_t_s t_s (t_read (Int32.toNatClampNeg (x1 + 1))) r_10 t_s_11 hq) k_X12_presses q1130 [0, 1] [2, 3] [2, 3, 0, 1] rfl rfl rfl rfl ⟨rfl, rfl⟩ (by decide) ⟨0, 8, _, _, rfl, rfl, rfl⟩ rfl rfl (Nat.le_of_ble_eq_true rfl) ⟨(Nat.le_of_ble_eq_true rfl), (Nat.le_of_ble_eq_true rfl)⟩ ⟨(Nat.le_of_ble_eq_true rfl), (Nat.le_of_ble_eq_true rfl)⟩ dX12_does_255 (fun H locs hP hD hS => ?_)
                refine lv_pop hx hb dX12_does_258 rfl ?_
                refine lv_iload hx hb dX12_does_259 (lv_at hl 0 rfl) ?_
                have hf : (some (j_8, t_s_11) : Option (Int32 × (Nat → Int32))) = some (rr, w_t_s) := hf
                cases hf
                exact we_i hF hr hlk hP hD hS dX12_does_261 rfl
            clear hf
            have hf := hq
            clear hq
            refine lv_if_ne (tgt := 233) hx hb dX12_does_226 (by decide) (fun c0 => ?_) (fun c0 => ?_)
            · have hf := (if_neg c0).symm.trans hf
              refine lv_aload_n hx hb dX12_does_233 rfl (lv_at hl 3 rfl) ?_
              refine lv_iload_n hx hb dX12_does_234 rfl (lv_at hl 2 rfl) ?_
              obtain ⟨r_9, hq, hf⟩ := bd1_some hf
              refine rdV (As := [.int (t_read (Int32.toNatClampNeg (x1 + 1)))]) (rest := []) hF hG hP hl.1 (c_X12_creased l G a_t t_thrown a_t_states t_stateMany a_t_snapshot t_hasSnapshot a_t_text t_length t_at t_isWell a_t_read t_readMany a_t_prices t_priceMany t_pieceMany t_coins a_t_s t_s (t_read (Int32.toNatClampNeg (x1 + 1))) r_9 hq) k_X12_creased q1119 [0, 1] rfl ⟨0, 8, _, _, rfl, rfl, rfl⟩ rfl rfl (Nat.le_of_ble_eq_true rfl) ⟨(Nat.le_of_ble_eq_true rfl), (Nat.le_of_ble_eq_true rfl)⟩ ⟨(Nat.zero_le _), (Nat.zero_le _)⟩ dX12_does_235 ?_
              refine lv_if_eq (tgt := 245) hx hb dX12_does_238 (by decide) (fun c0 => ?_) (fun c0 => ?_)
              · have hf := (if_pos c0).symm.trans hf
                refine lv_iconst (v := 3) hx hb dX12_does_245 (by decide) ?_
                have hf : (some 3 : Option (Int32)) = some j_8 := hf
                cases hf
                exact J246 _ _ hP hD hS ls (lv_sub hl [3, 2] rfl)
              · have hf := (if_neg c0).symm.trans hf
                refine lv_iconst (v := 0) hx hb dX12_does_241 (by decide) ?_
                refine lv_goto (tgt := 246) hx hb dX12_does_242 (by decide) ?_
                have hf : (some 0 : Option (Int32)) = some j_8 := hf
                cases hf
                exact J246 _ _ hP hD hS ls (lv_sub hl [3, 2] rfl)
            · have hf := (if_pos c0).symm.trans hf
              refine lv_iconst (v := 2) hx hb dX12_does_229 (by decide) ?_
              refine lv_goto (tgt := 246) hx hb dX12_does_230 (by decide) ?_
              have hf : (some 2 : Option (Int32)) = some j_8 := hf
              cases hf
              exact J246 _ _ hP hD hS ls (lv_sub hl [3, 2] rfl)
          · have hf := (if_neg c4).symm.trans hf
            refine sw_out (tgt := 262) hx hb dX12_does_27 (fun k9 h1 h2 => ?_) (by decide) ?_
            · have h3 : k9 = 108 ∨ k9 = 109 ∨ k9 = 110 ∨ k9 = 111 ∨ k9 = 112 ∨ k9 = 113 ∨ k9 = 114 ∨ k9 = 115 ∨ k9 = 116 ∨ k9 = 117 ∨ k9 = 118 ∨ k9 = 119 ∨ k9 = 120 := by omega
              rcases h3 with rfl | rfl | rfl | rfl | rfl | rfl | rfl | rfl | rfl | rfl | rfl | rfl | rfl <;> first | exact Or.inl rfl | exact Or.inr (lv_neT c0 rfl) | exact Or.inr (lv_neT c1 rfl) | exact Or.inr (lv_neT c2 rfl) | exact Or.inr (lv_neT c3 rfl) | exact Or.inr (lv_neT c4 rfl)
            refine lv_aload_n hx hb dX12_does_262 rfl (lv_at hl 3 rfl) ?_
            obtain ⟨r_12, t_s_13, hq, hf⟩ := bd2_some hf
            refine wrV (As := []) (rest := []) (wn := [(a_t, .inr (8, [.int t_thrown, .ref a_t_s, .ref a_t_states, .int t_stateMany, .ref a_t_snapshot, .int t_hasSnapshot, .ref a_t_text, .int t_length, .int t_at, .int t_isWell, .ref a_t_read, .int t_readMany, .ref a_t_prices, .int t_priceMany, .int t_pieceMany, .long t_coins])), (a_t_s, .inl (G.2.1, 68, .inl t_s_13)), (a_t_read, .inl (G.2.1, 160, .inl t_read)), (a_t_prices, .inl (G.2.1, 60, .inl t_prices))]) hF hG hP hD hS hA hl.1 (c_X12_pressesAll l G a_t t_thrown a_t_states t_stateMany a_t_snapshot t_hasSnapshot a_t_text t_length t_at t_isWell a_t_read t_readMany a_t_prices t_priceMany t_pieceMany t_coins a_t_s t_s r_12 t_s_13 hq) k_X12_pressesAll q1138 [0, 1] [2, 3] [2, 3, 0, 1] rfl rfl rfl rfl ⟨rfl, rfl⟩ (by decide) ⟨0, 8, _, _, rfl, rfl, rfl⟩ rfl rfl (Nat.le_of_ble_eq_true rfl) ⟨(Nat.le_of_ble_eq_true rfl), (Nat.le_of_ble_eq_true rfl)⟩ ⟨(Nat.le_of_ble_eq_true rfl), (Nat.le_of_ble_eq_true rfl)⟩ dX12_does_263 (fun H locs hP hD hS => ?_)
            refine lv_pop hx hb dX12_does_266 rfl ?_
            refine lv_iconst (v := 0) hx hb dX12_does_267 (by decide) ?_
            have hf : (some (0, t_s_13) : Option (Int32 × (Nat → Int32))) = some (rr, w_t_s) := hf
            cases hf
            exact we_i hF hr hlk hP hD hS dX12_does_268 rfl
def l_X12_work_31 (t_readMany_4 : Int32) (t_read_6 : Nat → Int32) (t_prices_7 : Nat → Int32) : Nat → Int32 → Int32 → (Nat → Int32) → Option (Int32 × Int32 × (Nat → Int32))
  | 0, _, _, _ => none
  | n + 1, i1_10, i2_11, t_s_12 => (if t_readMany_4 ≤ i1_10 then some (i1_10, i2_11, t_s_12) else (if i2_11 = 0 then bd2 (f_X12_does t_s_12 t_read_6 t_prices_7 (5 * i1_10)) (fun (r_16 : Int32) (t_s_17 : Nat → Int32) => (if r_16 = 0 then l_X12_work_31 t_readMany_4 t_read_6 t_prices_7 n (i1_10 + 1) r_16 t_s_17 else l_X12_work_31 t_readMany_4 t_read_6 t_prices_7 n (i1_10 + 0) r_16 t_s_17)) else some (i1_10, i2_11, t_s_12)))
def f_X12_work (t_thrown : Int32) (t_stateMany : Int32) (t_length : Int32) (t_at : Int32) (t_isWell : Int32) (t_readMany : Int32) (t_priceMany : Int32) (t_s : Nat → Int32) (t_states : Nat → Int32) (t_text : Nat → Int32) (t_read : Nat → Int32) (t_prices : Nat → Int32) : Option (Int32 × Int32 × Int32 × Int32 × Int32 × Int32 × Int32 × Int32 × (Nat → Int32) × (Nat → Int32) × (Nat → Int32) × (Nat → Int32)) := bd7 (f_X12_readsWorks t_length t_at t_isWell t_readMany t_priceMany t_text t_read t_prices) (fun (r_1 : Int32) (t_at_2 : Int32) (t_isWell_3 : Int32) (t_readMany_4 : Int32) (t_priceMany_5 : Int32) (t_read_6 : Nat → Int32) (t_prices_7 : Nat → Int32) => (if r_1 = 0 then bd2 (f_X12_fails 0 1) (fun (r_19 : Int32) (t_thrown_20 : Int32) => some (r_19, t_thrown_20, t_stateMany, t_length, t_at_2, t_isWell_3, t_readMany_4, t_priceMany_5, t_s, t_states, t_read_6, t_prices_7)) else bd2 (f_X12_records t_stateMany t_s t_states) (fun (t_stateMany_8 : Int32) (t_states_9 : Nat → Int32) => bd3 (l_X12_work_31 t_readMany_4 t_read_6 t_prices_7 1000 0 0 t_s) (fun (o1_13 : Int32) (o2_14 : Int32) (t_s_15 : Nat → Int32) => bd1 (if o2_14 = 0 then some (-1) else some o1_13) (fun (j_18 : Int32) => some (o1_13, 0, t_stateMany_8, 0, t_at_2, t_isWell_3, t_readMany_4, t_priceMany_5, (upd (upd t_s_15 6 j_18) 7 o2_14), t_states_9, t_read_6, t_prices_7))))))
theorem k_X12_work : KV yX12_work cX12_work 3 (some .int) 0 := ⟨qc_yX12_work, q9, ⟨by decide +kernel, by decide +kernel, by decide +kernel⟩, qi_yX12_work, qs_yX12_work⟩
abbrev RM_X12_work : Room := { frames := 6, cells := 0, slots := 0, locals := 133 }
set_option maxHeartbeats 4000000 in
set_option maxRecDepth 100000 in
theorem c_X12_work (l : Launch) (G : GP) (a_t : Nat) (t_thrown : Int32) (t_stateMany : Int32) (a_t_snapshot : Nat) (t_hasSnapshot : Int32) (t_length : Int32) (t_at : Int32) (t_isWell : Int32) (t_readMany : Int32) (t_priceMany : Int32) (t_pieceMany : Int32) (t_coins : Int64) (a_t_s : Nat) (t_s : Nat → Int32) (a_t_states : Nat) (t_states : Nat → Int32) (a_t_text : Nat) (t_text : Nat → Int32) (a_t_read : Nat) (t_read : Nat → Int32) (a_t_prices : Nat) (t_prices : Nat → Int32) (rr : Int32) (w_t_thrown : Int32) (w_t_stateMany : Int32) (w_t_length : Int32) (w_t_at : Int32) (w_t_isWell : Int32) (w_t_readMany : Int32) (w_t_priceMany : Int32) (w_t_s : Nat → Int32) (w_t_states : Nat → Int32) (w_t_read : Nat → Int32) (w_t_prices : Nat → Int32) (hf : f_X12_work t_thrown t_stateMany t_length t_at t_isWell t_readMany t_priceMany t_s t_states t_text t_read t_prices = some (rr, w_t_thrown, w_t_stateMany, w_t_length, w_t_at, w_t_isWell, w_t_readMany, w_t_priceMany, w_t_s, w_t_states, w_t_read, w_t_prices)) : WM l yX12_work cX12_work 3 (some .int) 6 133 G [.ref a_t] [(a_t, .inr (8, [.int t_thrown, .ref a_t_s, .ref a_t_states, .int t_stateMany, .ref a_t_snapshot, .int t_hasSnapshot, .ref a_t_text, .int t_length, .int t_at, .int t_isWell, .ref a_t_read, .int t_readMany, .ref a_t_prices, .int t_priceMany, .int t_pieceMany, .long t_coins])), (a_t_s, .inl (G.2.1, 68, .inl t_s)), (a_t_states, .inl (G.2.1, 408, .inl t_states)), (a_t_text, .inl (G.2.1, 60, .inl t_text)), (a_t_read, .inl (G.2.1, 160, .inl t_read)), (a_t_prices, .inl (G.2.1, 60, .inl t_prices))] (some (.int rr)) [(a_t, .inr (8, [.int w_t_thrown, .ref a_t_s, .ref a_t_states, .int w_t_stateMany, .ref a_t_snapshot, .int t_hasSnapshot, .ref a_t_text, .int w_t_length, .int w_t_at, .int w_t_isWell, .ref a_t_read, .int w_t_readMany, .ref a_t_prices, .int w_t_priceMany, .int t_pieceMany, .long t_coins])), (a_t_s, .inl (G.2.1, 68, .inl w_t_s)), (a_t_states, .inl (G.2.1, 408, .inl w_t_states)), (a_t_text, .inl (G.2.1, 60, .inl t_text)), (a_t_read, .inl (G.2.1, 160, .inl w_t_read)), (a_t_prices, .inl (G.2.1, 60, .inl w_t_prices))] := by
  refine WM.ofW (C := RX12) (by decide) rfl (Nat.le_of_ble_eq_true rfl) ?_
  intro p e s m below meth c A hF hr hlk hG hA hP hD ls hl
  have hl : lv_has ls 3 [(0, .ref a_t)] := hl
  have hx := hF.1
  have hb := hF.2.1
  have hml := hF.2.2.1
  have hown := hF.2.2.2.1
  have hts := hF.2.2.2.2
  have hS : va_S A s.heap s.heap [] := va_S.rf
  unfold f_X12_work at hf
  refine lv_aload_n hx hb dX12_work_0 rfl (lv_at hl 0 rfl) ?_
  refine lv_iconst (v := 0) hx hb dX12_work_1 (by decide) ?_
  refine pf (C := RX12) (T := TX12) (N := 16) (ci := 8) (v := .int 0) (ty := .int) hF hG hP hD hS inX12 tyX12 tyX12_ok nmX12 0 rfl rfl 0 (by decide) q1020 rfl rfl (by decide +kernel) rfl rfl (Nat.le_of_ble_eq_true rfl) dX12_work_2 (fun H locs hP hD hS => ?_)
  replace hP : va_P G.1 vwCl [(a_t, .inr (8, [.int 0, .ref a_t_s, .ref a_t_states, .int t_stateMany, .ref a_t_snapshot, .int t_hasSnapshot, .ref a_t_text, .int t_length, .int t_at, .int t_isWell, .ref a_t_read, .int t_readMany, .ref a_t_prices, .int t_priceMany, .int t_pieceMany, .long t_coins])), (a_t_s, .inl (G.2.1, 68, .inl t_s)), (a_t_states, .inl (G.2.1, 408, .inl t_states)), (a_t_text, .inl (G.2.1, 60, .inl t_text)), (a_t_read, .inl (G.2.1, 160, .inl t_read)), (a_t_prices, .inl (G.2.1, 60, .inl t_prices))] H := hP
  replace hD : va_D A [(a_t, .inr (8, [.int 0, .ref a_t_s, .ref a_t_states, .int t_stateMany, .ref a_t_snapshot, .int t_hasSnapshot, .ref a_t_text, .int t_length, .int t_at, .int t_isWell, .ref a_t_read, .int t_readMany, .ref a_t_prices, .int t_priceMany, .int t_pieceMany, .long t_coins])), (a_t_s, .inl (G.2.1, 68, .inl t_s)), (a_t_states, .inl (G.2.1, 408, .inl t_states)), (a_t_text, .inl (G.2.1, 60, .inl t_text)), (a_t_read, .inl (G.2.1, 160, .inl t_read)), (a_t_prices, .inl (G.2.1, 60, .inl t_prices))] := hD
  refine lv_aload_n hx hb dX12_work_5 rfl (lv_at hl 0 rfl) ?_
  obtain ⟨r_1, t_at_2, t_isWell_3, t_readMany_4, t_priceMany_5, t_read_6, t_prices_7, hq, hf⟩ := bd7_some hf
  refine wrV (As := []) (rest := []) (wn := [(a_t, .inr (8, [.int 0, .ref a_t_s, .ref a_t_states, .int t_stateMany, .ref a_t_snapshot, .int t_hasSnapshot, .ref a_t_text, .int t_length, .int t_at_2, .int t_isWell_3, .ref a_t_read, .int t_readMany_4, .ref a_t_prices, .int t_priceMany_5, .int t_pieceMany, .long t_coins])), (a_t_s, .inl (G.2.1, 68, .inl t_s)), (a_t_states, .inl (G.2.1, 408, .inl t_states)), (a_t_text, .inl (G.2.1, 60, .inl t_text)), (a_t_read, .inl (G.2.1, 160, .inl t_read_6)), (a_t_prices, .inl (G.2.1, 60, .inl t_prices_7))]) hF hG hP hD hS hA hl.1 (c_X12_readsWorks l G a_t 0 a_t_s a_t_states t_stateMany a_t_snapshot t_hasSnapshot t_length t_at t_isWell t_readMany t_priceMany t_pieceMany t_coins a_t_text t_text a_t_read t_read a_t_prices t_prices r_1 t_at_2 t_isWell_3 t_readMany_4 t_priceMany_5 t_read_6 t_prices_7 hq) k_X12_readsWorks q1170 [0, 3, 4, 5] [1, 2] [2, 0, 1, 3, 4, 5] rfl rfl rfl rfl ⟨rfl, rfl⟩ (by decide) ⟨0, 8, _, _, rfl, rfl, rfl⟩ rfl rfl (Nat.le_of_ble_eq_true rfl) ⟨(Nat.le_of_ble_eq_true rfl), (Nat.le_of_ble_eq_true rfl)⟩ ⟨(Nat.le_of_ble_eq_true rfl), (Nat.le_of_ble_eq_true rfl)⟩ dX12_work_6 (fun H locs hP hD hS => ?_)
  refine lv_if_ne (tgt := 18) hx hb dX12_work_9 (by decide) (fun c0 => ?_) (fun c0 => ?_)
  · have hf := (if_neg c0).symm.trans hf
    refine lv_aload_n hx hb dX12_work_18 rfl (lv_at hl 0 rfl) ?_
    obtain ⟨t_stateMany_8, t_states_9, hq, hf⟩ := bd2_some hf
    refine wrV (As := []) (rest := []) (wn := [(a_t, .inr (8, [.int 0, .ref a_t_s, .ref a_t_states, .int t_stateMany_8, .ref a_t_snapshot, .int t_hasSnapshot, .ref a_t_text, .int t_length, .int t_at_2, .int t_isWell_3, .ref a_t_read, .int t_readMany_4, .ref a_t_prices, .int t_priceMany_5, .int t_pieceMany, .long t_coins])), (a_t_s, .inl (G.2.1, 68, .inl t_s)), (a_t_states, .inl (G.2.1, 408, .inl t_states_9)), (a_t_text, .inl (G.2.1, 60, .inl t_text)), (a_t_read, .inl (G.2.1, 160, .inl t_read_6)), (a_t_prices, .inl (G.2.1, 60, .inl t_prices_7))]) hF hG hP hD hS hA hl.1 (c_X12_records l G a_t 0 t_stateMany a_t_snapshot t_hasSnapshot a_t_text t_length t_at_2 t_isWell_3 a_t_read t_readMany_4 a_t_prices t_priceMany_5 t_pieceMany t_coins a_t_s t_s a_t_states t_states t_stateMany_8 t_states_9 hq) k_X12_records q1087 [0, 1, 2] [3, 4, 5] [3, 4, 5, 0, 1, 2] rfl rfl rfl rfl ⟨rfl, rfl⟩ (by decide) ⟨0, 8, _, _, rfl, rfl, rfl⟩ rfl rfl (Nat.le_of_ble_eq_true rfl) ⟨(Nat.le_of_ble_eq_true rfl), (Nat.le_of_ble_eq_true rfl)⟩ ⟨(Nat.le_of_ble_eq_true rfl), (Nat.le_of_ble_eq_true rfl)⟩ dX12_work_19 (fun H locs hP hD hS => ?_)
    refine lv_aload_n hx hb dX12_work_22 rfl (lv_at hl 0 rfl) ?_
    refine lv_iconst (v := 0) hx hb dX12_work_23 (by decide) ?_
    refine pf (C := RX12) (T := TX12) (N := 16) (ci := 8) (v := .int 0) (ty := .int) hF hG hP hD hS inX12 tyX12 tyX12_ok nmX12 0 rfl rfl 7 (by decide) q1027 rfl rfl (by decide +kernel) rfl rfl (Nat.le_of_ble_eq_true rfl) dX12_work_24 (fun H locs hP hD hS => ?_)
    replace hP : va_P G.1 vwCl [(a_t, .inr (8, [.int 0, .ref a_t_s, .ref a_t_states, .int t_stateMany_8, .ref a_t_snapshot, .int t_hasSnapshot, .ref a_t_text, .int 0, .int t_at_2, .int t_isWell_3, .ref a_t_read, .int t_readMany_4, .ref a_t_prices, .int t_priceMany_5, .int t_pieceMany, .long t_coins])), (a_t_s, .inl (G.2.1, 68, .inl t_s)), (a_t_states, .inl (G.2.1, 408, .inl t_states_9)), (a_t_text, .inl (G.2.1, 60, .inl t_text)), (a_t_read, .inl (G.2.1, 160, .inl t_read_6)), (a_t_prices, .inl (G.2.1, 60, .inl t_prices_7))] H := hP
    replace hD : va_D A [(a_t, .inr (8, [.int 0, .ref a_t_s, .ref a_t_states, .int t_stateMany_8, .ref a_t_snapshot, .int t_hasSnapshot, .ref a_t_text, .int 0, .int t_at_2, .int t_isWell_3, .ref a_t_read, .int t_readMany_4, .ref a_t_prices, .int t_priceMany_5, .int t_pieceMany, .long t_coins])), (a_t_s, .inl (G.2.1, 68, .inl t_s)), (a_t_states, .inl (G.2.1, 408, .inl t_states_9)), (a_t_text, .inl (G.2.1, 60, .inl t_text)), (a_t_read, .inl (G.2.1, 160, .inl t_read_6)), (a_t_prices, .inl (G.2.1, 60, .inl t_prices_7))] := hD
    refine lv_iconst (v := 0) hx hb dX12_work_27 (by decide) ?_
    refine lv_istore_n (lv' := [(1, .int 0), (0, .ref a_t)]) hx hb dX12_work_28 rfl hl (by decide) rfl (fun ls hl => ?_)
    refine lv_iconst (v := 0) hx hb dX12_work_29 (by decide) ?_
    refine lv_istore_n (lv' := [(2, .int 0), (1, .int 0), (0, .ref a_t)]) hx hb dX12_work_30 rfl hl (by decide) rfl (fun ls hl => ?_)
    obtain ⟨o1_13, o2_14, t_s_15, hq, hf⟩ := bd3_some hf
    have K31 : ∀ (H : Heap) (locs : List Loc), va_P G.1 vwCl ([(a_t, .inr (8, [.int 0, .ref a_t_s, .ref a_t_states, .int t_stateMany_8, .ref a_t_snapshot, .int t_hasSnapshot, .ref a_t_text, .int 0, .int t_at_2, .int t_isWell_3, .ref a_t_read, .int t_readMany_4, .ref a_t_prices, .int t_priceMany_5, .int t_pieceMany, .long t_coins])), (a_t_s, .inl (G.2.1, 68, .inl t_s_15)), (a_t_states, .inl (G.2.1, 408, .inl t_states_9)), (a_t_text, .inl (G.2.1, 60, .inl t_text)), (a_t_read, .inl (G.2.1, 160, .inl t_read_6)), (a_t_prices, .inl (G.2.1, 60, .inl t_prices_7))] : va_W) H → va_D A ([(a_t, .inr (8, [.int 0, .ref a_t_s, .ref a_t_states, .int t_stateMany_8, .ref a_t_snapshot, .int t_hasSnapshot, .ref a_t_text, .int 0, .int t_at_2, .int t_isWell_3, .ref a_t_read, .int t_readMany_4, .ref a_t_prices, .int t_priceMany_5, .int t_pieceMany, .long t_coins])), (a_t_s, .inl (G.2.1, 68, .inl t_s_15)), (a_t_states, .inl (G.2.1, 408, .inl t_states_9)), (a_t_text, .inl (G.2.1, 60, .inl t_text)), (a_t_read, .inl (G.2.1, 160, .inl t_read_6)), (a_t_prices, .inl (G.2.1, 60, .inl t_prices_7))] : va_W) → va_S A s.heap H locs → ∀ ls : Array Slot, lv_has ls 3 [(0, .ref a_t), (1, .int o1_13), (2, .int o2_14)] → W p l e RM_X12_work s m [.ref a_t].toArray below meth c H locs 0 0 (MQ below (wrQ (some (.int rr)) G [(a_t, .inr (8, [.int w_t_thrown, .ref a_t_s, .ref a_t_states, .int w_t_stateMany, .ref a_t_snapshot, .int t_hasSnapshot, .ref a_t_text, .int w_t_length, .int w_t_at, .int w_t_isWell, .ref a_t_read, .int w_t_readMany, .ref a_t_prices, .int w_t_priceMany, .int t_pieceMany, .long t_coins])), (a_t_s, .inl (G.2.1, 68, .inl w_t_s)), (a_t_states, .inl (G.2.1, 408, .inl w_t_states)), (a_t_text, .inl (G.2.1, 60, .inl t_text)), (a_t_read, .inl (G.2.1, 160, .inl w_t_read)), (a_t_prices, .inl (G.2.1, 60, .inl w_t_prices))] A) [.ref a_t].toArray s 0 0 A) (F0 m 66 ls []) := by
      intro H locs hP hD hS ls hl
      refine lv_aload_n hx hb dX12_work_66 rfl (lv_at hl 0 rfl) ?_
      refine gf (C := RX12) (T := TX12) (N := 16) (ci := 8) (v := .ref a_t_s) hF hG hP inX12 0 rfl rfl 1 (by decide) q1021 rfl rfl dX12_work_67 ?_
      refine lv_bipush (v := 6) hx hb dX12_work_70 (by decide) ?_
      refine lv_iload_n hx hb dX12_work_72 rfl (lv_at hl 2 rfl) ?_
      obtain ⟨j_18, hq, hf⟩ := bd1_some hf
      have J81 : ∀ (H : Heap) (locs : List Loc), va_P G.1 vwCl ([(a_t, .inr (8, [.int 0, .ref a_t_s, .ref a_t_states, .int t_stateMany_8, .ref a_t_snapshot, .int t_hasSnapshot, .ref a_t_text, .int 0, .int t_at_2, .int t_isWell_3, .ref a_t_read, .int t_readMany_4, .ref a_t_prices, .int t_priceMany_5, .int t_pieceMany, .long t_coins])), (a_t_s, .inl (G.2.1, 68, .inl t_s_15)), (a_t_states, .inl (G.2.1, 408, .inl t_states_9)), (a_t_text, .inl (G.2.1, 60, .inl t_text)), (a_t_read, .inl (G.2.1, 160, .inl t_read_6)), (a_t_prices, .inl (G.2.1, 60, .inl t_prices_7))] : va_W) H → va_D A ([(a_t, .inr (8, [.int 0, .ref a_t_s, .ref a_t_states, .int t_stateMany_8, .ref a_t_snapshot, .int t_hasSnapshot, .ref a_t_text, .int 0, .int t_at_2, .int t_isWell_3, .ref a_t_read, .int t_readMany_4, .ref a_t_prices, .int t_priceMany_5, .int t_pieceMany, .long t_coins])), (a_t_s, .inl (G.2.1, 68, .inl t_s_15)), (a_t_states, .inl (G.2.1, 408, .inl t_states_9)), (a_t_text, .inl (G.2.1, 60, .inl t_text)), (a_t_read, .inl (G.2.1, 160, .inl t_read_6)), (a_t_prices, .inl (G.2.1, 60, .inl t_prices_7))] : va_W) → va_S A s.heap H locs → ∀ ls : Array Slot, lv_has ls 3 [(0, .ref a_t), (1, .int o1_13), (2, .int o2_14)] → W p l e RM_X12_work s m [.ref a_t].toArray below meth c H locs 0 0 (MQ below (wrQ (some (.int rr)) G [(a_t, .inr (8, [.int w_t_thrown, .ref a_t_s, .ref a_t_states, .int w_t_stateMany, .ref a_t_snapshot, .int t_hasSnapshot, .ref a_t_text, .int w_t_length, .int w_t_at, .int w_t_isWell, .ref a_t_read, .int w_t_readMany, .ref a_t_prices, .int w_t_priceMany, .int t_pieceMany, .long t_coins])), (a_t_s, .inl (G.2.1, 68, .inl w_t_s)), (a_t_states, .inl (G.2.1, 408, .inl w_t_states)), (a_t_text, .inl (G.2.1, 60, .inl t_text)), (a_t_read, .inl (G.2.1, 160, .inl w_t_read)), (a_t_prices, .inl (G.2.1, 60, .inl w_t_prices))] A) [.ref a_t].toArray s 0 0 A) (F0 m 81 ls [.int j_18, .int 6, .ref a_t_s]) := by
        intro H locs hP hD hS ls hl
        refine ast_i (k := 6) hF hG hP hD hS 1 rfl (by decide) (by decide) dX12_work_81 (fun H locs hP hD hS => ?_)
        replace hP : va_P G.1 vwCl [(a_t, .inr (8, [.int 0, .ref a_t_s, .ref a_t_states, .int t_stateMany_8, .ref a_t_snapshot, .int t_hasSnapshot, .ref a_t_text, .int 0, .int t_at_2, .int t_isWell_3, .ref a_t_read, .int t_readMany_4, .ref a_t_prices, .int t_priceMany_5, .int t_pieceMany, .long t_coins])), (a_t_s, .inl (G.2.1, 68, .inl (upd t_s_15 6 j_18))), (a_t_states, .inl (G.2.1, 408, .inl t_states_9)), (a_t_text, .inl (G.2.1, 60, .inl t_text)), (a_t_read, .inl (G.2.1, 160, .inl t_read_6)), (a_t_prices, .inl (G.2.1, 60, .inl t_prices_7))] H := hP
        replace hD : va_D A [(a_t, .inr (8, [.int 0, .ref a_t_s, .ref a_t_states, .int t_stateMany_8, .ref a_t_snapshot, .int t_hasSnapshot, .ref a_t_text, .int 0, .int t_at_2, .int t_isWell_3, .ref a_t_read, .int t_readMany_4, .ref a_t_prices, .int t_priceMany_5, .int t_pieceMany, .long t_coins])), (a_t_s, .inl (G.2.1, 68, .inl (upd t_s_15 6 j_18))), (a_t_states, .inl (G.2.1, 408, .inl t_states_9)), (a_t_text, .inl (G.2.1, 60, .inl t_text)), (a_t_read, .inl (G.2.1, 160, .inl t_read_6)), (a_t_prices, .inl (G.2.1, 60, .inl t_prices_7))] := hD
        refine lv_aload_n hx hb dX12_work_82 rfl (lv_at hl 0 rfl) ?_
        refine gf (C := RX12) (T := TX12) (N := 16) (ci := 8) (v := .ref a_t_s) hF hG hP inX12 0 rfl rfl 1 (by decide) q1021 rfl rfl dX12_work_83 ?_
        refine lv_bipush (v := 7) hx hb dX12_work_86 (by decide) ?_
        refine lv_iload_n hx hb dX12_work_88 rfl (lv_at hl 2 rfl) ?_
        refine ast_i (k := 7) hF hG hP hD hS 1 rfl (by decide) (by decide) dX12_work_89 (fun H locs hP hD hS => ?_)
        replace hP : va_P G.1 vwCl [(a_t, .inr (8, [.int 0, .ref a_t_s, .ref a_t_states, .int t_stateMany_8, .ref a_t_snapshot, .int t_hasSnapshot, .ref a_t_text, .int 0, .int t_at_2, .int t_isWell_3, .ref a_t_read, .int t_readMany_4, .ref a_t_prices, .int t_priceMany_5, .int t_pieceMany, .long t_coins])), (a_t_s, .inl (G.2.1, 68, .inl (upd (upd t_s_15 6 j_18) 7 o2_14))), (a_t_states, .inl (G.2.1, 408, .inl t_states_9)), (a_t_text, .inl (G.2.1, 60, .inl t_text)), (a_t_read, .inl (G.2.1, 160, .inl t_read_6)), (a_t_prices, .inl (G.2.1, 60, .inl t_prices_7))] H := hP
        replace hD : va_D A [(a_t, .inr (8, [.int 0, .ref a_t_s, .ref a_t_states, .int t_stateMany_8, .ref a_t_snapshot, .int t_hasSnapshot, .ref a_t_text, .int 0, .int t_at_2, .int t_isWell_3, .ref a_t_read, .int t_readMany_4, .ref a_t_prices, .int t_priceMany_5, .int t_pieceMany, .long t_coins])), (a_t_s, .inl (G.2.1, 68, .inl (upd (upd t_s_15 6 j_18) 7 o2_14))), (a_t_states, .inl (G.2.1, 408, .inl t_states_9)), (a_t_text, .inl (G.2.1, 60, .inl t_text)), (a_t_read, .inl (G.2.1, 160, .inl t_read_6)), (a_t_prices, .inl (G.2.1, 60, .inl t_prices_7))] := hD
        refine lv_iload_n hx hb dX12_work_90 rfl (lv_at hl 1 rfl) ?_
        have hf : (some (o1_13, 0, t_stateMany_8, 0, t_at_2, t_isWell_3, t_readMany_4, t_priceMany_5, (upd (upd t_s_15 6 j_18) 7 o2_14), t_states_9, t_read_6, t_prices_7) : Option (Int32 × Int32 × Int32 × Int32 × Int32 × Int32 × Int32 × Int32 × (Nat → Int32) × (Nat → Int32) × (Nat → Int32) × (Nat → Int32))) = some (rr, w_t_thrown, w_t_stateMany, w_t_length, w_t_at, w_t_isWell, w_t_readMany, w_t_priceMany, w_t_s, w_t_states, w_t_read, w_t_prices) := hf
        cases hf
        exact we_i hF hr hlk hP hD hS dX12_work_91 rfl
      clear hf
      have hf := hq
      clear hq
      refine lv_if_ne (tgt := 80) hx hb dX12_work_73 (by decide) (fun c0 => ?_) (fun c0 => ?_)
      · have hf := (if_neg c0).symm.trans hf
        refine lv_iload_n hx hb dX12_work_80 rfl (lv_at hl 1 rfl) ?_
        have hf : (some o1_13 : Option (Int32)) = some j_18 := hf
        cases hf
        exact J81 _ _ hP hD hS ls (lv_sub hl [0, 1, 2] rfl)
      · have hf := (if_pos c0).symm.trans hf
        refine lv_iconst (v := (-1)) hx hb dX12_work_76 (by decide) ?_
        refine lv_goto (tgt := 81) hx hb dX12_work_77 (by decide) ?_
        have hf : (some (-1) : Option (Int32)) = some j_18 := hf
        cases hf
        exact J81 _ _ hP hD hS ls (lv_sub hl [0, 1, 2] rfl)
    clear hf
    have L31 : ∀ (n : Nat) (i1_10 : Int32) (i2_11 : Int32) (t_s_12 : Nat → Int32), l_X12_work_31 t_readMany_4 t_read_6 t_prices_7 n i1_10 i2_11 t_s_12 = some (o1_13, o2_14, t_s_15) → ∀ (H : Heap) (locs : List Loc), va_P G.1 vwCl ([(a_t, .inr (8, [.int 0, .ref a_t_s, .ref a_t_states, .int t_stateMany_8, .ref a_t_snapshot, .int t_hasSnapshot, .ref a_t_text, .int 0, .int t_at_2, .int t_isWell_3, .ref a_t_read, .int t_readMany_4, .ref a_t_prices, .int t_priceMany_5, .int t_pieceMany, .long t_coins])), (a_t_s, .inl (G.2.1, 68, .inl t_s_12)), (a_t_states, .inl (G.2.1, 408, .inl t_states_9)), (a_t_text, .inl (G.2.1, 60, .inl t_text)), (a_t_read, .inl (G.2.1, 160, .inl t_read_6)), (a_t_prices, .inl (G.2.1, 60, .inl t_prices_7))] : va_W) H → va_D A ([(a_t, .inr (8, [.int 0, .ref a_t_s, .ref a_t_states, .int t_stateMany_8, .ref a_t_snapshot, .int t_hasSnapshot, .ref a_t_text, .int 0, .int t_at_2, .int t_isWell_3, .ref a_t_read, .int t_readMany_4, .ref a_t_prices, .int t_priceMany_5, .int t_pieceMany, .long t_coins])), (a_t_s, .inl (G.2.1, 68, .inl t_s_12)), (a_t_states, .inl (G.2.1, 408, .inl t_states_9)), (a_t_text, .inl (G.2.1, 60, .inl t_text)), (a_t_read, .inl (G.2.1, 160, .inl t_read_6)), (a_t_prices, .inl (G.2.1, 60, .inl t_prices_7))] : va_W) → va_S A s.heap H locs → ∀ ls : Array Slot, lv_has ls 3 [(0, .ref a_t), (1, .int i1_10), (2, .int i2_11)] → W p l e RM_X12_work s m [.ref a_t].toArray below meth c H locs 0 0 (MQ below (wrQ (some (.int rr)) G [(a_t, .inr (8, [.int w_t_thrown, .ref a_t_s, .ref a_t_states, .int w_t_stateMany, .ref a_t_snapshot, .int t_hasSnapshot, .ref a_t_text, .int w_t_length, .int w_t_at, .int w_t_isWell, .ref a_t_read, .int w_t_readMany, .ref a_t_prices, .int w_t_priceMany, .int t_pieceMany, .long t_coins])), (a_t_s, .inl (G.2.1, 68, .inl w_t_s)), (a_t_states, .inl (G.2.1, 408, .inl w_t_states)), (a_t_text, .inl (G.2.1, 60, .inl t_text)), (a_t_read, .inl (G.2.1, 160, .inl w_t_read)), (a_t_prices, .inl (G.2.1, 60, .inl w_t_prices))] A) [.ref a_t].toArray s 0 0 A) (F0 m 31 ls []) := by
      intro n
      induction n with
      | zero =>
        intro i1_10 i2_11 t_s_12 hf
        exact nomatch (show none = some (o1_13, o2_14, t_s_15) from hf)
      | succ n ih =>
        intro i1_10 i2_11 t_s_12 hf H locs hP hD hS ls hl
        rw [l_X12_work_31] at hf
        refine lv_iload_n hx hb dX12_work_31 rfl (lv_at hl 1 rfl) ?_
        refine lv_aload_n hx hb dX12_work_32 rfl (lv_at hl 0 rfl) ?_
        refine gf (C := RX12) (T := TX12) (N := 16) (ci := 8) (v := .int t_readMany_4) hF hG hP inX12 0 rfl rfl 11 (by decide) q1031 rfl rfl dX12_work_33 ?_
        refine lv_icmp_ge (tgt := 66) hx hb dX12_work_36 (by decide) (fun c0 => ?_) (fun c0 => ?_)
        · have hf := (if_pos c0).symm.trans hf
          have hf : (some (i1_10, i2_11, t_s_12) : Option (Int32 × Int32 × (Nat → Int32))) = some (o1_13, o2_14, t_s_15) := hf
          cases hf
          exact K31 _ _ hP hD hS ls (lv_sub hl [0, 1, 2] rfl)
        · have hf := (if_neg c0).symm.trans hf
          refine lv_iload_n hx hb dX12_work_39 rfl (lv_at hl 2 rfl) ?_
          refine lv_if_ne (tgt := 66) hx hb dX12_work_40 (by decide) (fun c0 => ?_) (fun c0 => ?_)
          · have hf := (if_neg c0).symm.trans hf
            have hf : (some (i1_10, i2_11, t_s_12) : Option (Int32 × Int32 × (Nat → Int32))) = some (o1_13, o2_14, t_s_15) := hf
            cases hf
            exact K31 _ _ hP hD hS ls (lv_sub hl [0, 1, 2] rfl)
          · have hf := (if_pos c0).symm.trans hf
            refine lv_aload_n hx hb dX12_work_43 rfl (lv_at hl 0 rfl) ?_
            refine lv_iconst (v := 5) hx hb dX12_work_44 (by decide) ?_
            refine lv_iload_n hx hb dX12_work_45 rfl (lv_at hl 1 rfl) ?_
            refine lv_imul hx hb dX12_work_46 ?_
            obtain ⟨r_16, t_s_17, hq, hf⟩ := bd2_some hf
            refine wrV (As := [.int (5 * i1_10)]) (rest := []) (wn := [(a_t, .inr (8, [.int 0, .ref a_t_s, .ref a_t_states, .int t_stateMany_8, .ref a_t_snapshot, .int t_hasSnapshot, .ref a_t_text, .int 0, .int t_at_2, .int t_isWell_3, .ref a_t_read, .int t_readMany_4, .ref a_t_prices, .int t_priceMany_5, .int t_pieceMany, .long t_coins])), (a_t_s, .inl (G.2.1, 68, .inl t_s_17)), (a_t_states, .inl (G.2.1, 408, .inl t_states_9)), (a_t_text, .inl (G.2.1, 60, .inl t_text)), (a_t_read, .inl (G.2.1, 160, .inl t_read_6)), (a_t_prices, .inl (G.2.1, 60, .inl t_prices_7))]) hF hG hP hD hS hA hl.1 (c_X12_does l G a_t 0 a_t_states t_stateMany_8 a_t_snapshot t_hasSnapshot a_t_text 0 t_at_2 t_isWell_3 t_readMany_4 t_priceMany_5 t_pieceMany t_coins a_t_s t_s_12 a_t_read t_read_6 a_t_prices t_prices_7 (5 * i1_10) r_16 t_s_17 hq) k_X12_does q1202 [0, 1, 4, 5] [2, 3] [2, 3, 0, 1, 4, 5] rfl rfl rfl rfl ⟨rfl, rfl⟩ (by decide) ⟨0, 8, _, _, rfl, rfl, rfl⟩ rfl rfl (Nat.le_of_ble_eq_true rfl) ⟨(Nat.le_of_ble_eq_true rfl), (Nat.le_of_ble_eq_true rfl)⟩ ⟨(Nat.le_of_ble_eq_true rfl), (Nat.le_of_ble_eq_true rfl)⟩ dX12_work_47 (fun H locs hP hD hS => ?_)
            refine lv_istore_n (lv' := [(2, .int r_16), (0, .ref a_t), (1, .int i1_10)]) hx hb dX12_work_50 rfl hl (by decide) rfl (fun ls hl => ?_)
            refine lv_iload_n hx hb dX12_work_51 rfl (lv_at hl 2 rfl) ?_
            refine lv_iload_n hx hb dX12_work_52 rfl (lv_at hl 0 rfl) ?_
            refine lv_if_ne (tgt := 60) hx hb dX12_work_53 (by decide) (fun c0 => ?_) (fun c0 => ?_)
            · have hf := (if_neg c0).symm.trans hf
              refine lv_iconst (v := 0) hx hb dX12_work_60 (by decide) ?_
              refine lv_iadd hx hb dX12_work_61 ?_
              refine lv_istore_n (lv' := [(1, .int (i1_10 + 0)), (2, .int r_16), (0, .ref a_t)]) hx hb dX12_work_62 rfl hl (by decide) rfl (fun ls hl => ?_)
              refine lv_goto (tgt := 31) hx hb dX12_work_63 (by decide) ?_
              exact ih (i1_10 + 0) r_16 t_s_17 hf _ _ hP hD hS ls (lv_sub hl [2, 0, 1] rfl)
            · have hf := (if_pos c0).symm.trans hf
              refine lv_iconst (v := 1) hx hb dX12_work_56 (by decide) ?_
              refine lv_goto (tgt := 61) hx hb dX12_work_57 (by decide) ?_
              refine lv_iadd hx hb dX12_work_61 ?_
              refine lv_istore_n (lv' := [(1, .int (i1_10 + 1)), (2, .int r_16), (0, .ref a_t)]) hx hb dX12_work_62 rfl hl (by decide) rfl (fun ls hl => ?_)
              refine lv_goto (tgt := 31) hx hb dX12_work_63 (by decide) ?_
              exact ih (i1_10 + 1) r_16 t_s_17 hf _ _ hP hD hS ls (lv_sub hl [2, 0, 1] rfl)
    exact L31 1000 0 0 t_s hq _ _ hP hD hS ls (lv_sub hl [2, 1, 0] rfl)
  · have hf := (if_pos c0).symm.trans hf
    refine lv_aload_n hx hb dX12_work_12 rfl (lv_at hl 0 rfl) ?_
    refine lv_iconst (v := 1) hx hb dX12_work_13 (by decide) ?_
    obtain ⟨r_19, t_thrown_20, hq, hf⟩ := bd2_some hf
    refine wrV (As := [.int 1]) (rest := []) (wn := [(a_t, .inr (8, [.int t_thrown_20, .ref a_t_s, .ref a_t_states, .int t_stateMany, .ref a_t_snapshot, .int t_hasSnapshot, .ref a_t_text, .int t_length, .int t_at_2, .int t_isWell_3, .ref a_t_read, .int t_readMany_4, .ref a_t_prices, .int t_priceMany_5, .int t_pieceMany, .long t_coins])), (a_t_s, .inl (G.2.1, 68, .inl t_s)), (a_t_states, .inl (G.2.1, 408, .inl t_states)), (a_t_text, .inl (G.2.1, 60, .inl t_text)), (a_t_read, .inl (G.2.1, 160, .inl t_read_6)), (a_t_prices, .inl (G.2.1, 60, .inl t_prices_7))]) hF hG hP hD hS hA hl.1 (c_X12_fails l G a_t 0 a_t_s a_t_states t_stateMany a_t_snapshot t_hasSnapshot a_t_text t_length t_at_2 t_isWell_3 a_t_read t_readMany_4 a_t_prices t_priceMany_5 t_pieceMany t_coins 1 r_19 t_thrown_20 hq) k_X12_fails q1083 [0] [1, 2, 3, 4, 5] [5, 0, 1, 2, 3, 4] rfl rfl rfl rfl ⟨rfl, rfl⟩ (by decide) ⟨0, 8, _, _, rfl, rfl, rfl⟩ rfl rfl (Nat.le_of_ble_eq_true rfl) ⟨(Nat.le_of_ble_eq_true rfl), (Nat.le_of_ble_eq_true rfl)⟩ ⟨(Nat.le_of_ble_eq_true rfl), (Nat.le_of_ble_eq_true rfl)⟩ dX12_work_14 (fun H locs hP hD hS => ?_)
    have hf : (some (r_19, t_thrown_20, t_stateMany, t_length, t_at_2, t_isWell_3, t_readMany_4, t_priceMany_5, t_s, t_states, t_read_6, t_prices_7) : Option (Int32 × Int32 × Int32 × Int32 × Int32 × Int32 × Int32 × Int32 × (Nat → Int32) × (Nat → Int32) × (Nat → Int32) × (Nat → Int32))) = some (rr, w_t_thrown, w_t_stateMany, w_t_length, w_t_at, w_t_isWell, w_t_readMany, w_t_priceMany, w_t_s, w_t_states, w_t_read, w_t_prices) := hf
    cases hf
    exact we_i hF hr hlk hP hD hS dX12_work_17 rfl
