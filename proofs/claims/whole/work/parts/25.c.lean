def f_Jxe99ae_isNaN_b9ae7 (x0 : UInt64) : Option (Int32) := (if (Op.cmpValue (FP.dcmp x0 x0) CmpOp.l) = 0 then some 0 else some 1)
theorem k_Jxe99ae_isNaN_b9ae7 : KS yJxe99ae_isNaN_b9ae7 cJxe99ae_isNaN_b9ae7 2 (some .boolean) 1 := ⟨qc_yJxe99ae_isNaN_b9ae7, q22, ⟨by decide +kernel, by decide +kernel, by decide +kernel⟩, qt_yJxe99ae_isNaN_b9ae7⟩
abbrev RM_Jxe99ae_isNaN_b9ae7 : Room := { frames := 0, cells := 0, slots := 0, locals := 0 }
set_option maxHeartbeats 4000000 in
set_option maxRecDepth 100000 in
theorem c_Jxe99ae_isNaN_b9ae7 (l : Launch) (G : GP) (x0 : UInt64) (rr : Int32) (hf : f_Jxe99ae_isNaN_b9ae7 x0 = some rr) : RM l yJxe99ae_isNaN_b9ae7 cJxe99ae_isNaN_b9ae7 2 (some .boolean) 0 0 G [.double x0] [] (some (.int rr)) := by
  refine RM.ofW (C := RJxe99ae) (by decide) rfl (Nat.le_of_ble_eq_true rfl) ?_
  intro p e s m below meth c hF hr hlk hG hP ls hl
  have hl : lv_has ls 2 [(0, .double x0)] := hl
  have hx := hF.1
  have hb := hF.2.1
  have hml := hF.2.2.1
  have hown := hF.2.2.2.1
  have hts := hF.2.2.2.2
  unfold f_Jxe99ae_isNaN_b9ae7 at hf
  refine lv_dload_n hx hb dJxe99ae_isNaN_b9ae7_0 rfl (lv_at hl 0 rfl) ?_
  refine lv_dload_n hx hb dJxe99ae_isNaN_b9ae7_1 rfl (lv_at hl 0 rfl) ?_
  refine lv_dcmp hx hb dJxe99ae_isNaN_b9ae7_2 ?_
  refine lv_if_eq (tgt := 10) hx hb dJxe99ae_isNaN_b9ae7_3 (by decide) (fun c0 => ?_) (fun c0 => ?_)
  · have hf := (if_pos c0).symm.trans hf
    refine lv_iconst (v := 0) hx hb dJxe99ae_isNaN_b9ae7_10 (by decide) ?_
    have hf : (some 0 : Option (Int32)) = some rr := hf
    cases hf
    exact re_z hF hr hlk dJxe99ae_isNaN_b9ae7_11 rfl rfl
  · have hf := (if_neg c0).symm.trans hf
    refine lv_iconst (v := 1) hx hb dJxe99ae_isNaN_b9ae7_6 (by decide) ?_
    refine lv_goto (tgt := 11) hx hb dJxe99ae_isNaN_b9ae7_7 (by decide) ?_
    have hf : (some 1 : Option (Int32)) = some rr := hf
    cases hf
    exact re_z hF hr hlk dJxe99ae_isNaN_b9ae7_11 rfl rfl
def f_Jxe99ae_doubleToLongBits_ccdee (x0 : UInt64) : Option (Int64) := bd1 (f_Jxe99ae_isNaN_b9ae7 x0) (fun (r_1 : Int32) => (if r_1 = 0 then some (UInt64.toInt64 x0) else some 9221120237041090560))
theorem k_Jxe99ae_doubleToLongBits_ccdee : KS yJxe99ae_doubleToLongBits_ccdee cJxe99ae_doubleToLongBits_ccdee 2 (some .long) 1 := ⟨qc_yJxe99ae_doubleToLongBits_ccdee, q22, ⟨by decide +kernel, by decide +kernel, by decide +kernel⟩, qt_yJxe99ae_doubleToLongBits_ccdee⟩
abbrev RM_Jxe99ae_doubleToLongBits_ccdee : Room := { frames := 1, cells := 0, slots := 0, locals := 40 }
set_option maxHeartbeats 4000000 in
set_option maxRecDepth 100000 in
theorem c_Jxe99ae_doubleToLongBits_ccdee (l : Launch) (G : GP) (x0 : UInt64) (rr : Int64) (hf : f_Jxe99ae_doubleToLongBits_ccdee x0 = some rr) : RM l yJxe99ae_doubleToLongBits_ccdee cJxe99ae_doubleToLongBits_ccdee 2 (some .long) 1 40 G [.double x0] [] (some (.long rr)) := by
  refine RM.ofW (C := RJxe99ae) (by decide) rfl (Nat.le_of_ble_eq_true rfl) ?_
  intro p e s m below meth c hF hr hlk hG hP ls hl
  have hl : lv_has ls 2 [(0, .double x0)] := hl
  have hx := hF.1
  have hb := hF.2.1
  have hml := hF.2.2.1
  have hown := hF.2.2.2.1
  have hts := hF.2.2.2.2
  unfold f_Jxe99ae_doubleToLongBits_ccdee at hf
  refine lv_dload_n hx hb dJxe99ae_doubleToLongBits_ccdee_0 rfl (lv_at hl 0 rfl) ?_
  obtain ⟨r_1, hq, hf⟩ := bd1_some hf
  refine rdS (As := [.double x0]) (rest := []) hF hG hP hl.1 (c_Jxe99ae_isNaN_b9ae7 l G x0 r_1 hq) k_Jxe99ae_isNaN_b9ae7 q1473 [] rfl rfl rfl (Nat.le_of_ble_eq_true rfl) ⟨(Nat.le_of_ble_eq_true rfl), (Nat.le_of_ble_eq_true rfl)⟩ ⟨(Nat.zero_le _), (Nat.zero_le _)⟩ dJxe99ae_doubleToLongBits_ccdee_1 ?_
  refine lv_if_ne (tgt := 12) hx hb dJxe99ae_doubleToLongBits_ccdee_4 (by decide) (fun c0 => ?_) (fun c0 => ?_)
  · have hf := (if_neg c0).symm.trans hf
    refine lv_ldc2 (v := 9221120237041090560) hx hb hown (hts _ (List.mem_cons_of_mem _ q1479)) dJxe99ae_doubleToLongBits_ccdee_12 ?_
    have hf : (some 9221120237041090560 : Option (Int64)) = some rr := hf
    cases hf
    exact re_l hF hr hlk dJxe99ae_doubleToLongBits_ccdee_15 rfl
  · have hf := (if_pos c0).symm.trans hf
    refine lv_dload_n hx hb dJxe99ae_doubleToLongBits_ccdee_7 rfl (lv_at hl 0 rfl) ?_
    refine vn_d2l hx hb (hml.trans hl.1.symm) hown (hts _ (List.mem_cons_of_mem _ q1476)) (hts _ (List.mem_cons_of_mem _ q1478)) (hts _ (List.mem_cons_of_mem _ q1477)) (hts _ (List.mem_cons_of_mem _ q22)) (Nat.le_of_ble_eq_true rfl) (Nat.le_of_ble_eq_true rfl) dJxe99ae_doubleToLongBits_ccdee_8 ?_
    have hf : (some (UInt64.toInt64 x0) : Option (Int64)) = some rr := hf
    cases hf
    exact re_l hF hr hlk dJxe99ae_doubleToLongBits_ccdee_11 rfl
def l_X12_digest_125 (t_s : Nat → Int32) : Nat → Int64 → Int32 → Int32 → Int64 → Option (Int64 × Int32 × Int64)
  | 0, _, _, _, _ => none
  | n + 1, i1_6, i3_7, t_pieceMany_8, t_coins_9 => (if (t_s 0) ≤ i3_7 then some (i1_6, t_pieceMany_8, t_coins_9) else bd3 (f_X12_digestDay t_pieceMany_8 t_coins_9 t_s i1_6 i3_7) (fun (r_13 : Int64) (t_pieceMany_14 : Int32) (t_coins_15 : Int64) => l_X12_digest_125 t_s n r_13 (i3_7 + 1) t_pieceMany_14 t_coins_15))
def l_X12_digest_249 (t_length : Int32) (t_text : Nat → Int32) : Nat → Int64 → Int32 → Option (Int64)
  | 0, _, _ => none
  | n + 1, i1_21, i3_22 => (if t_length ≤ i3_22 then some i1_21 else gd (¬ (i3_22 < 0 ∨ 60 ≤ Int32.toNatClampNeg i3_22)) (l_X12_digest_249 t_length t_text n ((31 * i1_21) + (Int32.toInt64 (t_text (Int32.toNatClampNeg i3_22)))) (i3_22 + 1)))
def f_X12_digest (t_thrown : Int32) (t_stateMany : Int32) (t_length : Int32) (t_pieceMany : Int32) (t_coins : Int64) (t_s : Nat → Int32) (t_text : Nat → Int32) : Option (Int64 × Int32 × Int32 × Int64) := bd1 (f_X12_creaseMany t_s) (fun (r_1 : Int32) => bd1 (f_X12_crossMany t_s) (fun (r_2 : Int32) => bd1 (f_X12_fall t_s) (fun (r_3 : Int32) => bd1 (f_X12_fall t_s) (fun (r_4 : Int32) => bd1 (f_X12_rise t_s) (fun (r_5 : Int32) => bd3 (l_X12_digest_125 t_s 1000 ((31 * ((31 * ((31 * ((31 * ((31 * ((31 * ((31 * ((31 * ((31 * ((31 * 4523) + (Int32.toInt64 (t_s 0)))) + (Int32.toInt64 (t_s 1)))) + (Int32.toInt64 (t_s 2)))) + (Int32.toInt64 (t_s 5)))) + (Int32.toInt64 r_1))) + (Int32.toInt64 r_2))) + (Int32.toInt64 r_3))) + (Int32.toInt64 r_4))) + (Int32.toInt64 r_5))) + (Int32.toInt64 t_stateMany)) 0 t_pieceMany t_coins) (fun (o1_10 : Int64) (t_pieceMany_11 : Int32) (t_coins_12 : Int64) => bd1 (f_X12_digestForecasts t_s o1_10) (fun (r_16 : Int64) => bd1 (if (t_s 6) = (-1) then some 0 else some 1) (fun (j_17 : Int32) => bd1 (if (t_s 6) = (-1) then some ((31 * r_16) + (Int32.toInt64 j_17)) else some ((31 * ((31 * ((31 * r_16) + (Int32.toInt64 j_17))) + (Int32.toInt64 (t_s 6)))) + (Int32.toInt64 (t_s 7)))) (fun (j_18 : Int64) => bd1 (f_X12_share t_s) (fun (r_19 : UInt64) => bd1 (f_Jxe99ae_doubleToLongBits_ccdee r_19) (fun (r_20 : Int64) => bd1 (l_X12_digest_249 t_length t_text 1000 ((31 * ((31 * j_18) + r_20)) + (Int32.toInt64 t_length)) 0) (fun (o1_23 : Int64) => some (o1_23, 0, t_pieceMany_11, t_coins_12)))))))))))))
theorem k_X12_digest : KV yX12_digest cX12_digest 4 (some .long) 0 := ⟨qc_yX12_digest, q9, ⟨by decide +kernel, by decide +kernel, by decide +kernel⟩, qi_yX12_digest, qs_yX12_digest⟩
abbrev RM_X12_digest : Room := { frames := 7, cells := 0, slots := 0, locals := 164 }
set_option maxHeartbeats 4000000 in
set_option maxRecDepth 100000 in
theorem c_X12_digest (l : Launch) (G : GP) (a_t : Nat) (t_thrown : Int32) (a_t_states : Nat) (t_stateMany : Int32) (a_t_snapshot : Nat) (t_hasSnapshot : Int32) (t_length : Int32) (t_at : Int32) (t_isWell : Int32) (a_t_read : Nat) (t_readMany : Int32) (a_t_prices : Nat) (t_priceMany : Int32) (t_pieceMany : Int32) (t_coins : Int64) (a_t_s : Nat) (t_s : Nat → Int32) (a_t_text : Nat) (t_text : Nat → Int32) (rr : Int64) (w_t_thrown : Int32) (w_t_pieceMany : Int32) (w_t_coins : Int64) (hf : f_X12_digest t_thrown t_stateMany t_length t_pieceMany t_coins t_s t_text = some (rr, w_t_thrown, w_t_pieceMany, w_t_coins)) : WM l yX12_digest cX12_digest 4 (some .long) 7 164 G [.ref a_t] [(a_t, .inr (8, [.int t_thrown, .ref a_t_s, .ref a_t_states, .int t_stateMany, .ref a_t_snapshot, .int t_hasSnapshot, .ref a_t_text, .int t_length, .int t_at, .int t_isWell, .ref a_t_read, .int t_readMany, .ref a_t_prices, .int t_priceMany, .int t_pieceMany, .long t_coins])), (a_t_s, .inl (G.2.1, 68, .inl t_s)), (a_t_text, .inl (G.2.1, 60, .inl t_text))] (some (.long rr)) [(a_t, .inr (8, [.int w_t_thrown, .ref a_t_s, .ref a_t_states, .int t_stateMany, .ref a_t_snapshot, .int t_hasSnapshot, .ref a_t_text, .int t_length, .int t_at, .int t_isWell, .ref a_t_read, .int t_readMany, .ref a_t_prices, .int t_priceMany, .int w_t_pieceMany, .long w_t_coins])), (a_t_s, .inl (G.2.1, 68, .inl t_s)), (a_t_text, .inl (G.2.1, 60, .inl t_text))] := by
  refine WM.ofW (C := RX12) (by decide) rfl (Nat.le_of_ble_eq_true rfl) ?_
  intro p e s m below meth c A hF hr hlk hG hA hP hD ls hl
  have hl : lv_has ls 4 [(0, .ref a_t)] := hl
  have hx := hF.1
  have hb := hF.2.1
  have hml := hF.2.2.1
  have hown := hF.2.2.2.1
  have hts := hF.2.2.2.2
  have hS : va_S A s.heap s.heap [] := va_S.rf
  unfold f_X12_digest at hf
  refine lv_aload_n hx hb dX12_digest_0 rfl (lv_at hl 0 rfl) ?_
  refine lv_iconst (v := 0) hx hb dX12_digest_1 (by decide) ?_
  refine pf (C := RX12) (T := TX12) (N := 16) (ci := 8) (v := .int 0) (ty := .int) hF hG hP hD hS inX12 tyX12 tyX12_ok nmX12 0 rfl rfl 0 (by decide) q1020 rfl rfl (by decide +kernel) rfl rfl (Nat.le_of_ble_eq_true rfl) dX12_digest_2 (fun H locs hP hD hS => ?_)
  replace hP : va_P G.1 vwCl [(a_t, .inr (8, [.int 0, .ref a_t_s, .ref a_t_states, .int t_stateMany, .ref a_t_snapshot, .int t_hasSnapshot, .ref a_t_text, .int t_length, .int t_at, .int t_isWell, .ref a_t_read, .int t_readMany, .ref a_t_prices, .int t_priceMany, .int t_pieceMany, .long t_coins])), (a_t_s, .inl (G.2.1, 68, .inl t_s)), (a_t_text, .inl (G.2.1, 60, .inl t_text))] H := hP
  replace hD : va_D A [(a_t, .inr (8, [.int 0, .ref a_t_s, .ref a_t_states, .int t_stateMany, .ref a_t_snapshot, .int t_hasSnapshot, .ref a_t_text, .int t_length, .int t_at, .int t_isWell, .ref a_t_read, .int t_readMany, .ref a_t_prices, .int t_priceMany, .int t_pieceMany, .long t_coins])), (a_t_s, .inl (G.2.1, 68, .inl t_s)), (a_t_text, .inl (G.2.1, 60, .inl t_text))] := hD
  refine lv_ldc2 (v := 4523) hx hb hown (hts _ (List.mem_cons_of_mem _ q1460)) dX12_digest_5 ?_
  refine lv_lstore_n (lv' := [(1, .long 4523), (0, .ref a_t)]) hx hb dX12_digest_8 rfl hl (by decide) rfl (fun ls hl => ?_)
  refine lv_ldc2 (v := 31) hx hb hown (hts _ (List.mem_cons_of_mem _ q1461)) dX12_digest_9 ?_
  refine lv_ldc2 (v := 31) hx hb hown (hts _ (List.mem_cons_of_mem _ q1461)) dX12_digest_12 ?_
  refine lv_ldc2 (v := 31) hx hb hown (hts _ (List.mem_cons_of_mem _ q1461)) dX12_digest_15 ?_
  refine lv_ldc2 (v := 31) hx hb hown (hts _ (List.mem_cons_of_mem _ q1461)) dX12_digest_18 ?_
  refine lv_lload_n hx hb dX12_digest_21 rfl (lv_at hl 0 rfl) ?_
  refine lv_lmul hx hb dX12_digest_22 ?_
  refine lv_aload_n hx hb dX12_digest_23 rfl (lv_at hl 1 rfl) ?_
  refine gf (C := RX12) (T := TX12) (N := 16) (ci := 8) (v := .ref a_t_s) hF hG hP inX12 0 rfl rfl 1 (by decide) q1021 rfl rfl dX12_digest_24 ?_
  refine lv_iconst (v := 0) hx hb dX12_digest_27 (by decide) ?_
  refine ald_i (k := 0) hF hG hP 1 rfl (by decide) (by decide) dX12_digest_28 ?_
  refine lv_i2l (v := (Int32.toInt64 (t_s 0))) hx hb dX12_digest_29 rfl ?_
  refine lv_ladd hx hb dX12_digest_30 ?_
  refine lv_lmul hx hb dX12_digest_31 ?_
  refine lv_aload_n hx hb dX12_digest_32 rfl (lv_at hl 1 rfl) ?_
  refine gf (C := RX12) (T := TX12) (N := 16) (ci := 8) (v := .ref a_t_s) hF hG hP inX12 0 rfl rfl 1 (by decide) q1021 rfl rfl dX12_digest_33 ?_
  refine lv_iconst (v := 1) hx hb dX12_digest_36 (by decide) ?_
  refine ald_i (k := 1) hF hG hP 1 rfl (by decide) (by decide) dX12_digest_37 ?_
  refine lv_i2l (v := (Int32.toInt64 (t_s 1))) hx hb dX12_digest_38 rfl ?_
  refine lv_ladd hx hb dX12_digest_39 ?_
  refine lv_lmul hx hb dX12_digest_40 ?_
  refine lv_aload_n hx hb dX12_digest_41 rfl (lv_at hl 1 rfl) ?_
  refine gf (C := RX12) (T := TX12) (N := 16) (ci := 8) (v := .ref a_t_s) hF hG hP inX12 0 rfl rfl 1 (by decide) q1021 rfl rfl dX12_digest_42 ?_
  refine lv_iconst (v := 2) hx hb dX12_digest_45 (by decide) ?_
  refine ald_i (k := 2) hF hG hP 1 rfl (by decide) (by decide) dX12_digest_46 ?_
  refine lv_i2l (v := (Int32.toInt64 (t_s 2))) hx hb dX12_digest_47 rfl ?_
  refine lv_ladd hx hb dX12_digest_48 ?_
  refine lv_lmul hx hb dX12_digest_49 ?_
  refine lv_aload_n hx hb dX12_digest_50 rfl (lv_at hl 1 rfl) ?_
  refine gf (C := RX12) (T := TX12) (N := 16) (ci := 8) (v := .ref a_t_s) hF hG hP inX12 0 rfl rfl 1 (by decide) q1021 rfl rfl dX12_digest_51 ?_
  refine lv_iconst (v := 5) hx hb dX12_digest_54 (by decide) ?_
  refine ald_i (k := 5) hF hG hP 1 rfl (by decide) (by decide) dX12_digest_55 ?_
  refine lv_i2l (v := (Int32.toInt64 (t_s 5))) hx hb dX12_digest_56 rfl ?_
  refine lv_ladd hx hb dX12_digest_57 ?_
  refine lv_lstore_n (lv' := [(1, .long ((31 * ((31 * ((31 * ((31 * 4523) + (Int32.toInt64 (t_s 0)))) + (Int32.toInt64 (t_s 1)))) + (Int32.toInt64 (t_s 2)))) + (Int32.toInt64 (t_s 5)))), (0, .ref a_t)]) hx hb dX12_digest_58 rfl hl (by decide) rfl (fun ls hl => ?_)
  refine lv_ldc2 (v := 31) hx hb hown (hts _ (List.mem_cons_of_mem _ q1461)) dX12_digest_59 ?_
  refine lv_ldc2 (v := 31) hx hb hown (hts _ (List.mem_cons_of_mem _ q1461)) dX12_digest_62 ?_
  refine lv_ldc2 (v := 31) hx hb hown (hts _ (List.mem_cons_of_mem _ q1461)) dX12_digest_65 ?_
  refine lv_lload_n hx hb dX12_digest_68 rfl (lv_at hl 0 rfl) ?_
  refine lv_lmul hx hb dX12_digest_69 ?_
  refine lv_aload_n hx hb dX12_digest_70 rfl (lv_at hl 1 rfl) ?_
  obtain ⟨r_1, hq, hf⟩ := bd1_some hf
  refine rdV (As := []) (rest := [.long (31 * ((31 * ((31 * ((31 * ((31 * 4523) + (Int32.toInt64 (t_s 0)))) + (Int32.toInt64 (t_s 1)))) + (Int32.toInt64 (t_s 2)))) + (Int32.toInt64 (t_s 5)))), .long 31, .long 31]) hF hG hP hl.1 (c_X12_creaseMany l G a_t 0 a_t_states t_stateMany a_t_snapshot t_hasSnapshot a_t_text t_length t_at t_isWell a_t_read t_readMany a_t_prices t_priceMany t_pieceMany t_coins a_t_s t_s r_1 hq) k_X12_creaseMany q1303 [0, 1] rfl ⟨0, 8, _, _, rfl, rfl, rfl⟩ rfl rfl (Nat.le_of_ble_eq_true rfl) ⟨(Nat.le_of_ble_eq_true rfl), (Nat.le_of_ble_eq_true rfl)⟩ ⟨(Nat.zero_le _), (Nat.zero_le _)⟩ dX12_digest_71 ?_
  refine lv_i2l (v := (Int32.toInt64 r_1)) hx hb dX12_digest_74 rfl ?_
  refine lv_ladd hx hb dX12_digest_75 ?_
  refine lv_lmul hx hb dX12_digest_76 ?_
  refine lv_aload_n hx hb dX12_digest_77 rfl (lv_at hl 1 rfl) ?_
  obtain ⟨r_2, hq, hf⟩ := bd1_some hf
  refine rdV (As := []) (rest := [.long (31 * ((31 * ((31 * ((31 * ((31 * ((31 * 4523) + (Int32.toInt64 (t_s 0)))) + (Int32.toInt64 (t_s 1)))) + (Int32.toInt64 (t_s 2)))) + (Int32.toInt64 (t_s 5)))) + (Int32.toInt64 r_1))), .long 31]) hF hG hP hl.1 (c_X12_crossMany l G a_t 0 a_t_states t_stateMany a_t_snapshot t_hasSnapshot a_t_text t_length t_at t_isWell a_t_read t_readMany a_t_prices t_priceMany t_pieceMany t_coins a_t_s t_s r_2 hq) k_X12_crossMany q1339 [0, 1] rfl ⟨0, 8, _, _, rfl, rfl, rfl⟩ rfl rfl (Nat.le_of_ble_eq_true rfl) ⟨(Nat.le_of_ble_eq_true rfl), (Nat.le_of_ble_eq_true rfl)⟩ ⟨(Nat.zero_le _), (Nat.zero_le _)⟩ dX12_digest_78 ?_
  refine lv_i2l (v := (Int32.toInt64 r_2)) hx hb dX12_digest_81 rfl ?_
  refine lv_ladd hx hb dX12_digest_82 ?_
  refine lv_lmul hx hb dX12_digest_83 ?_
  refine lv_aload_n hx hb dX12_digest_84 rfl (lv_at hl 1 rfl) ?_
  obtain ⟨r_3, hq, hf⟩ := bd1_some hf
  refine rdV (As := []) (rest := [.long (31 * ((31 * ((31 * ((31 * ((31 * ((31 * ((31 * 4523) + (Int32.toInt64 (t_s 0)))) + (Int32.toInt64 (t_s 1)))) + (Int32.toInt64 (t_s 2)))) + (Int32.toInt64 (t_s 5)))) + (Int32.toInt64 r_1))) + (Int32.toInt64 r_2)))]) hF hG hP hl.1 (c_X12_fall l G a_t 0 a_t_states t_stateMany a_t_snapshot t_hasSnapshot a_t_text t_length t_at t_isWell a_t_read t_readMany a_t_prices t_priceMany t_pieceMany t_coins a_t_s t_s r_3 hq) k_X12_fall q1369 [0, 1] rfl ⟨0, 8, _, _, rfl, rfl, rfl⟩ rfl rfl (Nat.le_of_ble_eq_true rfl) ⟨(Nat.le_of_ble_eq_true rfl), (Nat.le_of_ble_eq_true rfl)⟩ ⟨(Nat.zero_le _), (Nat.zero_le _)⟩ dX12_digest_85 ?_
  refine lv_i2l (v := (Int32.toInt64 r_3)) hx hb dX12_digest_88 rfl ?_
  refine lv_ladd hx hb dX12_digest_89 ?_
  refine lv_lstore_n (lv' := [(1, .long ((31 * ((31 * ((31 * ((31 * ((31 * ((31 * ((31 * 4523) + (Int32.toInt64 (t_s 0)))) + (Int32.toInt64 (t_s 1)))) + (Int32.toInt64 (t_s 2)))) + (Int32.toInt64 (t_s 5)))) + (Int32.toInt64 r_1))) + (Int32.toInt64 r_2))) + (Int32.toInt64 r_3))), (0, .ref a_t)]) hx hb dX12_digest_90 rfl hl (by decide) rfl (fun ls hl => ?_)
  refine lv_ldc2 (v := 31) hx hb hown (hts _ (List.mem_cons_of_mem _ q1461)) dX12_digest_91 ?_
  refine lv_ldc2 (v := 31) hx hb hown (hts _ (List.mem_cons_of_mem _ q1461)) dX12_digest_94 ?_
  refine lv_ldc2 (v := 31) hx hb hown (hts _ (List.mem_cons_of_mem _ q1461)) dX12_digest_97 ?_
  refine lv_lload_n hx hb dX12_digest_100 rfl (lv_at hl 0 rfl) ?_
  refine lv_lmul hx hb dX12_digest_101 ?_
  refine lv_aload_n hx hb dX12_digest_102 rfl (lv_at hl 1 rfl) ?_
  obtain ⟨r_4, hq, hf⟩ := bd1_some hf
  refine rdV (As := []) (rest := [.long (31 * ((31 * ((31 * ((31 * ((31 * ((31 * ((31 * ((31 * 4523) + (Int32.toInt64 (t_s 0)))) + (Int32.toInt64 (t_s 1)))) + (Int32.toInt64 (t_s 2)))) + (Int32.toInt64 (t_s 5)))) + (Int32.toInt64 r_1))) + (Int32.toInt64 r_2))) + (Int32.toInt64 r_3))), .long 31, .long 31]) hF hG hP hl.1 (c_X12_fall l G a_t 0 a_t_states t_stateMany a_t_snapshot t_hasSnapshot a_t_text t_length t_at t_isWell a_t_read t_readMany a_t_prices t_priceMany t_pieceMany t_coins a_t_s t_s r_4 hq) k_X12_fall q1369 [0, 1] rfl ⟨0, 8, _, _, rfl, rfl, rfl⟩ rfl rfl (Nat.le_of_ble_eq_true rfl) ⟨(Nat.le_of_ble_eq_true rfl), (Nat.le_of_ble_eq_true rfl)⟩ ⟨(Nat.zero_le _), (Nat.zero_le _)⟩ dX12_digest_103 ?_
  refine lv_i2l (v := (Int32.toInt64 r_4)) hx hb dX12_digest_106 rfl ?_
  refine lv_ladd hx hb dX12_digest_107 ?_
  refine lv_lmul hx hb dX12_digest_108 ?_
  refine lv_aload_n hx hb dX12_digest_109 rfl (lv_at hl 1 rfl) ?_
  obtain ⟨r_5, hq, hf⟩ := bd1_some hf
  refine rdV (As := []) (rest := [.long (31 * ((31 * ((31 * ((31 * ((31 * ((31 * ((31 * ((31 * ((31 * 4523) + (Int32.toInt64 (t_s 0)))) + (Int32.toInt64 (t_s 1)))) + (Int32.toInt64 (t_s 2)))) + (Int32.toInt64 (t_s 5)))) + (Int32.toInt64 r_1))) + (Int32.toInt64 r_2))) + (Int32.toInt64 r_3))) + (Int32.toInt64 r_4))), .long 31]) hF hG hP hl.1 (c_X12_rise l G a_t 0 a_t_states t_stateMany a_t_snapshot t_hasSnapshot a_t_text t_length t_at t_isWell a_t_read t_readMany a_t_prices t_priceMany t_pieceMany t_coins a_t_s t_s r_5 hq) k_X12_rise q1381 [0, 1] rfl ⟨0, 8, _, _, rfl, rfl, rfl⟩ rfl rfl (Nat.le_of_ble_eq_true rfl) ⟨(Nat.le_of_ble_eq_true rfl), (Nat.le_of_ble_eq_true rfl)⟩ ⟨(Nat.zero_le _), (Nat.zero_le _)⟩ dX12_digest_110 ?_
  refine lv_i2l (v := (Int32.toInt64 r_5)) hx hb dX12_digest_113 rfl ?_
  refine lv_ladd hx hb dX12_digest_114 ?_
  refine lv_lmul hx hb dX12_digest_115 ?_
  refine lv_aload_n hx hb dX12_digest_116 rfl (lv_at hl 1 rfl) ?_
  refine gf (C := RX12) (T := TX12) (N := 16) (ci := 8) (v := .int t_stateMany) hF hG hP inX12 0 rfl rfl 3 (by decide) q1023 rfl rfl dX12_digest_117 ?_
  refine lv_i2l (v := (Int32.toInt64 t_stateMany)) hx hb dX12_digest_120 rfl ?_
  refine lv_ladd hx hb dX12_digest_121 ?_
  refine lv_lstore_n (lv' := [(1, .long ((31 * ((31 * ((31 * ((31 * ((31 * ((31 * ((31 * ((31 * ((31 * ((31 * 4523) + (Int32.toInt64 (t_s 0)))) + (Int32.toInt64 (t_s 1)))) + (Int32.toInt64 (t_s 2)))) + (Int32.toInt64 (t_s 5)))) + (Int32.toInt64 r_1))) + (Int32.toInt64 r_2))) + (Int32.toInt64 r_3))) + (Int32.toInt64 r_4))) + (Int32.toInt64 r_5))) + (Int32.toInt64 t_stateMany))), (0, .ref a_t)]) hx hb dX12_digest_122 rfl hl (by decide) rfl (fun ls hl => ?_)
  refine lv_iconst (v := 0) hx hb dX12_digest_123 (by decide) ?_
  refine lv_istore_n (lv' := [(3, .int 0), (1, .long ((31 * ((31 * ((31 * ((31 * ((31 * ((31 * ((31 * ((31 * ((31 * ((31 * 4523) + (Int32.toInt64 (t_s 0)))) + (Int32.toInt64 (t_s 1)))) + (Int32.toInt64 (t_s 2)))) + (Int32.toInt64 (t_s 5)))) + (Int32.toInt64 r_1))) + (Int32.toInt64 r_2))) + (Int32.toInt64 r_3))) + (Int32.toInt64 r_4))) + (Int32.toInt64 r_5))) + (Int32.toInt64 t_stateMany))), (0, .ref a_t)]) hx hb dX12_digest_124 rfl hl (by decide) rfl (fun ls hl => ?_)
  obtain ⟨o1_10, t_pieceMany_11, t_coins_12, hq, hf⟩ := bd3_some hf
  have K125 : ∀ (H : Heap) (locs : List Loc), va_P G.1 vwCl ([(a_t, .inr (8, [.int 0, .ref a_t_s, .ref a_t_states, .int t_stateMany, .ref a_t_snapshot, .int t_hasSnapshot, .ref a_t_text, .int t_length, .int t_at, .int t_isWell, .ref a_t_read, .int t_readMany, .ref a_t_prices, .int t_priceMany, .int t_pieceMany_11, .long t_coins_12])), (a_t_s, .inl (G.2.1, 68, .inl t_s)), (a_t_text, .inl (G.2.1, 60, .inl t_text))] : va_W) H → va_D A ([(a_t, .inr (8, [.int 0, .ref a_t_s, .ref a_t_states, .int t_stateMany, .ref a_t_snapshot, .int t_hasSnapshot, .ref a_t_text, .int t_length, .int t_at, .int t_isWell, .ref a_t_read, .int t_readMany, .ref a_t_prices, .int t_priceMany, .int t_pieceMany_11, .long t_coins_12])), (a_t_s, .inl (G.2.1, 68, .inl t_s)), (a_t_text, .inl (G.2.1, 60, .inl t_text))] : va_W) → va_S A s.heap H locs → ∀ ls : Array Slot, lv_has ls 4 [(0, .ref a_t), (1, .long o1_10)] → W p l e RM_X12_digest s m [.ref a_t].toArray below meth c H locs 0 0 (MQ below (wrQ (some (.long rr)) G [(a_t, .inr (8, [.int w_t_thrown, .ref a_t_s, .ref a_t_states, .int t_stateMany, .ref a_t_snapshot, .int t_hasSnapshot, .ref a_t_text, .int t_length, .int t_at, .int t_isWell, .ref a_t_read, .int t_readMany, .ref a_t_prices, .int t_priceMany, .int w_t_pieceMany, .long w_t_coins])), (a_t_s, .inl (G.2.1, 68, .inl t_s)), (a_t_text, .inl (G.2.1, 60, .inl t_text))] A) [.ref a_t].toArray s 0 0 A) (F0 m 148 ls []) := by
    intro H locs hP hD hS ls hl
    refine lv_aload_n hx hb dX12_digest_148 rfl (lv_at hl 0 rfl) ?_
    refine lv_lload_n hx hb dX12_digest_149 rfl (lv_at hl 1 rfl) ?_
    obtain ⟨r_16, hq, hf⟩ := bd1_some hf
    refine rdV (As := [.long o1_10]) (rest := []) hF hG hP hl.1 (c_X12_digestForecasts l G a_t 0 a_t_states t_stateMany a_t_snapshot t_hasSnapshot a_t_text t_length t_at t_isWell a_t_read t_readMany a_t_prices t_priceMany t_pieceMany_11 t_coins_12 a_t_s t_s o1_10 r_16 hq) k_X12_digestForecasts q1466 [0, 1] rfl ⟨0, 8, _, _, rfl, rfl, rfl⟩ rfl rfl (Nat.le_of_ble_eq_true rfl) ⟨(Nat.le_of_ble_eq_true rfl), (Nat.le_of_ble_eq_true rfl)⟩ ⟨(Nat.zero_le _), (Nat.zero_le _)⟩ dX12_digest_150 ?_
    refine lv_lstore_n (lv' := [(1, .long r_16), (0, .ref a_t)]) hx hb dX12_digest_153 rfl hl (by decide) rfl (fun ls hl => ?_)
    refine lv_ldc2 (v := 31) hx hb hown (hts _ (List.mem_cons_of_mem _ q1461)) dX12_digest_154 ?_
    refine lv_lload_n hx hb dX12_digest_157 rfl (lv_at hl 0 rfl) ?_
    refine lv_lmul hx hb dX12_digest_158 ?_
    refine lv_aload_n hx hb dX12_digest_159 rfl (lv_at hl 1 rfl) ?_
    refine gf (C := RX12) (T := TX12) (N := 16) (ci := 8) (v := .ref a_t_s) hF hG hP inX12 0 rfl rfl 1 (by decide) q1021 rfl rfl dX12_digest_160 ?_
    refine lv_bipush (v := 6) hx hb dX12_digest_163 (by decide) ?_
    refine ald_i (k := 6) hF hG hP 1 rfl (by decide) (by decide) dX12_digest_165 ?_
    refine lv_iconst (v := (-1)) hx hb dX12_digest_166 (by decide) ?_
    obtain ⟨j_17, hq, hf⟩ := bd1_some hf
    have J175 : ∀ (H : Heap) (locs : List Loc), va_P G.1 vwCl ([(a_t, .inr (8, [.int 0, .ref a_t_s, .ref a_t_states, .int t_stateMany, .ref a_t_snapshot, .int t_hasSnapshot, .ref a_t_text, .int t_length, .int t_at, .int t_isWell, .ref a_t_read, .int t_readMany, .ref a_t_prices, .int t_priceMany, .int t_pieceMany_11, .long t_coins_12])), (a_t_s, .inl (G.2.1, 68, .inl t_s)), (a_t_text, .inl (G.2.1, 60, .inl t_text))] : va_W) H → va_D A ([(a_t, .inr (8, [.int 0, .ref a_t_s, .ref a_t_states, .int t_stateMany, .ref a_t_snapshot, .int t_hasSnapshot, .ref a_t_text, .int t_length, .int t_at, .int t_isWell, .ref a_t_read, .int t_readMany, .ref a_t_prices, .int t_priceMany, .int t_pieceMany_11, .long t_coins_12])), (a_t_s, .inl (G.2.1, 68, .inl t_s)), (a_t_text, .inl (G.2.1, 60, .inl t_text))] : va_W) → va_S A s.heap H locs → ∀ ls : Array Slot, lv_has ls 4 [(0, .ref a_t)] → W p l e RM_X12_digest s m [.ref a_t].toArray below meth c H locs 0 0 (MQ below (wrQ (some (.long rr)) G [(a_t, .inr (8, [.int w_t_thrown, .ref a_t_s, .ref a_t_states, .int t_stateMany, .ref a_t_snapshot, .int t_hasSnapshot, .ref a_t_text, .int t_length, .int t_at, .int t_isWell, .ref a_t_read, .int t_readMany, .ref a_t_prices, .int t_priceMany, .int w_t_pieceMany, .long w_t_coins])), (a_t_s, .inl (G.2.1, 68, .inl t_s)), (a_t_text, .inl (G.2.1, 60, .inl t_text))] A) [.ref a_t].toArray s 0 0 A) (F0 m 175 ls [.int j_17, .long (31 * r_16)]) := by
      intro H locs hP hD hS ls hl
      refine lv_i2l (v := (Int32.toInt64 j_17)) hx hb dX12_digest_175 rfl ?_
      refine lv_ladd hx hb dX12_digest_176 ?_
      refine lv_lstore_n (lv' := [(1, .long ((31 * r_16) + (Int32.toInt64 j_17))), (0, .ref a_t)]) hx hb dX12_digest_177 rfl hl (by decide) rfl (fun ls hl => ?_)
      refine lv_aload_n hx hb dX12_digest_178 rfl (lv_at hl 1 rfl) ?_
      refine gf (C := RX12) (T := TX12) (N := 16) (ci := 8) (v := .ref a_t_s) hF hG hP inX12 0 rfl rfl 1 (by decide) q1021 rfl rfl dX12_digest_179 ?_
      refine lv_bipush (v := 6) hx hb dX12_digest_182 (by decide) ?_
      refine ald_i (k := 6) hF hG hP 1 rfl (by decide) (by decide) dX12_digest_184 ?_
      refine lv_iconst (v := (-1)) hx hb dX12_digest_185 (by decide) ?_
      obtain ⟨j_18, hq, hf⟩ := bd1_some hf
      have J220 : ∀ (H : Heap) (locs : List Loc), va_P G.1 vwCl ([(a_t, .inr (8, [.int 0, .ref a_t_s, .ref a_t_states, .int t_stateMany, .ref a_t_snapshot, .int t_hasSnapshot, .ref a_t_text, .int t_length, .int t_at, .int t_isWell, .ref a_t_read, .int t_readMany, .ref a_t_prices, .int t_priceMany, .int t_pieceMany_11, .long t_coins_12])), (a_t_s, .inl (G.2.1, 68, .inl t_s)), (a_t_text, .inl (G.2.1, 60, .inl t_text))] : va_W) H → va_D A ([(a_t, .inr (8, [.int 0, .ref a_t_s, .ref a_t_states, .int t_stateMany, .ref a_t_snapshot, .int t_hasSnapshot, .ref a_t_text, .int t_length, .int t_at, .int t_isWell, .ref a_t_read, .int t_readMany, .ref a_t_prices, .int t_priceMany, .int t_pieceMany_11, .long t_coins_12])), (a_t_s, .inl (G.2.1, 68, .inl t_s)), (a_t_text, .inl (G.2.1, 60, .inl t_text))] : va_W) → va_S A s.heap H locs → ∀ ls : Array Slot, lv_has ls 4 [(0, .ref a_t)] → W p l e RM_X12_digest s m [.ref a_t].toArray below meth c H locs 0 0 (MQ below (wrQ (some (.long rr)) G [(a_t, .inr (8, [.int w_t_thrown, .ref a_t_s, .ref a_t_states, .int t_stateMany, .ref a_t_snapshot, .int t_hasSnapshot, .ref a_t_text, .int t_length, .int t_at, .int t_isWell, .ref a_t_read, .int t_readMany, .ref a_t_prices, .int t_priceMany, .int w_t_pieceMany, .long w_t_coins])), (a_t_s, .inl (G.2.1, 68, .inl t_s)), (a_t_text, .inl (G.2.1, 60, .inl t_text))] A) [.ref a_t].toArray s 0 0 A) (F0 m 220 ls [.long j_18]) := by
        intro H locs hP hD hS ls hl
        refine lv_lstore_n (lv' := [(1, .long j_18), (0, .ref a_t)]) hx hb dX12_digest_220 rfl hl (by decide) rfl (fun ls hl => ?_)
        refine lv_ldc2 (v := 31) hx hb hown (hts _ (List.mem_cons_of_mem _ q1461)) dX12_digest_221 ?_
        refine lv_lload_n hx hb dX12_digest_224 rfl (lv_at hl 0 rfl) ?_
        refine lv_lmul hx hb dX12_digest_225 ?_
        refine lv_aload_n hx hb dX12_digest_226 rfl (lv_at hl 1 rfl) ?_
        obtain ⟨r_19, hq, hf⟩ := bd1_some hf
        refine rdV (As := []) (rest := [.long (31 * j_18)]) hF hG hP hl.1 (c_X12_share l G a_t 0 a_t_states t_stateMany a_t_snapshot t_hasSnapshot a_t_text t_length t_at t_isWell a_t_read t_readMany a_t_prices t_priceMany t_pieceMany_11 t_coins_12 a_t_s t_s r_19 hq) k_X12_share q1452 [0, 1] rfl ⟨0, 8, _, _, rfl, rfl, rfl⟩ rfl rfl (Nat.le_of_ble_eq_true rfl) ⟨(Nat.le_of_ble_eq_true rfl), (Nat.le_of_ble_eq_true rfl)⟩ ⟨(Nat.zero_le _), (Nat.zero_le _)⟩ dX12_digest_227 ?_
        obtain ⟨r_20, hq, hf⟩ := bd1_some hf
        refine rdS (As := [.double r_19]) (rest := [.long (31 * j_18)]) hF hG hP hl.1 (c_Jxe99ae_doubleToLongBits_ccdee l G r_19 r_20 hq) k_Jxe99ae_doubleToLongBits_ccdee q1470 [] rfl rfl rfl (Nat.le_of_ble_eq_true rfl) ⟨(Nat.le_of_ble_eq_true rfl), (Nat.le_of_ble_eq_true rfl)⟩ ⟨(Nat.zero_le _), (Nat.zero_le _)⟩ dX12_digest_230 ?_
        refine lv_ladd hx hb dX12_digest_233 ?_
        refine lv_lstore_n (lv' := [(1, .long ((31 * j_18) + r_20)), (0, .ref a_t)]) hx hb dX12_digest_234 rfl hl (by decide) rfl (fun ls hl => ?_)
        refine lv_ldc2 (v := 31) hx hb hown (hts _ (List.mem_cons_of_mem _ q1461)) dX12_digest_235 ?_
        refine lv_lload_n hx hb dX12_digest_238 rfl (lv_at hl 0 rfl) ?_
        refine lv_lmul hx hb dX12_digest_239 ?_
        refine lv_aload_n hx hb dX12_digest_240 rfl (lv_at hl 1 rfl) ?_
        refine gf (C := RX12) (T := TX12) (N := 16) (ci := 8) (v := .int t_length) hF hG hP inX12 0 rfl rfl 7 (by decide) q1027 rfl rfl dX12_digest_241 ?_
        refine lv_i2l (v := (Int32.toInt64 t_length)) hx hb dX12_digest_244 rfl ?_
        refine lv_ladd hx hb dX12_digest_245 ?_
        refine lv_lstore_n (lv' := [(1, .long ((31 * ((31 * j_18) + r_20)) + (Int32.toInt64 t_length))), (0, .ref a_t)]) hx hb dX12_digest_246 rfl hl (by decide) rfl (fun ls hl => ?_)
        refine lv_iconst (v := 0) hx hb dX12_digest_247 (by decide) ?_
        refine lv_istore_n (lv' := [(3, .int 0), (1, .long ((31 * ((31 * j_18) + r_20)) + (Int32.toInt64 t_length))), (0, .ref a_t)]) hx hb dX12_digest_248 rfl hl (by decide) rfl (fun ls hl => ?_)
        obtain ⟨o1_23, hq, hf⟩ := bd1_some hf
        have K249 : ∀ (H : Heap) (locs : List Loc), va_P G.1 vwCl ([(a_t, .inr (8, [.int 0, .ref a_t_s, .ref a_t_states, .int t_stateMany, .ref a_t_snapshot, .int t_hasSnapshot, .ref a_t_text, .int t_length, .int t_at, .int t_isWell, .ref a_t_read, .int t_readMany, .ref a_t_prices, .int t_priceMany, .int t_pieceMany_11, .long t_coins_12])), (a_t_s, .inl (G.2.1, 68, .inl t_s)), (a_t_text, .inl (G.2.1, 60, .inl t_text))] : va_W) H → va_D A ([(a_t, .inr (8, [.int 0, .ref a_t_s, .ref a_t_states, .int t_stateMany, .ref a_t_snapshot, .int t_hasSnapshot, .ref a_t_text, .int t_length, .int t_at, .int t_isWell, .ref a_t_read, .int t_readMany, .ref a_t_prices, .int t_priceMany, .int t_pieceMany_11, .long t_coins_12])), (a_t_s, .inl (G.2.1, 68, .inl t_s)), (a_t_text, .inl (G.2.1, 60, .inl t_text))] : va_W) → va_S A s.heap H locs → ∀ ls : Array Slot, lv_has ls 4 [(1, .long o1_23)] → W p l e RM_X12_digest s m [.ref a_t].toArray below meth c H locs 0 0 (MQ below (wrQ (some (.long rr)) G [(a_t, .inr (8, [.int w_t_thrown, .ref a_t_s, .ref a_t_states, .int t_stateMany, .ref a_t_snapshot, .int t_hasSnapshot, .ref a_t_text, .int t_length, .int t_at, .int t_isWell, .ref a_t_read, .int t_readMany, .ref a_t_prices, .int t_priceMany, .int w_t_pieceMany, .long w_t_coins])), (a_t_s, .inl (G.2.1, 68, .inl t_s)), (a_t_text, .inl (G.2.1, 60, .inl t_text))] A) [.ref a_t].toArray s 0 0 A) (F0 m 277 ls []) := by
          intro H locs hP hD hS ls hl
          refine lv_lload_n hx hb dX12_digest_277 rfl (lv_at hl 0 rfl) ?_
          have hf : (some (o1_23, 0, t_pieceMany_11, t_coins_12) : Option (Int64 × Int32 × Int32 × Int64)) = some (rr, w_t_thrown, w_t_pieceMany, w_t_coins) := hf
          cases hf
          exact we_l hF hr hlk hP hD hS dX12_digest_278 rfl
        clear hf
        have L249 : ∀ (n : Nat) (i1_21 : Int64) (i3_22 : Int32), l_X12_digest_249 t_length t_text n i1_21 i3_22 = some o1_23 → ∀ (H : Heap) (locs : List Loc), va_P G.1 vwCl ([(a_t, .inr (8, [.int 0, .ref a_t_s, .ref a_t_states, .int t_stateMany, .ref a_t_snapshot, .int t_hasSnapshot, .ref a_t_text, .int t_length, .int t_at, .int t_isWell, .ref a_t_read, .int t_readMany, .ref a_t_prices, .int t_priceMany, .int t_pieceMany_11, .long t_coins_12])), (a_t_s, .inl (G.2.1, 68, .inl t_s)), (a_t_text, .inl (G.2.1, 60, .inl t_text))] : va_W) H → va_D A ([(a_t, .inr (8, [.int 0, .ref a_t_s, .ref a_t_states, .int t_stateMany, .ref a_t_snapshot, .int t_hasSnapshot, .ref a_t_text, .int t_length, .int t_at, .int t_isWell, .ref a_t_read, .int t_readMany, .ref a_t_prices, .int t_priceMany, .int t_pieceMany_11, .long t_coins_12])), (a_t_s, .inl (G.2.1, 68, .inl t_s)), (a_t_text, .inl (G.2.1, 60, .inl t_text))] : va_W) → va_S A s.heap H locs → ∀ ls : Array Slot, lv_has ls 4 [(0, .ref a_t), (1, .long i1_21), (3, .int i3_22)] → W p l e RM_X12_digest s m [.ref a_t].toArray below meth c H locs 0 0 (MQ below (wrQ (some (.long rr)) G [(a_t, .inr (8, [.int w_t_thrown, .ref a_t_s, .ref a_t_states, .int t_stateMany, .ref a_t_snapshot, .int t_hasSnapshot, .ref a_t_text, .int t_length, .int t_at, .int t_isWell, .ref a_t_read, .int t_readMany, .ref a_t_prices, .int t_priceMany, .int w_t_pieceMany, .long w_t_coins])), (a_t_s, .inl (G.2.1, 68, .inl t_s)), (a_t_text, .inl (G.2.1, 60, .inl t_text))] A) [.ref a_t].toArray s 0 0 A) (F0 m 249 ls []) := by
          intro n
          induction n with
          | zero =>
            intro i1_21 i3_22 hf
            exact nomatch (show none = some o1_23 from hf)
          | succ n ih =>
            intro i1_21 i3_22 hf H locs hP hD hS ls hl
            rw [l_X12_digest_249] at hf
            refine lv_iload_n hx hb dX12_digest_249 rfl (lv_at hl 2 rfl) ?_
            refine lv_aload_n hx hb dX12_digest_250 rfl (lv_at hl 0 rfl) ?_
            refine gf (C := RX12) (T := TX12) (N := 16) (ci := 8) (v := .int t_length) hF hG hP inX12 0 rfl rfl 7 (by decide) q1027 rfl rfl dX12_digest_251 ?_
            refine lv_icmp_ge (tgt := 277) hx hb dX12_digest_254 (by decide) (fun c0 => ?_) (fun c0 => ?_)
            · have hf := (if_pos c0).symm.trans hf
              have hf : (some i1_21 : Option (Int64)) = some o1_23 := hf
              cases hf
              exact K249 _ _ hP hD hS ls (lv_sub hl [1] rfl)
            · have hf := (if_neg c0).symm.trans hf
              refine lv_ldc2 (v := 31) hx hb hown (hts _ (List.mem_cons_of_mem _ q1461)) dX12_digest_257 ?_
              refine lv_lload_n hx hb dX12_digest_260 rfl (lv_at hl 1 rfl) ?_
              refine lv_lmul hx hb dX12_digest_261 ?_
              refine lv_aload_n hx hb dX12_digest_262 rfl (lv_at hl 0 rfl) ?_
              refine gf (C := RX12) (T := TX12) (N := 16) (ci := 8) (v := .ref a_t_text) hF hG hP inX12 0 rfl rfl 6 (by decide) q1026 rfl rfl dX12_digest_263 ?_
              refine lv_iload_n hx hb dX12_digest_266 rfl (lv_at hl 2 rfl) ?_
              obtain ⟨hg, hf⟩ := gd_some hf
              refine ald_i (k := Int32.toNatClampNeg i3_22) hF hG hP 2 rfl rfl hg dX12_digest_267 ?_
              refine lv_i2l (v := (Int32.toInt64 (t_text (Int32.toNatClampNeg i3_22)))) hx hb dX12_digest_268 rfl ?_
              refine lv_ladd hx hb dX12_digest_269 ?_
              refine lv_lstore_n (lv' := [(1, .long ((31 * i1_21) + (Int32.toInt64 (t_text (Int32.toNatClampNeg i3_22))))), (0, .ref a_t), (3, .int i3_22)]) hx hb dX12_digest_270 rfl hl (by decide) rfl (fun ls hl => ?_)
              refine lv_iinc (v := (i3_22 + 1)) (lv' := [(3, .int (i3_22 + 1)), (1, .long ((31 * i1_21) + (Int32.toInt64 (t_text (Int32.toNatClampNeg i3_22))))), (0, .ref a_t)]) hx hb dX12_digest_271 hl (k := 2) rfl rfl (by decide) rfl (fun ls hl => ?_)
              refine lv_goto (tgt := 249) hx hb dX12_digest_274 (by decide) ?_
              exact ih ((31 * i1_21) + (Int32.toInt64 (t_text (Int32.toNatClampNeg i3_22)))) (i3_22 + 1) hf _ _ hP hD hS ls (lv_sub hl [2, 1, 0] rfl)
        exact L249 1000 ((31 * ((31 * j_18) + r_20)) + (Int32.toInt64 t_length)) 0 hq _ _ hP hD hS ls (lv_sub hl [2, 1, 0] rfl)
      clear hf
      have hf := hq
      clear hq
      refine lv_icmp_ne (tgt := 193) hx hb dX12_digest_186 (by decide) (fun c0 => ?_) (fun c0 => ?_)
      · have hf := (if_neg c0).symm.trans hf
        refine lv_ldc2 (v := 31) hx hb hown (hts _ (List.mem_cons_of_mem _ q1461)) dX12_digest_193 ?_
        refine lv_ldc2 (v := 31) hx hb hown (hts _ (List.mem_cons_of_mem _ q1461)) dX12_digest_196 ?_
        refine lv_lload_n hx hb dX12_digest_199 rfl (lv_at hl 0 rfl) ?_
        refine lv_lmul hx hb dX12_digest_200 ?_
        refine lv_aload_n hx hb dX12_digest_201 rfl (lv_at hl 1 rfl) ?_
        refine gf (C := RX12) (T := TX12) (N := 16) (ci := 8) (v := .ref a_t_s) hF hG hP inX12 0 rfl rfl 1 (by decide) q1021 rfl rfl dX12_digest_202 ?_
        refine lv_bipush (v := 6) hx hb dX12_digest_205 (by decide) ?_
        refine ald_i (k := 6) hF hG hP 1 rfl (by decide) (by decide) dX12_digest_207 ?_
        refine lv_i2l (v := (Int32.toInt64 (t_s 6))) hx hb dX12_digest_208 rfl ?_
        refine lv_ladd hx hb dX12_digest_209 ?_
        refine lv_lmul hx hb dX12_digest_210 ?_
        refine lv_aload_n hx hb dX12_digest_211 rfl (lv_at hl 1 rfl) ?_
        refine gf (C := RX12) (T := TX12) (N := 16) (ci := 8) (v := .ref a_t_s) hF hG hP inX12 0 rfl rfl 1 (by decide) q1021 rfl rfl dX12_digest_212 ?_
        refine lv_bipush (v := 7) hx hb dX12_digest_215 (by decide) ?_
        refine ald_i (k := 7) hF hG hP 1 rfl (by decide) (by decide) dX12_digest_217 ?_
        refine lv_i2l (v := (Int32.toInt64 (t_s 7))) hx hb dX12_digest_218 rfl ?_
        refine lv_ladd hx hb dX12_digest_219 ?_
        have hf : (some ((31 * ((31 * ((31 * r_16) + (Int32.toInt64 j_17))) + (Int32.toInt64 (t_s 6)))) + (Int32.toInt64 (t_s 7))) : Option (Int64)) = some j_18 := hf
        cases hf
        exact J220 _ _ hP hD hS ls (lv_sub hl [1] rfl)
      · have hf := (if_pos c0).symm.trans hf
        refine lv_lload_n hx hb dX12_digest_189 rfl (lv_at hl 0 rfl) ?_
        refine lv_goto (tgt := 220) hx hb dX12_digest_190 (by decide) ?_
        have hf : (some ((31 * r_16) + (Int32.toInt64 j_17)) : Option (Int64)) = some j_18 := hf
        cases hf
        exact J220 _ _ hP hD hS ls (lv_sub hl [1] rfl)
    clear hf
    have hf := hq
    clear hq
    refine lv_icmp_ne (tgt := 174) hx hb dX12_digest_167 (by decide) (fun c0 => ?_) (fun c0 => ?_)
    · have hf := (if_neg c0).symm.trans hf
      refine lv_iconst (v := 1) hx hb dX12_digest_174 (by decide) ?_
      have hf : (some 1 : Option (Int32)) = some j_17 := hf
      cases hf
      exact J175 _ _ hP hD hS ls (lv_sub hl [1] rfl)
    · have hf := (if_pos c0).symm.trans hf
      refine lv_iconst (v := 0) hx hb dX12_digest_170 (by decide) ?_
      refine lv_goto (tgt := 175) hx hb dX12_digest_171 (by decide) ?_
      have hf : (some 0 : Option (Int32)) = some j_17 := hf
      cases hf
      exact J175 _ _ hP hD hS ls (lv_sub hl [1] rfl)
  clear hf
  have L125 : ∀ (n : Nat) (i1_6 : Int64) (i3_7 : Int32) (t_pieceMany_8 : Int32) (t_coins_9 : Int64), l_X12_digest_125 t_s n i1_6 i3_7 t_pieceMany_8 t_coins_9 = some (o1_10, t_pieceMany_11, t_coins_12) → ∀ (H : Heap) (locs : List Loc), va_P G.1 vwCl ([(a_t, .inr (8, [.int 0, .ref a_t_s, .ref a_t_states, .int t_stateMany, .ref a_t_snapshot, .int t_hasSnapshot, .ref a_t_text, .int t_length, .int t_at, .int t_isWell, .ref a_t_read, .int t_readMany, .ref a_t_prices, .int t_priceMany, .int t_pieceMany_8, .long t_coins_9])), (a_t_s, .inl (G.2.1, 68, .inl t_s)), (a_t_text, .inl (G.2.1, 60, .inl t_text))] : va_W) H → va_D A ([(a_t, .inr (8, [.int 0, .ref a_t_s, .ref a_t_states, .int t_stateMany, .ref a_t_snapshot, .int t_hasSnapshot, .ref a_t_text, .int t_length, .int t_at, .int t_isWell, .ref a_t_read, .int t_readMany, .ref a_t_prices, .int t_priceMany, .int t_pieceMany_8, .long t_coins_9])), (a_t_s, .inl (G.2.1, 68, .inl t_s)), (a_t_text, .inl (G.2.1, 60, .inl t_text))] : va_W) → va_S A s.heap H locs → ∀ ls : Array Slot, lv_has ls 4 [(0, .ref a_t), (1, .long i1_6), (3, .int i3_7)] → W p l e RM_X12_digest s m [.ref a_t].toArray below meth c H locs 0 0 (MQ below (wrQ (some (.long rr)) G [(a_t, .inr (8, [.int w_t_thrown, .ref a_t_s, .ref a_t_states, .int t_stateMany, .ref a_t_snapshot, .int t_hasSnapshot, .ref a_t_text, .int t_length, .int t_at, .int t_isWell, .ref a_t_read, .int t_readMany, .ref a_t_prices, .int t_priceMany, .int w_t_pieceMany, .long w_t_coins])), (a_t_s, .inl (G.2.1, 68, .inl t_s)), (a_t_text, .inl (G.2.1, 60, .inl t_text))] A) [.ref a_t].toArray s 0 0 A) (F0 m 125 ls []) := by
    intro n
    induction n with
    | zero =>
      intro i1_6 i3_7 t_pieceMany_8 t_coins_9 hf
      exact nomatch (show none = some (o1_10, t_pieceMany_11, t_coins_12) from hf)
    | succ n ih =>
      intro i1_6 i3_7 t_pieceMany_8 t_coins_9 hf H locs hP hD hS ls hl
      rw [l_X12_digest_125] at hf
      refine lv_iload_n hx hb dX12_digest_125 rfl (lv_at hl 2 rfl) ?_
      refine lv_aload_n hx hb dX12_digest_126 rfl (lv_at hl 0 rfl) ?_
      refine gf (C := RX12) (T := TX12) (N := 16) (ci := 8) (v := .ref a_t_s) hF hG hP inX12 0 rfl rfl 1 (by decide) q1021 rfl rfl dX12_digest_127 ?_
      refine lv_iconst (v := 0) hx hb dX12_digest_130 (by decide) ?_
      refine ald_i (k := 0) hF hG hP 1 rfl (by decide) (by decide) dX12_digest_131 ?_
      refine lv_icmp_ge (tgt := 148) hx hb dX12_digest_132 (by decide) (fun c0 => ?_) (fun c0 => ?_)
      · have hf := (if_pos c0).symm.trans hf
        have hf : (some (i1_6, t_pieceMany_8, t_coins_9) : Option (Int64 × Int32 × Int64)) = some (o1_10, t_pieceMany_11, t_coins_12) := hf
        cases hf
        exact K125 _ _ hP hD hS ls (lv_sub hl [0, 1] rfl)
      · have hf := (if_neg c0).symm.trans hf
        refine lv_aload_n hx hb dX12_digest_135 rfl (lv_at hl 0 rfl) ?_
        refine lv_lload_n hx hb dX12_digest_136 rfl (lv_at hl 1 rfl) ?_
        refine lv_iload_n hx hb dX12_digest_137 rfl (lv_at hl 2 rfl) ?_
        obtain ⟨r_13, t_pieceMany_14, t_coins_15, hq, hf⟩ := bd3_some hf
        refine wrV (As := [.long i1_6, .int i3_7]) (rest := []) (wn := [(a_t, .inr (8, [.int 0, .ref a_t_s, .ref a_t_states, .int t_stateMany, .ref a_t_snapshot, .int t_hasSnapshot, .ref a_t_text, .int t_length, .int t_at, .int t_isWell, .ref a_t_read, .int t_readMany, .ref a_t_prices, .int t_priceMany, .int t_pieceMany_14, .long t_coins_15])), (a_t_s, .inl (G.2.1, 68, .inl t_s)), (a_t_text, .inl (G.2.1, 60, .inl t_text))]) hF hG hP hD hS hA hl.1 (c_X12_digestDay l G a_t 0 a_t_states t_stateMany a_t_snapshot t_hasSnapshot a_t_text t_length t_at t_isWell a_t_read t_readMany a_t_prices t_priceMany t_pieceMany_8 t_coins_9 a_t_s t_s i1_6 i3_7 r_13 t_pieceMany_14 t_coins_15 hq) k_X12_digestDay q1462 [0, 1] [2] [1, 2, 0] rfl rfl rfl rfl ⟨rfl, rfl⟩ (by decide) ⟨0, 8, _, _, rfl, rfl, rfl⟩ rfl rfl (Nat.le_of_ble_eq_true rfl) ⟨(Nat.le_of_ble_eq_true rfl), (Nat.le_of_ble_eq_true rfl)⟩ ⟨(Nat.le_of_ble_eq_true rfl), (Nat.le_of_ble_eq_true rfl)⟩ dX12_digest_138 (fun H locs hP hD hS => ?_)
        refine lv_lstore_n (lv' := [(1, .long r_13), (0, .ref a_t), (3, .int i3_7)]) hx hb dX12_digest_141 rfl hl (by decide) rfl (fun ls hl => ?_)
        refine lv_iinc (v := (i3_7 + 1)) (lv' := [(3, .int (i3_7 + 1)), (1, .long r_13), (0, .ref a_t)]) hx hb dX12_digest_142 hl (k := 2) rfl rfl (by decide) rfl (fun ls hl => ?_)
        refine lv_goto (tgt := 125) hx hb dX12_digest_145 (by decide) ?_
        exact ih r_13 (i3_7 + 1) t_pieceMany_14 t_coins_15 hf _ _ hP hD hS ls (lv_sub hl [2, 1, 0] rfl)
  exact L125 1000 ((31 * ((31 * ((31 * ((31 * ((31 * ((31 * ((31 * ((31 * ((31 * ((31 * 4523) + (Int32.toInt64 (t_s 0)))) + (Int32.toInt64 (t_s 1)))) + (Int32.toInt64 (t_s 2)))) + (Int32.toInt64 (t_s 5)))) + (Int32.toInt64 r_1))) + (Int32.toInt64 r_2))) + (Int32.toInt64 r_3))) + (Int32.toInt64 r_4))) + (Int32.toInt64 r_5))) + (Int32.toInt64 t_stateMany)) 0 t_pieceMany t_coins hq _ _ hP hD hS ls (lv_sub hl [2, 1, 0] rfl)
