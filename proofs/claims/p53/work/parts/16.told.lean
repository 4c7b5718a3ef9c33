def f_L_low (x0 : Int32) (x1 : Int32) : Option (Int32) := gd (¬ x1 = 0) (some ((x0 &&& 2147483647) - (x0 &&& 2147483647) / x1 * x1))
theorem k_L_low : KS yL_low cL_low 2 (some .int) 2 := ⟨qc_yL_low, q0, ⟨by decide +kernel, by decide +kernel, by decide +kernel⟩, qt_yL_low⟩
abbrev RM_L_low : Room := { frames := 0, cells := 0, slots := 0, locals := 0 }
set_option maxHeartbeats 4000000 in
set_option maxRecDepth 100000 in
theorem c_L_low (l : Launch) (G : GP) (x0 : Int32) (x1 : Int32) (rr : Int32) (hf : f_L_low x0 x1 = some rr) : RM l yL_low cL_low 2 (some .int) 0 0 G [.int x0, .int x1] [] (some (.int rr)) := by
  refine RM.ofW (C := RL) (by decide) rfl (Nat.le_of_ble_eq_true rfl) ?_
  intro p e s m below meth c hF hr hlk hG hP ls hl
  have hl : lv_has ls 2 [(0, .int x0), (1, .int x1)] := hl
  have hx := hF.1
  have hb := hF.2.1
  have hml := hF.2.2.1
  have hown := hF.2.2.2.1
  have hts := hF.2.2.2.2
  unfold f_L_low at hf
  refine lv_iload_n hx hb dL_low_0 rfl (lv_at hl 0 rfl) ?_
  refine lv_ldc (v := 2147483647) hx hb hown (hts _ (List.mem_cons_of_mem _ q434)) dL_low_1 ?_
  refine lv_iand hx hb dL_low_3 ?_
  refine lv_iload_n hx hb dL_low_4 rfl (lv_at hl 1 rfl) ?_
  obtain ⟨hg, hf⟩ := gd_some hf
  refine lv_irem hx hb dL_low_5 hg ?_
  have hf : (some ((x0 &&& 2147483647) - (x0 &&& 2147483647) / x1 * x1) : Option (Int32)) = some rr := hf
  cases hf
  exact re_i hF hr hlk dL_low_6 rfl
def f_L_price (x0 : Int32) : Option (Int32) := bd1 (if ((x0 >>> ((20 : Int32) &&& 31)) &&& 1) = 0 then some 300 else some 9999) (fun (j_1 : Int32) => bd1 (f_L_low x0 j_1) (fun (r_2 : Int32) => some (1 + r_2)))
theorem k_L_price : KS yL_price cL_price 1 (some .int) 1 := ⟨qc_yL_price, q0, ⟨by decide +kernel, by decide +kernel, by decide +kernel⟩, qt_yL_price⟩
abbrev RM_L_price : Room := { frames := 1, cells := 0, slots := 0, locals := 21 }
set_option maxHeartbeats 4000000 in
set_option maxRecDepth 100000 in
theorem c_L_price (l : Launch) (G : GP) (x0 : Int32) (rr : Int32) (hf : f_L_price x0 = some rr) : RM l yL_price cL_price 1 (some .int) 1 21 G [.int x0] [] (some (.int rr)) := by
  refine RM.ofW (C := RL) (by decide) rfl (Nat.le_of_ble_eq_true rfl) ?_
  intro p e s m below meth c hF hr hlk hG hP ls hl
  have hl : lv_has ls 1 [(0, .int x0)] := hl
  have hx := hF.1
  have hb := hF.2.1
  have hml := hF.2.2.1
  have hown := hF.2.2.2.1
  have hts := hF.2.2.2.2
  unfold f_L_price at hf
  refine lv_iconst (v := 1) hx hb dL_price_0 (by decide) ?_
  refine lv_iload_n hx hb dL_price_1 rfl (lv_at hl 0 rfl) ?_
  refine lv_iload_n hx hb dL_price_2 rfl (lv_at hl 0 rfl) ?_
  refine lv_bipush (v := 20) hx hb dL_price_3 (by decide) ?_
  refine lv_ishr hx hb dL_price_5 ?_
  refine lv_iconst (v := 1) hx hb dL_price_6 (by decide) ?_
  refine lv_iand hx hb dL_price_7 ?_
  obtain ⟨j_1, hq, hf⟩ := bd1_some hf
  have J20 : ∀ ls : Array Slot, lv_has ls 1 [] → W p l e RM_L_price s m [.int x0].toArray below meth c s.heap [] 0 0 (MQ below (rdQ (some (.int rr))) [.int x0].toArray s 0 0 (fun _ => False)) (F0 m 20 ls [.int j_1, .int x0, .int 1]) := by
    intro ls hl
    obtain ⟨r_2, hq, hf⟩ := bd1_some hf
    refine rdS (As := [.int x0, .int j_1]) (rest := [.int 1]) hF hG hP hl.1 (c_L_low l G x0 j_1 r_2 hq) k_L_low q431 [] rfl rfl rfl (Nat.le_of_ble_eq_true rfl) ⟨(Nat.le_of_ble_eq_true rfl), (Nat.le_of_ble_eq_true rfl)⟩ ⟨(Nat.zero_le _), (Nat.zero_le _)⟩ dL_price_20 ?_
    refine lv_iadd hx hb dL_price_23 ?_
    have hf : (some (1 + r_2) : Option (Int32)) = some rr := hf
    cases hf
    exact re_i hF hr hlk dL_price_24 rfl
  clear hf
  have hf := hq
  clear hq
  refine lv_if_ne (tgt := 17) hx hb dL_price_8 (by decide) (fun c0 => ?_) (fun c0 => ?_)
  · have hf := (if_neg c0).symm.trans hf
    refine lv_sipush (v := 9999) hx hb dL_price_17 (by decide) ?_
    have hf : (some 9999 : Option (Int32)) = some j_1 := hf
    cases hf
    exact J20 ls (lv_sub hl [] rfl)
  · have hf := (if_pos c0).symm.trans hf
    refine lv_sipush (v := 300) hx hb dL_price_11 (by decide) ?_
    refine lv_goto (tgt := 20) hx hb dL_price_14 (by decide) ?_
    have hf : (some 300 : Option (Int32)) = some j_1 := hf
    cases hf
    exact J20 ls (lv_sub hl [] rfl)
def l_L_told_60 (p0_now_length : Int32) (p0_now_memory : Int32) (p0_now_row : Nat → Int32) : Nat → Int64 → Int32 → Option (Int64)
  | 0, _, _ => none
  | n + 1, i1_6, i3_7 => bd1 (f_X11_days p0_now_length) (fun (r_9 : Int32) => (if r_9 ≤ i3_7 then some i1_6 else bd1 (f_X11_priceOf p0_now_length p0_now_row i3_7) (fun (r_10 : Int32) => bd1 (f_X11_smoothed p0_now_length p0_now_memory p0_now_row i3_7) (fun (r_11 : Int32) => l_L_told_60 p0_now_length p0_now_memory p0_now_row n ((31 * ((31 * i1_6) + (Int32.toInt64 r_10))) + (Int32.toInt64 r_11)) (i3_7 + 1)))))
def f_L_told (p0_now_length : Int32) (p0_now_shorter : Int32) (p0_now_longer : Int32) (p0_now_memory : Int32) (p0_now_limit : Int32) (p0_now_seasonDays : Int32) (p0_now_stopped : Int32) (p0_now_stopPart : Int32) (p0_now_stopReason : Int32) (p0_now_row : Nat → Int32) : Option (Int64) := bd1 (f_X11_days p0_now_length) (fun (r_1 : Int32) => bd1 (f_X11_shortWindow p0_now_shorter) (fun (r_2 : Int32) => bd1 (f_X11_longWindow p0_now_longer) (fun (r_3 : Int32) => bd1 (f_X11_season p0_now_seasonDays) (fun (r_4 : Int32) => bd1 (f_X11_creases p0_now_length p0_now_shorter p0_now_limit p0_now_row) (fun (r_5 : Int32) => bd1 (l_L_told_60 p0_now_length p0_now_memory p0_now_row 1000 ((31 * ((31 * ((31 * ((31 * ((31 * 3) + (Int32.toInt64 r_1))) + (Int32.toInt64 r_2))) + (Int32.toInt64 r_3))) + (Int32.toInt64 r_4))) + (Int32.toInt64 r_5)) 0) (fun (o1_8 : Int64) => bd1 (f_X11_hasStopped p0_now_stopped) (fun (r_12 : Int32) => (if r_12 = 0 then some ((31 * o1_8) + (Int32.toInt64 (0 : Int32))) else bd1 (f_X11_stoppedPart p0_now_stopped p0_now_stopPart) (fun (r_13 : Int32) => bd1 (f_X11_whyStopped p0_now_stopped p0_now_stopReason) (fun (r_14 : Int32) => some ((31 * o1_8) + (Int32.toInt64 ((10 * (1 + r_13)) + r_14)))))))))))))
theorem k_L_told : KS yL_told cL_told 4 (some .long) 1 := ⟨qc_yL_told, q0, ⟨by decide +kernel, by decide +kernel, by decide +kernel⟩, qt_yL_told⟩
abbrev RM_L_told : Room := { frames := 5, cells := 0, slots := 0, locals := 113 }
set_option maxHeartbeats 4000000 in
set_option maxRecDepth 100000 in
theorem c_L_told (l : Launch) (G : GP) (a_p0 : Nat) (a_p0_trial : Nat) (a_p0_snapshot : Nat) (p0_snapshotTaken : Int32) (a_p0_history : Nat) (a_p0_text : Nat) (a_p0_works : Nat) (a_p0_highs : Nat) (a_p0_trade : Nat) (a_p0_now : Nat) (p0_now_length : Int32) (p0_now_shorter : Int32) (p0_now_longer : Int32) (p0_now_memory : Int32) (p0_now_limit : Int32) (p0_now_seasonDays : Int32) (p0_now_stopped : Int32) (p0_now_stopPart : Int32) (p0_now_stopReason : Int32) (a_p0_now_row : Nat) (p0_now_row : Nat → Int32) (rr : Int64) (hf : f_L_told p0_now_length p0_now_shorter p0_now_longer p0_now_memory p0_now_limit p0_now_seasonDays p0_now_stopped p0_now_stopPart p0_now_stopReason p0_now_row = some rr) : RM l yL_told cL_told 4 (some .long) 5 113 G [.ref a_p0] [(a_p0, .inr (7, [.ref a_p0_now, .ref a_p0_trial, .ref a_p0_snapshot, .int p0_snapshotTaken, .ref a_p0_history, .ref a_p0_text, .ref a_p0_works, .ref a_p0_highs, .ref a_p0_trade])), (a_p0_now, .inr (2, [.ref a_p0_now_row, .int p0_now_length, .int p0_now_shorter, .int p0_now_longer, .int p0_now_memory, .int p0_now_limit, .int p0_now_seasonDays, .int p0_now_stopped, .int p0_now_stopPart, .int p0_now_stopReason])), (a_p0_now_row, .inl (G.2.1, 60, .inl p0_now_row))] (some (.long rr)) := by
  refine RM.ofW (C := RL) (by decide) rfl (Nat.le_of_ble_eq_true rfl) ?_
  intro p e s m below meth c hF hr hlk hG hP ls hl
  have hl : lv_has ls 4 [(0, .ref a_p0)] := hl
  have hx := hF.1
  have hb := hF.2.1
  have hml := hF.2.2.1
  have hown := hF.2.2.2.1
  have hts := hF.2.2.2.2
  unfold f_L_told at hf
  refine lv_ldc2 (v := 3) hx hb hown (hts _ (List.mem_cons_of_mem _ q373)) dL_told_0 ?_
  refine lv_lstore_n (lv' := [(1, .long 3), (0, .ref a_p0)]) hx hb dL_told_3 rfl hl (by decide) rfl (fun ls hl => ?_)
  refine lv_ldc2 (v := 31) hx hb hown (hts _ (List.mem_cons_of_mem _ q374)) dL_told_4 ?_
  refine lv_ldc2 (v := 31) hx hb hown (hts _ (List.mem_cons_of_mem _ q374)) dL_told_7 ?_
  refine lv_ldc2 (v := 31) hx hb hown (hts _ (List.mem_cons_of_mem _ q374)) dL_told_10 ?_
  refine lv_lload_n hx hb dL_told_13 rfl (lv_at hl 0 rfl) ?_
  refine lv_lmul hx hb dL_told_14 ?_
  refine lv_aload_n hx hb dL_told_15 rfl (lv_at hl 1 rfl) ?_
  obtain ⟨r_1, hq, hf⟩ := bd1_some hf
  refine rdV (As := []) (rest := [.long (31 * 3), .long 31, .long 31]) hF hG hP hl.1 (c_X11_days l G a_p0 a_p0_trial a_p0_snapshot p0_snapshotTaken a_p0_history a_p0_text a_p0_works a_p0_highs a_p0_trade a_p0_now a_p0_now_row p0_now_length p0_now_shorter p0_now_longer p0_now_memory p0_now_limit p0_now_seasonDays p0_now_stopped p0_now_stopPart p0_now_stopReason r_1 hq) k_X11_days q313 [0, 1] rfl ⟨0, 7, _, _, rfl, rfl, rfl⟩ rfl rfl (Nat.le_of_ble_eq_true rfl) ⟨(Nat.le_of_ble_eq_true rfl), (Nat.le_of_ble_eq_true rfl)⟩ ⟨(Nat.zero_le _), (Nat.zero_le _)⟩ dL_told_16 ?_
  refine lv_i2l (v := (Int32.toInt64 r_1)) hx hb dL_told_19 rfl ?_
  refine lv_ladd hx hb dL_told_20 ?_
  refine lv_lmul hx hb dL_told_21 ?_
  refine lv_aload_n hx hb dL_told_22 rfl (lv_at hl 1 rfl) ?_
  obtain ⟨r_2, hq, hf⟩ := bd1_some hf
  refine rdV (As := []) (rest := [.long (31 * ((31 * 3) + (Int32.toInt64 r_1))), .long 31]) hF hG hP hl.1 (c_X11_shortWindow l G a_p0 a_p0_trial a_p0_snapshot p0_snapshotTaken a_p0_history a_p0_text a_p0_works a_p0_highs a_p0_trade a_p0_now a_p0_now_row p0_now_length p0_now_shorter p0_now_longer p0_now_memory p0_now_limit p0_now_seasonDays p0_now_stopped p0_now_stopPart p0_now_stopReason r_2 hq) k_X11_shortWindow q317 [0, 1] rfl ⟨0, 7, _, _, rfl, rfl, rfl⟩ rfl rfl (Nat.le_of_ble_eq_true rfl) ⟨(Nat.le_of_ble_eq_true rfl), (Nat.le_of_ble_eq_true rfl)⟩ ⟨(Nat.zero_le _), (Nat.zero_le _)⟩ dL_told_23 ?_
  refine lv_i2l (v := (Int32.toInt64 r_2)) hx hb dL_told_26 rfl ?_
  refine lv_ladd hx hb dL_told_27 ?_
  refine lv_lmul hx hb dL_told_28 ?_
  refine lv_aload_n hx hb dL_told_29 rfl (lv_at hl 1 rfl) ?_
  obtain ⟨r_3, hq, hf⟩ := bd1_some hf
  refine rdV (As := []) (rest := [.long (31 * ((31 * ((31 * 3) + (Int32.toInt64 r_1))) + (Int32.toInt64 r_2)))]) hF hG hP hl.1 (c_X11_longWindow l G a_p0 a_p0_trial a_p0_snapshot p0_snapshotTaken a_p0_history a_p0_text a_p0_works a_p0_highs a_p0_trade a_p0_now a_p0_now_row p0_now_length p0_now_shorter p0_now_longer p0_now_memory p0_now_limit p0_now_seasonDays p0_now_stopped p0_now_stopPart p0_now_stopReason r_3 hq) k_X11_longWindow q321 [0, 1] rfl ⟨0, 7, _, _, rfl, rfl, rfl⟩ rfl rfl (Nat.le_of_ble_eq_true rfl) ⟨(Nat.le_of_ble_eq_true rfl), (Nat.le_of_ble_eq_true rfl)⟩ ⟨(Nat.zero_le _), (Nat.zero_le _)⟩ dL_told_30 ?_
  refine lv_i2l (v := (Int32.toInt64 r_3)) hx hb dL_told_33 rfl ?_
  refine lv_ladd hx hb dL_told_34 ?_
  refine lv_lstore_n (lv' := [(1, .long ((31 * ((31 * ((31 * 3) + (Int32.toInt64 r_1))) + (Int32.toInt64 r_2))) + (Int32.toInt64 r_3))), (0, .ref a_p0)]) hx hb dL_told_35 rfl hl (by decide) rfl (fun ls hl => ?_)
  refine lv_ldc2 (v := 31) hx hb hown (hts _ (List.mem_cons_of_mem _ q374)) dL_told_36 ?_
  refine lv_ldc2 (v := 31) hx hb hown (hts _ (List.mem_cons_of_mem _ q374)) dL_told_39 ?_
  refine lv_lload_n hx hb dL_told_42 rfl (lv_at hl 0 rfl) ?_
  refine lv_lmul hx hb dL_told_43 ?_
  refine lv_aload_n hx hb dL_told_44 rfl (lv_at hl 1 rfl) ?_
  obtain ⟨r_4, hq, hf⟩ := bd1_some hf
  refine rdV (As := []) (rest := [.long (31 * ((31 * ((31 * ((31 * 3) + (Int32.toInt64 r_1))) + (Int32.toInt64 r_2))) + (Int32.toInt64 r_3))), .long 31]) hF hG hP hl.1 (c_X11_season l G a_p0 a_p0_trial a_p0_snapshot p0_snapshotTaken a_p0_history a_p0_text a_p0_works a_p0_highs a_p0_trade a_p0_now a_p0_now_row p0_now_length p0_now_shorter p0_now_longer p0_now_memory p0_now_limit p0_now_seasonDays p0_now_stopped p0_now_stopPart p0_now_stopReason r_4 hq) k_X11_season q359 [0, 1] rfl ⟨0, 7, _, _, rfl, rfl, rfl⟩ rfl rfl (Nat.le_of_ble_eq_true rfl) ⟨(Nat.le_of_ble_eq_true rfl), (Nat.le_of_ble_eq_true rfl)⟩ ⟨(Nat.zero_le _), (Nat.zero_le _)⟩ dL_told_45 ?_
  refine lv_i2l (v := (Int32.toInt64 r_4)) hx hb dL_told_48 rfl ?_
  refine lv_ladd hx hb dL_told_49 ?_
  refine lv_lmul hx hb dL_told_50 ?_
  refine lv_aload_n hx hb dL_told_51 rfl (lv_at hl 1 rfl) ?_
  obtain ⟨r_5, hq, hf⟩ := bd1_some hf
  refine rdV (As := []) (rest := [.long (31 * ((31 * ((31 * ((31 * ((31 * 3) + (Int32.toInt64 r_1))) + (Int32.toInt64 r_2))) + (Int32.toInt64 r_3))) + (Int32.toInt64 r_4)))]) hF hG hP hl.1 (c_X11_creases l G a_p0 a_p0_trial a_p0_snapshot p0_snapshotTaken a_p0_history a_p0_text a_p0_works a_p0_highs a_p0_trade a_p0_now p0_now_length p0_now_shorter p0_now_longer p0_now_memory p0_now_limit p0_now_seasonDays p0_now_stopped p0_now_stopPart p0_now_stopReason a_p0_now_row p0_now_row r_5 hq) k_X11_creases q325 [0, 1, 2] rfl ⟨0, 7, _, _, rfl, rfl, rfl⟩ rfl rfl (Nat.le_of_ble_eq_true rfl) ⟨(Nat.le_of_ble_eq_true rfl), (Nat.le_of_ble_eq_true rfl)⟩ ⟨(Nat.zero_le _), (Nat.zero_le _)⟩ dL_told_52 ?_
  refine lv_i2l (v := (Int32.toInt64 r_5)) hx hb dL_told_55 rfl ?_
  refine lv_ladd hx hb dL_told_56 ?_
  refine lv_lstore_n (lv' := [(1, .long ((31 * ((31 * ((31 * ((31 * ((31 * 3) + (Int32.toInt64 r_1))) + (Int32.toInt64 r_2))) + (Int32.toInt64 r_3))) + (Int32.toInt64 r_4))) + (Int32.toInt64 r_5))), (0, .ref a_p0)]) hx hb dL_told_57 rfl hl (by decide) rfl (fun ls hl => ?_)
  refine lv_iconst (v := 0) hx hb dL_told_58 (by decide) ?_
  refine lv_istore_n (lv' := [(3, .int 0), (1, .long ((31 * ((31 * ((31 * ((31 * ((31 * 3) + (Int32.toInt64 r_1))) + (Int32.toInt64 r_2))) + (Int32.toInt64 r_3))) + (Int32.toInt64 r_4))) + (Int32.toInt64 r_5))), (0, .ref a_p0)]) hx hb dL_told_59 rfl hl (by decide) rfl (fun ls hl => ?_)
  obtain ⟨o1_8, hq, hf⟩ := bd1_some hf
  have K60 : ∀ ls : Array Slot, lv_has ls 4 [(0, .ref a_p0), (1, .long o1_8)] → W p l e RM_L_told s m [.ref a_p0].toArray below meth c s.heap [] 0 0 (MQ below (rdQ (some (.long rr))) [.ref a_p0].toArray s 0 0 (fun _ => False)) (F0 m 98 ls []) := by
    intro ls hl
    refine lv_ldc2 (v := 31) hx hb hown (hts _ (List.mem_cons_of_mem _ q374)) dL_told_98 ?_
    refine lv_lload_n hx hb dL_told_101 rfl (lv_at hl 1 rfl) ?_
    refine lv_lmul hx hb dL_told_102 ?_
    refine lv_aload_n hx hb dL_told_103 rfl (lv_at hl 0 rfl) ?_
    obtain ⟨r_12, hq, hf⟩ := bd1_some hf
    refine rdV (As := []) (rest := [.long (31 * o1_8)]) hF hG hP hl.1 (c_X11_hasStopped l G a_p0 a_p0_trial a_p0_snapshot p0_snapshotTaken a_p0_history a_p0_text a_p0_works a_p0_highs a_p0_trade a_p0_now a_p0_now_row p0_now_length p0_now_shorter p0_now_longer p0_now_memory p0_now_limit p0_now_seasonDays p0_now_stopped p0_now_stopPart p0_now_stopReason r_12 hq) k_X11_hasStopped q218 [0, 1] rfl ⟨0, 7, _, _, rfl, rfl, rfl⟩ rfl rfl (Nat.le_of_ble_eq_true rfl) ⟨(Nat.le_of_ble_eq_true rfl), (Nat.le_of_ble_eq_true rfl)⟩ ⟨(Nat.zero_le _), (Nat.zero_le _)⟩ dL_told_104 ?_
    refine lv_if_eq (tgt := 127) hx hb dL_told_107 (by decide) (fun c0 => ?_) (fun c0 => ?_)
    · have hf := (if_pos c0).symm.trans hf
      refine lv_iconst (v := 0) hx hb dL_told_127 (by decide) ?_
      refine lv_i2l (v := (Int32.toInt64 (0 : Int32))) hx hb dL_told_128 rfl ?_
      refine lv_ladd hx hb dL_told_129 ?_
      have hf : (some ((31 * o1_8) + (Int32.toInt64 (0 : Int32))) : Option (Int64)) = some rr := hf
      cases hf
      exact re_l hF hr hlk dL_told_130 rfl
    · have hf := (if_neg c0).symm.trans hf
      refine lv_bipush (v := 10) hx hb dL_told_110 (by decide) ?_
      refine lv_iconst (v := 1) hx hb dL_told_112 (by decide) ?_
      refine lv_aload_n hx hb dL_told_113 rfl (lv_at hl 0 rfl) ?_
      obtain ⟨r_13, hq, hf⟩ := bd1_some hf
      refine rdV (As := []) (rest := [.int 1, .int 10, .long (31 * o1_8)]) hF hG hP hl.1 (c_X11_stoppedPart l G a_p0 a_p0_trial a_p0_snapshot p0_snapshotTaken a_p0_history a_p0_text a_p0_works a_p0_highs a_p0_trade a_p0_now a_p0_now_row p0_now_length p0_now_shorter p0_now_longer p0_now_memory p0_now_limit p0_now_seasonDays p0_now_stopped p0_now_stopPart p0_now_stopReason r_13 hq) k_X11_stoppedPart q415 [0, 1] rfl ⟨0, 7, _, _, rfl, rfl, rfl⟩ rfl rfl (Nat.le_of_ble_eq_true rfl) ⟨(Nat.le_of_ble_eq_true rfl), (Nat.le_of_ble_eq_true rfl)⟩ ⟨(Nat.zero_le _), (Nat.zero_le _)⟩ dL_told_114 ?_
      refine lv_iadd hx hb dL_told_117 ?_
      refine lv_imul hx hb dL_told_118 ?_
      refine lv_aload_n hx hb dL_told_119 rfl (lv_at hl 0 rfl) ?_
      obtain ⟨r_14, hq, hf⟩ := bd1_some hf
      refine rdV (As := []) (rest := [.int (10 * (1 + r_13)), .long (31 * o1_8)]) hF hG hP hl.1 (c_X11_whyStopped l G a_p0 a_p0_trial a_p0_snapshot p0_snapshotTaken a_p0_history a_p0_text a_p0_works a_p0_highs a_p0_trade a_p0_now a_p0_now_row p0_now_length p0_now_shorter p0_now_longer p0_now_memory p0_now_limit p0_now_seasonDays p0_now_stopped p0_now_stopPart p0_now_stopReason r_14 hq) k_X11_whyStopped q424 [0, 1] rfl ⟨0, 7, _, _, rfl, rfl, rfl⟩ rfl rfl (Nat.le_of_ble_eq_true rfl) ⟨(Nat.le_of_ble_eq_true rfl), (Nat.le_of_ble_eq_true rfl)⟩ ⟨(Nat.zero_le _), (Nat.zero_le _)⟩ dL_told_120 ?_
      refine lv_iadd hx hb dL_told_123 ?_
      refine lv_goto (tgt := 128) hx hb dL_told_124 (by decide) ?_
      refine lv_i2l (v := (Int32.toInt64 ((10 * (1 + r_13)) + r_14))) hx hb dL_told_128 rfl ?_
      refine lv_ladd hx hb dL_told_129 ?_
      have hf : (some ((31 * o1_8) + (Int32.toInt64 ((10 * (1 + r_13)) + r_14))) : Option (Int64)) = some rr := hf
      cases hf
      exact re_l hF hr hlk dL_told_130 rfl
  clear hf
  have L60 : ∀ (n : Nat) (i1_6 : Int64) (i3_7 : Int32), l_L_told_60 p0_now_length p0_now_memory p0_now_row n i1_6 i3_7 = some o1_8 → ∀ ls : Array Slot, lv_has ls 4 [(0, .ref a_p0), (1, .long i1_6), (3, .int i3_7)] → W p l e RM_L_told s m [.ref a_p0].toArray below meth c s.heap [] 0 0 (MQ below (rdQ (some (.long rr))) [.ref a_p0].toArray s 0 0 (fun _ => False)) (F0 m 60 ls []) := by
    intro n
    induction n with
    | zero =>
      intro i1_6 i3_7 hf
      exact nomatch (show none = some o1_8 from hf)
    | succ n ih =>
      intro i1_6 i3_7 hf ls hl
      rw [l_L_told_60] at hf
      refine lv_iload_n hx hb dL_told_60 rfl (lv_at hl 2 rfl) ?_
      refine lv_aload_n hx hb dL_told_61 rfl (lv_at hl 0 rfl) ?_
      obtain ⟨r_9, hq, hf⟩ := bd1_some hf
      refine rdV (As := []) (rest := [.int i3_7]) hF hG hP hl.1 (c_X11_days l G a_p0 a_p0_trial a_p0_snapshot p0_snapshotTaken a_p0_history a_p0_text a_p0_works a_p0_highs a_p0_trade a_p0_now a_p0_now_row p0_now_length p0_now_shorter p0_now_longer p0_now_memory p0_now_limit p0_now_seasonDays p0_now_stopped p0_now_stopPart p0_now_stopReason r_9 hq) k_X11_days q313 [0, 1] rfl ⟨0, 7, _, _, rfl, rfl, rfl⟩ rfl rfl (Nat.le_of_ble_eq_true rfl) ⟨(Nat.le_of_ble_eq_true rfl), (Nat.le_of_ble_eq_true rfl)⟩ ⟨(Nat.zero_le _), (Nat.zero_le _)⟩ dL_told_62 ?_
      refine lv_icmp_ge (tgt := 98) hx hb dL_told_65 (by decide) (fun c0 => ?_) (fun c0 => ?_)
      · have hf := (if_pos c0).symm.trans hf
        have hf : (some i1_6 : Option (Int64)) = some o1_8 := hf
        cases hf
        exact K60 ls (lv_sub hl [0, 1] rfl)
      · have hf := (if_neg c0).symm.trans hf
        refine lv_ldc2 (v := 31) hx hb hown (hts _ (List.mem_cons_of_mem _ q374)) dL_told_68 ?_
        refine lv_ldc2 (v := 31) hx hb hown (hts _ (List.mem_cons_of_mem _ q374)) dL_told_71 ?_
        refine lv_lload_n hx hb dL_told_74 rfl (lv_at hl 1 rfl) ?_
        refine lv_lmul hx hb dL_told_75 ?_
        refine lv_aload_n hx hb dL_told_76 rfl (lv_at hl 0 rfl) ?_
        refine lv_iload_n hx hb dL_told_77 rfl (lv_at hl 2 rfl) ?_
        obtain ⟨r_10, hq, hf⟩ := bd1_some hf
        refine rdV (As := [.int i3_7]) (rest := [.long (31 * i1_6), .long 31]) hF hG hP hl.1 (c_X11_priceOf l G a_p0 a_p0_trial a_p0_snapshot p0_snapshotTaken a_p0_history a_p0_text a_p0_works a_p0_highs a_p0_trade a_p0_now p0_now_length p0_now_shorter p0_now_longer p0_now_memory p0_now_limit p0_now_seasonDays p0_now_stopped p0_now_stopPart p0_now_stopReason a_p0_now_row p0_now_row i3_7 r_10 hq) k_X11_priceOf q375 [0, 1, 2] rfl ⟨0, 7, _, _, rfl, rfl, rfl⟩ rfl rfl (Nat.le_of_ble_eq_true rfl) ⟨(Nat.le_of_ble_eq_true rfl), (Nat.le_of_ble_eq_true rfl)⟩ ⟨(Nat.zero_le _), (Nat.zero_le _)⟩ dL_told_78 ?_
        refine lv_i2l (v := (Int32.toInt64 r_10)) hx hb dL_told_81 rfl ?_
        refine lv_ladd hx hb dL_told_82 ?_
        refine lv_lmul hx hb dL_told_83 ?_
        refine lv_aload_n hx hb dL_told_84 rfl (lv_at hl 0 rfl) ?_
        refine lv_iload_n hx hb dL_told_85 rfl (lv_at hl 2 rfl) ?_
        obtain ⟨r_11, hq, hf⟩ := bd1_some hf
        refine rdV (As := [.int i3_7]) (rest := [.long (31 * ((31 * i1_6) + (Int32.toInt64 r_10)))]) hF hG hP hl.1 (c_X11_smoothed l G a_p0 a_p0_trial a_p0_snapshot p0_snapshotTaken a_p0_history a_p0_text a_p0_works a_p0_highs a_p0_trade a_p0_now p0_now_length p0_now_shorter p0_now_longer p0_now_memory p0_now_limit p0_now_seasonDays p0_now_stopped p0_now_stopPart p0_now_stopReason a_p0_now_row p0_now_row i3_7 r_11 hq) k_X11_smoothed q404 [0, 1, 2] rfl ⟨0, 7, _, _, rfl, rfl, rfl⟩ rfl rfl (Nat.le_of_ble_eq_true rfl) ⟨(Nat.le_of_ble_eq_true rfl), (Nat.le_of_ble_eq_true rfl)⟩ ⟨(Nat.zero_le _), (Nat.zero_le _)⟩ dL_told_86 ?_
        refine lv_i2l (v := (Int32.toInt64 r_11)) hx hb dL_told_89 rfl ?_
        refine lv_ladd hx hb dL_told_90 ?_
        refine lv_lstore_n (lv' := [(1, .long ((31 * ((31 * i1_6) + (Int32.toInt64 r_10))) + (Int32.toInt64 r_11))), (0, .ref a_p0), (3, .int i3_7)]) hx hb dL_told_91 rfl hl (by decide) rfl (fun ls hl => ?_)
        refine lv_iinc (v := (i3_7 + 1)) (lv' := [(3, .int (i3_7 + 1)), (1, .long ((31 * ((31 * i1_6) + (Int32.toInt64 r_10))) + (Int32.toInt64 r_11))), (0, .ref a_p0)]) hx hb dL_told_92 hl (k := 2) rfl rfl (by decide) rfl (fun ls hl => ?_)
        refine lv_goto (tgt := 60) hx hb dL_told_95 (by decide) ?_
        exact ih ((31 * ((31 * i1_6) + (Int32.toInt64 r_10))) + (Int32.toInt64 r_11)) (i3_7 + 1) hf ls (lv_sub hl [2, 1, 0] rfl)
  exact L60 1000 ((31 * ((31 * ((31 * ((31 * ((31 * 3) + (Int32.toInt64 r_1))) + (Int32.toInt64 r_2))) + (Int32.toInt64 r_3))) + (Int32.toInt64 r_4))) + (Int32.toInt64 r_5)) 0 hq ls (lv_sub hl [2, 1, 0] rfl)
