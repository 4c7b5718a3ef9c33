def l_L_holds_403 (p0_now_length : Int32) (p0_now_shorter : Int32) (p0_now_longer : Int32) (p0_now_memory : Int32) (p0_now_seasonDays : Int32) (p0_now_row : Nat → Int32) (r_22 : Int32) : Nat → Int32 → Int32 → Option (Int32)
  | 0, _, _ => none
  | n + 1, i5_23, i7_24 => (if 4 ≤ i7_24 then some i5_23 else (if i5_23 = 0 then l_L_holds_403 p0_now_length p0_now_shorter p0_now_longer p0_now_memory p0_now_seasonDays p0_now_row r_22 n 0 (i7_24 + 1) else bd1 (f_X11_error p0_now_length p0_now_shorter p0_now_longer p0_now_memory p0_now_seasonDays p0_now_row r_22) (fun (r_26 : Int32) => bd1 (f_X11_error p0_now_length p0_now_shorter p0_now_longer p0_now_memory p0_now_seasonDays p0_now_row i7_24) (fun (r_27 : Int32) => (if r_27 < r_26 then l_L_holds_403 p0_now_length p0_now_shorter p0_now_longer p0_now_memory p0_now_seasonDays p0_now_row r_22 n 0 (i7_24 + 1) else l_L_holds_403 p0_now_length p0_now_shorter p0_now_longer p0_now_memory p0_now_seasonDays p0_now_row r_22 n 1 (i7_24 + 1))))))
def l_L_holds_95 (p0_now_length : Int32) (p0_now_shorter : Int32) (p0_now_longer : Int32) (p0_now_memory : Int32) (p0_now_limit : Int32) (p0_now_seasonDays : Int32) (p0_now_row : Nat → Int32) (x1 : Int32) (r_1 : Int32) (j_4 : Int32) : Nat → Int32 → Int32 → Int32 → Int32 → Int32 → (Nat → Int32) → Int64 → Int32 → Option (Int32 × Int32 × Int32 × (Nat → Int32) × Int64 × Int32)
  | 0, _, _, _, _, _, _, _, _ => none
  | n + 1, i3_13, i4_14, i6_15, p0_highs_front_16, p0_highs_end_17, p0_highs_candidates_18, p0_trade_coins_19, p0_trade_held_20 => (if r_1 ≤ i6_15 then bd1 (if r_1 ≤ 1 then some j_4 else bd1 (f_X11_bestMethod p0_now_length p0_now_shorter p0_now_longer p0_now_memory p0_now_seasonDays p0_now_row) (fun (r_22 : Int32) => bd1 (l_L_holds_403 p0_now_length p0_now_shorter p0_now_longer p0_now_memory p0_now_seasonDays p0_now_row r_22 1000 j_4 0) (fun (o5_25 : Int32) => some o5_25))) (fun (j5_21 : Int32) => (if j5_21 = 0 then some (0, p0_highs_front_16, p0_highs_end_17, p0_highs_candidates_18, p0_trade_coins_19, p0_trade_held_20) else bd1 (f_X11_creases p0_now_length p0_now_shorter p0_now_limit p0_now_row) (fun (r_28 : Int32) => (if i3_13 = r_28 then bd1 (f_X11_crossings p0_now_length p0_now_shorter p0_now_longer p0_now_row) (fun (r_29 : Int32) => (if i4_14 = r_29 then (if r_1 = 0 then some (1, p0_highs_front_16, p0_highs_end_17, p0_highs_candidates_18, p0_trade_coins_19, p0_trade_held_20) else bd1 (f_X11_crossing p0_now_length p0_now_shorter p0_now_longer p0_now_row 0) (fun (r_30 : Int32) => (if r_30 = 0 then some (1, p0_highs_front_16, p0_highs_end_17, p0_highs_candidates_18, p0_trade_coins_19, p0_trade_held_20) else some (0, p0_highs_front_16, p0_highs_end_17, p0_highs_candidates_18, p0_trade_coins_19, p0_trade_held_20)))) else some (0, p0_highs_front_16, p0_highs_end_17, p0_highs_candidates_18, p0_trade_coins_19, p0_trade_held_20))) else some (0, p0_highs_front_16, p0_highs_end_17, p0_highs_candidates_18, p0_trade_coins_19, p0_trade_held_20))))) else bd1 (f_L_low (x1 + i6_15) 20) (fun (r_31 : Int32) => bd1 (f_X11_crossing p0_now_length p0_now_shorter p0_now_longer p0_now_row i6_15) (fun (r_32 : Int32) => bd1 (f_X11_isCrease p0_now_length p0_now_shorter p0_now_limit p0_now_row i6_15) (fun (r_33 : Int32) => bd1 (if r_33 = 0 then some 0 else some 1) (fun (j_34 : Int32) => bd1 (if r_32 = 0 then some 0 else some 1) (fun (j_35 : Int32) => bd1 (f_X11_shortWindow p0_now_shorter) (fun (r_36 : Int32) => bd1 (f_X11_mean p0_now_length p0_now_row i6_15 r_36) (fun (r_37 : Int32) => bd1 (f_X11_longWindow p0_now_longer) (fun (r_38 : Int32) => bd1 (f_X11_mean p0_now_length p0_now_row i6_15 r_38) (fun (r_39 : Int32) => bd1 (f_X11_mean p0_now_length p0_now_row i6_15 (1 + r_31)) (fun (r_40 : Int32) => bd1 (f_X11_meanBySums p0_now_length p0_now_row i6_15 (1 + r_31)) (fun (r_41 : Int32) => bd4 (if r_40 = r_41 then bd1 (f_X11_mean p0_now_length p0_now_row i6_15 1) (fun (r_46 : Int32) => bd1 (f_X11_priceOf p0_now_length p0_now_row i6_15) (fun (r_47 : Int32) => (if r_46 = (1000 * r_47) then bd1 (f_X11_smoothed p0_now_length p0_now_memory p0_now_row i6_15) (fun (r_48 : Int32) => bd1 (f_X11_smoothedBack p0_now_length p0_now_memory p0_now_row i6_15) (fun (r_49 : Int32) => (if r_48 = r_49 then bd1 (f_X11_smoothed p0_now_length p0_now_memory p0_now_row i6_15) (fun (r_50 : Int32) => (if r_50 < 1000 then some (0, p0_highs_front_16, p0_highs_end_17, p0_highs_candidates_18) else bd1 (f_X11_high p0_now_length p0_now_longer p0_now_row i6_15) (fun (r_51 : Int32) => bd4 (f_X11_highByCandidates p0_now_length p0_now_longer p0_now_row p0_highs_front_16 p0_highs_end_17 p0_highs_candidates_18 i6_15) (fun (r_52 : Int32) (p0_highs_front_53 : Int32) (p0_highs_end_54 : Int32) (p0_highs_candidates_55 : Nat → Int32) => (if r_51 = r_52 then bd1 (f_X11_high p0_now_length p0_now_longer p0_now_row i6_15) (fun (r_56 : Int32) => bd1 (f_X11_priceOf p0_now_length p0_now_row i6_15) (fun (r_57 : Int32) => (if r_56 < r_57 then some (0, p0_highs_front_53, p0_highs_end_54, p0_highs_candidates_55) else some (1, p0_highs_front_53, p0_highs_end_54, p0_highs_candidates_55)))) else some (0, p0_highs_front_53, p0_highs_end_54, p0_highs_candidates_55)))))) else some (0, p0_highs_front_16, p0_highs_end_17, p0_highs_candidates_18)))) else some (0, p0_highs_front_16, p0_highs_end_17, p0_highs_candidates_18)))) else some (0, p0_highs_front_16, p0_highs_end_17, p0_highs_candidates_18)) (fun (j_42 : Int32) (p0_highs_front_43 : Int32) (p0_highs_end_44 : Int32) (p0_highs_candidates_45 : Nat → Int32) => bd3 (if j_42 = 0 then some (0, p0_trade_coins_19, p0_trade_held_20) else (if r_32 = 0 then bd3 (f_X11_pieces p0_now_length p0_now_shorter p0_now_longer p0_now_row p0_trade_coins_19 p0_trade_held_20 i6_15) (fun (r_61 : Int32) (p0_trade_coins_62 : Int64) (p0_trade_held_63 : Int32) => (if r_61 < 0 then some (0, p0_trade_coins_62, p0_trade_held_63) else bd3 (f_X11_pieces p0_now_length p0_now_shorter p0_now_longer p0_now_row p0_trade_coins_62 p0_trade_held_63 i6_15) (fun (r_64 : Int32) (p0_trade_coins_65 : Int64) (p0_trade_held_66 : Int32) => (if 999 < r_64 then some (0, p0_trade_coins_65, p0_trade_held_66) else (if r_32 = (-1) then bd3 (f_X11_pieces p0_now_length p0_now_shorter p0_now_longer p0_now_row p0_trade_coins_65 p0_trade_held_66 i6_15) (fun (r_73 : Int32) (p0_trade_coins_74 : Int64) (p0_trade_held_75 : Int32) => (if r_73 = 0 then bd3 (f_X11_worth p0_now_length p0_now_shorter p0_now_longer p0_now_row p0_trade_coins_74 p0_trade_held_75 i6_15) (fun (r_76 : Int64) (p0_trade_coins_77 : Int64) (p0_trade_held_78 : Int32) => (if (lg_cmp r_76 0) < 0 then some (0, p0_trade_coins_77, p0_trade_held_78) else bd1 (f_X11_isCrease p0_now_length p0_now_shorter p0_now_limit p0_now_row i6_15) (fun (r_79 : Int32) => (if r_79 = 0 then some (1, p0_trade_coins_77, p0_trade_held_78) else bd1 (f_X11_median p0_now_length p0_now_shorter p0_now_row i6_15) (fun (r_80 : Int32) => bd1 (f_X11_priceOf p0_now_length p0_now_row i6_15) (fun (r_81 : Int32) => (if r_80 = r_81 then some (0, p0_trade_coins_77, p0_trade_held_78) else some (1, p0_trade_coins_77, p0_trade_held_78)))))))) else some (0, p0_trade_coins_74, p0_trade_held_75))) else bd3 (f_X11_worth p0_now_length p0_now_shorter p0_now_longer p0_now_row p0_trade_coins_65 p0_trade_held_66 i6_15) (fun (r_67 : Int64) (p0_trade_coins_68 : Int64) (p0_trade_held_69 : Int32) => (if (lg_cmp r_67 0) < 0 then some (0, p0_trade_coins_68, p0_trade_held_69) else bd1 (f_X11_isCrease p0_now_length p0_now_shorter p0_now_limit p0_now_row i6_15) (fun (r_70 : Int32) => (if r_70 = 0 then some (1, p0_trade_coins_68, p0_trade_held_69) else bd1 (f_X11_median p0_now_length p0_now_shorter p0_now_row i6_15) (fun (r_71 : Int32) => bd1 (f_X11_priceOf p0_now_length p0_now_row i6_15) (fun (r_72 : Int32) => (if r_71 = r_72 then some (0, p0_trade_coins_68, p0_trade_held_69) else some (1, p0_trade_coins_68, p0_trade_held_69))))))))))))) else (if (r_32 * (r_37 - r_39)) ≤ 0 then some (0, p0_trade_coins_19, p0_trade_held_20) else bd3 (f_X11_pieces p0_now_length p0_now_shorter p0_now_longer p0_now_row p0_trade_coins_19 p0_trade_held_20 i6_15) (fun (r_82 : Int32) (p0_trade_coins_83 : Int64) (p0_trade_held_84 : Int32) => (if r_82 < 0 then some (0, p0_trade_coins_83, p0_trade_held_84) else bd3 (f_X11_pieces p0_now_length p0_now_shorter p0_now_longer p0_now_row p0_trade_coins_83 p0_trade_held_84 i6_15) (fun (r_85 : Int32) (p0_trade_coins_86 : Int64) (p0_trade_held_87 : Int32) => (if 999 < r_85 then some (0, p0_trade_coins_86, p0_trade_held_87) else (if r_32 = (-1) then bd3 (f_X11_pieces p0_now_length p0_now_shorter p0_now_longer p0_now_row p0_trade_coins_86 p0_trade_held_87 i6_15) (fun (r_94 : Int32) (p0_trade_coins_95 : Int64) (p0_trade_held_96 : Int32) => (if r_94 = 0 then bd3 (f_X11_worth p0_now_length p0_now_shorter p0_now_longer p0_now_row p0_trade_coins_95 p0_trade_held_96 i6_15) (fun (r_97 : Int64) (p0_trade_coins_98 : Int64) (p0_trade_held_99 : Int32) => (if (lg_cmp r_97 0) < 0 then some (0, p0_trade_coins_98, p0_trade_held_99) else bd1 (f_X11_isCrease p0_now_length p0_now_shorter p0_now_limit p0_now_row i6_15) (fun (r_100 : Int32) => (if r_100 = 0 then some (1, p0_trade_coins_98, p0_trade_held_99) else bd1 (f_X11_median p0_now_length p0_now_shorter p0_now_row i6_15) (fun (r_101 : Int32) => bd1 (f_X11_priceOf p0_now_length p0_now_row i6_15) (fun (r_102 : Int32) => (if r_101 = r_102 then some (0, p0_trade_coins_98, p0_trade_held_99) else some (1, p0_trade_coins_98, p0_trade_held_99)))))))) else some (0, p0_trade_coins_95, p0_trade_held_96))) else bd3 (f_X11_worth p0_now_length p0_now_shorter p0_now_longer p0_now_row p0_trade_coins_86 p0_trade_held_87 i6_15) (fun (r_88 : Int64) (p0_trade_coins_89 : Int64) (p0_trade_held_90 : Int32) => (if (lg_cmp r_88 0) < 0 then some (0, p0_trade_coins_89, p0_trade_held_90) else bd1 (f_X11_isCrease p0_now_length p0_now_shorter p0_now_limit p0_now_row i6_15) (fun (r_91 : Int32) => (if r_91 = 0 then some (1, p0_trade_coins_89, p0_trade_held_90) else bd1 (f_X11_median p0_now_length p0_now_shorter p0_now_row i6_15) (fun (r_92 : Int32) => bd1 (f_X11_priceOf p0_now_length p0_now_row i6_15) (fun (r_93 : Int32) => (if r_92 = r_93 then some (0, p0_trade_coins_89, p0_trade_held_90) else some (1, p0_trade_coins_89, p0_trade_held_90)))))))))))))))) (fun (j_58 : Int32) (p0_trade_coins_59 : Int64) (p0_trade_held_60 : Int32) => (if j_58 = 0 then some (0, p0_highs_front_43, p0_highs_end_44, p0_highs_candidates_45, p0_trade_coins_59, p0_trade_held_60) else l_L_holds_95 p0_now_length p0_now_shorter p0_now_longer p0_now_memory p0_now_limit p0_now_seasonDays p0_now_row x1 r_1 j_4 n (i3_13 + j_34) (i4_14 + j_35) (i6_15 + 1) p0_highs_front_43 p0_highs_end_44 p0_highs_candidates_45 p0_trade_coins_59 p0_trade_held_60)))))))))))))))
def f_L_holds (p0_now_length : Int32) (p0_now_shorter : Int32) (p0_now_longer : Int32) (p0_now_memory : Int32) (p0_now_limit : Int32) (p0_now_seasonDays : Int32) (p0_now_row : Nat → Int32) (p0_highs_front : Int32) (p0_highs_end : Int32) (p0_highs_candidates : Nat → Int32) (p0_trade_coins : Int64) (p0_trade_held : Int32) (x1 : Int32) : Option (Int32 × Int32 × Int32 × (Nat → Int32) × Int64 × Int32) := bd1 (f_X11_days p0_now_length) (fun (r_1 : Int32) => bd1 (f_X11_shortWindow p0_now_shorter) (fun (r_2 : Int32) => bd1 (f_X11_longWindow p0_now_longer) (fun (r_3 : Int32) => bd1 (if r_3 ≤ r_2 then some 0 else bd1 (f_X11_greatestFall p0_now_length p0_now_row) (fun (r_5 : Int32) => bd1 (f_X11_greatestFallByPairs p0_now_length p0_now_row) (fun (r_6 : Int32) => (if r_5 = r_6 then bd1 (f_X11_greatestFall p0_now_length p0_now_row) (fun (r_7 : Int32) => (if r_7 < 0 then some 0 else bd1 (f_X11_greatestFall p0_now_length p0_now_row) (fun (r_8 : Int32) => (if 9999 ≤ r_8 then some 0 else bd1 (f_X11_longestRise p0_now_length p0_now_row) (fun (r_9 : Int32) => bd1 (if r_1 = 0 then some 0 else some (r_1 - 1)) (fun (j_10 : Int32) => (if j_10 < r_9 then some 0 else bd1 (f_X11_smoothShare p0_now_length p0_now_shorter p0_now_limit p0_now_row) (fun (r_11 : UInt64) => (if (Op.cmpValue (FP.dcmp r_11 FP.dconst0) CmpOp.l) < 0 then some 0 else bd1 (f_X11_smoothShare p0_now_length p0_now_shorter p0_now_limit p0_now_row) (fun (r_12 : UInt64) => (if 0 < (Op.cmpValue (FP.dcmp r_12 FP.dconst1) CmpOp.g) then some 0 else some 1))))))))))) else some 0)))) (fun (j_4 : Int32) => l_L_holds_95 p0_now_length p0_now_shorter p0_now_longer p0_now_memory p0_now_limit p0_now_seasonDays p0_now_row x1 r_1 j_4 1000 0 0 0 p0_highs_front p0_highs_end p0_highs_candidates p0_trade_coins p0_trade_held))))
theorem k_L_holds : KS yL_holds cL_holds 11 (some .boolean) 2 := ⟨qc_yL_holds, q0, ⟨by decide +kernel, by decide +kernel, by decide +kernel⟩, qt_yL_holds⟩
abbrev RM_L_holds : Room := { frames := 74, cells := 0, slots := 0, locals := 2234 }
set_option maxHeartbeats 4000000 in
set_option maxRecDepth 100000 in
theorem c_L_holds (l : Launch) (G : GP) (a_p0 : Nat) (a_p0_trial : Nat) (a_p0_snapshot : Nat) (p0_snapshotTaken : Int32) (a_p0_history : Nat) (a_p0_text : Nat) (a_p0_works : Nat) (a_p0_now : Nat) (p0_now_length : Int32) (p0_now_shorter : Int32) (p0_now_longer : Int32) (p0_now_memory : Int32) (p0_now_limit : Int32) (p0_now_seasonDays : Int32) (p0_now_stopped : Int32) (p0_now_stopPart : Int32) (p0_now_stopReason : Int32) (a_p0_now_row : Nat) (p0_now_row : Nat → Int32) (a_p0_highs : Nat) (p0_highs_front : Int32) (p0_highs_end : Int32) (a_p0_highs_candidates : Nat) (p0_highs_candidates : Nat → Int32) (a_p0_trade : Nat) (p0_trade_coins : Int64) (p0_trade_held : Int32) (x1 : Int32) (rr : Int32) (w_p0_highs_front : Int32) (w_p0_highs_end : Int32) (w_p0_highs_candidates : Nat → Int32) (w_p0_trade_coins : Int64) (w_p0_trade_held : Int32) (hf : f_L_holds p0_now_length p0_now_shorter p0_now_longer p0_now_memory p0_now_limit p0_now_seasonDays p0_now_row p0_highs_front p0_highs_end p0_highs_candidates p0_trade_coins p0_trade_held x1 = some (rr, w_p0_highs_front, w_p0_highs_end, w_p0_highs_candidates, w_p0_trade_coins, w_p0_trade_held)) : WM l yL_holds cL_holds 11 (some .boolean) 74 2234 G [.ref a_p0, .int x1] [(a_p0, .inr (7, [.ref a_p0_now, .ref a_p0_trial, .ref a_p0_snapshot, .int p0_snapshotTaken, .ref a_p0_history, .ref a_p0_text, .ref a_p0_works, .ref a_p0_highs, .ref a_p0_trade])), (a_p0_now, .inr (2, [.ref a_p0_now_row, .int p0_now_length, .int p0_now_shorter, .int p0_now_longer, .int p0_now_memory, .int p0_now_limit, .int p0_now_seasonDays, .int p0_now_stopped, .int p0_now_stopPart, .int p0_now_stopReason])), (a_p0_now_row, .inl (G.2.1, 60, .inl p0_now_row)), (a_p0_highs, .inr (0, [.ref a_p0_highs_candidates, .int p0_highs_front, .int p0_highs_end])), (a_p0_highs_candidates, .inl (G.2.1, 60, .inl p0_highs_candidates)), (a_p0_trade, .inr (5, [.long p0_trade_coins, .int p0_trade_held]))] (some (.int rr)) [(a_p0, .inr (7, [.ref a_p0_now, .ref a_p0_trial, .ref a_p0_snapshot, .int p0_snapshotTaken, .ref a_p0_history, .ref a_p0_text, .ref a_p0_works, .ref a_p0_highs, .ref a_p0_trade])), (a_p0_now, .inr (2, [.ref a_p0_now_row, .int p0_now_length, .int p0_now_shorter, .int p0_now_longer, .int p0_now_memory, .int p0_now_limit, .int p0_now_seasonDays, .int p0_now_stopped, .int p0_now_stopPart, .int p0_now_stopReason])), (a_p0_now_row, .inl (G.2.1, 60, .inl p0_now_row)), (a_p0_highs, .inr (0, [.ref a_p0_highs_candidates, .int w_p0_highs_front, .int w_p0_highs_end])), (a_p0_highs_candidates, .inl (G.2.1, 60, .inl w_p0_highs_candidates)), (a_p0_trade, .inr (5, [.long w_p0_trade_coins, .int w_p0_trade_held]))] := by
  refine WM.ofW (C := RL) (by decide) rfl (Nat.le_of_ble_eq_true rfl) ?_
  intro p e s m below meth c A hF hr hlk hG hA hP hD ls hl
  have hl : lv_has ls 11 [(0, .ref a_p0), (1, .int x1)] := hl
  have hx := hF.1
  have hb := hF.2.1
  have hml := hF.2.2.1
  have hown := hF.2.2.2.1
  have hts := hF.2.2.2.2
  have hS : va_S A s.heap s.heap [] := va_S.rf
  unfold f_L_holds at hf
  refine lv_aload_n hx hb dL_holds_0 rfl (lv_at hl 0 rfl) ?_
  obtain ⟨r_1, hq, hf⟩ := bd1_some hf
  refine rdV (As := []) (rest := []) hF hG hP hl.1 (c_X11_days l G a_p0 a_p0_trial a_p0_snapshot p0_snapshotTaken a_p0_history a_p0_text a_p0_works a_p0_highs a_p0_trade a_p0_now a_p0_now_row p0_now_length p0_now_shorter p0_now_longer p0_now_memory p0_now_limit p0_now_seasonDays p0_now_stopped p0_now_stopPart p0_now_stopReason r_1 hq) k_X11_days q313 [0, 1] rfl ⟨0, 7, _, _, rfl, rfl, rfl⟩ rfl rfl (Nat.le_of_ble_eq_true rfl) ⟨(Nat.le_of_ble_eq_true rfl), (Nat.le_of_ble_eq_true rfl)⟩ ⟨(Nat.zero_le _), (Nat.zero_le _)⟩ dL_holds_1 ?_
  refine lv_istore_n (lv' := [(2, .int r_1), (0, .ref a_p0), (1, .int x1)]) hx hb dL_holds_4 rfl hl (by decide) rfl (fun ls hl => ?_)
  refine lv_iconst (v := 0) hx hb dL_holds_5 (by decide) ?_
  refine lv_istore_n (lv' := [(3, .int 0), (2, .int r_1), (0, .ref a_p0), (1, .int x1)]) hx hb dL_holds_6 rfl hl (by decide) rfl (fun ls hl => ?_)
  refine lv_iconst (v := 0) hx hb dL_holds_7 (by decide) ?_
  refine lv_istore (lv' := [(4, .int 0), (3, .int 0), (2, .int r_1), (0, .ref a_p0), (1, .int x1)]) hx hb dL_holds_8 hl (by decide) rfl (fun ls hl => ?_)
  refine lv_aload_n hx hb dL_holds_10 rfl (lv_at hl 3 rfl) ?_
  obtain ⟨r_2, hq, hf⟩ := bd1_some hf
  refine rdV (As := []) (rest := []) hF hG hP hl.1 (c_X11_shortWindow l G a_p0 a_p0_trial a_p0_snapshot p0_snapshotTaken a_p0_history a_p0_text a_p0_works a_p0_highs a_p0_trade a_p0_now a_p0_now_row p0_now_length p0_now_shorter p0_now_longer p0_now_memory p0_now_limit p0_now_seasonDays p0_now_stopped p0_now_stopPart p0_now_stopReason r_2 hq) k_X11_shortWindow q317 [0, 1] rfl ⟨0, 7, _, _, rfl, rfl, rfl⟩ rfl rfl (Nat.le_of_ble_eq_true rfl) ⟨(Nat.le_of_ble_eq_true rfl), (Nat.le_of_ble_eq_true rfl)⟩ ⟨(Nat.zero_le _), (Nat.zero_le _)⟩ dL_holds_11 ?_
  refine lv_aload_n hx hb dL_holds_14 rfl (lv_at hl 3 rfl) ?_
  obtain ⟨r_3, hq, hf⟩ := bd1_some hf
  refine rdV (As := []) (rest := [.int r_2]) hF hG hP hl.1 (c_X11_longWindow l G a_p0 a_p0_trial a_p0_snapshot p0_snapshotTaken a_p0_history a_p0_text a_p0_works a_p0_highs a_p0_trade a_p0_now a_p0_now_row p0_now_length p0_now_shorter p0_now_longer p0_now_memory p0_now_limit p0_now_seasonDays p0_now_stopped p0_now_stopPart p0_now_stopReason r_3 hq) k_X11_longWindow q321 [0, 1] rfl ⟨0, 7, _, _, rfl, rfl, rfl⟩ rfl rfl (Nat.le_of_ble_eq_true rfl) ⟨(Nat.le_of_ble_eq_true rfl), (Nat.le_of_ble_eq_true rfl)⟩ ⟨(Nat.zero_le _), (Nat.zero_le _)⟩ dL_holds_15 ?_
  obtain ⟨j_4, hq, hf⟩ := bd1_some hf
  have J90 : ∀ (H : Heap) (locs : List Loc), va_P G.1 vwCl ([(a_p0, .inr (7, [.ref a_p0_now, .ref a_p0_trial, .ref a_p0_snapshot, .int p0_snapshotTaken, .ref a_p0_history, .ref a_p0_text, .ref a_p0_works, .ref a_p0_highs, .ref a_p0_trade])), (a_p0_now, .inr (2, [.ref a_p0_now_row, .int p0_now_length, .int p0_now_shorter, .int p0_now_longer, .int p0_now_memory, .int p0_now_limit, .int p0_now_seasonDays, .int p0_now_stopped, .int p0_now_stopPart, .int p0_now_stopReason])), (a_p0_now_row, .inl (G.2.1, 60, .inl p0_now_row)), (a_p0_highs, .inr (0, [.ref a_p0_highs_candidates, .int p0_highs_front, .int p0_highs_end])), (a_p0_highs_candidates, .inl (G.2.1, 60, .inl p0_highs_candidates)), (a_p0_trade, .inr (5, [.long p0_trade_coins, .int p0_trade_held]))] : va_W) H → va_D A ([(a_p0, .inr (7, [.ref a_p0_now, .ref a_p0_trial, .ref a_p0_snapshot, .int p0_snapshotTaken, .ref a_p0_history, .ref a_p0_text, .ref a_p0_works, .ref a_p0_highs, .ref a_p0_trade])), (a_p0_now, .inr (2, [.ref a_p0_now_row, .int p0_now_length, .int p0_now_shorter, .int p0_now_longer, .int p0_now_memory, .int p0_now_limit, .int p0_now_seasonDays, .int p0_now_stopped, .int p0_now_stopPart, .int p0_now_stopReason])), (a_p0_now_row, .inl (G.2.1, 60, .inl p0_now_row)), (a_p0_highs, .inr (0, [.ref a_p0_highs_candidates, .int p0_highs_front, .int p0_highs_end])), (a_p0_highs_candidates, .inl (G.2.1, 60, .inl p0_highs_candidates)), (a_p0_trade, .inr (5, [.long p0_trade_coins, .int p0_trade_held]))] : va_W) → va_S A s.heap H locs → ∀ ls : Array Slot, lv_has ls 11 [(0, .ref a_p0), (1, .int x1), (2, .int r_1), (3, .int 0), (4, .int 0)] → W p l e RM_L_holds s m [.ref a_p0, .int x1].toArray below meth c H locs 0 0 (MQ below (wrQ (some (.int rr)) G [(a_p0, .inr (7, [.ref a_p0_now, .ref a_p0_trial, .ref a_p0_snapshot, .int p0_snapshotTaken, .ref a_p0_history, .ref a_p0_text, .ref a_p0_works, .ref a_p0_highs, .ref a_p0_trade])), (a_p0_now, .inr (2, [.ref a_p0_now_row, .int p0_now_length, .int p0_now_shorter, .int p0_now_longer, .int p0_now_memory, .int p0_now_limit, .int p0_now_seasonDays, .int p0_now_stopped, .int p0_now_stopPart, .int p0_now_stopReason])), (a_p0_now_row, .inl (G.2.1, 60, .inl p0_now_row)), (a_p0_highs, .inr (0, [.ref a_p0_highs_candidates, .int w_p0_highs_front, .int w_p0_highs_end])), (a_p0_highs_candidates, .inl (G.2.1, 60, .inl w_p0_highs_candidates)), (a_p0_trade, .inr (5, [.long w_p0_trade_coins, .int w_p0_trade_held]))] A) [.ref a_p0, .int x1].toArray s 0 0 A) (F0 m 90 ls [.int j_4]) := by
    intro H locs hP hD hS ls hl
    refine lv_istore (lv' := [(5, .int j_4), (0, .ref a_p0), (1, .int x1), (2, .int r_1), (3, .int 0), (4, .int 0)]) hx hb dL_holds_90 hl (by decide) rfl (fun ls hl => ?_)
    refine lv_iconst (v := 0) hx hb dL_holds_92 (by decide) ?_
    refine lv_istore (lv' := [(6, .int 0), (5, .int j_4), (0, .ref a_p0), (1, .int x1), (2, .int r_1), (3, .int 0), (4, .int 0)]) hx hb dL_holds_93 hl (by decide) rfl (fun ls hl => ?_)
    have L95 : ∀ (n : Nat) (i3_13 : Int32) (i4_14 : Int32) (i6_15 : Int32) (p0_highs_front_16 : Int32) (p0_highs_end_17 : Int32) (p0_highs_candidates_18 : Nat → Int32) (p0_trade_coins_19 : Int64) (p0_trade_held_20 : Int32), l_L_holds_95 p0_now_length p0_now_shorter p0_now_longer p0_now_memory p0_now_limit p0_now_seasonDays p0_now_row x1 r_1 j_4 n i3_13 i4_14 i6_15 p0_highs_front_16 p0_highs_end_17 p0_highs_candidates_18 p0_trade_coins_19 p0_trade_held_20 = some (rr, w_p0_highs_front, w_p0_highs_end, w_p0_highs_candidates, w_p0_trade_coins, w_p0_trade_held) → ∀ (H : Heap) (locs : List Loc), va_P G.1 vwCl ([(a_p0, .inr (7, [.ref a_p0_now, .ref a_p0_trial, .ref a_p0_snapshot, .int p0_snapshotTaken, .ref a_p0_history, .ref a_p0_text, .ref a_p0_works, .ref a_p0_highs, .ref a_p0_trade])), (a_p0_now, .inr (2, [.ref a_p0_now_row, .int p0_now_length, .int p0_now_shorter, .int p0_now_longer, .int p0_now_memory, .int p0_now_limit, .int p0_now_seasonDays, .int p0_now_stopped, .int p0_now_stopPart, .int p0_now_stopReason])), (a_p0_now_row, .inl (G.2.1, 60, .inl p0_now_row)), (a_p0_highs, .inr (0, [.ref a_p0_highs_candidates, .int p0_highs_front_16, .int p0_highs_end_17])), (a_p0_highs_candidates, .inl (G.2.1, 60, .inl p0_highs_candidates_18)), (a_p0_trade, .inr (5, [.long p0_trade_coins_19, .int p0_trade_held_20]))] : va_W) H → va_D A ([(a_p0, .inr (7, [.ref a_p0_now, .ref a_p0_trial, .ref a_p0_snapshot, .int p0_snapshotTaken, .ref a_p0_history, .ref a_p0_text, .ref a_p0_works, .ref a_p0_highs, .ref a_p0_trade])), (a_p0_now, .inr (2, [.ref a_p0_now_row, .int p0_now_length, .int p0_now_shorter, .int p0_now_longer, .int p0_now_memory, .int p0_now_limit, .int p0_now_seasonDays, .int p0_now_stopped, .int p0_now_stopPart, .int p0_now_stopReason])), (a_p0_now_row, .inl (G.2.1, 60, .inl p0_now_row)), (a_p0_highs, .inr (0, [.ref a_p0_highs_candidates, .int p0_highs_front_16, .int p0_highs_end_17])), (a_p0_highs_candidates, .inl (G.2.1, 60, .inl p0_highs_candidates_18)), (a_p0_trade, .inr (5, [.long p0_trade_coins_19, .int p0_trade_held_20]))] : va_W) → va_S A s.heap H locs → ∀ ls : Array Slot, lv_has ls 11 [(0, .ref a_p0), (1, .int x1), (2, .int r_1), (3, .int i3_13), (4, .int i4_14), (5, .int j_4), (6, .int i6_15)] → W p l e RM_L_holds s m [.ref a_p0, .int x1].toArray below meth c H locs 0 0 (MQ below (wrQ (some (.int rr)) G [(a_p0, .inr (7, [.ref a_p0_now, .ref a_p0_trial, .ref a_p0_snapshot, .int p0_snapshotTaken, .ref a_p0_history, .ref a_p0_text, .ref a_p0_works, .ref a_p0_highs, .ref a_p0_trade])), (a_p0_now, .inr (2, [.ref a_p0_now_row, .int p0_now_length, .int p0_now_shorter, .int p0_now_longer, .int p0_now_memory, .int p0_now_limit, .int p0_now_seasonDays, .int p0_now_stopped, .int p0_now_stopPart, .int p0_now_stopReason])), (a_p0_now_row, .inl (G.2.1, 60, .inl p0_now_row)), (a_p0_highs, .inr (0, [.ref a_p0_highs_candidates, .int w_p0_highs_front, .int w_p0_highs_end])), (a_p0_highs_candidates, .inl (G.2.1, 60, .inl w_p0_highs_candidates)), (a_p0_trade, .inr (5, [.long w_p0_trade_coins, .int w_p0_trade_held]))] A) [.ref a_p0, .int x1].toArray s 0 0 A) (F0 m 95 ls []) := by
      intro n
      induction n with
      | zero =>
        intro i3_13 i4_14 i6_15 p0_highs_front_16 p0_highs_end_17 p0_highs_candidates_18 p0_trade_coins_19 p0_trade_held_20 hf
        exact nomatch (show none = some (rr, w_p0_highs_front, w_p0_highs_end, w_p0_highs_candidates, w_p0_trade_coins, w_p0_trade_held) from hf)
      | succ n ih =>
        intro i3_13 i4_14 i6_15 p0_highs_front_16 p0_highs_end_17 p0_highs_candidates_18 p0_trade_coins_19 p0_trade_held_20 hf H locs hP hD hS ls hl
        rw [l_L_holds_95] at hf
        refine lv_iload hx hb dL_holds_95 (lv_at hl 6 rfl) ?_
        refine lv_iload_n hx hb dL_holds_97 rfl (lv_at hl 2 rfl) ?_
        refine lv_icmp_ge (tgt := 389) hx hb dL_holds_98 (by decide) (fun c0 => ?_) (fun c0 => ?_)
        · have hf := (if_pos c0).symm.trans hf
          refine lv_iload_n hx hb dL_holds_389 rfl (lv_at hl 2 rfl) ?_
          refine lv_iconst (v := 1) hx hb dL_holds_390 (by decide) ?_
          obtain ⟨j5_21, hq, hf⟩ := bd1_some hf
          have J442 : ∀ (H : Heap) (locs : List Loc), va_P G.1 vwCl ([(a_p0, .inr (7, [.ref a_p0_now, .ref a_p0_trial, .ref a_p0_snapshot, .int p0_snapshotTaken, .ref a_p0_history, .ref a_p0_text, .ref a_p0_works, .ref a_p0_highs, .ref a_p0_trade])), (a_p0_now, .inr (2, [.ref a_p0_now_row, .int p0_now_length, .int p0_now_shorter, .int p0_now_longer, .int p0_now_memory, .int p0_now_limit, .int p0_now_seasonDays, .int p0_now_stopped, .int p0_now_stopPart, .int p0_now_stopReason])), (a_p0_now_row, .inl (G.2.1, 60, .inl p0_now_row)), (a_p0_highs, .inr (0, [.ref a_p0_highs_candidates, .int p0_highs_front_16, .int p0_highs_end_17])), (a_p0_highs_candidates, .inl (G.2.1, 60, .inl p0_highs_candidates_18)), (a_p0_trade, .inr (5, [.long p0_trade_coins_19, .int p0_trade_held_20]))] : va_W) H → va_D A ([(a_p0, .inr (7, [.ref a_p0_now, .ref a_p0_trial, .ref a_p0_snapshot, .int p0_snapshotTaken, .ref a_p0_history, .ref a_p0_text, .ref a_p0_works, .ref a_p0_highs, .ref a_p0_trade])), (a_p0_now, .inr (2, [.ref a_p0_now_row, .int p0_now_length, .int p0_now_shorter, .int p0_now_longer, .int p0_now_memory, .int p0_now_limit, .int p0_now_seasonDays, .int p0_now_stopped, .int p0_now_stopPart, .int p0_now_stopReason])), (a_p0_now_row, .inl (G.2.1, 60, .inl p0_now_row)), (a_p0_highs, .inr (0, [.ref a_p0_highs_candidates, .int p0_highs_front_16, .int p0_highs_end_17])), (a_p0_highs_candidates, .inl (G.2.1, 60, .inl p0_highs_candidates_18)), (a_p0_trade, .inr (5, [.long p0_trade_coins_19, .int p0_trade_held_20]))] : va_W) → va_S A s.heap H locs → ∀ ls : Array Slot, lv_has ls 11 [(0, .ref a_p0), (2, .int r_1), (3, .int i3_13), (4, .int i4_14), (5, .int j5_21)] → W p l e RM_L_holds s m [.ref a_p0, .int x1].toArray below meth c H locs 0 0 (MQ below (wrQ (some (.int rr)) G [(a_p0, .inr (7, [.ref a_p0_now, .ref a_p0_trial, .ref a_p0_snapshot, .int p0_snapshotTaken, .ref a_p0_history, .ref a_p0_text, .ref a_p0_works, .ref a_p0_highs, .ref a_p0_trade])), (a_p0_now, .inr (2, [.ref a_p0_now_row, .int p0_now_length, .int p0_now_shorter, .int p0_now_longer, .int p0_now_memory, .int p0_now_limit, .int p0_now_seasonDays, .int p0_now_stopped, .int p0_now_stopPart, .int p0_now_stopReason])), (a_p0_now_row, .inl (G.2.1, 60, .inl p0_now_row)), (a_p0_highs, .inr (0, [.ref a_p0_highs_candidates, .int w_p0_highs_front, .int w_p0_highs_end])), (a_p0_highs_candidates, .inl (G.2.1, 60, .inl w_p0_highs_candidates)), (a_p0_trade, .inr (5, [.long w_p0_trade_coins, .int w_p0_trade_held]))] A) [.ref a_p0, .int x1].toArray s 0 0 A) (F0 m 442 ls []) := by
            intro H locs hP hD hS ls hl
            refine lv_iload hx hb dL_holds_442 (lv_at hl 4 rfl) ?_
            refine lv_if_eq (tgt := 480) hx hb dL_holds_444 (by decide) (fun c0 => ?_) (fun c0 => ?_)
            · have hf := (if_pos c0).symm.trans hf
              refine lv_iconst (v := 0) hx hb dL_holds_480 (by decide) ?_
              have hf : (some (0, p0_highs_front_16, p0_highs_end_17, p0_highs_candidates_18, p0_trade_coins_19, p0_trade_held_20) : Option (Int32 × Int32 × Int32 × (Nat → Int32) × Int64 × Int32)) = some (rr, w_p0_highs_front, w_p0_highs_end, w_p0_highs_candidates, w_p0_trade_coins, w_p0_trade_held) := hf
              cases hf
              exact we_z hF hr hlk hP hD hS dL_holds_481 rfl rfl
            · have hf := (if_neg c0).symm.trans hf
              refine lv_iload_n hx hb dL_holds_447 rfl (lv_at hl 2 rfl) ?_
              refine lv_aload_n hx hb dL_holds_448 rfl (lv_at hl 0 rfl) ?_
              obtain ⟨r_28, hq, hf⟩ := bd1_some hf
              refine rdV (As := []) (rest := [.int i3_13]) hF hG hP hl.1 (c_X11_creases l G a_p0 a_p0_trial a_p0_snapshot p0_snapshotTaken a_p0_history a_p0_text a_p0_works a_p0_highs a_p0_trade a_p0_now p0_now_length p0_now_shorter p0_now_longer p0_now_memory p0_now_limit p0_now_seasonDays p0_now_stopped p0_now_stopPart p0_now_stopReason a_p0_now_row p0_now_row r_28 hq) k_X11_creases q325 [0, 1, 2] rfl ⟨0, 7, _, _, rfl, rfl, rfl⟩ rfl rfl (Nat.le_of_ble_eq_true rfl) ⟨(Nat.le_of_ble_eq_true rfl), (Nat.le_of_ble_eq_true rfl)⟩ ⟨(Nat.zero_le _), (Nat.zero_le _)⟩ dL_holds_449 ?_
              refine lv_icmp_ne (tgt := 480) hx hb dL_holds_452 (by decide) (fun c0 => ?_) (fun c0 => ?_)
              · have hf := (if_neg c0).symm.trans hf
                refine lv_iconst (v := 0) hx hb dL_holds_480 (by decide) ?_
                have hf : (some (0, p0_highs_front_16, p0_highs_end_17, p0_highs_candidates_18, p0_trade_coins_19, p0_trade_held_20) : Option (Int32 × Int32 × Int32 × (Nat → Int32) × Int64 × Int32)) = some (rr, w_p0_highs_front, w_p0_highs_end, w_p0_highs_candidates, w_p0_trade_coins, w_p0_trade_held) := hf
                cases hf
                exact we_z hF hr hlk hP hD hS dL_holds_481 rfl rfl
              · have hf := (if_pos c0).symm.trans hf
                refine lv_iload hx hb dL_holds_455 (lv_at hl 3 rfl) ?_
                refine lv_aload_n hx hb dL_holds_457 rfl (lv_at hl 0 rfl) ?_
                obtain ⟨r_29, hq, hf⟩ := bd1_some hf
                refine rdV (As := []) (rest := [.int i4_14]) hF hG hP hl.1 (c_X11_crossings l G a_p0 a_p0_trial a_p0_snapshot p0_snapshotTaken a_p0_history a_p0_text a_p0_works a_p0_highs a_p0_trade a_p0_now p0_now_length p0_now_shorter p0_now_longer p0_now_memory p0_now_limit p0_now_seasonDays p0_now_stopped p0_now_stopPart p0_now_stopReason a_p0_now_row p0_now_row r_29 hq) k_X11_crossings q690 [0, 1, 2] rfl ⟨0, 7, _, _, rfl, rfl, rfl⟩ rfl rfl (Nat.le_of_ble_eq_true rfl) ⟨(Nat.le_of_ble_eq_true rfl), (Nat.le_of_ble_eq_true rfl)⟩ ⟨(Nat.zero_le _), (Nat.zero_le _)⟩ dL_holds_458 ?_
                refine lv_icmp_ne (tgt := 480) hx hb dL_holds_461 (by decide) (fun c0 => ?_) (fun c0 => ?_)
                · have hf := (if_neg c0).symm.trans hf
                  refine lv_iconst (v := 0) hx hb dL_holds_480 (by decide) ?_
                  have hf : (some (0, p0_highs_front_16, p0_highs_end_17, p0_highs_candidates_18, p0_trade_coins_19, p0_trade_held_20) : Option (Int32 × Int32 × Int32 × (Nat → Int32) × Int64 × Int32)) = some (rr, w_p0_highs_front, w_p0_highs_end, w_p0_highs_candidates, w_p0_trade_coins, w_p0_trade_held) := hf
                  cases hf
                  exact we_z hF hr hlk hP hD hS dL_holds_481 rfl rfl
                · have hf := (if_pos c0).symm.trans hf
                  refine lv_iload_n hx hb dL_holds_464 rfl (lv_at hl 1 rfl) ?_
                  refine lv_if_eq (tgt := 476) hx hb dL_holds_465 (by decide) (fun c0 => ?_) (fun c0 => ?_)
                  · have hf := (if_pos c0).symm.trans hf
                    refine lv_iconst (v := 1) hx hb dL_holds_476 (by decide) ?_
                    refine lv_goto (tgt := 481) hx hb dL_holds_477 (by decide) ?_
                    have hf : (some (1, p0_highs_front_16, p0_highs_end_17, p0_highs_candidates_18, p0_trade_coins_19, p0_trade_held_20) : Option (Int32 × Int32 × Int32 × (Nat → Int32) × Int64 × Int32)) = some (rr, w_p0_highs_front, w_p0_highs_end, w_p0_highs_candidates, w_p0_trade_coins, w_p0_trade_held) := hf
                    cases hf
                    exact we_z hF hr hlk hP hD hS dL_holds_481 rfl rfl
                  · have hf := (if_neg c0).symm.trans hf
                    refine lv_aload_n hx hb dL_holds_468 rfl (lv_at hl 0 rfl) ?_
                    refine lv_iconst (v := 0) hx hb dL_holds_469 (by decide) ?_
                    obtain ⟨r_30, hq, hf⟩ := bd1_some hf
                    refine rdV (As := [.int 0]) (rest := []) hF hG hP hl.1 (c_X11_crossing l G a_p0 a_p0_trial a_p0_snapshot p0_snapshotTaken a_p0_history a_p0_text a_p0_works a_p0_highs a_p0_trade a_p0_now p0_now_length p0_now_shorter p0_now_longer p0_now_memory p0_now_limit p0_now_seasonDays p0_now_stopped p0_now_stopPart p0_now_stopReason a_p0_now_row p0_now_row 0 r_30 hq) k_X11_crossing q545 [0, 1, 2] rfl ⟨0, 7, _, _, rfl, rfl, rfl⟩ rfl rfl (Nat.le_of_ble_eq_true rfl) ⟨(Nat.le_of_ble_eq_true rfl), (Nat.le_of_ble_eq_true rfl)⟩ ⟨(Nat.zero_le _), (Nat.zero_le _)⟩ dL_holds_470 ?_
                    refine lv_if_ne (tgt := 480) hx hb dL_holds_473 (by decide) (fun c0 => ?_) (fun c0 => ?_)
                    · have hf := (if_neg c0).symm.trans hf
                      refine lv_iconst (v := 0) hx hb dL_holds_480 (by decide) ?_
                      have hf : (some (0, p0_highs_front_16, p0_highs_end_17, p0_highs_candidates_18, p0_trade_coins_19, p0_trade_held_20) : Option (Int32 × Int32 × Int32 × (Nat → Int32) × Int64 × Int32)) = some (rr, w_p0_highs_front, w_p0_highs_end, w_p0_highs_candidates, w_p0_trade_coins, w_p0_trade_held) := hf
                      cases hf
                      exact we_z hF hr hlk hP hD hS dL_holds_481 rfl rfl
                    · have hf := (if_pos c0).symm.trans hf
                      refine lv_iconst (v := 1) hx hb dL_holds_476 (by decide) ?_
                      refine lv_goto (tgt := 481) hx hb dL_holds_477 (by decide) ?_
                      have hf : (some (1, p0_highs_front_16, p0_highs_end_17, p0_highs_candidates_18, p0_trade_coins_19, p0_trade_held_20) : Option (Int32 × Int32 × Int32 × (Nat → Int32) × Int64 × Int32)) = some (rr, w_p0_highs_front, w_p0_highs_end, w_p0_highs_candidates, w_p0_trade_coins, w_p0_trade_held) := hf
                      cases hf
                      exact we_z hF hr hlk hP hD hS dL_holds_481 rfl rfl
          clear hf
          have hf := hq
          clear hq
          refine lv_icmp_le (tgt := 442) hx hb dL_holds_391 (by decide) (fun c0 => ?_) (fun c0 => ?_)
          · have hf := (if_pos c0).symm.trans hf
            have hf : (some j_4 : Option (Int32)) = some j5_21 := hf
            cases hf
            exact J442 _ _ hP hD hS ls (lv_sub hl [0, 2, 3, 4, 5] rfl)
          · have hf := (if_neg c0).symm.trans hf
            refine lv_aload_n hx hb dL_holds_394 rfl (lv_at hl 0 rfl) ?_
            obtain ⟨r_22, hq, hf⟩ := bd1_some hf
            refine rdV (As := []) (rest := []) hF hG hP hl.1 (c_X11_bestMethod l G a_p0 a_p0_trial a_p0_snapshot p0_snapshotTaken a_p0_history a_p0_text a_p0_works a_p0_highs a_p0_trade a_p0_now p0_now_length p0_now_shorter p0_now_longer p0_now_memory p0_now_limit p0_now_seasonDays p0_now_stopped p0_now_stopPart p0_now_stopReason a_p0_now_row p0_now_row r_22 hq) k_X11_bestMethod q649 [0, 1, 2] rfl ⟨0, 7, _, _, rfl, rfl, rfl⟩ rfl rfl (Nat.le_of_ble_eq_true rfl) ⟨(Nat.le_of_ble_eq_true rfl), (Nat.le_of_ble_eq_true rfl)⟩ ⟨(Nat.zero_le _), (Nat.zero_le _)⟩ dL_holds_395 ?_
            refine lv_istore (lv' := [(6, .int r_22), (0, .ref a_p0), (1, .int x1), (2, .int r_1), (3, .int i3_13), (4, .int i4_14), (5, .int j_4)]) hx hb dL_holds_398 hl (by decide) rfl (fun ls hl => ?_)
            refine lv_iconst (v := 0) hx hb dL_holds_400 (by decide) ?_
            refine lv_istore (lv' := [(7, .int 0), (6, .int r_22), (0, .ref a_p0), (1, .int x1), (2, .int r_1), (3, .int i3_13), (4, .int i4_14), (5, .int j_4)]) hx hb dL_holds_401 hl (by decide) rfl (fun ls hl => ?_)
            obtain ⟨o5_25, hq, hf⟩ := bd1_some hf
            have K403 : ∀ (H : Heap) (locs : List Loc), va_P G.1 vwCl ([(a_p0, .inr (7, [.ref a_p0_now, .ref a_p0_trial, .ref a_p0_snapshot, .int p0_snapshotTaken, .ref a_p0_history, .ref a_p0_text, .ref a_p0_works, .ref a_p0_highs, .ref a_p0_trade])), (a_p0_now, .inr (2, [.ref a_p0_now_row, .int p0_now_length, .int p0_now_shorter, .int p0_now_longer, .int p0_now_memory, .int p0_now_limit, .int p0_now_seasonDays, .int p0_now_stopped, .int p0_now_stopPart, .int p0_now_stopReason])), (a_p0_now_row, .inl (G.2.1, 60, .inl p0_now_row)), (a_p0_highs, .inr (0, [.ref a_p0_highs_candidates, .int p0_highs_front_16, .int p0_highs_end_17])), (a_p0_highs_candidates, .inl (G.2.1, 60, .inl p0_highs_candidates_18)), (a_p0_trade, .inr (5, [.long p0_trade_coins_19, .int p0_trade_held_20]))] : va_W) H → va_D A ([(a_p0, .inr (7, [.ref a_p0_now, .ref a_p0_trial, .ref a_p0_snapshot, .int p0_snapshotTaken, .ref a_p0_history, .ref a_p0_text, .ref a_p0_works, .ref a_p0_highs, .ref a_p0_trade])), (a_p0_now, .inr (2, [.ref a_p0_now_row, .int p0_now_length, .int p0_now_shorter, .int p0_now_longer, .int p0_now_memory, .int p0_now_limit, .int p0_now_seasonDays, .int p0_now_stopped, .int p0_now_stopPart, .int p0_now_stopReason])), (a_p0_now_row, .inl (G.2.1, 60, .inl p0_now_row)), (a_p0_highs, .inr (0, [.ref a_p0_highs_candidates, .int p0_highs_front_16, .int p0_highs_end_17])), (a_p0_highs_candidates, .inl (G.2.1, 60, .inl p0_highs_candidates_18)), (a_p0_trade, .inr (5, [.long p0_trade_coins_19, .int p0_trade_held_20]))] : va_W) → va_S A s.heap H locs → ∀ ls : Array Slot, lv_has ls 11 [(0, .ref a_p0), (2, .int r_1), (3, .int i3_13), (4, .int i4_14), (5, .int o5_25)] → W p l e RM_L_holds s m [.ref a_p0, .int x1].toArray below meth c H locs 0 0 (MQ below (wrQ (some (.int rr)) G [(a_p0, .inr (7, [.ref a_p0_now, .ref a_p0_trial, .ref a_p0_snapshot, .int p0_snapshotTaken, .ref a_p0_history, .ref a_p0_text, .ref a_p0_works, .ref a_p0_highs, .ref a_p0_trade])), (a_p0_now, .inr (2, [.ref a_p0_now_row, .int p0_now_length, .int p0_now_shorter, .int p0_now_longer, .int p0_now_memory, .int p0_now_limit, .int p0_now_seasonDays, .int p0_now_stopped, .int p0_now_stopPart, .int p0_now_stopReason])), (a_p0_now_row, .inl (G.2.1, 60, .inl p0_now_row)), (a_p0_highs, .inr (0, [.ref a_p0_highs_candidates, .int w_p0_highs_front, .int w_p0_highs_end])), (a_p0_highs_candidates, .inl (G.2.1, 60, .inl w_p0_highs_candidates)), (a_p0_trade, .inr (5, [.long w_p0_trade_coins, .int w_p0_trade_held]))] A) [.ref a_p0, .int x1].toArray s 0 0 A) (F0 m 442 ls []) := by
              intro H locs hP hD hS ls hl
              have hf : (some o5_25 : Option (Int32)) = some j5_21 := hf
              cases hf
              exact J442 _ _ hP hD hS ls (lv_sub hl [0, 1, 2, 3, 4] rfl)
            clear hf
            have L403 : ∀ (n : Nat) (i5_23 : Int32) (i7_24 : Int32), l_L_holds_403 p0_now_length p0_now_shorter p0_now_longer p0_now_memory p0_now_seasonDays p0_now_row r_22 n i5_23 i7_24 = some o5_25 → ∀ (H : Heap) (locs : List Loc), va_P G.1 vwCl ([(a_p0, .inr (7, [.ref a_p0_now, .ref a_p0_trial, .ref a_p0_snapshot, .int p0_snapshotTaken, .ref a_p0_history, .ref a_p0_text, .ref a_p0_works, .ref a_p0_highs, .ref a_p0_trade])), (a_p0_now, .inr (2, [.ref a_p0_now_row, .int p0_now_length, .int p0_now_shorter, .int p0_now_longer, .int p0_now_memory, .int p0_now_limit, .int p0_now_seasonDays, .int p0_now_stopped, .int p0_now_stopPart, .int p0_now_stopReason])), (a_p0_now_row, .inl (G.2.1, 60, .inl p0_now_row)), (a_p0_highs, .inr (0, [.ref a_p0_highs_candidates, .int p0_highs_front_16, .int p0_highs_end_17])), (a_p0_highs_candidates, .inl (G.2.1, 60, .inl p0_highs_candidates_18)), (a_p0_trade, .inr (5, [.long p0_trade_coins_19, .int p0_trade_held_20]))] : va_W) H → va_D A ([(a_p0, .inr (7, [.ref a_p0_now, .ref a_p0_trial, .ref a_p0_snapshot, .int p0_snapshotTaken, .ref a_p0_history, .ref a_p0_text, .ref a_p0_works, .ref a_p0_highs, .ref a_p0_trade])), (a_p0_now, .inr (2, [.ref a_p0_now_row, .int p0_now_length, .int p0_now_shorter, .int p0_now_longer, .int p0_now_memory, .int p0_now_limit, .int p0_now_seasonDays, .int p0_now_stopped, .int p0_now_stopPart, .int p0_now_stopReason])), (a_p0_now_row, .inl (G.2.1, 60, .inl p0_now_row)), (a_p0_highs, .inr (0, [.ref a_p0_highs_candidates, .int p0_highs_front_16, .int p0_highs_end_17])), (a_p0_highs_candidates, .inl (G.2.1, 60, .inl p0_highs_candidates_18)), (a_p0_trade, .inr (5, [.long p0_trade_coins_19, .int p0_trade_held_20]))] : va_W) → va_S A s.heap H locs → ∀ ls : Array Slot, lv_has ls 11 [(0, .ref a_p0), (2, .int r_1), (3, .int i3_13), (4, .int i4_14), (5, .int i5_23), (6, .int r_22), (7, .int i7_24)] → W p l e RM_L_holds s m [.ref a_p0, .int x1].toArray below meth c H locs 0 0 (MQ below (wrQ (some (.int rr)) G [(a_p0, .inr (7, [.ref a_p0_now, .ref a_p0_trial, .ref a_p0_snapshot, .int p0_snapshotTaken, .ref a_p0_history, .ref a_p0_text, .ref a_p0_works, .ref a_p0_highs, .ref a_p0_trade])), (a_p0_now, .inr (2, [.ref a_p0_now_row, .int p0_now_length, .int p0_now_shorter, .int p0_now_longer, .int p0_now_memory, .int p0_now_limit, .int p0_now_seasonDays, .int p0_now_stopped, .int p0_now_stopPart, .int p0_now_stopReason])), (a_p0_now_row, .inl (G.2.1, 60, .inl p0_now_row)), (a_p0_highs, .inr (0, [.ref a_p0_highs_candidates, .int w_p0_highs_front, .int w_p0_highs_end])), (a_p0_highs_candidates, .inl (G.2.1, 60, .inl w_p0_highs_candidates)), (a_p0_trade, .inr (5, [.long w_p0_trade_coins, .int w_p0_trade_held]))] A) [.ref a_p0, .int x1].toArray s 0 0 A) (F0 m 403 ls []) := by
              intro n
              induction n with
              | zero =>
                intro i5_23 i7_24 hf
                exact nomatch (show none = some o5_25 from hf)
              | succ n ih =>
                intro i5_23 i7_24 hf H locs hP hD hS ls hl
                rw [l_L_holds_403] at hf
                refine lv_iload hx hb dL_holds_403 (lv_at hl 6 rfl) ?_
                refine lv_iconst (v := 4) hx hb dL_holds_405 (by decide) ?_
                refine lv_icmp_ge (tgt := 442) hx hb dL_holds_406 (by decide) (fun c0 => ?_) (fun c0 => ?_)
                · have hf := (if_pos c0).symm.trans hf
                  have hf : (some i5_23 : Option (Int32)) = some o5_25 := hf
                  cases hf
                  exact K403 _ _ hP hD hS ls (lv_sub hl [0, 1, 2, 3, 4] rfl)
                · have hf := (if_neg c0).symm.trans hf
                  refine lv_iload hx hb dL_holds_409 (lv_at hl 4 rfl) ?_
                  refine lv_if_eq (tgt := 433) hx hb dL_holds_411 (by decide) (fun c0 => ?_) (fun c0 => ?_)
                  · have hf := (if_pos c0).symm.trans hf
                    refine lv_iconst (v := 0) hx hb dL_holds_433 (by decide) ?_
                    refine lv_istore (lv' := [(5, .int 0), (0, .ref a_p0), (2, .int r_1), (3, .int i3_13), (4, .int i4_14), (6, .int r_22), (7, .int i7_24)]) hx hb dL_holds_434 hl (by decide) rfl (fun ls hl => ?_)
                    refine lv_iinc (v := (i7_24 + 1)) (lv' := [(7, .int (i7_24 + 1)), (5, .int 0), (0, .ref a_p0), (2, .int r_1), (3, .int i3_13), (4, .int i4_14), (6, .int r_22)]) hx hb dL_holds_436 hl (k := 6) rfl rfl (by decide) rfl (fun ls hl => ?_)
                    refine lv_goto (tgt := 403) hx hb dL_holds_439 (by decide) ?_
                    exact ih 0 (i7_24 + 1) hf _ _ hP hD hS ls (lv_sub hl [2, 3, 4, 5, 1, 6, 0] rfl)
                  · have hf := (if_neg c0).symm.trans hf
                    refine lv_aload_n hx hb dL_holds_414 rfl (lv_at hl 0 rfl) ?_
                    refine lv_iload hx hb dL_holds_415 (lv_at hl 5 rfl) ?_
                    obtain ⟨r_26, hq, hf⟩ := bd1_some hf
                    refine rdV (As := [.int r_22]) (rest := []) hF hG hP hl.1 (c_X11_error l G a_p0 a_p0_trial a_p0_snapshot p0_snapshotTaken a_p0_history a_p0_text a_p0_works a_p0_highs a_p0_trade a_p0_now p0_now_length p0_now_shorter p0_now_longer p0_now_memory p0_now_limit p0_now_seasonDays p0_now_stopped p0_now_stopPart p0_now_stopReason a_p0_now_row p0_now_row r_22 r_26 hq) k_X11_error q685 [0, 1, 2] rfl ⟨0, 7, _, _, rfl, rfl, rfl⟩ rfl rfl (Nat.le_of_ble_eq_true rfl) ⟨(Nat.le_of_ble_eq_true rfl), (Nat.le_of_ble_eq_true rfl)⟩ ⟨(Nat.zero_le _), (Nat.zero_le _)⟩ dL_holds_417 ?_
                    refine lv_aload_n hx hb dL_holds_420 rfl (lv_at hl 0 rfl) ?_
                    refine lv_iload hx hb dL_holds_421 (lv_at hl 6 rfl) ?_
                    obtain ⟨r_27, hq, hf⟩ := bd1_some hf
                    refine rdV (As := [.int i7_24]) (rest := [.int r_26]) hF hG hP hl.1 (c_X11_error l G a_p0 a_p0_trial a_p0_snapshot p0_snapshotTaken a_p0_history a_p0_text a_p0_works a_p0_highs a_p0_trade a_p0_now p0_now_length p0_now_shorter p0_now_longer p0_now_memory p0_now_limit p0_now_seasonDays p0_now_stopped p0_now_stopPart p0_now_stopReason a_p0_now_row p0_now_row i7_24 r_27 hq) k_X11_error q685 [0, 1, 2] rfl ⟨0, 7, _, _, rfl, rfl, rfl⟩ rfl rfl (Nat.le_of_ble_eq_true rfl) ⟨(Nat.le_of_ble_eq_true rfl), (Nat.le_of_ble_eq_true rfl)⟩ ⟨(Nat.zero_le _), (Nat.zero_le _)⟩ dL_holds_423 ?_
                    refine lv_icmp_gt (tgt := 433) hx hb dL_holds_426 (by decide) (fun c0 => ?_) (fun c0 => ?_)
                    · have hf := (if_pos c0).symm.trans hf
                      refine lv_iconst (v := 0) hx hb dL_holds_433 (by decide) ?_
                      refine lv_istore (lv' := [(5, .int 0), (0, .ref a_p0), (2, .int r_1), (3, .int i3_13), (4, .int i4_14), (6, .int r_22), (7, .int i7_24)]) hx hb dL_holds_434 hl (by decide) rfl (fun ls hl => ?_)
                      refine lv_iinc (v := (i7_24 + 1)) (lv' := [(7, .int (i7_24 + 1)), (5, .int 0), (0, .ref a_p0), (2, .int r_1), (3, .int i3_13), (4, .int i4_14), (6, .int r_22)]) hx hb dL_holds_436 hl (k := 6) rfl rfl (by decide) rfl (fun ls hl => ?_)
                      refine lv_goto (tgt := 403) hx hb dL_holds_439 (by decide) ?_
                      exact ih 0 (i7_24 + 1) hf _ _ hP hD hS ls (lv_sub hl [2, 3, 4, 5, 1, 6, 0] rfl)
                    · have hf := (if_neg c0).symm.trans hf
                      refine lv_iconst (v := 1) hx hb dL_holds_429 (by decide) ?_
                      refine lv_goto (tgt := 434) hx hb dL_holds_430 (by decide) ?_
                      refine lv_istore (lv' := [(5, .int 1), (0, .ref a_p0), (2, .int r_1), (3, .int i3_13), (4, .int i4_14), (6, .int r_22), (7, .int i7_24)]) hx hb dL_holds_434 hl (by decide) rfl (fun ls hl => ?_)
                      refine lv_iinc (v := (i7_24 + 1)) (lv' := [(7, .int (i7_24 + 1)), (5, .int 1), (0, .ref a_p0), (2, .int r_1), (3, .int i3_13), (4, .int i4_14), (6, .int r_22)]) hx hb dL_holds_436 hl (k := 6) rfl rfl (by decide) rfl (fun ls hl => ?_)
                      refine lv_goto (tgt := 403) hx hb dL_holds_439 (by decide) ?_
                      exact ih 1 (i7_24 + 1) hf _ _ hP hD hS ls (lv_sub hl [2, 3, 4, 5, 1, 6, 0] rfl)
            exact L403 1000 j_4 0 hq _ _ hP hD hS ls (lv_sub hl [2, 4, 5, 6, 7, 1, 0] rfl)
        · have hf := (if_neg c0).symm.trans hf
          refine lv_iconst (v := 1) hx hb dL_holds_101 (by decide) ?_
          refine lv_iload_n hx hb dL_holds_102 rfl (lv_at hl 1 rfl) ?_
          refine lv_iload hx hb dL_holds_103 (lv_at hl 6 rfl) ?_
          refine lv_iadd hx hb dL_holds_105 ?_
          refine lv_bipush (v := 20) hx hb dL_holds_106 (by decide) ?_
          obtain ⟨r_31, hq, hf⟩ := bd1_some hf
          refine rdS (As := [.int (x1 + i6_15), .int 20]) (rest := [.int 1]) hF hG hP hl.1 (c_L_low l G (x1 + i6_15) 20 r_31 hq) k_L_low q431 [] rfl rfl rfl (Nat.le_of_ble_eq_true rfl) ⟨(Nat.le_of_ble_eq_true rfl), (Nat.le_of_ble_eq_true rfl)⟩ ⟨(Nat.zero_le _), (Nat.zero_le _)⟩ dL_holds_108 ?_
          refine lv_iadd hx hb dL_holds_111 ?_
          refine lv_istore (lv' := [(7, .int (1 + r_31)), (0, .ref a_p0), (1, .int x1), (2, .int r_1), (3, .int i3_13), (4, .int i4_14), (5, .int j_4), (6, .int i6_15)]) hx hb dL_holds_112 hl (by decide) rfl (fun ls hl => ?_)
          refine lv_aload_n hx hb dL_holds_114 rfl (lv_at hl 1 rfl) ?_
          refine lv_iload hx hb dL_holds_115 (lv_at hl 7 rfl) ?_
          obtain ⟨r_32, hq, hf⟩ := bd1_some hf
          refine rdV (As := [.int i6_15]) (rest := []) hF hG hP hl.1 (c_X11_crossing l G a_p0 a_p0_trial a_p0_snapshot p0_snapshotTaken a_p0_history a_p0_text a_p0_works a_p0_highs a_p0_trade a_p0_now p0_now_length p0_now_shorter p0_now_longer p0_now_memory p0_now_limit p0_now_seasonDays p0_now_stopped p0_now_stopPart p0_now_stopReason a_p0_now_row p0_now_row i6_15 r_32 hq) k_X11_crossing q545 [0, 1, 2] rfl ⟨0, 7, _, _, rfl, rfl, rfl⟩ rfl rfl (Nat.le_of_ble_eq_true rfl) ⟨(Nat.le_of_ble_eq_true rfl), (Nat.le_of_ble_eq_true rfl)⟩ ⟨(Nat.zero_le _), (Nat.zero_le _)⟩ dL_holds_117 ?_
          refine lv_istore (lv' := [(8, .int r_32), (7, .int (1 + r_31)), (0, .ref a_p0), (1, .int x1), (2, .int r_1), (3, .int i3_13), (4, .int i4_14), (5, .int j_4), (6, .int i6_15)]) hx hb dL_holds_120 hl (by decide) rfl (fun ls hl => ?_)
          refine lv_iload_n hx hb dL_holds_122 rfl (lv_at hl 5 rfl) ?_
          refine lv_aload_n hx hb dL_holds_123 rfl (lv_at hl 2 rfl) ?_
          refine lv_iload hx hb dL_holds_124 (lv_at hl 8 rfl) ?_
          obtain ⟨r_33, hq, hf⟩ := bd1_some hf
          refine rdV (As := [.int i6_15]) (rest := [.int i3_13]) hF hG hP hl.1 (c_X11_isCrease l G a_p0 a_p0_trial a_p0_snapshot p0_snapshotTaken a_p0_history a_p0_text a_p0_works a_p0_highs a_p0_trade a_p0_now p0_now_length p0_now_shorter p0_now_longer p0_now_memory p0_now_limit p0_now_seasonDays p0_now_stopped p0_now_stopPart p0_now_stopReason a_p0_now_row p0_now_row i6_15 r_33 hq) k_X11_isCrease q489 [0, 1, 2] rfl ⟨0, 7, _, _, rfl, rfl, rfl⟩ rfl rfl (Nat.le_of_ble_eq_true rfl) ⟨(Nat.le_of_ble_eq_true rfl), (Nat.le_of_ble_eq_true rfl)⟩ ⟨(Nat.zero_le _), (Nat.zero_le _)⟩ dL_holds_126 ?_
          obtain ⟨j_34, hq, hf⟩ := bd1_some hf
          have J137 : ∀ (H : Heap) (locs : List Loc), va_P G.1 vwCl ([(a_p0, .inr (7, [.ref a_p0_now, .ref a_p0_trial, .ref a_p0_snapshot, .int p0_snapshotTaken, .ref a_p0_history, .ref a_p0_text, .ref a_p0_works, .ref a_p0_highs, .ref a_p0_trade])), (a_p0_now, .inr (2, [.ref a_p0_now_row, .int p0_now_length, .int p0_now_shorter, .int p0_now_longer, .int p0_now_memory, .int p0_now_limit, .int p0_now_seasonDays, .int p0_now_stopped, .int p0_now_stopPart, .int p0_now_stopReason])), (a_p0_now_row, .inl (G.2.1, 60, .inl p0_now_row)), (a_p0_highs, .inr (0, [.ref a_p0_highs_candidates, .int p0_highs_front_16, .int p0_highs_end_17])), (a_p0_highs_candidates, .inl (G.2.1, 60, .inl p0_highs_candidates_18)), (a_p0_trade, .inr (5, [.long p0_trade_coins_19, .int p0_trade_held_20]))] : va_W) H → va_D A ([(a_p0, .inr (7, [.ref a_p0_now, .ref a_p0_trial, .ref a_p0_snapshot, .int p0_snapshotTaken, .ref a_p0_history, .ref a_p0_text, .ref a_p0_works, .ref a_p0_highs, .ref a_p0_trade])), (a_p0_now, .inr (2, [.ref a_p0_now_row, .int p0_now_length, .int p0_now_shorter, .int p0_now_longer, .int p0_now_memory, .int p0_now_limit, .int p0_now_seasonDays, .int p0_now_stopped, .int p0_now_stopPart, .int p0_now_stopReason])), (a_p0_now_row, .inl (G.2.1, 60, .inl p0_now_row)), (a_p0_highs, .inr (0, [.ref a_p0_highs_candidates, .int p0_highs_front_16, .int p0_highs_end_17])), (a_p0_highs_candidates, .inl (G.2.1, 60, .inl p0_highs_candidates_18)), (a_p0_trade, .inr (5, [.long p0_trade_coins_19, .int p0_trade_held_20]))] : va_W) → va_S A s.heap H locs → ∀ ls : Array Slot, lv_has ls 11 [(0, .ref a_p0), (1, .int x1), (2, .int r_1), (4, .int i4_14), (5, .int j_4), (6, .int i6_15), (7, .int (1 + r_31)), (8, .int r_32)] → W p l e RM_L_holds s m [.ref a_p0, .int x1].toArray below meth c H locs 0 0 (MQ below (wrQ (some (.int rr)) G [(a_p0, .inr (7, [.ref a_p0_now, .ref a_p0_trial, .ref a_p0_snapshot, .int p0_snapshotTaken, .ref a_p0_history, .ref a_p0_text, .ref a_p0_works, .ref a_p0_highs, .ref a_p0_trade])), (a_p0_now, .inr (2, [.ref a_p0_now_row, .int p0_now_length, .int p0_now_shorter, .int p0_now_longer, .int p0_now_memory, .int p0_now_limit, .int p0_now_seasonDays, .int p0_now_stopped, .int p0_now_stopPart, .int p0_now_stopReason])), (a_p0_now_row, .inl (G.2.1, 60, .inl p0_now_row)), (a_p0_highs, .inr (0, [.ref a_p0_highs_candidates, .int w_p0_highs_front, .int w_p0_highs_end])), (a_p0_highs_candidates, .inl (G.2.1, 60, .inl w_p0_highs_candidates)), (a_p0_trade, .inr (5, [.long w_p0_trade_coins, .int w_p0_trade_held]))] A) [.ref a_p0, .int x1].toArray s 0 0 A) (F0 m 137 ls [.int j_34, .int i3_13]) := by
            intro H locs hP hD hS ls hl
            refine lv_iadd hx hb dL_holds_137 ?_
            refine lv_istore_n (lv' := [(3, .int (i3_13 + j_34)), (0, .ref a_p0), (1, .int x1), (2, .int r_1), (4, .int i4_14), (5, .int j_4), (6, .int i6_15), (7, .int (1 + r_31)), (8, .int r_32)]) hx hb dL_holds_138 rfl hl (by decide) rfl (fun ls hl => ?_)
            refine lv_iload hx hb dL_holds_139 (lv_at hl 4 rfl) ?_
            refine lv_iload hx hb dL_holds_141 (lv_at hl 8 rfl) ?_
            obtain ⟨j_35, hq, hf⟩ := bd1_some hf
            have J151 : ∀ (H : Heap) (locs : List Loc), va_P G.1 vwCl ([(a_p0, .inr (7, [.ref a_p0_now, .ref a_p0_trial, .ref a_p0_snapshot, .int p0_snapshotTaken, .ref a_p0_history, .ref a_p0_text, .ref a_p0_works, .ref a_p0_highs, .ref a_p0_trade])), (a_p0_now, .inr (2, [.ref a_p0_now_row, .int p0_now_length, .int p0_now_shorter, .int p0_now_longer, .int p0_now_memory, .int p0_now_limit, .int p0_now_seasonDays, .int p0_now_stopped, .int p0_now_stopPart, .int p0_now_stopReason])), (a_p0_now_row, .inl (G.2.1, 60, .inl p0_now_row)), (a_p0_highs, .inr (0, [.ref a_p0_highs_candidates, .int p0_highs_front_16, .int p0_highs_end_17])), (a_p0_highs_candidates, .inl (G.2.1, 60, .inl p0_highs_candidates_18)), (a_p0_trade, .inr (5, [.long p0_trade_coins_19, .int p0_trade_held_20]))] : va_W) H → va_D A ([(a_p0, .inr (7, [.ref a_p0_now, .ref a_p0_trial, .ref a_p0_snapshot, .int p0_snapshotTaken, .ref a_p0_history, .ref a_p0_text, .ref a_p0_works, .ref a_p0_highs, .ref a_p0_trade])), (a_p0_now, .inr (2, [.ref a_p0_now_row, .int p0_now_length, .int p0_now_shorter, .int p0_now_longer, .int p0_now_memory, .int p0_now_limit, .int p0_now_seasonDays, .int p0_now_stopped, .int p0_now_stopPart, .int p0_now_stopReason])), (a_p0_now_row, .inl (G.2.1, 60, .inl p0_now_row)), (a_p0_highs, .inr (0, [.ref a_p0_highs_candidates, .int p0_highs_front_16, .int p0_highs_end_17])), (a_p0_highs_candidates, .inl (G.2.1, 60, .inl p0_highs_candidates_18)), (a_p0_trade, .inr (5, [.long p0_trade_coins_19, .int p0_trade_held_20]))] : va_W) → va_S A s.heap H locs → ∀ ls : Array Slot, lv_has ls 11 [(0, .ref a_p0), (1, .int x1), (2, .int r_1), (3, .int (i3_13 + j_34)), (5, .int j_4), (6, .int i6_15), (7, .int (1 + r_31)), (8, .int r_32)] → W p l e RM_L_holds s m [.ref a_p0, .int x1].toArray below meth c H locs 0 0 (MQ below (wrQ (some (.int rr)) G [(a_p0, .inr (7, [.ref a_p0_now, .ref a_p0_trial, .ref a_p0_snapshot, .int p0_snapshotTaken, .ref a_p0_history, .ref a_p0_text, .ref a_p0_works, .ref a_p0_highs, .ref a_p0_trade])), (a_p0_now, .inr (2, [.ref a_p0_now_row, .int p0_now_length, .int p0_now_shorter, .int p0_now_longer, .int p0_now_memory, .int p0_now_limit, .int p0_now_seasonDays, .int p0_now_stopped, .int p0_now_stopPart, .int p0_now_stopReason])), (a_p0_now_row, .inl (G.2.1, 60, .inl p0_now_row)), (a_p0_highs, .inr (0, [.ref a_p0_highs_candidates, .int w_p0_highs_front, .int w_p0_highs_end])), (a_p0_highs_candidates, .inl (G.2.1, 60, .inl w_p0_highs_candidates)), (a_p0_trade, .inr (5, [.long w_p0_trade_coins, .int w_p0_trade_held]))] A) [.ref a_p0, .int x1].toArray s 0 0 A) (F0 m 151 ls [.int j_35, .int i4_14]) := by
              intro H locs hP hD hS ls hl
              refine lv_iadd hx hb dL_holds_151 ?_
              refine lv_istore (lv' := [(4, .int (i4_14 + j_35)), (0, .ref a_p0), (1, .int x1), (2, .int r_1), (3, .int (i3_13 + j_34)), (5, .int j_4), (6, .int i6_15), (7, .int (1 + r_31)), (8, .int r_32)]) hx hb dL_holds_152 hl (by decide) rfl (fun ls hl => ?_)
              refine lv_aload_n hx hb dL_holds_154 rfl (lv_at hl 1 rfl) ?_
              refine lv_iload hx hb dL_holds_155 (lv_at hl 6 rfl) ?_
              refine lv_aload_n hx hb dL_holds_157 rfl (lv_at hl 1 rfl) ?_
              obtain ⟨r_36, hq, hf⟩ := bd1_some hf
              refine rdV (As := []) (rest := [.int i6_15, .ref a_p0]) hF hG hP hl.1 (c_X11_shortWindow l G a_p0 a_p0_trial a_p0_snapshot p0_snapshotTaken a_p0_history a_p0_text a_p0_works a_p0_highs a_p0_trade a_p0_now a_p0_now_row p0_now_length p0_now_shorter p0_now_longer p0_now_memory p0_now_limit p0_now_seasonDays p0_now_stopped p0_now_stopPart p0_now_stopReason r_36 hq) k_X11_shortWindow q317 [0, 1] rfl ⟨0, 7, _, _, rfl, rfl, rfl⟩ rfl rfl (Nat.le_of_ble_eq_true rfl) ⟨(Nat.le_of_ble_eq_true rfl), (Nat.le_of_ble_eq_true rfl)⟩ ⟨(Nat.zero_le _), (Nat.zero_le _)⟩ dL_holds_158 ?_
              obtain ⟨r_37, hq, hf⟩ := bd1_some hf
              refine rdV (As := [.int i6_15, .int r_36]) (rest := []) hF hG hP hl.1 (c_X11_mean l G a_p0 a_p0_trial a_p0_snapshot p0_snapshotTaken a_p0_history a_p0_text a_p0_works a_p0_highs a_p0_trade a_p0_now p0_now_length p0_now_shorter p0_now_longer p0_now_memory p0_now_limit p0_now_seasonDays p0_now_stopped p0_now_stopPart p0_now_stopReason a_p0_now_row p0_now_row i6_15 r_36 r_37 hq) k_X11_mean q563 [0, 1, 2] rfl ⟨0, 7, _, _, rfl, rfl, rfl⟩ rfl rfl (Nat.le_of_ble_eq_true rfl) ⟨(Nat.le_of_ble_eq_true rfl), (Nat.le_of_ble_eq_true rfl)⟩ ⟨(Nat.zero_le _), (Nat.zero_le _)⟩ dL_holds_161 ?_
              refine lv_aload_n hx hb dL_holds_164 rfl (lv_at hl 1 rfl) ?_
              refine lv_iload hx hb dL_holds_165 (lv_at hl 6 rfl) ?_
              refine lv_aload_n hx hb dL_holds_167 rfl (lv_at hl 1 rfl) ?_
              obtain ⟨r_38, hq, hf⟩ := bd1_some hf
              refine rdV (As := []) (rest := [.int i6_15, .ref a_p0, .int r_37]) hF hG hP hl.1 (c_X11_longWindow l G a_p0 a_p0_trial a_p0_snapshot p0_snapshotTaken a_p0_history a_p0_text a_p0_works a_p0_highs a_p0_trade a_p0_now a_p0_now_row p0_now_length p0_now_shorter p0_now_longer p0_now_memory p0_now_limit p0_now_seasonDays p0_now_stopped p0_now_stopPart p0_now_stopReason r_38 hq) k_X11_longWindow q321 [0, 1] rfl ⟨0, 7, _, _, rfl, rfl, rfl⟩ rfl rfl (Nat.le_of_ble_eq_true rfl) ⟨(Nat.le_of_ble_eq_true rfl), (Nat.le_of_ble_eq_true rfl)⟩ ⟨(Nat.zero_le _), (Nat.zero_le _)⟩ dL_holds_168 ?_
              obtain ⟨r_39, hq, hf⟩ := bd1_some hf
              refine rdV (As := [.int i6_15, .int r_38]) (rest := [.int r_37]) hF hG hP hl.1 (c_X11_mean l G a_p0 a_p0_trial a_p0_snapshot p0_snapshotTaken a_p0_history a_p0_text a_p0_works a_p0_highs a_p0_trade a_p0_now p0_now_length p0_now_shorter p0_now_longer p0_now_memory p0_now_limit p0_now_seasonDays p0_now_stopped p0_now_stopPart p0_now_stopReason a_p0_now_row p0_now_row i6_15 r_38 r_39 hq) k_X11_mean q563 [0, 1, 2] rfl ⟨0, 7, _, _, rfl, rfl, rfl⟩ rfl rfl (Nat.le_of_ble_eq_true rfl) ⟨(Nat.le_of_ble_eq_true rfl), (Nat.le_of_ble_eq_true rfl)⟩ ⟨(Nat.zero_le _), (Nat.zero_le _)⟩ dL_holds_171 ?_
              refine lv_isub hx hb dL_holds_174 ?_
              refine lv_istore (lv' := [(9, .int (r_37 - r_39)), (4, .int (i4_14 + j_35)), (0, .ref a_p0), (1, .int x1), (2, .int r_1), (3, .int (i3_13 + j_34)), (5, .int j_4), (6, .int i6_15), (7, .int (1 + r_31)), (8, .int r_32)]) hx hb dL_holds_175 hl (by decide) rfl (fun ls hl => ?_)
              refine lv_aload_n hx hb dL_holds_177 rfl (lv_at hl 2 rfl) ?_
              refine lv_iload hx hb dL_holds_178 (lv_at hl 7 rfl) ?_
              refine lv_iload hx hb dL_holds_180 (lv_at hl 8 rfl) ?_
              obtain ⟨r_40, hq, hf⟩ := bd1_some hf
              refine rdV (As := [.int i6_15, .int (1 + r_31)]) (rest := []) hF hG hP hl.1 (c_X11_mean l G a_p0 a_p0_trial a_p0_snapshot p0_snapshotTaken a_p0_history a_p0_text a_p0_works a_p0_highs a_p0_trade a_p0_now p0_now_length p0_now_shorter p0_now_longer p0_now_memory p0_now_limit p0_now_seasonDays p0_now_stopped p0_now_stopPart p0_now_stopReason a_p0_now_row p0_now_row i6_15 (1 + r_31) r_40 hq) k_X11_mean q563 [0, 1, 2] rfl ⟨0, 7, _, _, rfl, rfl, rfl⟩ rfl rfl (Nat.le_of_ble_eq_true rfl) ⟨(Nat.le_of_ble_eq_true rfl), (Nat.le_of_ble_eq_true rfl)⟩ ⟨(Nat.zero_le _), (Nat.zero_le _)⟩ dL_holds_182 ?_
              refine lv_aload_n hx hb dL_holds_185 rfl (lv_at hl 2 rfl) ?_
              refine lv_iload hx hb dL_holds_186 (lv_at hl 7 rfl) ?_
              refine lv_iload hx hb dL_holds_188 (lv_at hl 8 rfl) ?_
              obtain ⟨r_41, hq, hf⟩ := bd1_some hf
              refine rdV (As := [.int i6_15, .int (1 + r_31)]) (rest := [.int r_40]) hF hG hP hl.1 (c_X11_meanBySums l G a_p0 a_p0_trial a_p0_snapshot p0_snapshotTaken a_p0_history a_p0_text a_p0_works a_p0_highs a_p0_trade a_p0_now p0_now_length p0_now_shorter p0_now_longer p0_now_memory p0_now_limit p0_now_seasonDays p0_now_stopped p0_now_stopPart p0_now_stopReason a_p0_now_row p0_now_row i6_15 (1 + r_31) r_41 hq) k_X11_meanBySums q568 [0, 1, 2] rfl ⟨0, 7, _, _, rfl, rfl, rfl⟩ rfl rfl (Nat.le_of_ble_eq_true rfl) ⟨(Nat.le_of_ble_eq_true rfl), (Nat.le_of_ble_eq_true rfl)⟩ ⟨(Nat.zero_le _), (Nat.zero_le _)⟩ dL_holds_190 ?_
              obtain ⟨j_42, p0_highs_front_43, p0_highs_end_44, p0_highs_candidates_45, hq, hf⟩ := bd4_some hf
              have J278 : ∀ (H : Heap) (locs : List Loc), va_P G.1 vwCl ([(a_p0, .inr (7, [.ref a_p0_now, .ref a_p0_trial, .ref a_p0_snapshot, .int p0_snapshotTaken, .ref a_p0_history, .ref a_p0_text, .ref a_p0_works, .ref a_p0_highs, .ref a_p0_trade])), (a_p0_now, .inr (2, [.ref a_p0_now_row, .int p0_now_length, .int p0_now_shorter, .int p0_now_longer, .int p0_now_memory, .int p0_now_limit, .int p0_now_seasonDays, .int p0_now_stopped, .int p0_now_stopPart, .int p0_now_stopReason])), (a_p0_now_row, .inl (G.2.1, 60, .inl p0_now_row)), (a_p0_highs, .inr (0, [.ref a_p0_highs_candidates, .int p0_highs_front_43, .int p0_highs_end_44])), (a_p0_highs_candidates, .inl (G.2.1, 60, .inl p0_highs_candidates_45)), (a_p0_trade, .inr (5, [.long p0_trade_coins_19, .int p0_trade_held_20]))] : va_W) H → va_D A ([(a_p0, .inr (7, [.ref a_p0_now, .ref a_p0_trial, .ref a_p0_snapshot, .int p0_snapshotTaken, .ref a_p0_history, .ref a_p0_text, .ref a_p0_works, .ref a_p0_highs, .ref a_p0_trade])), (a_p0_now, .inr (2, [.ref a_p0_now_row, .int p0_now_length, .int p0_now_shorter, .int p0_now_longer, .int p0_now_memory, .int p0_now_limit, .int p0_now_seasonDays, .int p0_now_stopped, .int p0_now_stopPart, .int p0_now_stopReason])), (a_p0_now_row, .inl (G.2.1, 60, .inl p0_now_row)), (a_p0_highs, .inr (0, [.ref a_p0_highs_candidates, .int p0_highs_front_43, .int p0_highs_end_44])), (a_p0_highs_candidates, .inl (G.2.1, 60, .inl p0_highs_candidates_45)), (a_p0_trade, .inr (5, [.long p0_trade_coins_19, .int p0_trade_held_20]))] : va_W) → va_S A s.heap H locs → ∀ ls : Array Slot, lv_has ls 11 [(0, .ref a_p0), (1, .int x1), (2, .int r_1), (3, .int (i3_13 + j_34)), (4, .int (i4_14 + j_35)), (5, .int j_4), (6, .int i6_15), (8, .int r_32), (9, .int (r_37 - r_39))] → W p l e RM_L_holds s m [.ref a_p0, .int x1].toArray below meth c H locs 0 0 (MQ below (wrQ (some (.int rr)) G [(a_p0, .inr (7, [.ref a_p0_now, .ref a_p0_trial, .ref a_p0_snapshot, .int p0_snapshotTaken, .ref a_p0_history, .ref a_p0_text, .ref a_p0_works, .ref a_p0_highs, .ref a_p0_trade])), (a_p0_now, .inr (2, [.ref a_p0_now_row, .int p0_now_length, .int p0_now_shorter, .int p0_now_longer, .int p0_now_memory, .int p0_now_limit, .int p0_now_seasonDays, .int p0_now_stopped, .int p0_now_stopPart, .int p0_now_stopReason])), (a_p0_now_row, .inl (G.2.1, 60, .inl p0_now_row)), (a_p0_highs, .inr (0, [.ref a_p0_highs_candidates, .int w_p0_highs_front, .int w_p0_highs_end])), (a_p0_highs_candidates, .inl (G.2.1, 60, .inl w_p0_highs_candidates)), (a_p0_trade, .inr (5, [.long w_p0_trade_coins, .int w_p0_trade_held]))] A) [.ref a_p0, .int x1].toArray s 0 0 A) (F0 m 278 ls [.int j_42]) := by
                intro H locs hP hD hS ls hl
                refine lv_istore (lv' := [(10, .int j_42), (0, .ref a_p0), (1, .int x1), (2, .int r_1), (3, .int (i3_13 + j_34)), (4, .int (i4_14 + j_35)), (5, .int j_4), (6, .int i6_15), (8, .int r_32), (9, .int (r_37 - r_39))]) hx hb dL_holds_278 hl (by decide) rfl (fun ls hl => ?_)
                refine lv_iload hx hb dL_holds_280 (lv_at hl 0 rfl) ?_
                obtain ⟨j_58, p0_trade_coins_59, p0_trade_held_60, hq, hf⟩ := bd3_some hf
                have J374 : ∀ (H : Heap) (locs : List Loc), va_P G.1 vwCl ([(a_p0, .inr (7, [.ref a_p0_now, .ref a_p0_trial, .ref a_p0_snapshot, .int p0_snapshotTaken, .ref a_p0_history, .ref a_p0_text, .ref a_p0_works, .ref a_p0_highs, .ref a_p0_trade])), (a_p0_now, .inr (2, [.ref a_p0_now_row, .int p0_now_length, .int p0_now_shorter, .int p0_now_longer, .int p0_now_memory, .int p0_now_limit, .int p0_now_seasonDays, .int p0_now_stopped, .int p0_now_stopPart, .int p0_now_stopReason])), (a_p0_now_row, .inl (G.2.1, 60, .inl p0_now_row)), (a_p0_highs, .inr (0, [.ref a_p0_highs_candidates, .int p0_highs_front_43, .int p0_highs_end_44])), (a_p0_highs_candidates, .inl (G.2.1, 60, .inl p0_highs_candidates_45)), (a_p0_trade, .inr (5, [.long p0_trade_coins_59, .int p0_trade_held_60]))] : va_W) H → va_D A ([(a_p0, .inr (7, [.ref a_p0_now, .ref a_p0_trial, .ref a_p0_snapshot, .int p0_snapshotTaken, .ref a_p0_history, .ref a_p0_text, .ref a_p0_works, .ref a_p0_highs, .ref a_p0_trade])), (a_p0_now, .inr (2, [.ref a_p0_now_row, .int p0_now_length, .int p0_now_shorter, .int p0_now_longer, .int p0_now_memory, .int p0_now_limit, .int p0_now_seasonDays, .int p0_now_stopped, .int p0_now_stopPart, .int p0_now_stopReason])), (a_p0_now_row, .inl (G.2.1, 60, .inl p0_now_row)), (a_p0_highs, .inr (0, [.ref a_p0_highs_candidates, .int p0_highs_front_43, .int p0_highs_end_44])), (a_p0_highs_candidates, .inl (G.2.1, 60, .inl p0_highs_candidates_45)), (a_p0_trade, .inr (5, [.long p0_trade_coins_59, .int p0_trade_held_60]))] : va_W) → va_S A s.heap H locs → ∀ ls : Array Slot, lv_has ls 11 [(0, .ref a_p0), (1, .int x1), (2, .int r_1), (3, .int (i3_13 + j_34)), (4, .int (i4_14 + j_35)), (5, .int j_4), (6, .int i6_15)] → W p l e RM_L_holds s m [.ref a_p0, .int x1].toArray below meth c H locs 0 0 (MQ below (wrQ (some (.int rr)) G [(a_p0, .inr (7, [.ref a_p0_now, .ref a_p0_trial, .ref a_p0_snapshot, .int p0_snapshotTaken, .ref a_p0_history, .ref a_p0_text, .ref a_p0_works, .ref a_p0_highs, .ref a_p0_trade])), (a_p0_now, .inr (2, [.ref a_p0_now_row, .int p0_now_length, .int p0_now_shorter, .int p0_now_longer, .int p0_now_memory, .int p0_now_limit, .int p0_now_seasonDays, .int p0_now_stopped, .int p0_now_stopPart, .int p0_now_stopReason])), (a_p0_now_row, .inl (G.2.1, 60, .inl p0_now_row)), (a_p0_highs, .inr (0, [.ref a_p0_highs_candidates, .int w_p0_highs_front, .int w_p0_highs_end])), (a_p0_highs_candidates, .inl (G.2.1, 60, .inl w_p0_highs_candidates)), (a_p0_trade, .inr (5, [.long w_p0_trade_coins, .int w_p0_trade_held]))] A) [.ref a_p0, .int x1].toArray s 0 0 A) (F0 m 374 ls [.int j_58]) := by
                  intro H locs hP hD hS ls hl
                  refine lv_istore (lv' := [(10, .int j_58), (0, .ref a_p0), (1, .int x1), (2, .int r_1), (3, .int (i3_13 + j_34)), (4, .int (i4_14 + j_35)), (5, .int j_4), (6, .int i6_15)]) hx hb dL_holds_374 hl (by decide) rfl (fun ls hl => ?_)
                  refine lv_iload hx hb dL_holds_376 (lv_at hl 0 rfl) ?_
                  refine lv_if_ne (tgt := 383) hx hb dL_holds_378 (by decide) (fun c0 => ?_) (fun c0 => ?_)
                  · have hf := (if_neg c0).symm.trans hf
                    refine lv_iinc (v := (i6_15 + 1)) (lv' := [(6, .int (i6_15 + 1)), (10, .int j_58), (0, .ref a_p0), (1, .int x1), (2, .int r_1), (3, .int (i3_13 + j_34)), (4, .int (i4_14 + j_35)), (5, .int j_4)]) hx hb dL_holds_383 hl (k := 7) rfl rfl (by decide) rfl (fun ls hl => ?_)
                    refine lv_goto (tgt := 95) hx hb dL_holds_386 (by decide) ?_
                    exact ih (i3_13 + j_34) (i4_14 + j_35) (i6_15 + 1) p0_highs_front_43 p0_highs_end_44 p0_highs_candidates_45 p0_trade_coins_59 p0_trade_held_60 hf _ _ hP hD hS ls (lv_sub hl [2, 3, 4, 5, 6, 7, 0] rfl)
                  · have hf := (if_pos c0).symm.trans hf
                    refine lv_iconst (v := 0) hx hb dL_holds_381 (by decide) ?_
                    have hf : (some (0, p0_highs_front_43, p0_highs_end_44, p0_highs_candidates_45, p0_trade_coins_59, p0_trade_held_60) : Option (Int32 × Int32 × Int32 × (Nat → Int32) × Int64 × Int32)) = some (rr, w_p0_highs_front, w_p0_highs_end, w_p0_highs_candidates, w_p0_trade_coins, w_p0_trade_held) := hf
                    cases hf
                    exact we_z hF hr hlk hP hD hS dL_holds_382 rfl rfl
                clear hf
                have hf := hq
                clear hq
                refine lv_if_eq (tgt := 373) hx hb dL_holds_282 (by decide) (fun c0 => ?_) (fun c0 => ?_)
                · have hf := (if_pos c0).symm.trans hf
                  refine lv_iconst (v := 0) hx hb dL_holds_373 (by decide) ?_
                  have hf : (some (0, p0_trade_coins_19, p0_trade_held_20) : Option (Int32 × Int64 × Int32)) = some (j_58, p0_trade_coins_59, p0_trade_held_60) := hf
                  cases hf
                  exact J374 _ _ hP hD hS ls (lv_sub hl [1, 2, 3, 4, 5, 6, 7] rfl)
                · have hf := (if_neg c0).symm.trans hf
                  refine lv_iload hx hb dL_holds_285 (lv_at hl 8 rfl) ?_
                  refine lv_if_eq (tgt := 298) hx hb dL_holds_287 (by decide) (fun c0 => ?_) (fun c0 => ?_)
                  · have hf := (if_pos c0).symm.trans hf
                    refine lv_aload_n hx hb dL_holds_298 rfl (lv_at hl 1 rfl) ?_
                    refine lv_iload hx hb dL_holds_299 (lv_at hl 7 rfl) ?_
                    obtain ⟨r_61, p0_trade_coins_62, p0_trade_held_63, hq, hf⟩ := bd3_some hf
                    refine wrV (As := [.int i6_15]) (rest := []) (wn := [(a_p0, .inr (7, [.ref a_p0_now, .ref a_p0_trial, .ref a_p0_snapshot, .int p0_snapshotTaken, .ref a_p0_history, .ref a_p0_text, .ref a_p0_works, .ref a_p0_highs, .ref a_p0_trade])), (a_p0_now, .inr (2, [.ref a_p0_now_row, .int p0_now_length, .int p0_now_shorter, .int p0_now_longer, .int p0_now_memory, .int p0_now_limit, .int p0_now_seasonDays, .int p0_now_stopped, .int p0_now_stopPart, .int p0_now_stopReason])), (a_p0_now_row, .inl (G.2.1, 60, .inl p0_now_row)), (a_p0_highs, .inr (0, [.ref a_p0_highs_candidates, .int p0_highs_front_43, .int p0_highs_end_44])), (a_p0_highs_candidates, .inl (G.2.1, 60, .inl p0_highs_candidates_45)), (a_p0_trade, .inr (5, [.long p0_trade_coins_62, .int p0_trade_held_63]))]) hF hG hP hD hS hA hl.1 (c_X11_pieces l G a_p0 a_p0_trial a_p0_snapshot p0_snapshotTaken a_p0_history a_p0_text a_p0_works a_p0_highs a_p0_now p0_now_length p0_now_shorter p0_now_longer p0_now_memory p0_now_limit p0_now_seasonDays p0_now_stopped p0_now_stopPart p0_now_stopReason a_p0_now_row p0_now_row a_p0_trade p0_trade_coins_19 p0_trade_held_20 i6_15 r_61 p0_trade_coins_62 p0_trade_held_63 hq) k_X11_pieces q614 [0, 1, 2, 5] [3, 4] [2, 3, 4, 0, 1, 5] rfl rfl rfl rfl ⟨rfl, rfl⟩ (by decide) ⟨0, 7, _, _, rfl, rfl, rfl⟩ rfl rfl (Nat.le_of_ble_eq_true rfl) ⟨(Nat.le_of_ble_eq_true rfl), (Nat.le_of_ble_eq_true rfl)⟩ ⟨(Nat.le_of_ble_eq_true rfl), (Nat.le_of_ble_eq_true rfl)⟩ dL_holds_301 (fun H locs hP hD hS => ?_)
                    refine lv_if_lt (tgt := 373) hx hb dL_holds_304 (by decide) (fun c0 => ?_) (fun c0 => ?_)
                    · have hf := (if_pos c0).symm.trans hf
                      refine lv_iconst (v := 0) hx hb dL_holds_373 (by decide) ?_
                      have hf : (some (0, p0_trade_coins_62, p0_trade_held_63) : Option (Int32 × Int64 × Int32)) = some (j_58, p0_trade_coins_59, p0_trade_held_60) := hf
                      cases hf
                      exact J374 _ _ hP hD hS ls (lv_sub hl [1, 2, 3, 4, 5, 6, 7] rfl)
                    · have hf := (if_neg c0).symm.trans hf
                      refine lv_aload_n hx hb dL_holds_307 rfl (lv_at hl 1 rfl) ?_
                      refine lv_iload hx hb dL_holds_308 (lv_at hl 7 rfl) ?_
                      obtain ⟨r_64, p0_trade_coins_65, p0_trade_held_66, hq, hf⟩ := bd3_some hf
                      refine wrV (As := [.int i6_15]) (rest := []) (wn := [(a_p0, .inr (7, [.ref a_p0_now, .ref a_p0_trial, .ref a_p0_snapshot, .int p0_snapshotTaken, .ref a_p0_history, .ref a_p0_text, .ref a_p0_works, .ref a_p0_highs, .ref a_p0_trade])), (a_p0_now, .inr (2, [.ref a_p0_now_row, .int p0_now_length, .int p0_now_shorter, .int p0_now_longer, .int p0_now_memory, .int p0_now_limit, .int p0_now_seasonDays, .int p0_now_stopped, .int p0_now_stopPart, .int p0_now_stopReason])), (a_p0_now_row, .inl (G.2.1, 60, .inl p0_now_row)), (a_p0_highs, .inr (0, [.ref a_p0_highs_candidates, .int p0_highs_front_43, .int p0_highs_end_44])), (a_p0_highs_candidates, .inl (G.2.1, 60, .inl p0_highs_candidates_45)), (a_p0_trade, .inr (5, [.long p0_trade_coins_65, .int p0_trade_held_66]))]) hF hG hP hD hS hA hl.1 (c_X11_pieces l G a_p0 a_p0_trial a_p0_snapshot p0_snapshotTaken a_p0_history a_p0_text a_p0_works a_p0_highs a_p0_now p0_now_length p0_now_shorter p0_now_longer p0_now_memory p0_now_limit p0_now_seasonDays p0_now_stopped p0_now_stopPart p0_now_stopReason a_p0_now_row p0_now_row a_p0_trade p0_trade_coins_62 p0_trade_held_63 i6_15 r_64 p0_trade_coins_65 p0_trade_held_66 hq) k_X11_pieces q614 [0, 1, 2, 5] [3, 4] [2, 3, 4, 0, 1, 5] rfl rfl rfl rfl ⟨rfl, rfl⟩ (by decide) ⟨0, 7, _, _, rfl, rfl, rfl⟩ rfl rfl (Nat.le_of_ble_eq_true rfl) ⟨(Nat.le_of_ble_eq_true rfl), (Nat.le_of_ble_eq_true rfl)⟩ ⟨(Nat.le_of_ble_eq_true rfl), (Nat.le_of_ble_eq_true rfl)⟩ dL_holds_310 (fun H locs hP hD hS => ?_)
                      refine lv_sipush (v := 999) hx hb dL_holds_313 (by decide) ?_
                      refine lv_icmp_gt (tgt := 373) hx hb dL_holds_316 (by decide) (fun c0 => ?_) (fun c0 => ?_)
                      · have hf := (if_pos c0).symm.trans hf
                        refine lv_iconst (v := 0) hx hb dL_holds_373 (by decide) ?_
                        have hf : (some (0, p0_trade_coins_65, p0_trade_held_66) : Option (Int32 × Int64 × Int32)) = some (j_58, p0_trade_coins_59, p0_trade_held_60) := hf
                        cases hf
                        exact J374 _ _ hP hD hS ls (lv_sub hl [1, 2, 3, 4, 5, 6, 7] rfl)
                      · have hf := (if_neg c0).symm.trans hf
                        refine lv_iload hx hb dL_holds_319 (lv_at hl 8 rfl) ?_
                        refine lv_iconst (v := (-1)) hx hb dL_holds_321 (by decide) ?_
                        refine lv_icmp_ne (tgt := 334) hx hb dL_holds_322 (by decide) (fun c0 => ?_) (fun c0 => ?_)
                        · have hf := (if_neg c0).symm.trans hf
                          refine lv_aload_n hx hb dL_holds_334 rfl (lv_at hl 1 rfl) ?_
                          refine lv_iload hx hb dL_holds_335 (lv_at hl 7 rfl) ?_
                          obtain ⟨r_67, p0_trade_coins_68, p0_trade_held_69, hq, hf⟩ := bd3_some hf
                          refine wrV (As := [.int i6_15]) (rest := []) (wn := [(a_p0, .inr (7, [.ref a_p0_now, .ref a_p0_trial, .ref a_p0_snapshot, .int p0_snapshotTaken, .ref a_p0_history, .ref a_p0_text, .ref a_p0_works, .ref a_p0_highs, .ref a_p0_trade])), (a_p0_now, .inr (2, [.ref a_p0_now_row, .int p0_now_length, .int p0_now_shorter, .int p0_now_longer, .int p0_now_memory, .int p0_now_limit, .int p0_now_seasonDays, .int p0_now_stopped, .int p0_now_stopPart, .int p0_now_stopReason])), (a_p0_now_row, .inl (G.2.1, 60, .inl p0_now_row)), (a_p0_highs, .inr (0, [.ref a_p0_highs_candidates, .int p0_highs_front_43, .int p0_highs_end_44])), (a_p0_highs_candidates, .inl (G.2.1, 60, .inl p0_highs_candidates_45)), (a_p0_trade, .inr (5, [.long p0_trade_coins_68, .int p0_trade_held_69]))]) hF hG hP hD hS hA hl.1 (c_X11_worth l G a_p0 a_p0_trial a_p0_snapshot p0_snapshotTaken a_p0_history a_p0_text a_p0_works a_p0_highs a_p0_now p0_now_length p0_now_shorter p0_now_longer p0_now_memory p0_now_limit p0_now_seasonDays p0_now_stopped p0_now_stopPart p0_now_stopReason a_p0_now_row p0_now_row a_p0_trade p0_trade_coins_65 p0_trade_held_66 i6_15 r_67 p0_trade_coins_68 p0_trade_held_69 hq) k_X11_worth q636 [0, 1, 2, 5] [3, 4] [2, 3, 4, 0, 1, 5] rfl rfl rfl rfl ⟨rfl, rfl⟩ (by decide) ⟨0, 7, _, _, rfl, rfl, rfl⟩ rfl rfl (Nat.le_of_ble_eq_true rfl) ⟨(Nat.le_of_ble_eq_true rfl), (Nat.le_of_ble_eq_true rfl)⟩ ⟨(Nat.le_of_ble_eq_true rfl), (Nat.le_of_ble_eq_true rfl)⟩ dL_holds_337 (fun H locs hP hD hS => ?_)
                          refine lv_lconst (v := 0) hx hb dL_holds_340 (by decide) ?_
                          refine W.lcmp hx hb dL_holds_341 ?_
                          refine lv_if_lt (tgt := 373) hx hb dL_holds_342 (by decide) (fun c0 => ?_) (fun c0 => ?_)
                          · have hf := (if_pos c0).symm.trans hf
                            refine lv_iconst (v := 0) hx hb dL_holds_373 (by decide) ?_
                            have hf : (some (0, p0_trade_coins_68, p0_trade_held_69) : Option (Int32 × Int64 × Int32)) = some (j_58, p0_trade_coins_59, p0_trade_held_60) := hf
                            cases hf
                            exact J374 _ _ hP hD hS ls (lv_sub hl [1, 2, 3, 4, 5, 6, 7] rfl)
                          · have hf := (if_neg c0).symm.trans hf
                            refine lv_aload_n hx hb dL_holds_345 rfl (lv_at hl 1 rfl) ?_
                            refine lv_iload hx hb dL_holds_346 (lv_at hl 7 rfl) ?_
                            obtain ⟨r_70, hq, hf⟩ := bd1_some hf
                            refine rdV (As := [.int i6_15]) (rest := []) hF hG hP hl.1 (c_X11_isCrease l G a_p0 a_p0_trial a_p0_snapshot p0_snapshotTaken a_p0_history a_p0_text a_p0_works a_p0_highs a_p0_trade a_p0_now p0_now_length p0_now_shorter p0_now_longer p0_now_memory p0_now_limit p0_now_seasonDays p0_now_stopped p0_now_stopPart p0_now_stopReason a_p0_now_row p0_now_row i6_15 r_70 hq) k_X11_isCrease q489 [0, 1, 2] rfl ⟨0, 7, _, _, rfl, rfl, rfl⟩ rfl rfl (Nat.le_of_ble_eq_true rfl) ⟨(Nat.le_of_ble_eq_true rfl), (Nat.le_of_ble_eq_true rfl)⟩ ⟨(Nat.zero_le _), (Nat.zero_le _)⟩ dL_holds_348 ?_
                            refine lv_if_eq (tgt := 369) hx hb dL_holds_351 (by decide) (fun c0 => ?_) (fun c0 => ?_)
                            · have hf := (if_pos c0).symm.trans hf
                              refine lv_iconst (v := 1) hx hb dL_holds_369 (by decide) ?_
                              refine lv_goto (tgt := 374) hx hb dL_holds_370 (by decide) ?_
                              have hf : (some (1, p0_trade_coins_68, p0_trade_held_69) : Option (Int32 × Int64 × Int32)) = some (j_58, p0_trade_coins_59, p0_trade_held_60) := hf
                              cases hf
                              exact J374 _ _ hP hD hS ls (lv_sub hl [1, 2, 3, 4, 5, 6, 7] rfl)
                            · have hf := (if_neg c0).symm.trans hf
                              refine lv_aload_n hx hb dL_holds_354 rfl (lv_at hl 1 rfl) ?_
                              refine lv_iload hx hb dL_holds_355 (lv_at hl 7 rfl) ?_
                              obtain ⟨r_71, hq, hf⟩ := bd1_some hf
                              refine rdV (As := [.int i6_15]) (rest := []) hF hG hP hl.1 (c_X11_median l G a_p0 a_p0_trial a_p0_snapshot p0_snapshotTaken a_p0_history a_p0_text a_p0_works a_p0_highs a_p0_trade a_p0_now p0_now_length p0_now_shorter p0_now_longer p0_now_memory p0_now_limit p0_now_seasonDays p0_now_stopped p0_now_stopPart p0_now_stopReason a_p0_now_row p0_now_row i6_15 r_71 hq) k_X11_median q644 [0, 1, 2] rfl ⟨0, 7, _, _, rfl, rfl, rfl⟩ rfl rfl (Nat.le_of_ble_eq_true rfl) ⟨(Nat.le_of_ble_eq_true rfl), (Nat.le_of_ble_eq_true rfl)⟩ ⟨(Nat.zero_le _), (Nat.zero_le _)⟩ dL_holds_357 ?_
                              refine lv_aload_n hx hb dL_holds_360 rfl (lv_at hl 1 rfl) ?_
                              refine lv_iload hx hb dL_holds_361 (lv_at hl 7 rfl) ?_
                              obtain ⟨r_72, hq, hf⟩ := bd1_some hf
                              refine rdV (As := [.int i6_15]) (rest := [.int r_71]) hF hG hP hl.1 (c_X11_priceOf l G a_p0 a_p0_trial a_p0_snapshot p0_snapshotTaken a_p0_history a_p0_text a_p0_works a_p0_highs a_p0_trade a_p0_now p0_now_length p0_now_shorter p0_now_longer p0_now_memory p0_now_limit p0_now_seasonDays p0_now_stopped p0_now_stopPart p0_now_stopReason a_p0_now_row p0_now_row i6_15 r_72 hq) k_X11_priceOf q375 [0, 1, 2] rfl ⟨0, 7, _, _, rfl, rfl, rfl⟩ rfl rfl (Nat.le_of_ble_eq_true rfl) ⟨(Nat.le_of_ble_eq_true rfl), (Nat.le_of_ble_eq_true rfl)⟩ ⟨(Nat.zero_le _), (Nat.zero_le _)⟩ dL_holds_363 ?_
                              refine lv_icmp_eq (tgt := 373) hx hb dL_holds_366 (by decide) (fun c0 => ?_) (fun c0 => ?_)
                              · have hf := (if_pos c0).symm.trans hf
                                refine lv_iconst (v := 0) hx hb dL_holds_373 (by decide) ?_
                                have hf : (some (0, p0_trade_coins_68, p0_trade_held_69) : Option (Int32 × Int64 × Int32)) = some (j_58, p0_trade_coins_59, p0_trade_held_60) := hf
                                cases hf
                                exact J374 _ _ hP hD hS ls (lv_sub hl [1, 2, 3, 4, 5, 6, 7] rfl)
                              · have hf := (if_neg c0).symm.trans hf
                                refine lv_iconst (v := 1) hx hb dL_holds_369 (by decide) ?_
                                refine lv_goto (tgt := 374) hx hb dL_holds_370 (by decide) ?_
                                have hf : (some (1, p0_trade_coins_68, p0_trade_held_69) : Option (Int32 × Int64 × Int32)) = some (j_58, p0_trade_coins_59, p0_trade_held_60) := hf
                                cases hf
                                exact J374 _ _ hP hD hS ls (lv_sub hl [1, 2, 3, 4, 5, 6, 7] rfl)
                        · have hf := (if_pos c0).symm.trans hf
                          refine lv_aload_n hx hb dL_holds_325 rfl (lv_at hl 1 rfl) ?_
                          refine lv_iload hx hb dL_holds_326 (lv_at hl 7 rfl) ?_
                          obtain ⟨r_73, p0_trade_coins_74, p0_trade_held_75, hq, hf⟩ := bd3_some hf
                          refine wrV (As := [.int i6_15]) (rest := []) (wn := [(a_p0, .inr (7, [.ref a_p0_now, .ref a_p0_trial, .ref a_p0_snapshot, .int p0_snapshotTaken, .ref a_p0_history, .ref a_p0_text, .ref a_p0_works, .ref a_p0_highs, .ref a_p0_trade])), (a_p0_now, .inr (2, [.ref a_p0_now_row, .int p0_now_length, .int p0_now_shorter, .int p0_now_longer, .int p0_now_memory, .int p0_now_limit, .int p0_now_seasonDays, .int p0_now_stopped, .int p0_now_stopPart, .int p0_now_stopReason])), (a_p0_now_row, .inl (G.2.1, 60, .inl p0_now_row)), (a_p0_highs, .inr (0, [.ref a_p0_highs_candidates, .int p0_highs_front_43, .int p0_highs_end_44])), (a_p0_highs_candidates, .inl (G.2.1, 60, .inl p0_highs_candidates_45)), (a_p0_trade, .inr (5, [.long p0_trade_coins_74, .int p0_trade_held_75]))]) hF hG hP hD hS hA hl.1 (c_X11_pieces l G a_p0 a_p0_trial a_p0_snapshot p0_snapshotTaken a_p0_history a_p0_text a_p0_works a_p0_highs a_p0_now p0_now_length p0_now_shorter p0_now_longer p0_now_memory p0_now_limit p0_now_seasonDays p0_now_stopped p0_now_stopPart p0_now_stopReason a_p0_now_row p0_now_row a_p0_trade p0_trade_coins_65 p0_trade_held_66 i6_15 r_73 p0_trade_coins_74 p0_trade_held_75 hq) k_X11_pieces q614 [0, 1, 2, 5] [3, 4] [2, 3, 4, 0, 1, 5] rfl rfl rfl rfl ⟨rfl, rfl⟩ (by decide) ⟨0, 7, _, _, rfl, rfl, rfl⟩ rfl rfl (Nat.le_of_ble_eq_true rfl) ⟨(Nat.le_of_ble_eq_true rfl), (Nat.le_of_ble_eq_true rfl)⟩ ⟨(Nat.le_of_ble_eq_true rfl), (Nat.le_of_ble_eq_true rfl)⟩ dL_holds_328 (fun H locs hP hD hS => ?_)
                          refine lv_if_ne (tgt := 373) hx hb dL_holds_331 (by decide) (fun c0 => ?_) (fun c0 => ?_)
                          · have hf := (if_neg c0).symm.trans hf
                            refine lv_iconst (v := 0) hx hb dL_holds_373 (by decide) ?_
                            have hf : (some (0, p0_trade_coins_74, p0_trade_held_75) : Option (Int32 × Int64 × Int32)) = some (j_58, p0_trade_coins_59, p0_trade_held_60) := hf
                            cases hf
                            exact J374 _ _ hP hD hS ls (lv_sub hl [1, 2, 3, 4, 5, 6, 7] rfl)
                          · have hf := (if_pos c0).symm.trans hf
                            refine lv_aload_n hx hb dL_holds_334 rfl (lv_at hl 1 rfl) ?_
                            refine lv_iload hx hb dL_holds_335 (lv_at hl 7 rfl) ?_
                            obtain ⟨r_76, p0_trade_coins_77, p0_trade_held_78, hq, hf⟩ := bd3_some hf
                            refine wrV (As := [.int i6_15]) (rest := []) (wn := [(a_p0, .inr (7, [.ref a_p0_now, .ref a_p0_trial, .ref a_p0_snapshot, .int p0_snapshotTaken, .ref a_p0_history, .ref a_p0_text, .ref a_p0_works, .ref a_p0_highs, .ref a_p0_trade])), (a_p0_now, .inr (2, [.ref a_p0_now_row, .int p0_now_length, .int p0_now_shorter, .int p0_now_longer, .int p0_now_memory, .int p0_now_limit, .int p0_now_seasonDays, .int p0_now_stopped, .int p0_now_stopPart, .int p0_now_stopReason])), (a_p0_now_row, .inl (G.2.1, 60, .inl p0_now_row)), (a_p0_highs, .inr (0, [.ref a_p0_highs_candidates, .int p0_highs_front_43, .int p0_highs_end_44])), (a_p0_highs_candidates, .inl (G.2.1, 60, .inl p0_highs_candidates_45)), (a_p0_trade, .inr (5, [.long p0_trade_coins_77, .int p0_trade_held_78]))]) hF hG hP hD hS hA hl.1 (c_X11_worth l G a_p0 a_p0_trial a_p0_snapshot p0_snapshotTaken a_p0_history a_p0_text a_p0_works a_p0_highs a_p0_now p0_now_length p0_now_shorter p0_now_longer p0_now_memory p0_now_limit p0_now_seasonDays p0_now_stopped p0_now_stopPart p0_now_stopReason a_p0_now_row p0_now_row a_p0_trade p0_trade_coins_74 p0_trade_held_75 i6_15 r_76 p0_trade_coins_77 p0_trade_held_78 hq) k_X11_worth q636 [0, 1, 2, 5] [3, 4] [2, 3, 4, 0, 1, 5] rfl rfl rfl rfl ⟨rfl, rfl⟩ (by decide) ⟨0, 7, _, _, rfl, rfl, rfl⟩ rfl rfl (Nat.le_of_ble_eq_true rfl) ⟨(Nat.le_of_ble_eq_true rfl), (Nat.le_of_ble_eq_true rfl)⟩ ⟨(Nat.le_of_ble_eq_true rfl), (Nat.le_of_ble_eq_true rfl)⟩ dL_holds_337 (fun H locs hP hD hS => ?_)
                            refine lv_lconst (v := 0) hx hb dL_holds_340 (by decide) ?_
                            refine W.lcmp hx hb dL_holds_341 ?_
                            refine lv_if_lt (tgt := 373) hx hb dL_holds_342 (by decide) (fun c0 => ?_) (fun c0 => ?_)
                            · have hf := (if_pos c0).symm.trans hf
                              refine lv_iconst (v := 0) hx hb dL_holds_373 (by decide) ?_
                              have hf : (some (0, p0_trade_coins_77, p0_trade_held_78) : Option (Int32 × Int64 × Int32)) = some (j_58, p0_trade_coins_59, p0_trade_held_60) := hf
                              cases hf
                              exact J374 _ _ hP hD hS ls (lv_sub hl [1, 2, 3, 4, 5, 6, 7] rfl)
                            · have hf := (if_neg c0).symm.trans hf
                              refine lv_aload_n hx hb dL_holds_345 rfl (lv_at hl 1 rfl) ?_
                              refine lv_iload hx hb dL_holds_346 (lv_at hl 7 rfl) ?_
                              obtain ⟨r_79, hq, hf⟩ := bd1_some hf
                              refine rdV (As := [.int i6_15]) (rest := []) hF hG hP hl.1 (c_X11_isCrease l G a_p0 a_p0_trial a_p0_snapshot p0_snapshotTaken a_p0_history a_p0_text a_p0_works a_p0_highs a_p0_trade a_p0_now p0_now_length p0_now_shorter p0_now_longer p0_now_memory p0_now_limit p0_now_seasonDays p0_now_stopped p0_now_stopPart p0_now_stopReason a_p0_now_row p0_now_row i6_15 r_79 hq) k_X11_isCrease q489 [0, 1, 2] rfl ⟨0, 7, _, _, rfl, rfl, rfl⟩ rfl rfl (Nat.le_of_ble_eq_true rfl) ⟨(Nat.le_of_ble_eq_true rfl), (Nat.le_of_ble_eq_true rfl)⟩ ⟨(Nat.zero_le _), (Nat.zero_le _)⟩ dL_holds_348 ?_
                              refine lv_if_eq (tgt := 369) hx hb dL_holds_351 (by decide) (fun c0 => ?_) (fun c0 => ?_)
                              · have hf := (if_pos c0).symm.trans hf
                                refine lv_iconst (v := 1) hx hb dL_holds_369 (by decide) ?_
                                refine lv_goto (tgt := 374) hx hb dL_holds_370 (by decide) ?_
                                have hf : (some (1, p0_trade_coins_77, p0_trade_held_78) : Option (Int32 × Int64 × Int32)) = some (j_58, p0_trade_coins_59, p0_trade_held_60) := hf
                                cases hf
                                exact J374 _ _ hP hD hS ls (lv_sub hl [1, 2, 3, 4, 5, 6, 7] rfl)
                              · have hf := (if_neg c0).symm.trans hf
                                refine lv_aload_n hx hb dL_holds_354 rfl (lv_at hl 1 rfl) ?_
                                refine lv_iload hx hb dL_holds_355 (lv_at hl 7 rfl) ?_
                                obtain ⟨r_80, hq, hf⟩ := bd1_some hf
                                refine rdV (As := [.int i6_15]) (rest := []) hF hG hP hl.1 (c_X11_median l G a_p0 a_p0_trial a_p0_snapshot p0_snapshotTaken a_p0_history a_p0_text a_p0_works a_p0_highs a_p0_trade a_p0_now p0_now_length p0_now_shorter p0_now_longer p0_now_memory p0_now_limit p0_now_seasonDays p0_now_stopped p0_now_stopPart p0_now_stopReason a_p0_now_row p0_now_row i6_15 r_80 hq) k_X11_median q644 [0, 1, 2] rfl ⟨0, 7, _, _, rfl, rfl, rfl⟩ rfl rfl (Nat.le_of_ble_eq_true rfl) ⟨(Nat.le_of_ble_eq_true rfl), (Nat.le_of_ble_eq_true rfl)⟩ ⟨(Nat.zero_le _), (Nat.zero_le _)⟩ dL_holds_357 ?_
                                refine lv_aload_n hx hb dL_holds_360 rfl (lv_at hl 1 rfl) ?_
                                refine lv_iload hx hb dL_holds_361 (lv_at hl 7 rfl) ?_
                                obtain ⟨r_81, hq, hf⟩ := bd1_some hf
                                refine rdV (As := [.int i6_15]) (rest := [.int r_80]) hF hG hP hl.1 (c_X11_priceOf l G a_p0 a_p0_trial a_p0_snapshot p0_snapshotTaken a_p0_history a_p0_text a_p0_works a_p0_highs a_p0_trade a_p0_now p0_now_length p0_now_shorter p0_now_longer p0_now_memory p0_now_limit p0_now_seasonDays p0_now_stopped p0_now_stopPart p0_now_stopReason a_p0_now_row p0_now_row i6_15 r_81 hq) k_X11_priceOf q375 [0, 1, 2] rfl ⟨0, 7, _, _, rfl, rfl, rfl⟩ rfl rfl (Nat.le_of_ble_eq_true rfl) ⟨(Nat.le_of_ble_eq_true rfl), (Nat.le_of_ble_eq_true rfl)⟩ ⟨(Nat.zero_le _), (Nat.zero_le _)⟩ dL_holds_363 ?_
                                refine lv_icmp_eq (tgt := 373) hx hb dL_holds_366 (by decide) (fun c0 => ?_) (fun c0 => ?_)
                                · have hf := (if_pos c0).symm.trans hf
                                  refine lv_iconst (v := 0) hx hb dL_holds_373 (by decide) ?_
                                  have hf : (some (0, p0_trade_coins_77, p0_trade_held_78) : Option (Int32 × Int64 × Int32)) = some (j_58, p0_trade_coins_59, p0_trade_held_60) := hf
                                  cases hf
                                  exact J374 _ _ hP hD hS ls (lv_sub hl [1, 2, 3, 4, 5, 6, 7] rfl)
                                · have hf := (if_neg c0).symm.trans hf
                                  refine lv_iconst (v := 1) hx hb dL_holds_369 (by decide) ?_
                                  refine lv_goto (tgt := 374) hx hb dL_holds_370 (by decide) ?_
                                  have hf : (some (1, p0_trade_coins_77, p0_trade_held_78) : Option (Int32 × Int64 × Int32)) = some (j_58, p0_trade_coins_59, p0_trade_held_60) := hf
                                  cases hf
                                  exact J374 _ _ hP hD hS ls (lv_sub hl [1, 2, 3, 4, 5, 6, 7] rfl)
                  · have hf := (if_neg c0).symm.trans hf
                    refine lv_iload hx hb dL_holds_290 (lv_at hl 8 rfl) ?_
                    refine lv_iload hx hb dL_holds_292 (lv_at hl 9 rfl) ?_
                    refine lv_imul hx hb dL_holds_294 ?_
                    refine lv_if_le (tgt := 373) hx hb dL_holds_295 (by decide) (fun c0 => ?_) (fun c0 => ?_)
                    · have hf := (if_pos c0).symm.trans hf
                      refine lv_iconst (v := 0) hx hb dL_holds_373 (by decide) ?_
                      have hf : (some (0, p0_trade_coins_19, p0_trade_held_20) : Option (Int32 × Int64 × Int32)) = some (j_58, p0_trade_coins_59, p0_trade_held_60) := hf
                      cases hf
                      exact J374 _ _ hP hD hS ls (lv_sub hl [1, 2, 3, 4, 5, 6, 7] rfl)
                    · have hf := (if_neg c0).symm.trans hf
                      refine lv_aload_n hx hb dL_holds_298 rfl (lv_at hl 1 rfl) ?_
                      refine lv_iload hx hb dL_holds_299 (lv_at hl 7 rfl) ?_
                      obtain ⟨r_82, p0_trade_coins_83, p0_trade_held_84, hq, hf⟩ := bd3_some hf
                      refine wrV (As := [.int i6_15]) (rest := []) (wn := [(a_p0, .inr (7, [.ref a_p0_now, .ref a_p0_trial, .ref a_p0_snapshot, .int p0_snapshotTaken, .ref a_p0_history, .ref a_p0_text, .ref a_p0_works, .ref a_p0_highs, .ref a_p0_trade])), (a_p0_now, .inr (2, [.ref a_p0_now_row, .int p0_now_length, .int p0_now_shorter, .int p0_now_longer, .int p0_now_memory, .int p0_now_limit, .int p0_now_seasonDays, .int p0_now_stopped, .int p0_now_stopPart, .int p0_now_stopReason])), (a_p0_now_row, .inl (G.2.1, 60, .inl p0_now_row)), (a_p0_highs, .inr (0, [.ref a_p0_highs_candidates, .int p0_highs_front_43, .int p0_highs_end_44])), (a_p0_highs_candidates, .inl (G.2.1, 60, .inl p0_highs_candidates_45)), (a_p0_trade, .inr (5, [.long p0_trade_coins_83, .int p0_trade_held_84]))]) hF hG hP hD hS hA hl.1 (c_X11_pieces l G a_p0 a_p0_trial a_p0_snapshot p0_snapshotTaken a_p0_history a_p0_text a_p0_works a_p0_highs a_p0_now p0_now_length p0_now_shorter p0_now_longer p0_now_memory p0_now_limit p0_now_seasonDays p0_now_stopped p0_now_stopPart p0_now_stopReason a_p0_now_row p0_now_row a_p0_trade p0_trade_coins_19 p0_trade_held_20 i6_15 r_82 p0_trade_coins_83 p0_trade_held_84 hq) k_X11_pieces q614 [0, 1, 2, 5] [3, 4] [2, 3, 4, 0, 1, 5] rfl rfl rfl rfl ⟨rfl, rfl⟩ (by decide) ⟨0, 7, _, _, rfl, rfl, rfl⟩ rfl rfl (Nat.le_of_ble_eq_true rfl) ⟨(Nat.le_of_ble_eq_true rfl), (Nat.le_of_ble_eq_true rfl)⟩ ⟨(Nat.le_of_ble_eq_true rfl), (Nat.le_of_ble_eq_true rfl)⟩ dL_holds_301 (fun H locs hP hD hS => ?_)
                      refine lv_if_lt (tgt := 373) hx hb dL_holds_304 (by decide) (fun c0 => ?_) (fun c0 => ?_)
                      · have hf := (if_pos c0).symm.trans hf
                        refine lv_iconst (v := 0) hx hb dL_holds_373 (by decide) ?_
                        have hf : (some (0, p0_trade_coins_83, p0_trade_held_84) : Option (Int32 × Int64 × Int32)) = some (j_58, p0_trade_coins_59, p0_trade_held_60) := hf
                        cases hf
                        exact J374 _ _ hP hD hS ls (lv_sub hl [1, 2, 3, 4, 5, 6, 7] rfl)
                      · have hf := (if_neg c0).symm.trans hf
                        refine lv_aload_n hx hb dL_holds_307 rfl (lv_at hl 1 rfl) ?_
                        refine lv_iload hx hb dL_holds_308 (lv_at hl 7 rfl) ?_
                        obtain ⟨r_85, p0_trade_coins_86, p0_trade_held_87, hq, hf⟩ := bd3_some hf
                        refine wrV (As := [.int i6_15]) (rest := []) (wn := [(a_p0, .inr (7, [.ref a_p0_now, .ref a_p0_trial, .ref a_p0_snapshot, .int p0_snapshotTaken, .ref a_p0_history, .ref a_p0_text, .ref a_p0_works, .ref a_p0_highs, .ref a_p0_trade])), (a_p0_now, .inr (2, [.ref a_p0_now_row, .int p0_now_length, .int p0_now_shorter, .int p0_now_longer, .int p0_now_memory, .int p0_now_limit, .int p0_now_seasonDays, .int p0_now_stopped, .int p0_now_stopPart, .int p0_now_stopReason])), (a_p0_now_row, .inl (G.2.1, 60, .inl p0_now_row)), (a_p0_highs, .inr (0, [.ref a_p0_highs_candidates, .int p0_highs_front_43, .int p0_highs_end_44])), (a_p0_highs_candidates, .inl (G.2.1, 60, .inl p0_highs_candidates_45)), (a_p0_trade, .inr (5, [.long p0_trade_coins_86, .int p0_trade_held_87]))]) hF hG hP hD hS hA hl.1 (c_X11_pieces l G a_p0 a_p0_trial a_p0_snapshot p0_snapshotTaken a_p0_history a_p0_text a_p0_works a_p0_highs a_p0_now p0_now_length p0_now_shorter p0_now_longer p0_now_memory p0_now_limit p0_now_seasonDays p0_now_stopped p0_now_stopPart p0_now_stopReason a_p0_now_row p0_now_row a_p0_trade p0_trade_coins_83 p0_trade_held_84 i6_15 r_85 p0_trade_coins_86 p0_trade_held_87 hq) k_X11_pieces q614 [0, 1, 2, 5] [3, 4] [2, 3, 4, 0, 1, 5] rfl rfl rfl rfl ⟨rfl, rfl⟩ (by decide) ⟨0, 7, _, _, rfl, rfl, rfl⟩ rfl rfl (Nat.le_of_ble_eq_true rfl) ⟨(Nat.le_of_ble_eq_true rfl), (Nat.le_of_ble_eq_true rfl)⟩ ⟨(Nat.le_of_ble_eq_true rfl), (Nat.le_of_ble_eq_true rfl)⟩ dL_holds_310 (fun H locs hP hD hS => ?_)
                        refine lv_sipush (v := 999) hx hb dL_holds_313 (by decide) ?_
                        refine lv_icmp_gt (tgt := 373) hx hb dL_holds_316 (by decide) (fun c0 => ?_) (fun c0 => ?_)
                        · have hf := (if_pos c0).symm.trans hf
                          refine lv_iconst (v := 0) hx hb dL_holds_373 (by decide) ?_
                          have hf : (some (0, p0_trade_coins_86, p0_trade_held_87) : Option (Int32 × Int64 × Int32)) = some (j_58, p0_trade_coins_59, p0_trade_held_60) := hf
                          cases hf
                          exact J374 _ _ hP hD hS ls (lv_sub hl [1, 2, 3, 4, 5, 6, 7] rfl)
                        · have hf := (if_neg c0).symm.trans hf
                          refine lv_iload hx hb dL_holds_319 (lv_at hl 8 rfl) ?_
                          refine lv_iconst (v := (-1)) hx hb dL_holds_321 (by decide) ?_
                          refine lv_icmp_ne (tgt := 334) hx hb dL_holds_322 (by decide) (fun c0 => ?_) (fun c0 => ?_)
                          · have hf := (if_neg c0).symm.trans hf
                            refine lv_aload_n hx hb dL_holds_334 rfl (lv_at hl 1 rfl) ?_
                            refine lv_iload hx hb dL_holds_335 (lv_at hl 7 rfl) ?_
                            obtain ⟨r_88, p0_trade_coins_89, p0_trade_held_90, hq, hf⟩ := bd3_some hf
                            refine wrV (As := [.int i6_15]) (rest := []) (wn := [(a_p0, .inr (7, [.ref a_p0_now, .ref a_p0_trial, .ref a_p0_snapshot, .int p0_snapshotTaken, .ref a_p0_history, .ref a_p0_text, .ref a_p0_works, .ref a_p0_highs, .ref a_p0_trade])), (a_p0_now, .inr (2, [.ref a_p0_now_row, .int p0_now_length, .int p0_now_shorter, .int p0_now_longer, .int p0_now_memory, .int p0_now_limit, .int p0_now_seasonDays, .int p0_now_stopped, .int p0_now_stopPart, .int p0_now_stopReason])), (a_p0_now_row, .inl (G.2.1, 60, .inl p0_now_row)), (a_p0_highs, .inr (0, [.ref a_p0_highs_candidates, .int p0_highs_front_43, .int p0_highs_end_44])), (a_p0_highs_candidates, .inl (G.2.1, 60, .inl p0_highs_candidates_45)), (a_p0_trade, .inr (5, [.long p0_trade_coins_89, .int p0_trade_held_90]))]) hF hG hP hD hS hA hl.1 (c_X11_worth l G a_p0 a_p0_trial a_p0_snapshot p0_snapshotTaken a_p0_history a_p0_text a_p0_works a_p0_highs a_p0_now p0_now_length p0_now_shorter p0_now_longer p0_now_memory p0_now_limit p0_now_seasonDays p0_now_stopped p0_now_stopPart p0_now_stopReason a_p0_now_row p0_now_row a_p0_trade p0_trade_coins_86 p0_trade_held_87 i6_15 r_88 p0_trade_coins_89 p0_trade_held_90 hq) k_X11_worth q636 [0, 1, 2, 5] [3, 4] [2, 3, 4, 0, 1, 5] rfl rfl rfl rfl ⟨rfl, rfl⟩ (by decide) ⟨0, 7, _, _, rfl, rfl, rfl⟩ rfl rfl (Nat.le_of_ble_eq_true rfl) ⟨(Nat.le_of_ble_eq_true rfl), (Nat.le_of_ble_eq_true rfl)⟩ ⟨(Nat.le_of_ble_eq_true rfl), (Nat.le_of_ble_eq_true rfl)⟩ dL_holds_337 (fun H locs hP hD hS => ?_)
                            refine lv_lconst (v := 0) hx hb dL_holds_340 (by decide) ?_
                            refine W.lcmp hx hb dL_holds_341 ?_
                            refine lv_if_lt (tgt := 373) hx hb dL_holds_342 (by decide) (fun c0 => ?_) (fun c0 => ?_)
                            · have hf := (if_pos c0).symm.trans hf
                              refine lv_iconst (v := 0) hx hb dL_holds_373 (by decide) ?_
                              have hf : (some (0, p0_trade_coins_89, p0_trade_held_90) : Option (Int32 × Int64 × Int32)) = some (j_58, p0_trade_coins_59, p0_trade_held_60) := hf
                              cases hf
                              exact J374 _ _ hP hD hS ls (lv_sub hl [1, 2, 3, 4, 5, 6, 7] rfl)
                            · have hf := (if_neg c0).symm.trans hf
                              refine lv_aload_n hx hb dL_holds_345 rfl (lv_at hl 1 rfl) ?_
                              refine lv_iload hx hb dL_holds_346 (lv_at hl 7 rfl) ?_
                              obtain ⟨r_91, hq, hf⟩ := bd1_some hf
                              refine rdV (As := [.int i6_15]) (rest := []) hF hG hP hl.1 (c_X11_isCrease l G a_p0 a_p0_trial a_p0_snapshot p0_snapshotTaken a_p0_history a_p0_text a_p0_works a_p0_highs a_p0_trade a_p0_now p0_now_length p0_now_shorter p0_now_longer p0_now_memory p0_now_limit p0_now_seasonDays p0_now_stopped p0_now_stopPart p0_now_stopReason a_p0_now_row p0_now_row i6_15 r_91 hq) k_X11_isCrease q489 [0, 1, 2] rfl ⟨0, 7, _, _, rfl, rfl, rfl⟩ rfl rfl (Nat.le_of_ble_eq_true rfl) ⟨(Nat.le_of_ble_eq_true rfl), (Nat.le_of_ble_eq_true rfl)⟩ ⟨(Nat.zero_le _), (Nat.zero_le _)⟩ dL_holds_348 ?_
                              refine lv_if_eq (tgt := 369) hx hb dL_holds_351 (by decide) (fun c0 => ?_) (fun c0 => ?_)
                              · have hf := (if_pos c0).symm.trans hf
                                refine lv_iconst (v := 1) hx hb dL_holds_369 (by decide) ?_
                                refine lv_goto (tgt := 374) hx hb dL_holds_370 (by decide) ?_
                                have hf : (some (1, p0_trade_coins_89, p0_trade_held_90) : Option (Int32 × Int64 × Int32)) = some (j_58, p0_trade_coins_59, p0_trade_held_60) := hf
                                cases hf
                                exact J374 _ _ hP hD hS ls (lv_sub hl [1, 2, 3, 4, 5, 6, 7] rfl)
                              · have hf := (if_neg c0).symm.trans hf
                                refine lv_aload_n hx hb dL_holds_354 rfl (lv_at hl 1 rfl) ?_
                                refine lv_iload hx hb dL_holds_355 (lv_at hl 7 rfl) ?_
                                obtain ⟨r_92, hq, hf⟩ := bd1_some hf
                                refine rdV (As := [.int i6_15]) (rest := []) hF hG hP hl.1 (c_X11_median l G a_p0 a_p0_trial a_p0_snapshot p0_snapshotTaken a_p0_history a_p0_text a_p0_works a_p0_highs a_p0_trade a_p0_now p0_now_length p0_now_shorter p0_now_longer p0_now_memory p0_now_limit p0_now_seasonDays p0_now_stopped p0_now_stopPart p0_now_stopReason a_p0_now_row p0_now_row i6_15 r_92 hq) k_X11_median q644 [0, 1, 2] rfl ⟨0, 7, _, _, rfl, rfl, rfl⟩ rfl rfl (Nat.le_of_ble_eq_true rfl) ⟨(Nat.le_of_ble_eq_true rfl), (Nat.le_of_ble_eq_true rfl)⟩ ⟨(Nat.zero_le _), (Nat.zero_le _)⟩ dL_holds_357 ?_
                                refine lv_aload_n hx hb dL_holds_360 rfl (lv_at hl 1 rfl) ?_
                                refine lv_iload hx hb dL_holds_361 (lv_at hl 7 rfl) ?_
                                obtain ⟨r_93, hq, hf⟩ := bd1_some hf
                                refine rdV (As := [.int i6_15]) (rest := [.int r_92]) hF hG hP hl.1 (c_X11_priceOf l G a_p0 a_p0_trial a_p0_snapshot p0_snapshotTaken a_p0_history a_p0_text a_p0_works a_p0_highs a_p0_trade a_p0_now p0_now_length p0_now_shorter p0_now_longer p0_now_memory p0_now_limit p0_now_seasonDays p0_now_stopped p0_now_stopPart p0_now_stopReason a_p0_now_row p0_now_row i6_15 r_93 hq) k_X11_priceOf q375 [0, 1, 2] rfl ⟨0, 7, _, _, rfl, rfl, rfl⟩ rfl rfl (Nat.le_of_ble_eq_true rfl) ⟨(Nat.le_of_ble_eq_true rfl), (Nat.le_of_ble_eq_true rfl)⟩ ⟨(Nat.zero_le _), (Nat.zero_le _)⟩ dL_holds_363 ?_
                                refine lv_icmp_eq (tgt := 373) hx hb dL_holds_366 (by decide) (fun c0 => ?_) (fun c0 => ?_)
                                · have hf := (if_pos c0).symm.trans hf
                                  refine lv_iconst (v := 0) hx hb dL_holds_373 (by decide) ?_
                                  have hf : (some (0, p0_trade_coins_89, p0_trade_held_90) : Option (Int32 × Int64 × Int32)) = some (j_58, p0_trade_coins_59, p0_trade_held_60) := hf
                                  cases hf
                                  exact J374 _ _ hP hD hS ls (lv_sub hl [1, 2, 3, 4, 5, 6, 7] rfl)
                                · have hf := (if_neg c0).symm.trans hf
                                  refine lv_iconst (v := 1) hx hb dL_holds_369 (by decide) ?_
                                  refine lv_goto (tgt := 374) hx hb dL_holds_370 (by decide) ?_
                                  have hf : (some (1, p0_trade_coins_89, p0_trade_held_90) : Option (Int32 × Int64 × Int32)) = some (j_58, p0_trade_coins_59, p0_trade_held_60) := hf
                                  cases hf
                                  exact J374 _ _ hP hD hS ls (lv_sub hl [1, 2, 3, 4, 5, 6, 7] rfl)
                          · have hf := (if_pos c0).symm.trans hf
                            refine lv_aload_n hx hb dL_holds_325 rfl (lv_at hl 1 rfl) ?_
                            refine lv_iload hx hb dL_holds_326 (lv_at hl 7 rfl) ?_
                            obtain ⟨r_94, p0_trade_coins_95, p0_trade_held_96, hq, hf⟩ := bd3_some hf
                            refine wrV (As := [.int i6_15]) (rest := []) (wn := [(a_p0, .inr (7, [.ref a_p0_now, .ref a_p0_trial, .ref a_p0_snapshot, .int p0_snapshotTaken, .ref a_p0_history, .ref a_p0_text, .ref a_p0_works, .ref a_p0_highs, .ref a_p0_trade])), (a_p0_now, .inr (2, [.ref a_p0_now_row, .int p0_now_length, .int p0_now_shorter, .int p0_now_longer, .int p0_now_memory, .int p0_now_limit, .int p0_now_seasonDays, .int p0_now_stopped, .int p0_now_stopPart, .int p0_now_stopReason])), (a_p0_now_row, .inl (G.2.1, 60, .inl p0_now_row)), (a_p0_highs, .inr (0, [.ref a_p0_highs_candidates, .int p0_highs_front_43, .int p0_highs_end_44])), (a_p0_highs_candidates, .inl (G.2.1, 60, .inl p0_highs_candidates_45)), (a_p0_trade, .inr (5, [.long p0_trade_coins_95, .int p0_trade_held_96]))]) hF hG hP hD hS hA hl.1 (c_X11_pieces l G a_p0 a_p0_trial a_p0_snapshot p0_snapshotTaken a_p0_history a_p0_text a_p0_works a_p0_highs a_p0_now p0_now_length p0_now_shorter p0_now_longer p0_now_memory p0_now_limit p0_now_seasonDays p0_now_stopped p0_now_stopPart p0_now_stopReason a_p0_now_row p0_now_row a_p0_trade p0_trade_coins_86 p0_trade_held_87 i6_15 r_94 p0_trade_coins_95 p0_trade_held_96 hq) k_X11_pieces q614 [0, 1, 2, 5] [3, 4] [2, 3, 4, 0, 1, 5] rfl rfl rfl rfl ⟨rfl, rfl⟩ (by decide) ⟨0, 7, _, _, rfl, rfl, rfl⟩ rfl rfl (Nat.le_of_ble_eq_true rfl) ⟨(Nat.le_of_ble_eq_true rfl), (Nat.le_of_ble_eq_true rfl)⟩ ⟨(Nat.le_of_ble_eq_true rfl), (Nat.le_of_ble_eq_true rfl)⟩ dL_holds_328 (fun H locs hP hD hS => ?_)
                            refine lv_if_ne (tgt := 373) hx hb dL_holds_331 (by decide) (fun c0 => ?_) (fun c0 => ?_)
                            · have hf := (if_neg c0).symm.trans hf
                              refine lv_iconst (v := 0) hx hb dL_holds_373 (by decide) ?_
                              have hf : (some (0, p0_trade_coins_95, p0_trade_held_96) : Option (Int32 × Int64 × Int32)) = some (j_58, p0_trade_coins_59, p0_trade_held_60) := hf
                              cases hf
                              exact J374 _ _ hP hD hS ls (lv_sub hl [1, 2, 3, 4, 5, 6, 7] rfl)
                            · have hf := (if_pos c0).symm.trans hf
                              refine lv_aload_n hx hb dL_holds_334 rfl (lv_at hl 1 rfl) ?_
                              refine lv_iload hx hb dL_holds_335 (lv_at hl 7 rfl) ?_
                              obtain ⟨r_97, p0_trade_coins_98, p0_trade_held_99, hq, hf⟩ := bd3_some hf
                              refine wrV (As := [.int i6_15]) (rest := []) (wn := [(a_p0, .inr (7, [.ref a_p0_now, .ref a_p0_trial, .ref a_p0_snapshot, .int p0_snapshotTaken, .ref a_p0_history, .ref a_p0_text, .ref a_p0_works, .ref a_p0_highs, .ref a_p0_trade])), (a_p0_now, .inr (2, [.ref a_p0_now_row, .int p0_now_length, .int p0_now_shorter, .int p0_now_longer, .int p0_now_memory, .int p0_now_limit, .int p0_now_seasonDays, .int p0_now_stopped, .int p0_now_stopPart, .int p0_now_stopReason])), (a_p0_now_row, .inl (G.2.1, 60, .inl p0_now_row)), (a_p0_highs, .inr (0, [.ref a_p0_highs_candidates, .int p0_highs_front_43, .int p0_highs_end_44])), (a_p0_highs_candidates, .inl (G.2.1, 60, .inl p0_highs_candidates_45)), (a_p0_trade, .inr (5, [.long p0_trade_coins_98, .int p0_trade_held_99]))]) hF hG hP hD hS hA hl.1 (c_X11_worth l G a_p0 a_p0_trial a_p0_snapshot p0_snapshotTaken a_p0_history a_p0_text a_p0_works a_p0_highs a_p0_now p0_now_length p0_now_shorter p0_now_longer p0_now_memory p0_now_limit p0_now_seasonDays p0_now_stopped p0_now_stopPart p0_now_stopReason a_p0_now_row p0_now_row a_p0_trade p0_trade_coins_95 p0_trade_held_96 i6_15 r_97 p0_trade_coins_98 p0_trade_held_99 hq) k_X11_worth q636 [0, 1, 2, 5] [3, 4] [2, 3, 4, 0, 1, 5] rfl rfl rfl rfl ⟨rfl, rfl⟩ (by decide) ⟨0, 7, _, _, rfl, rfl, rfl⟩ rfl rfl (Nat.le_of_ble_eq_true rfl) ⟨(Nat.le_of_ble_eq_true rfl), (Nat.le_of_ble_eq_true rfl)⟩ ⟨(Nat.le_of_ble_eq_true rfl), (Nat.le_of_ble_eq_true rfl)⟩ dL_holds_337 (fun H locs hP hD hS => ?_)
                              refine lv_lconst (v := 0) hx hb dL_holds_340 (by decide) ?_
                              refine W.lcmp hx hb dL_holds_341 ?_
                              refine lv_if_lt (tgt := 373) hx hb dL_holds_342 (by decide) (fun c0 => ?_) (fun c0 => ?_)
                              · have hf := (if_pos c0).symm.trans hf
                                refine lv_iconst (v := 0) hx hb dL_holds_373 (by decide) ?_
                                have hf : (some (0, p0_trade_coins_98, p0_trade_held_99) : Option (Int32 × Int64 × Int32)) = some (j_58, p0_trade_coins_59, p0_trade_held_60) := hf
                                cases hf
                                exact J374 _ _ hP hD hS ls (lv_sub hl [1, 2, 3, 4, 5, 6, 7] rfl)
                              · have hf := (if_neg c0).symm.trans hf
                                refine lv_aload_n hx hb dL_holds_345 rfl (lv_at hl 1 rfl) ?_
                                refine lv_iload hx hb dL_holds_346 (lv_at hl 7 rfl) ?_
                                obtain ⟨r_100, hq, hf⟩ := bd1_some hf
                                refine rdV (As := [.int i6_15]) (rest := []) hF hG hP hl.1 (c_X11_isCrease l G a_p0 a_p0_trial a_p0_snapshot p0_snapshotTaken a_p0_history a_p0_text a_p0_works a_p0_highs a_p0_trade a_p0_now p0_now_length p0_now_shorter p0_now_longer p0_now_memory p0_now_limit p0_now_seasonDays p0_now_stopped p0_now_stopPart p0_now_stopReason a_p0_now_row p0_now_row i6_15 r_100 hq) k_X11_isCrease q489 [0, 1, 2] rfl ⟨0, 7, _, _, rfl, rfl, rfl⟩ rfl rfl (Nat.le_of_ble_eq_true rfl) ⟨(Nat.le_of_ble_eq_true rfl), (Nat.le_of_ble_eq_true rfl)⟩ ⟨(Nat.zero_le _), (Nat.zero_le _)⟩ dL_holds_348 ?_
                                refine lv_if_eq (tgt := 369) hx hb dL_holds_351 (by decide) (fun c0 => ?_) (fun c0 => ?_)
                                · have hf := (if_pos c0).symm.trans hf
                                  refine lv_iconst (v := 1) hx hb dL_holds_369 (by decide) ?_
                                  refine lv_goto (tgt := 374) hx hb dL_holds_370 (by decide) ?_
                                  have hf : (some (1, p0_trade_coins_98, p0_trade_held_99) : Option (Int32 × Int64 × Int32)) = some (j_58, p0_trade_coins_59, p0_trade_held_60) := hf
                                  cases hf
                                  exact J374 _ _ hP hD hS ls (lv_sub hl [1, 2, 3, 4, 5, 6, 7] rfl)
                                · have hf := (if_neg c0).symm.trans hf
                                  refine lv_aload_n hx hb dL_holds_354 rfl (lv_at hl 1 rfl) ?_
                                  refine lv_iload hx hb dL_holds_355 (lv_at hl 7 rfl) ?_
                                  obtain ⟨r_101, hq, hf⟩ := bd1_some hf
                                  refine rdV (As := [.int i6_15]) (rest := []) hF hG hP hl.1 (c_X11_median l G a_p0 a_p0_trial a_p0_snapshot p0_snapshotTaken a_p0_history a_p0_text a_p0_works a_p0_highs a_p0_trade a_p0_now p0_now_length p0_now_shorter p0_now_longer p0_now_memory p0_now_limit p0_now_seasonDays p0_now_stopped p0_now_stopPart p0_now_stopReason a_p0_now_row p0_now_row i6_15 r_101 hq) k_X11_median q644 [0, 1, 2] rfl ⟨0, 7, _, _, rfl, rfl, rfl⟩ rfl rfl (Nat.le_of_ble_eq_true rfl) ⟨(Nat.le_of_ble_eq_true rfl), (Nat.le_of_ble_eq_true rfl)⟩ ⟨(Nat.zero_le _), (Nat.zero_le _)⟩ dL_holds_357 ?_
                                  refine lv_aload_n hx hb dL_holds_360 rfl (lv_at hl 1 rfl) ?_
                                  refine lv_iload hx hb dL_holds_361 (lv_at hl 7 rfl) ?_
                                  obtain ⟨r_102, hq, hf⟩ := bd1_some hf
                                  refine rdV (As := [.int i6_15]) (rest := [.int r_101]) hF hG hP hl.1 (c_X11_priceOf l G a_p0 a_p0_trial a_p0_snapshot p0_snapshotTaken a_p0_history a_p0_text a_p0_works a_p0_highs a_p0_trade a_p0_now p0_now_length p0_now_shorter p0_now_longer p0_now_memory p0_now_limit p0_now_seasonDays p0_now_stopped p0_now_stopPart p0_now_stopReason a_p0_now_row p0_now_row i6_15 r_102 hq) k_X11_priceOf q375 [0, 1, 2] rfl ⟨0, 7, _, _, rfl, rfl, rfl⟩ rfl rfl (Nat.le_of_ble_eq_true rfl) ⟨(Nat.le_of_ble_eq_true rfl), (Nat.le_of_ble_eq_true rfl)⟩ ⟨(Nat.zero_le _), (Nat.zero_le _)⟩ dL_holds_363 ?_
                                  refine lv_icmp_eq (tgt := 373) hx hb dL_holds_366 (by decide) (fun c0 => ?_) (fun c0 => ?_)
                                  · have hf := (if_pos c0).symm.trans hf
                                    refine lv_iconst (v := 0) hx hb dL_holds_373 (by decide) ?_
                                    have hf : (some (0, p0_trade_coins_98, p0_trade_held_99) : Option (Int32 × Int64 × Int32)) = some (j_58, p0_trade_coins_59, p0_trade_held_60) := hf
                                    cases hf
                                    exact J374 _ _ hP hD hS ls (lv_sub hl [1, 2, 3, 4, 5, 6, 7] rfl)
                                  · have hf := (if_neg c0).symm.trans hf
                                    refine lv_iconst (v := 1) hx hb dL_holds_369 (by decide) ?_
                                    refine lv_goto (tgt := 374) hx hb dL_holds_370 (by decide) ?_
                                    have hf : (some (1, p0_trade_coins_98, p0_trade_held_99) : Option (Int32 × Int64 × Int32)) = some (j_58, p0_trade_coins_59, p0_trade_held_60) := hf
                                    cases hf
                                    exact J374 _ _ hP hD hS ls (lv_sub hl [1, 2, 3, 4, 5, 6, 7] rfl)
              clear hf
              have hf := hq
              clear hq
              refine lv_icmp_ne (tgt := 277) hx hb dL_holds_193 (by decide) (fun c0 => ?_) (fun c0 => ?_)
              · have hf := (if_neg c0).symm.trans hf
                refine lv_iconst (v := 0) hx hb dL_holds_277 (by decide) ?_
                have hf : (some (0, p0_highs_front_16, p0_highs_end_17, p0_highs_candidates_18) : Option (Int32 × Int32 × Int32 × (Nat → Int32))) = some (j_42, p0_highs_front_43, p0_highs_end_44, p0_highs_candidates_45) := hf
                cases hf
                exact J278 _ _ hP hD hS ls (lv_sub hl [2, 3, 4, 5, 1, 6, 7, 9, 0] rfl)
              · have hf := (if_pos c0).symm.trans hf
                refine lv_aload_n hx hb dL_holds_196 rfl (lv_at hl 2 rfl) ?_
                refine lv_iload hx hb dL_holds_197 (lv_at hl 7 rfl) ?_
                refine lv_iconst (v := 1) hx hb dL_holds_199 (by decide) ?_
                obtain ⟨r_46, hq, hf⟩ := bd1_some hf
                refine rdV (As := [.int i6_15, .int 1]) (rest := []) hF hG hP hl.1 (c_X11_mean l G a_p0 a_p0_trial a_p0_snapshot p0_snapshotTaken a_p0_history a_p0_text a_p0_works a_p0_highs a_p0_trade a_p0_now p0_now_length p0_now_shorter p0_now_longer p0_now_memory p0_now_limit p0_now_seasonDays p0_now_stopped p0_now_stopPart p0_now_stopReason a_p0_now_row p0_now_row i6_15 1 r_46 hq) k_X11_mean q563 [0, 1, 2] rfl ⟨0, 7, _, _, rfl, rfl, rfl⟩ rfl rfl (Nat.le_of_ble_eq_true rfl) ⟨(Nat.le_of_ble_eq_true rfl), (Nat.le_of_ble_eq_true rfl)⟩ ⟨(Nat.zero_le _), (Nat.zero_le _)⟩ dL_holds_200 ?_
                refine lv_sipush (v := 1000) hx hb dL_holds_203 (by decide) ?_
                refine lv_aload_n hx hb dL_holds_206 rfl (lv_at hl 2 rfl) ?_
                refine lv_iload hx hb dL_holds_207 (lv_at hl 7 rfl) ?_
                obtain ⟨r_47, hq, hf⟩ := bd1_some hf
                refine rdV (As := [.int i6_15]) (rest := [.int 1000, .int r_46]) hF hG hP hl.1 (c_X11_priceOf l G a_p0 a_p0_trial a_p0_snapshot p0_snapshotTaken a_p0_history a_p0_text a_p0_works a_p0_highs a_p0_trade a_p0_now p0_now_length p0_now_shorter p0_now_longer p0_now_memory p0_now_limit p0_now_seasonDays p0_now_stopped p0_now_stopPart p0_now_stopReason a_p0_now_row p0_now_row i6_15 r_47 hq) k_X11_priceOf q375 [0, 1, 2] rfl ⟨0, 7, _, _, rfl, rfl, rfl⟩ rfl rfl (Nat.le_of_ble_eq_true rfl) ⟨(Nat.le_of_ble_eq_true rfl), (Nat.le_of_ble_eq_true rfl)⟩ ⟨(Nat.zero_le _), (Nat.zero_le _)⟩ dL_holds_209 ?_
                refine lv_imul hx hb dL_holds_212 ?_
                refine lv_icmp_ne (tgt := 277) hx hb dL_holds_213 (by decide) (fun c0 => ?_) (fun c0 => ?_)
                · have hf := (if_neg c0).symm.trans hf
                  refine lv_iconst (v := 0) hx hb dL_holds_277 (by decide) ?_
                  have hf : (some (0, p0_highs_front_16, p0_highs_end_17, p0_highs_candidates_18) : Option (Int32 × Int32 × Int32 × (Nat → Int32))) = some (j_42, p0_highs_front_43, p0_highs_end_44, p0_highs_candidates_45) := hf
                  cases hf
                  exact J278 _ _ hP hD hS ls (lv_sub hl [2, 3, 4, 5, 1, 6, 7, 9, 0] rfl)
                · have hf := (if_pos c0).symm.trans hf
                  refine lv_aload_n hx hb dL_holds_216 rfl (lv_at hl 2 rfl) ?_
                  refine lv_iload hx hb dL_holds_217 (lv_at hl 7 rfl) ?_
                  obtain ⟨r_48, hq, hf⟩ := bd1_some hf
                  refine rdV (As := [.int i6_15]) (rest := []) hF hG hP hl.1 (c_X11_smoothed l G a_p0 a_p0_trial a_p0_snapshot p0_snapshotTaken a_p0_history a_p0_text a_p0_works a_p0_highs a_p0_trade a_p0_now p0_now_length p0_now_shorter p0_now_longer p0_now_memory p0_now_limit p0_now_seasonDays p0_now_stopped p0_now_stopPart p0_now_stopReason a_p0_now_row p0_now_row i6_15 r_48 hq) k_X11_smoothed q404 [0, 1, 2] rfl ⟨0, 7, _, _, rfl, rfl, rfl⟩ rfl rfl (Nat.le_of_ble_eq_true rfl) ⟨(Nat.le_of_ble_eq_true rfl), (Nat.le_of_ble_eq_true rfl)⟩ ⟨(Nat.zero_le _), (Nat.zero_le _)⟩ dL_holds_219 ?_
                  refine lv_aload_n hx hb dL_holds_222 rfl (lv_at hl 2 rfl) ?_
                  refine lv_iload hx hb dL_holds_223 (lv_at hl 7 rfl) ?_
                  obtain ⟨r_49, hq, hf⟩ := bd1_some hf
                  refine rdV (As := [.int i6_15]) (rest := [.int r_48]) hF hG hP hl.1 (c_X11_smoothedBack l G a_p0 a_p0_trial a_p0_snapshot p0_snapshotTaken a_p0_history a_p0_text a_p0_works a_p0_highs a_p0_trade a_p0_now p0_now_length p0_now_shorter p0_now_longer p0_now_memory p0_now_limit p0_now_seasonDays p0_now_stopped p0_now_stopPart p0_now_stopReason a_p0_now_row p0_now_row i6_15 r_49 hq) k_X11_smoothedBack q578 [0, 1, 2] rfl ⟨0, 7, _, _, rfl, rfl, rfl⟩ rfl rfl (Nat.le_of_ble_eq_true rfl) ⟨(Nat.le_of_ble_eq_true rfl), (Nat.le_of_ble_eq_true rfl)⟩ ⟨(Nat.zero_le _), (Nat.zero_le _)⟩ dL_holds_225 ?_
                  refine lv_icmp_ne (tgt := 277) hx hb dL_holds_228 (by decide) (fun c0 => ?_) (fun c0 => ?_)
                  · have hf := (if_neg c0).symm.trans hf
                    refine lv_iconst (v := 0) hx hb dL_holds_277 (by decide) ?_
                    have hf : (some (0, p0_highs_front_16, p0_highs_end_17, p0_highs_candidates_18) : Option (Int32 × Int32 × Int32 × (Nat → Int32))) = some (j_42, p0_highs_front_43, p0_highs_end_44, p0_highs_candidates_45) := hf
                    cases hf
                    exact J278 _ _ hP hD hS ls (lv_sub hl [2, 3, 4, 5, 1, 6, 7, 9, 0] rfl)
                  · have hf := (if_pos c0).symm.trans hf
                    refine lv_aload_n hx hb dL_holds_231 rfl (lv_at hl 2 rfl) ?_
                    refine lv_iload hx hb dL_holds_232 (lv_at hl 7 rfl) ?_
                    obtain ⟨r_50, hq, hf⟩ := bd1_some hf
                    refine rdV (As := [.int i6_15]) (rest := []) hF hG hP hl.1 (c_X11_smoothed l G a_p0 a_p0_trial a_p0_snapshot p0_snapshotTaken a_p0_history a_p0_text a_p0_works a_p0_highs a_p0_trade a_p0_now p0_now_length p0_now_shorter p0_now_longer p0_now_memory p0_now_limit p0_now_seasonDays p0_now_stopped p0_now_stopPart p0_now_stopReason a_p0_now_row p0_now_row i6_15 r_50 hq) k_X11_smoothed q404 [0, 1, 2] rfl ⟨0, 7, _, _, rfl, rfl, rfl⟩ rfl rfl (Nat.le_of_ble_eq_true rfl) ⟨(Nat.le_of_ble_eq_true rfl), (Nat.le_of_ble_eq_true rfl)⟩ ⟨(Nat.zero_le _), (Nat.zero_le _)⟩ dL_holds_234 ?_
                    refine lv_sipush (v := 1000) hx hb dL_holds_237 (by decide) ?_
                    refine lv_icmp_lt (tgt := 277) hx hb dL_holds_240 (by decide) (fun c0 => ?_) (fun c0 => ?_)
                    · have hf := (if_pos c0).symm.trans hf
                      refine lv_iconst (v := 0) hx hb dL_holds_277 (by decide) ?_
                      have hf : (some (0, p0_highs_front_16, p0_highs_end_17, p0_highs_candidates_18) : Option (Int32 × Int32 × Int32 × (Nat → Int32))) = some (j_42, p0_highs_front_43, p0_highs_end_44, p0_highs_candidates_45) := hf
                      cases hf
                      exact J278 _ _ hP hD hS ls (lv_sub hl [2, 3, 4, 5, 1, 6, 7, 9, 0] rfl)
                    · have hf := (if_neg c0).symm.trans hf
                      refine lv_aload_n hx hb dL_holds_243 rfl (lv_at hl 2 rfl) ?_
                      refine lv_iload hx hb dL_holds_244 (lv_at hl 7 rfl) ?_
                      obtain ⟨r_51, hq, hf⟩ := bd1_some hf
                      refine rdV (As := [.int i6_15]) (rest := []) hF hG hP hl.1 (c_X11_high l G a_p0 a_p0_trial a_p0_snapshot p0_snapshotTaken a_p0_history a_p0_text a_p0_works a_p0_highs a_p0_trade a_p0_now p0_now_length p0_now_shorter p0_now_longer p0_now_memory p0_now_limit p0_now_seasonDays p0_now_stopped p0_now_stopPart p0_now_stopReason a_p0_now_row p0_now_row i6_15 r_51 hq) k_X11_high q586 [0, 1, 2] rfl ⟨0, 7, _, _, rfl, rfl, rfl⟩ rfl rfl (Nat.le_of_ble_eq_true rfl) ⟨(Nat.le_of_ble_eq_true rfl), (Nat.le_of_ble_eq_true rfl)⟩ ⟨(Nat.zero_le _), (Nat.zero_le _)⟩ dL_holds_246 ?_
                      refine lv_aload_n hx hb dL_holds_249 rfl (lv_at hl 2 rfl) ?_
                      refine lv_iload hx hb dL_holds_250 (lv_at hl 7 rfl) ?_
                      obtain ⟨r_52, p0_highs_front_53, p0_highs_end_54, p0_highs_candidates_55, hq, hf⟩ := bd4_some hf
                      refine wrV (As := [.int i6_15]) (rest := [.int r_51]) (wn := [(a_p0, .inr (7, [.ref a_p0_now, .ref a_p0_trial, .ref a_p0_snapshot, .int p0_snapshotTaken, .ref a_p0_history, .ref a_p0_text, .ref a_p0_works, .ref a_p0_highs, .ref a_p0_trade])), (a_p0_now, .inr (2, [.ref a_p0_now_row, .int p0_now_length, .int p0_now_shorter, .int p0_now_longer, .int p0_now_memory, .int p0_now_limit, .int p0_now_seasonDays, .int p0_now_stopped, .int p0_now_stopPart, .int p0_now_stopReason])), (a_p0_now_row, .inl (G.2.1, 60, .inl p0_now_row)), (a_p0_highs, .inr (0, [.ref a_p0_highs_candidates, .int p0_highs_front_53, .int p0_highs_end_54])), (a_p0_highs_candidates, .inl (G.2.1, 60, .inl p0_highs_candidates_55)), (a_p0_trade, .inr (5, [.long p0_trade_coins_19, .int p0_trade_held_20]))]) hF hG hP hD hS hA hl.1 (c_X11_highByCandidates l G a_p0 a_p0_trial a_p0_snapshot p0_snapshotTaken a_p0_history a_p0_text a_p0_works a_p0_trade a_p0_now p0_now_length p0_now_shorter p0_now_longer p0_now_memory p0_now_limit p0_now_seasonDays p0_now_stopped p0_now_stopPart p0_now_stopReason a_p0_now_row p0_now_row a_p0_highs p0_highs_front_16 p0_highs_end_17 a_p0_highs_candidates p0_highs_candidates_18 i6_15 r_52 p0_highs_front_53 p0_highs_end_54 p0_highs_candidates_55 hq) k_X11_highByCandidates q594 [0, 1, 2, 3, 4] [5] [1, 2, 3, 4, 5, 0] rfl rfl rfl rfl ⟨rfl, rfl⟩ (by decide) ⟨0, 7, _, _, rfl, rfl, rfl⟩ rfl rfl (Nat.le_of_ble_eq_true rfl) ⟨(Nat.le_of_ble_eq_true rfl), (Nat.le_of_ble_eq_true rfl)⟩ ⟨(Nat.le_of_ble_eq_true rfl), (Nat.le_of_ble_eq_true rfl)⟩ dL_holds_252 (fun H locs hP hD hS => ?_)
                      refine lv_icmp_ne (tgt := 277) hx hb dL_holds_255 (by decide) (fun c0 => ?_) (fun c0 => ?_)
                      · have hf := (if_neg c0).symm.trans hf
                        refine lv_iconst (v := 0) hx hb dL_holds_277 (by decide) ?_
                        have hf : (some (0, p0_highs_front_53, p0_highs_end_54, p0_highs_candidates_55) : Option (Int32 × Int32 × Int32 × (Nat → Int32))) = some (j_42, p0_highs_front_43, p0_highs_end_44, p0_highs_candidates_45) := hf
                        cases hf
                        exact J278 _ _ hP hD hS ls (lv_sub hl [2, 3, 4, 5, 1, 6, 7, 9, 0] rfl)
                      · have hf := (if_pos c0).symm.trans hf
                        refine lv_aload_n hx hb dL_holds_258 rfl (lv_at hl 2 rfl) ?_
                        refine lv_iload hx hb dL_holds_259 (lv_at hl 7 rfl) ?_
                        obtain ⟨r_56, hq, hf⟩ := bd1_some hf
                        refine rdV (As := [.int i6_15]) (rest := []) hF hG hP hl.1 (c_X11_high l G a_p0 a_p0_trial a_p0_snapshot p0_snapshotTaken a_p0_history a_p0_text a_p0_works a_p0_highs a_p0_trade a_p0_now p0_now_length p0_now_shorter p0_now_longer p0_now_memory p0_now_limit p0_now_seasonDays p0_now_stopped p0_now_stopPart p0_now_stopReason a_p0_now_row p0_now_row i6_15 r_56 hq) k_X11_high q586 [0, 1, 2] rfl ⟨0, 7, _, _, rfl, rfl, rfl⟩ rfl rfl (Nat.le_of_ble_eq_true rfl) ⟨(Nat.le_of_ble_eq_true rfl), (Nat.le_of_ble_eq_true rfl)⟩ ⟨(Nat.zero_le _), (Nat.zero_le _)⟩ dL_holds_261 ?_
                        refine lv_aload_n hx hb dL_holds_264 rfl (lv_at hl 2 rfl) ?_
                        refine lv_iload hx hb dL_holds_265 (lv_at hl 7 rfl) ?_
                        obtain ⟨r_57, hq, hf⟩ := bd1_some hf
                        refine rdV (As := [.int i6_15]) (rest := [.int r_56]) hF hG hP hl.1 (c_X11_priceOf l G a_p0 a_p0_trial a_p0_snapshot p0_snapshotTaken a_p0_history a_p0_text a_p0_works a_p0_highs a_p0_trade a_p0_now p0_now_length p0_now_shorter p0_now_longer p0_now_memory p0_now_limit p0_now_seasonDays p0_now_stopped p0_now_stopPart p0_now_stopReason a_p0_now_row p0_now_row i6_15 r_57 hq) k_X11_priceOf q375 [0, 1, 2] rfl ⟨0, 7, _, _, rfl, rfl, rfl⟩ rfl rfl (Nat.le_of_ble_eq_true rfl) ⟨(Nat.le_of_ble_eq_true rfl), (Nat.le_of_ble_eq_true rfl)⟩ ⟨(Nat.zero_le _), (Nat.zero_le _)⟩ dL_holds_267 ?_
                        refine lv_icmp_lt (tgt := 277) hx hb dL_holds_270 (by decide) (fun c0 => ?_) (fun c0 => ?_)
                        · have hf := (if_pos c0).symm.trans hf
                          refine lv_iconst (v := 0) hx hb dL_holds_277 (by decide) ?_
                          have hf : (some (0, p0_highs_front_53, p0_highs_end_54, p0_highs_candidates_55) : Option (Int32 × Int32 × Int32 × (Nat → Int32))) = some (j_42, p0_highs_front_43, p0_highs_end_44, p0_highs_candidates_45) := hf
                          cases hf
                          exact J278 _ _ hP hD hS ls (lv_sub hl [2, 3, 4, 5, 1, 6, 7, 9, 0] rfl)
                        · have hf := (if_neg c0).symm.trans hf
                          refine lv_iconst (v := 1) hx hb dL_holds_273 (by decide) ?_
                          refine lv_goto (tgt := 278) hx hb dL_holds_274 (by decide) ?_
                          have hf : (some (1, p0_highs_front_53, p0_highs_end_54, p0_highs_candidates_55) : Option (Int32 × Int32 × Int32 × (Nat → Int32))) = some (j_42, p0_highs_front_43, p0_highs_end_44, p0_highs_candidates_45) := hf
                          cases hf
                          exact J278 _ _ hP hD hS ls (lv_sub hl [2, 3, 4, 5, 1, 6, 7, 9, 0] rfl)
            clear hf
            have hf := hq
            clear hq
            refine lv_if_ne (tgt := 150) hx hb dL_holds_143 (by decide) (fun c0 => ?_) (fun c0 => ?_)
            · have hf := (if_neg c0).symm.trans hf
              refine lv_iconst (v := 1) hx hb dL_holds_150 (by decide) ?_
              have hf : (some 1 : Option (Int32)) = some j_35 := hf
              cases hf
              exact J151 _ _ hP hD hS ls (lv_sub hl [1, 2, 3, 0, 5, 6, 7, 8] rfl)
            · have hf := (if_pos c0).symm.trans hf
              refine lv_iconst (v := 0) hx hb dL_holds_146 (by decide) ?_
              refine lv_goto (tgt := 151) hx hb dL_holds_147 (by decide) ?_
              have hf : (some 0 : Option (Int32)) = some j_35 := hf
              cases hf
              exact J151 _ _ hP hD hS ls (lv_sub hl [1, 2, 3, 0, 5, 6, 7, 8] rfl)
          clear hf
          have hf := hq
          clear hq
          refine lv_if_eq (tgt := 136) hx hb dL_holds_129 (by decide) (fun c0 => ?_) (fun c0 => ?_)
          · have hf := (if_pos c0).symm.trans hf
            refine lv_iconst (v := 0) hx hb dL_holds_136 (by decide) ?_
            have hf : (some 0 : Option (Int32)) = some j_34 := hf
            cases hf
            exact J137 _ _ hP hD hS ls (lv_sub hl [2, 3, 4, 6, 7, 8, 1, 0] rfl)
          · have hf := (if_neg c0).symm.trans hf
            refine lv_iconst (v := 1) hx hb dL_holds_132 (by decide) ?_
            refine lv_goto (tgt := 137) hx hb dL_holds_133 (by decide) ?_
            have hf : (some 1 : Option (Int32)) = some j_34 := hf
            cases hf
            exact J137 _ _ hP hD hS ls (lv_sub hl [2, 3, 4, 6, 7, 8, 1, 0] rfl)
    exact L95 1000 0 0 0 p0_highs_front p0_highs_end p0_highs_candidates p0_trade_coins p0_trade_held hf _ _ hP hD hS ls (lv_sub hl [2, 3, 4, 5, 6, 1, 0] rfl)
  clear hf
  have hf := hq
  clear hq
  refine lv_icmp_ge (tgt := 89) hx hb dL_holds_18 (by decide) (fun c0 => ?_) (fun c0 => ?_)
  · have hf := (if_pos c0).symm.trans hf
    refine lv_iconst (v := 0) hx hb dL_holds_89 (by decide) ?_
    have hf : (some 0 : Option (Int32)) = some j_4 := hf
    cases hf
    exact J90 _ _ hP hD hS ls (lv_sub hl [3, 4, 2, 1, 0] rfl)
  · have hf := (if_neg c0).symm.trans hf
    refine lv_aload_n hx hb dL_holds_21 rfl (lv_at hl 3 rfl) ?_
    obtain ⟨r_5, hq, hf⟩ := bd1_some hf
    refine rdV (As := []) (rest := []) hF hG hP hl.1 (c_X11_greatestFall l G a_p0 a_p0_trial a_p0_snapshot p0_snapshotTaken a_p0_history a_p0_text a_p0_works a_p0_highs a_p0_trade a_p0_now p0_now_length p0_now_shorter p0_now_longer p0_now_memory p0_now_limit p0_now_seasonDays p0_now_stopped p0_now_stopPart p0_now_stopReason a_p0_now_row p0_now_row r_5 hq) k_X11_greatestFall q348 [0, 1, 2] rfl ⟨0, 7, _, _, rfl, rfl, rfl⟩ rfl rfl (Nat.le_of_ble_eq_true rfl) ⟨(Nat.le_of_ble_eq_true rfl), (Nat.le_of_ble_eq_true rfl)⟩ ⟨(Nat.zero_le _), (Nat.zero_le _)⟩ dL_holds_22 ?_
    refine lv_aload_n hx hb dL_holds_25 rfl (lv_at hl 3 rfl) ?_
    obtain ⟨r_6, hq, hf⟩ := bd1_some hf
    refine rdV (As := []) (rest := [.int r_5]) hF hG hP hl.1 (c_X11_greatestFallByPairs l G a_p0 a_p0_trial a_p0_snapshot p0_snapshotTaken a_p0_history a_p0_text a_p0_works a_p0_highs a_p0_trade a_p0_now p0_now_length p0_now_shorter p0_now_longer p0_now_memory p0_now_limit p0_now_seasonDays p0_now_stopped p0_now_stopPart p0_now_stopReason a_p0_now_row p0_now_row r_6 hq) k_X11_greatestFallByPairs q531 [0, 1, 2] rfl ⟨0, 7, _, _, rfl, rfl, rfl⟩ rfl rfl (Nat.le_of_ble_eq_true rfl) ⟨(Nat.le_of_ble_eq_true rfl), (Nat.le_of_ble_eq_true rfl)⟩ ⟨(Nat.zero_le _), (Nat.zero_le _)⟩ dL_holds_26 ?_
    refine lv_icmp_ne (tgt := 89) hx hb dL_holds_29 (by decide) (fun c0 => ?_) (fun c0 => ?_)
    · have hf := (if_neg c0).symm.trans hf
      refine lv_iconst (v := 0) hx hb dL_holds_89 (by decide) ?_
      have hf : (some 0 : Option (Int32)) = some j_4 := hf
      cases hf
      exact J90 _ _ hP hD hS ls (lv_sub hl [3, 4, 2, 1, 0] rfl)
    · have hf := (if_pos c0).symm.trans hf
      refine lv_aload_n hx hb dL_holds_32 rfl (lv_at hl 3 rfl) ?_
      obtain ⟨r_7, hq, hf⟩ := bd1_some hf
      refine rdV (As := []) (rest := []) hF hG hP hl.1 (c_X11_greatestFall l G a_p0 a_p0_trial a_p0_snapshot p0_snapshotTaken a_p0_history a_p0_text a_p0_works a_p0_highs a_p0_trade a_p0_now p0_now_length p0_now_shorter p0_now_longer p0_now_memory p0_now_limit p0_now_seasonDays p0_now_stopped p0_now_stopPart p0_now_stopReason a_p0_now_row p0_now_row r_7 hq) k_X11_greatestFall q348 [0, 1, 2] rfl ⟨0, 7, _, _, rfl, rfl, rfl⟩ rfl rfl (Nat.le_of_ble_eq_true rfl) ⟨(Nat.le_of_ble_eq_true rfl), (Nat.le_of_ble_eq_true rfl)⟩ ⟨(Nat.zero_le _), (Nat.zero_le _)⟩ dL_holds_33 ?_
      refine lv_if_lt (tgt := 89) hx hb dL_holds_36 (by decide) (fun c0 => ?_) (fun c0 => ?_)
      · have hf := (if_pos c0).symm.trans hf
        refine lv_iconst (v := 0) hx hb dL_holds_89 (by decide) ?_
        have hf : (some 0 : Option (Int32)) = some j_4 := hf
        cases hf
        exact J90 _ _ hP hD hS ls (lv_sub hl [3, 4, 2, 1, 0] rfl)
      · have hf := (if_neg c0).symm.trans hf
        refine lv_aload_n hx hb dL_holds_39 rfl (lv_at hl 3 rfl) ?_
        obtain ⟨r_8, hq, hf⟩ := bd1_some hf
        refine rdV (As := []) (rest := []) hF hG hP hl.1 (c_X11_greatestFall l G a_p0 a_p0_trial a_p0_snapshot p0_snapshotTaken a_p0_history a_p0_text a_p0_works a_p0_highs a_p0_trade a_p0_now p0_now_length p0_now_shorter p0_now_longer p0_now_memory p0_now_limit p0_now_seasonDays p0_now_stopped p0_now_stopPart p0_now_stopReason a_p0_now_row p0_now_row r_8 hq) k_X11_greatestFall q348 [0, 1, 2] rfl ⟨0, 7, _, _, rfl, rfl, rfl⟩ rfl rfl (Nat.le_of_ble_eq_true rfl) ⟨(Nat.le_of_ble_eq_true rfl), (Nat.le_of_ble_eq_true rfl)⟩ ⟨(Nat.zero_le _), (Nat.zero_le _)⟩ dL_holds_40 ?_
        refine lv_sipush (v := 9999) hx hb dL_holds_43 (by decide) ?_
        refine lv_icmp_ge (tgt := 89) hx hb dL_holds_46 (by decide) (fun c0 => ?_) (fun c0 => ?_)
        · have hf := (if_pos c0).symm.trans hf
          refine lv_iconst (v := 0) hx hb dL_holds_89 (by decide) ?_
          have hf : (some 0 : Option (Int32)) = some j_4 := hf
          cases hf
          exact J90 _ _ hP hD hS ls (lv_sub hl [3, 4, 2, 1, 0] rfl)
        · have hf := (if_neg c0).symm.trans hf
          refine lv_aload_n hx hb dL_holds_49 rfl (lv_at hl 3 rfl) ?_
          obtain ⟨r_9, hq, hf⟩ := bd1_some hf
          refine rdV (As := []) (rest := []) hF hG hP hl.1 (c_X11_longestRise l G a_p0 a_p0_trial a_p0_snapshot p0_snapshotTaken a_p0_history a_p0_text a_p0_works a_p0_highs a_p0_trade a_p0_now p0_now_length p0_now_shorter p0_now_longer p0_now_memory p0_now_limit p0_now_seasonDays p0_now_stopped p0_now_stopPart p0_now_stopReason a_p0_now_row p0_now_row r_9 hq) k_X11_longestRise q538 [0, 1, 2] rfl ⟨0, 7, _, _, rfl, rfl, rfl⟩ rfl rfl (Nat.le_of_ble_eq_true rfl) ⟨(Nat.le_of_ble_eq_true rfl), (Nat.le_of_ble_eq_true rfl)⟩ ⟨(Nat.zero_le _), (Nat.zero_le _)⟩ dL_holds_50 ?_
          refine lv_iload_n hx hb dL_holds_53 rfl (lv_at hl 2 rfl) ?_
          obtain ⟨j_10, hq, hf⟩ := bd1_some hf
          have J64 : ∀ (H : Heap) (locs : List Loc), va_P G.1 vwCl ([(a_p0, .inr (7, [.ref a_p0_now, .ref a_p0_trial, .ref a_p0_snapshot, .int p0_snapshotTaken, .ref a_p0_history, .ref a_p0_text, .ref a_p0_works, .ref a_p0_highs, .ref a_p0_trade])), (a_p0_now, .inr (2, [.ref a_p0_now_row, .int p0_now_length, .int p0_now_shorter, .int p0_now_longer, .int p0_now_memory, .int p0_now_limit, .int p0_now_seasonDays, .int p0_now_stopped, .int p0_now_stopPart, .int p0_now_stopReason])), (a_p0_now_row, .inl (G.2.1, 60, .inl p0_now_row)), (a_p0_highs, .inr (0, [.ref a_p0_highs_candidates, .int p0_highs_front, .int p0_highs_end])), (a_p0_highs_candidates, .inl (G.2.1, 60, .inl p0_highs_candidates)), (a_p0_trade, .inr (5, [.long p0_trade_coins, .int p0_trade_held]))] : va_W) H → va_D A ([(a_p0, .inr (7, [.ref a_p0_now, .ref a_p0_trial, .ref a_p0_snapshot, .int p0_snapshotTaken, .ref a_p0_history, .ref a_p0_text, .ref a_p0_works, .ref a_p0_highs, .ref a_p0_trade])), (a_p0_now, .inr (2, [.ref a_p0_now_row, .int p0_now_length, .int p0_now_shorter, .int p0_now_longer, .int p0_now_memory, .int p0_now_limit, .int p0_now_seasonDays, .int p0_now_stopped, .int p0_now_stopPart, .int p0_now_stopReason])), (a_p0_now_row, .inl (G.2.1, 60, .inl p0_now_row)), (a_p0_highs, .inr (0, [.ref a_p0_highs_candidates, .int p0_highs_front, .int p0_highs_end])), (a_p0_highs_candidates, .inl (G.2.1, 60, .inl p0_highs_candidates)), (a_p0_trade, .inr (5, [.long p0_trade_coins, .int p0_trade_held]))] : va_W) → va_S A s.heap H locs → ∀ ls : Array Slot, lv_has ls 11 [(0, .ref a_p0), (1, .int x1), (2, .int r_1), (3, .int 0), (4, .int 0)] → W p l e RM_L_holds s m [.ref a_p0, .int x1].toArray below meth c H locs 0 0 (MQ below (wrQ (some (.int rr)) G [(a_p0, .inr (7, [.ref a_p0_now, .ref a_p0_trial, .ref a_p0_snapshot, .int p0_snapshotTaken, .ref a_p0_history, .ref a_p0_text, .ref a_p0_works, .ref a_p0_highs, .ref a_p0_trade])), (a_p0_now, .inr (2, [.ref a_p0_now_row, .int p0_now_length, .int p0_now_shorter, .int p0_now_longer, .int p0_now_memory, .int p0_now_limit, .int p0_now_seasonDays, .int p0_now_stopped, .int p0_now_stopPart, .int p0_now_stopReason])), (a_p0_now_row, .inl (G.2.1, 60, .inl p0_now_row)), (a_p0_highs, .inr (0, [.ref a_p0_highs_candidates, .int w_p0_highs_front, .int w_p0_highs_end])), (a_p0_highs_candidates, .inl (G.2.1, 60, .inl w_p0_highs_candidates)), (a_p0_trade, .inr (5, [.long w_p0_trade_coins, .int w_p0_trade_held]))] A) [.ref a_p0, .int x1].toArray s 0 0 A) (F0 m 64 ls [.int j_10, .int r_9]) := by
            intro H locs hP hD hS ls hl
            refine lv_icmp_gt (tgt := 89) hx hb dL_holds_64 (by decide) (fun c0 => ?_) (fun c0 => ?_)
            · have hf := (if_pos c0).symm.trans hf
              refine lv_iconst (v := 0) hx hb dL_holds_89 (by decide) ?_
              have hf : (some 0 : Option (Int32)) = some j_4 := hf
              cases hf
              exact J90 _ _ hP hD hS ls (lv_sub hl [0, 1, 2, 3, 4] rfl)
            · have hf := (if_neg c0).symm.trans hf
              refine lv_aload_n hx hb dL_holds_67 rfl (lv_at hl 0 rfl) ?_
              obtain ⟨r_11, hq, hf⟩ := bd1_some hf
              refine rdV (As := []) (rest := []) hF hG hP hl.1 (c_X11_smoothShare l G a_p0 a_p0_trial a_p0_snapshot p0_snapshotTaken a_p0_history a_p0_text a_p0_works a_p0_highs a_p0_trade a_p0_now p0_now_length p0_now_shorter p0_now_longer p0_now_memory p0_now_limit p0_now_seasonDays p0_now_stopped p0_now_stopPart p0_now_stopReason a_p0_now_row p0_now_row r_11 hq) k_X11_smoothShare q363 [0, 1, 2] rfl ⟨0, 7, _, _, rfl, rfl, rfl⟩ rfl rfl (Nat.le_of_ble_eq_true rfl) ⟨(Nat.le_of_ble_eq_true rfl), (Nat.le_of_ble_eq_true rfl)⟩ ⟨(Nat.zero_le _), (Nat.zero_le _)⟩ dL_holds_68 ?_
              refine lv_dconst0 hx hb dL_holds_71 ?_
              refine lv_dcmp hx hb dL_holds_72 ?_
              refine lv_if_lt (tgt := 89) hx hb dL_holds_73 (by decide) (fun c0 => ?_) (fun c0 => ?_)
              · have hf := (if_pos c0).symm.trans hf
                refine lv_iconst (v := 0) hx hb dL_holds_89 (by decide) ?_
                have hf : (some 0 : Option (Int32)) = some j_4 := hf
                cases hf
                exact J90 _ _ hP hD hS ls (lv_sub hl [0, 1, 2, 3, 4] rfl)
              · have hf := (if_neg c0).symm.trans hf
                refine lv_aload_n hx hb dL_holds_76 rfl (lv_at hl 0 rfl) ?_
                obtain ⟨r_12, hq, hf⟩ := bd1_some hf
                refine rdV (As := []) (rest := []) hF hG hP hl.1 (c_X11_smoothShare l G a_p0 a_p0_trial a_p0_snapshot p0_snapshotTaken a_p0_history a_p0_text a_p0_works a_p0_highs a_p0_trade a_p0_now p0_now_length p0_now_shorter p0_now_longer p0_now_memory p0_now_limit p0_now_seasonDays p0_now_stopped p0_now_stopPart p0_now_stopReason a_p0_now_row p0_now_row r_12 hq) k_X11_smoothShare q363 [0, 1, 2] rfl ⟨0, 7, _, _, rfl, rfl, rfl⟩ rfl rfl (Nat.le_of_ble_eq_true rfl) ⟨(Nat.le_of_ble_eq_true rfl), (Nat.le_of_ble_eq_true rfl)⟩ ⟨(Nat.zero_le _), (Nat.zero_le _)⟩ dL_holds_77 ?_
                refine lv_dconst1 hx hb dL_holds_80 ?_
                refine lv_dcmp hx hb dL_holds_81 ?_
                refine lv_if_gt (tgt := 89) hx hb dL_holds_82 (by decide) (fun c0 => ?_) (fun c0 => ?_)
                · have hf := (if_pos c0).symm.trans hf
                  refine lv_iconst (v := 0) hx hb dL_holds_89 (by decide) ?_
                  have hf : (some 0 : Option (Int32)) = some j_4 := hf
                  cases hf
                  exact J90 _ _ hP hD hS ls (lv_sub hl [0, 1, 2, 3, 4] rfl)
                · have hf := (if_neg c0).symm.trans hf
                  refine lv_iconst (v := 1) hx hb dL_holds_85 (by decide) ?_
                  refine lv_goto (tgt := 90) hx hb dL_holds_86 (by decide) ?_
                  have hf : (some 1 : Option (Int32)) = some j_4 := hf
                  cases hf
                  exact J90 _ _ hP hD hS ls (lv_sub hl [0, 1, 2, 3, 4] rfl)
          clear hf
          have hf := hq
          clear hq
          refine lv_if_ne (tgt := 61) hx hb dL_holds_54 (by decide) (fun c0 => ?_) (fun c0 => ?_)
          · have hf := (if_neg c0).symm.trans hf
            refine lv_iload_n hx hb dL_holds_61 rfl (lv_at hl 2 rfl) ?_
            refine lv_iconst (v := 1) hx hb dL_holds_62 (by decide) ?_
            refine lv_isub hx hb dL_holds_63 ?_
            have hf : (some (r_1 - 1) : Option (Int32)) = some j_10 := hf
            cases hf
            exact J64 _ _ hP hD hS ls (lv_sub hl [3, 4, 2, 1, 0] rfl)
          · have hf := (if_pos c0).symm.trans hf
            refine lv_iconst (v := 0) hx hb dL_holds_57 (by decide) ?_
            refine lv_goto (tgt := 64) hx hb dL_holds_58 (by decide) ?_
            have hf : (some 0 : Option (Int32)) = some j_10 := hf
            cases hf
            exact J64 _ _ hP hD hS ls (lv_sub hl [3, 4, 2, 1, 0] rfl)
