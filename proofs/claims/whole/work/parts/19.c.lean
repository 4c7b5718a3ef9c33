def f_X11_bestMethod (t_now_length : Int32) (t_now_shorter : Int32) (t_now_longer : Int32) (t_now_memory : Int32) (t_now_seasonDays : Int32) (t_now_row : Nat → Int32) : Option (String × Int32) := bd1 (f_X11_requirePrices t_now_length 2) (fun (e_1 : String) => if e_1 = "" then (bd1 (f_X1_best t_now_length t_now_shorter t_now_longer t_now_memory t_now_seasonDays t_now_row) (fun (r_2 : Int32) => some ("", r_2))) else some (e_1, 0))
theorem k_X11_bestMethod : KV yX11_bestMethod cX11_bestMethod 1 (some .int) 0 := ⟨qc_yX11_bestMethod, q1, ⟨by decide +kernel, by decide +kernel, by decide +kernel⟩, qi_yX11_bestMethod, qs_yX11_bestMethod⟩
abbrev mc_X11_bestMethod : Nat := 1
abbrev ms_X11_bestMethod : Nat := 6
abbrev RM_X11_bestMethod : Room := { frames := 9, cells := 1, slots := 6, locals := 141 }
set_option maxHeartbeats 4000000 in
set_option maxRecDepth 100000 in
theorem c_X11_bestMethod (l : Launch) (G : GP) (a_t : Nat) (a_t_trial : Nat) (a_t_snapshot : Nat) (t_snapshotTaken : Int32) (a_t_history : Nat) (a_t_text : Nat) (a_t_works : Nat) (a_t_highs : Nat) (a_t_trade : Nat) (a_t_now : Nat) (t_now_length : Int32) (t_now_shorter : Int32) (t_now_longer : Int32) (t_now_memory : Int32) (t_now_limit : Int32) (t_now_seasonDays : Int32) (t_now_stopped : Int32) (t_now_stopPart : Int32) (t_now_stopReason : Int32) (a_t_now_row : Nat) (t_now_row : Nat → Int32) (rE : String) (rr : Int32) (hf : f_X11_bestMethod t_now_length t_now_shorter t_now_longer t_now_memory t_now_seasonDays t_now_row = some (rE, rr)) (hst : l.stackTraces = false) : XM l yX11_bestMethod cX11_bestMethod 1 (some .int) 9 141 1 6 G [.ref a_t] [(a_t, .inr (7, [.ref a_t_now, .ref a_t_trial, .ref a_t_snapshot, .int t_snapshotTaken, .ref a_t_history, .ref a_t_text, .ref a_t_works, .ref a_t_highs, .ref a_t_trade])), (a_t_now, .inr (2, [.ref a_t_now_row, .int t_now_length, .int t_now_shorter, .int t_now_longer, .int t_now_memory, .int t_now_limit, .int t_now_seasonDays, .int t_now_stopped, .int t_now_stopPart, .int t_now_stopReason])), (a_t_now_row, .inl (G.2.1, 60, .inl t_now_row))] rE (some (.int rr)) [(a_t, .inr (7, [.ref a_t_now, .ref a_t_trial, .ref a_t_snapshot, .int t_snapshotTaken, .ref a_t_history, .ref a_t_text, .ref a_t_works, .ref a_t_highs, .ref a_t_trade])), (a_t_now, .inr (2, [.ref a_t_now_row, .int t_now_length, .int t_now_shorter, .int t_now_longer, .int t_now_memory, .int t_now_limit, .int t_now_seasonDays, .int t_now_stopped, .int t_now_stopPart, .int t_now_stopReason])), (a_t_now_row, .inl (G.2.1, 60, .inl t_now_row))] := by
  refine XM.ofW (C := RX11) (by decide) rfl (Nat.le_of_ble_eq_true rfl) ?_
  intro p e s m below meth c A hF hr hlk hG hA hP hD hZ hout ls hl
  have hl : lv_has ls 1 [(0, .ref a_t)] := hl
  have hx := hF.1
  have hb := hF.2.1
  have hml := hF.2.2.1
  have hown := hF.2.2.2.1
  have hts := hF.2.2.2.2
  have hS : va_S A s.heap s.heap [] := va_S.rf
  unfold f_X11_bestMethod at hf
  refine lv_aload_n hx hb dX11_bestMethod_0 rfl (lv_at hl 0 rfl) ?_
  refine lv_iconst (v := 2) hx hb dX11_bestMethod_1 (by decide) ?_
  obtain ⟨e_1, hq, hf⟩ := bd1_some hf
  refine xwV (As := [.int 2]) (rest := []) (wn := [(a_t, .inr (7, [.ref a_t_now, .ref a_t_trial, .ref a_t_snapshot, .int t_snapshotTaken, .ref a_t_history, .ref a_t_text, .ref a_t_works, .ref a_t_highs, .ref a_t_trade])), (a_t_now, .inr (2, [.ref a_t_now_row, .int t_now_length, .int t_now_shorter, .int t_now_longer, .int t_now_memory, .int t_now_limit, .int t_now_seasonDays, .int t_now_stopped, .int t_now_stopPart, .int t_now_stopReason])), (a_t_now_row, .inl (G.2.1, 60, .inl t_now_row))]) hF hG hP hD hS hA hZ hl.1 (c_X11_requirePrices l G a_t a_t_trial a_t_snapshot t_snapshotTaken a_t_history a_t_text a_t_works a_t_highs a_t_trade a_t_now a_t_now_row t_now_length t_now_shorter t_now_longer t_now_memory t_now_limit t_now_seasonDays t_now_stopped t_now_stopPart t_now_stopReason 2 e_1 hq hst) k_X11_requirePrices q987 [0, 1] [2] [1, 2, 0] rfl rfl rfl rfl ⟨rfl, rfl⟩ (by decide) ⟨0, 7, _, _, rfl, rfl, rfl⟩ rfl rfl (Nat.le_of_ble_eq_true rfl) ⟨(Nat.le_of_ble_eq_true rfl), (Nat.le_of_ble_eq_true rfl)⟩ ⟨(Nat.le_of_ble_eq_true rfl), (Nat.le_of_ble_eq_true rfl)⟩ dX11_bestMethod_2 (fun hE ce q9 H locs hP hD hS hce hcv hcl => ?_) (fun hE H locs hP hD hS => ?_)
  · have hf := (if_neg hE).symm.trans hf
    have hf : (some (e_1, 0) : Option (String × Int32)) = some (rE, rr) := hf
    cases hf
    exact xo hout hlk hE hP hD hS hce hcv hcl (Nat.le_of_ble_eq_true rfl) (Nat.le_of_ble_eq_true rfl)
  have hf := (if_pos hE).symm.trans hf
  refine lv_aload_n hx hb dX11_bestMethod_5 rfl (lv_at hl 0 rfl) ?_
  refine gf (C := RX11) (T := TX11) (N := 9) (ci := 7) (v := .ref a_t_now) hF hG hP inX11 0 rfl rfl 0 (by decide) q204 rfl rfl dX11_bestMethod_6 ?_
  obtain ⟨r_2, hq, hf⟩ := bd1_some hf
  refine rdSN (As := [.ref a_t_now]) (rest := []) hF hG hP hl.1 (c_X1_best l G a_t_now t_now_length t_now_shorter t_now_longer t_now_memory t_now_limit t_now_seasonDays t_now_stopped t_now_stopPart t_now_stopReason a_t_now_row t_now_row r_2 hq) k_X1_best n552 [1, 2] rfl rfl rfl (Nat.le_of_ble_eq_true rfl) ⟨(Nat.le_of_ble_eq_true rfl), (Nat.le_of_ble_eq_true rfl)⟩ ⟨(Nat.le_of_ble_eq_true rfl), (Nat.le_of_ble_eq_true rfl)⟩ dX11_bestMethod_9 ?_
  have hf : (some ("", r_2) : Option (String × Int32)) = some (rE, rr) := hf
  cases hf
  exact xe_i hF hr hlk hP hD hS (Nat.le_of_ble_eq_true rfl) (Nat.le_of_ble_eq_true rfl) dX11_bestMethod_12 rfl
def f_X11_crossingWith (t_now_length : Int32) (t_now_shorter : Int32) (t_now_longer : Int32) (t_now_memory : Int32) (t_now_limit : Int32) (t_now_seasonDays : Int32) (t_now_stopped : Int32) (t_now_stopPart : Int32) (t_now_stopReason : Int32) (t_now_row : Nat → Int32) (t_trial_length : Int32) (t_trial_shorter : Int32) (t_trial_longer : Int32) (t_trial_memory : Int32) (t_trial_limit : Int32) (t_trial_seasonDays : Int32) (t_trial_stopped : Int32) (t_trial_stopPart : Int32) (t_trial_stopReason : Int32) (t_trial_row : Nat → Int32) (x1 : Int32) : Option (String × Int32 × Int32 × Int32 × Int32 × Int32 × Int32 × Int32 × Int32 × Int32 × Int32 × (Nat → Int32)) := bd1 (f_X11_requireRange x1 1 9999) (fun (e_1 : String) => if e_1 = "" then (bd1 (f_X11_requirePrices t_now_length 1) (fun (e_2 : String) => if e_2 = "" then ((if t_now_length < 60 then bd10 (f_X6_copyFrom t_trial_length t_trial_shorter t_trial_longer t_trial_memory t_trial_limit t_trial_seasonDays t_trial_stopped t_trial_stopPart t_trial_stopReason t_trial_row t_now_length t_now_shorter t_now_longer t_now_memory t_now_limit t_now_seasonDays t_now_stopped t_now_stopPart t_now_stopReason t_now_row) (fun (t_trial_length_3 : Int32) (t_trial_shorter_4 : Int32) (t_trial_longer_5 : Int32) (t_trial_memory_6 : Int32) (t_trial_limit_7 : Int32) (t_trial_seasonDays_8 : Int32) (t_trial_stopped_9 : Int32) (t_trial_stopPart_10 : Int32) (t_trial_stopReason_11 : Int32) (t_trial_row_12 : Nat → Int32) => bd2 (f_X6_add t_trial_length_3 t_trial_row_12 x1) (fun (t_trial_length_13 : Int32) (t_trial_row_14 : Nat → Int32) => bd1 (f_X9_crossingAt t_trial_shorter_4 t_trial_longer_5 t_trial_row_14 (t_trial_length_13 - 1)) (fun (r_15 : Int32) => some ("", r_15, t_trial_length_13, t_trial_shorter_4, t_trial_longer_5, t_trial_memory_6, t_trial_limit_7, t_trial_seasonDays_8, t_trial_stopped_9, t_trial_stopPart_10, t_trial_stopReason_11, t_trial_row_14)))) else some ("java/lang/IllegalStateException", 0, t_trial_length, t_trial_shorter, t_trial_longer, t_trial_memory, t_trial_limit, t_trial_seasonDays, t_trial_stopped, t_trial_stopPart, t_trial_stopReason, t_trial_row))) else some (e_2, 0, t_trial_length, t_trial_shorter, t_trial_longer, t_trial_memory, t_trial_limit, t_trial_seasonDays, t_trial_stopped, t_trial_stopPart, t_trial_stopReason, t_trial_row))) else some (e_1, 0, t_trial_length, t_trial_shorter, t_trial_longer, t_trial_memory, t_trial_limit, t_trial_seasonDays, t_trial_stopped, t_trial_stopPart, t_trial_stopReason, t_trial_row))
theorem k_X11_crossingWith : KV yX11_crossingWith cX11_crossingWith 2 (some .int) 1 := ⟨qc_yX11_crossingWith, q1, ⟨by decide +kernel, by decide +kernel, by decide +kernel⟩, qi_yX11_crossingWith, qs_yX11_crossingWith⟩
abbrev mc_X11_crossingWith : Nat := 3
abbrev ms_X11_crossingWith : Nat := 18
abbrev RM_X11_crossingWith : Room := { frames := 9, cells := 3, slots := 18, locals := 142 }
set_option maxHeartbeats 4000000 in
set_option maxRecDepth 100000 in
theorem c_X11_crossingWith (l : Launch) (G : GP) (a_t : Nat) (a_t_snapshot : Nat) (t_snapshotTaken : Int32) (a_t_history : Nat) (a_t_text : Nat) (a_t_works : Nat) (a_t_highs : Nat) (a_t_trade : Nat) (a_t_now : Nat) (t_now_length : Int32) (t_now_shorter : Int32) (t_now_longer : Int32) (t_now_memory : Int32) (t_now_limit : Int32) (t_now_seasonDays : Int32) (t_now_stopped : Int32) (t_now_stopPart : Int32) (t_now_stopReason : Int32) (a_t_now_row : Nat) (t_now_row : Nat → Int32) (a_t_trial : Nat) (t_trial_length : Int32) (t_trial_shorter : Int32) (t_trial_longer : Int32) (t_trial_memory : Int32) (t_trial_limit : Int32) (t_trial_seasonDays : Int32) (t_trial_stopped : Int32) (t_trial_stopPart : Int32) (t_trial_stopReason : Int32) (a_t_trial_row : Nat) (t_trial_row : Nat → Int32) (x1 : Int32) (rE : String) (rr : Int32) (w_t_trial_length : Int32) (w_t_trial_shorter : Int32) (w_t_trial_longer : Int32) (w_t_trial_memory : Int32) (w_t_trial_limit : Int32) (w_t_trial_seasonDays : Int32) (w_t_trial_stopped : Int32) (w_t_trial_stopPart : Int32) (w_t_trial_stopReason : Int32) (w_t_trial_row : Nat → Int32) (hf : f_X11_crossingWith t_now_length t_now_shorter t_now_longer t_now_memory t_now_limit t_now_seasonDays t_now_stopped t_now_stopPart t_now_stopReason t_now_row t_trial_length t_trial_shorter t_trial_longer t_trial_memory t_trial_limit t_trial_seasonDays t_trial_stopped t_trial_stopPart t_trial_stopReason t_trial_row x1 = some (rE, rr, w_t_trial_length, w_t_trial_shorter, w_t_trial_longer, w_t_trial_memory, w_t_trial_limit, w_t_trial_seasonDays, w_t_trial_stopped, w_t_trial_stopPart, w_t_trial_stopReason, w_t_trial_row)) (hst : l.stackTraces = false) : XM l yX11_crossingWith cX11_crossingWith 2 (some .int) 9 142 3 18 G [.ref a_t, .int x1] [(a_t, .inr (7, [.ref a_t_now, .ref a_t_trial, .ref a_t_snapshot, .int t_snapshotTaken, .ref a_t_history, .ref a_t_text, .ref a_t_works, .ref a_t_highs, .ref a_t_trade])), (a_t_now, .inr (2, [.ref a_t_now_row, .int t_now_length, .int t_now_shorter, .int t_now_longer, .int t_now_memory, .int t_now_limit, .int t_now_seasonDays, .int t_now_stopped, .int t_now_stopPart, .int t_now_stopReason])), (a_t_now_row, .inl (G.2.1, 60, .inl t_now_row)), (a_t_trial, .inr (2, [.ref a_t_trial_row, .int t_trial_length, .int t_trial_shorter, .int t_trial_longer, .int t_trial_memory, .int t_trial_limit, .int t_trial_seasonDays, .int t_trial_stopped, .int t_trial_stopPart, .int t_trial_stopReason])), (a_t_trial_row, .inl (G.2.1, 60, .inl t_trial_row))] rE (some (.int rr)) [(a_t, .inr (7, [.ref a_t_now, .ref a_t_trial, .ref a_t_snapshot, .int t_snapshotTaken, .ref a_t_history, .ref a_t_text, .ref a_t_works, .ref a_t_highs, .ref a_t_trade])), (a_t_now, .inr (2, [.ref a_t_now_row, .int t_now_length, .int t_now_shorter, .int t_now_longer, .int t_now_memory, .int t_now_limit, .int t_now_seasonDays, .int t_now_stopped, .int t_now_stopPart, .int t_now_stopReason])), (a_t_now_row, .inl (G.2.1, 60, .inl t_now_row)), (a_t_trial, .inr (2, [.ref a_t_trial_row, .int w_t_trial_length, .int w_t_trial_shorter, .int w_t_trial_longer, .int w_t_trial_memory, .int w_t_trial_limit, .int w_t_trial_seasonDays, .int w_t_trial_stopped, .int w_t_trial_stopPart, .int w_t_trial_stopReason])), (a_t_trial_row, .inl (G.2.1, 60, .inl w_t_trial_row))] := by
  refine XM.ofW (C := RX11) (by decide) rfl (Nat.le_of_ble_eq_true rfl) ?_
  intro p e s m below meth c A hF hr hlk hG hA hP hD hZ hout ls hl
  have hl : lv_has ls 2 [(0, .ref a_t), (1, .int x1)] := hl
  have hx := hF.1
  have hb := hF.2.1
  have hml := hF.2.2.1
  have hown := hF.2.2.2.1
  have hts := hF.2.2.2.2
  have hS : va_S A s.heap s.heap [] := va_S.rf
  unfold f_X11_crossingWith at hf
  refine lv_iload_n hx hb dX11_crossingWith_0 rfl (lv_at hl 1 rfl) ?_
  refine lv_iconst (v := 1) hx hb dX11_crossingWith_1 (by decide) ?_
  refine lv_sipush (v := 9999) hx hb dX11_crossingWith_2 (by decide) ?_
  obtain ⟨e_1, hq, hf⟩ := bd1_some hf
  refine xwS (As := [.int x1, .int 1, .int 9999]) (rest := []) (wn := [(a_t, .inr (7, [.ref a_t_now, .ref a_t_trial, .ref a_t_snapshot, .int t_snapshotTaken, .ref a_t_history, .ref a_t_text, .ref a_t_works, .ref a_t_highs, .ref a_t_trade])), (a_t_now, .inr (2, [.ref a_t_now_row, .int t_now_length, .int t_now_shorter, .int t_now_longer, .int t_now_memory, .int t_now_limit, .int t_now_seasonDays, .int t_now_stopped, .int t_now_stopPart, .int t_now_stopReason])), (a_t_now_row, .inl (G.2.1, 60, .inl t_now_row)), (a_t_trial, .inr (2, [.ref a_t_trial_row, .int t_trial_length, .int t_trial_shorter, .int t_trial_longer, .int t_trial_memory, .int t_trial_limit, .int t_trial_seasonDays, .int t_trial_stopped, .int t_trial_stopPart, .int t_trial_stopReason])), (a_t_trial_row, .inl (G.2.1, 60, .inl t_trial_row))]) hF hG hP hD hS hA hZ hl.1 (c_X11_requireRange l G x1 1 9999 e_1 hq hst) k_X11_requireRange q581 [] [0, 1, 2, 3, 4] [0, 1, 2, 3, 4] rfl rfl rfl rfl ⟨rfl, rfl⟩ (by decide) rfl rfl (Nat.le_of_ble_eq_true rfl) ⟨(Nat.le_of_ble_eq_true rfl), (Nat.le_of_ble_eq_true rfl)⟩ ⟨(Nat.le_of_ble_eq_true rfl), (Nat.le_of_ble_eq_true rfl)⟩ dX11_crossingWith_5 (fun hE ce q9 H locs hP hD hS hce hcv hcl => ?_) (fun hE H locs hP hD hS => ?_)
  · have hf := (if_neg hE).symm.trans hf
    have hf : (some (e_1, 0, t_trial_length, t_trial_shorter, t_trial_longer, t_trial_memory, t_trial_limit, t_trial_seasonDays, t_trial_stopped, t_trial_stopPart, t_trial_stopReason, t_trial_row) : Option (String × Int32 × Int32 × Int32 × Int32 × Int32 × Int32 × Int32 × Int32 × Int32 × Int32 × (Nat → Int32))) = some (rE, rr, w_t_trial_length, w_t_trial_shorter, w_t_trial_longer, w_t_trial_memory, w_t_trial_limit, w_t_trial_seasonDays, w_t_trial_stopped, w_t_trial_stopPart, w_t_trial_stopReason, w_t_trial_row) := hf
    cases hf
    exact xo hout hlk hE hP hD hS hce hcv hcl (Nat.le_of_ble_eq_true rfl) (Nat.le_of_ble_eq_true rfl)
  have hf := (if_pos hE).symm.trans hf
  refine lv_aload_n hx hb dX11_crossingWith_8 rfl (lv_at hl 0 rfl) ?_
  refine lv_iconst (v := 1) hx hb dX11_crossingWith_9 (by decide) ?_
  obtain ⟨e_2, hq, hf⟩ := bd1_some hf
  refine xwV (As := [.int 1]) (rest := []) (wn := [(a_t, .inr (7, [.ref a_t_now, .ref a_t_trial, .ref a_t_snapshot, .int t_snapshotTaken, .ref a_t_history, .ref a_t_text, .ref a_t_works, .ref a_t_highs, .ref a_t_trade])), (a_t_now, .inr (2, [.ref a_t_now_row, .int t_now_length, .int t_now_shorter, .int t_now_longer, .int t_now_memory, .int t_now_limit, .int t_now_seasonDays, .int t_now_stopped, .int t_now_stopPart, .int t_now_stopReason])), (a_t_now_row, .inl (G.2.1, 60, .inl t_now_row)), (a_t_trial, .inr (2, [.ref a_t_trial_row, .int t_trial_length, .int t_trial_shorter, .int t_trial_longer, .int t_trial_memory, .int t_trial_limit, .int t_trial_seasonDays, .int t_trial_stopped, .int t_trial_stopPart, .int t_trial_stopReason])), (a_t_trial_row, .inl (G.2.1, 60, .inl t_trial_row))]) hF hG hP hD hS hA hZ hl.1 (c_X11_requirePrices l G a_t a_t_trial a_t_snapshot t_snapshotTaken a_t_history a_t_text a_t_works a_t_highs a_t_trade a_t_now a_t_now_row t_now_length t_now_shorter t_now_longer t_now_memory t_now_limit t_now_seasonDays t_now_stopped t_now_stopPart t_now_stopReason 1 e_2 hq hst) k_X11_requirePrices q987 [0, 1] [2, 3, 4] [3, 4, 0, 1, 2] rfl rfl rfl rfl ⟨rfl, rfl⟩ (by decide) ⟨0, 7, _, _, rfl, rfl, rfl⟩ rfl rfl (Nat.le_of_ble_eq_true rfl) ⟨(Nat.le_of_ble_eq_true rfl), (Nat.le_of_ble_eq_true rfl)⟩ ⟨(Nat.le_of_ble_eq_true rfl), (Nat.le_of_ble_eq_true rfl)⟩ dX11_crossingWith_10 (fun hE ce q9 H locs hP hD hS hce hcv hcl => ?_) (fun hE H locs hP hD hS => ?_)
  · have hf := (if_neg hE).symm.trans hf
    have hf : (some (e_2, 0, t_trial_length, t_trial_shorter, t_trial_longer, t_trial_memory, t_trial_limit, t_trial_seasonDays, t_trial_stopped, t_trial_stopPart, t_trial_stopReason, t_trial_row) : Option (String × Int32 × Int32 × Int32 × Int32 × Int32 × Int32 × Int32 × Int32 × Int32 × Int32 × (Nat → Int32))) = some (rE, rr, w_t_trial_length, w_t_trial_shorter, w_t_trial_longer, w_t_trial_memory, w_t_trial_limit, w_t_trial_seasonDays, w_t_trial_stopped, w_t_trial_stopPart, w_t_trial_stopReason, w_t_trial_row) := hf
    cases hf
    exact xo hout hlk hE hP hD hS hce hcv hcl (Nat.le_of_ble_eq_true rfl) (Nat.le_of_ble_eq_true rfl)
  have hf := (if_pos hE).symm.trans hf
  refine lv_aload_n hx hb dX11_crossingWith_13 rfl (lv_at hl 0 rfl) ?_
  refine gf (C := RX11) (T := TX11) (N := 9) (ci := 7) (v := .ref a_t_now) hF hG hP inX11 0 rfl rfl 0 (by decide) q204 rfl rfl dX11_crossingWith_14 ?_
  refine gfN (C := RX6) (T := TX6) (N := 10) (ci := 2) (v := .int t_now_length) hF hG hP inX6 1 rfl rfl 1 (by decide) n39 rfl rfl dX11_crossingWith_17 ?_
  refine lv_bipush (v := 60) hx hb dX11_crossingWith_20 (by decide) ?_
  refine lv_icmp_lt (tgt := 36) hx hb dX11_crossingWith_22 (by decide) (fun c0 => ?_) (fun c0 => ?_)
  · have hf := (if_pos c0).symm.trans hf
    refine lv_aload_n hx hb dX11_crossingWith_36 rfl (lv_at hl 0 rfl) ?_
    refine gf (C := RX11) (T := TX11) (N := 9) (ci := 7) (v := .ref a_t_trial) hF hG hP inX11 0 rfl rfl 1 (by decide) q205 rfl rfl dX11_crossingWith_37 ?_
    refine lv_aload_n hx hb dX11_crossingWith_40 rfl (lv_at hl 0 rfl) ?_
    refine gf (C := RX11) (T := TX11) (N := 9) (ci := 7) (v := .ref a_t_now) hF hG hP inX11 0 rfl rfl 0 (by decide) q204 rfl rfl dX11_crossingWith_41 ?_
    obtain ⟨t_trial_length_3, t_trial_shorter_4, t_trial_longer_5, t_trial_memory_6, t_trial_limit_7, t_trial_seasonDays_8, t_trial_stopped_9, t_trial_stopPart_10, t_trial_stopReason_11, t_trial_row_12, hq, hf⟩ := bd10_some hf
    refine wrVN (As := [.ref a_t_now]) (rest := []) (wn := [(a_t, .inr (7, [.ref a_t_now, .ref a_t_trial, .ref a_t_snapshot, .int t_snapshotTaken, .ref a_t_history, .ref a_t_text, .ref a_t_works, .ref a_t_highs, .ref a_t_trade])), (a_t_now, .inr (2, [.ref a_t_now_row, .int t_now_length, .int t_now_shorter, .int t_now_longer, .int t_now_memory, .int t_now_limit, .int t_now_seasonDays, .int t_now_stopped, .int t_now_stopPart, .int t_now_stopReason])), (a_t_now_row, .inl (G.2.1, 60, .inl t_now_row)), (a_t_trial, .inr (2, [.ref a_t_trial_row, .int t_trial_length_3, .int t_trial_shorter_4, .int t_trial_longer_5, .int t_trial_memory_6, .int t_trial_limit_7, .int t_trial_seasonDays_8, .int t_trial_stopped_9, .int t_trial_stopPart_10, .int t_trial_stopReason_11])), (a_t_trial_row, .inl (G.2.1, 60, .inl t_trial_row_12))]) hF hG hP hD hS hA hl.1 (c_X6_copyFrom l G a_t_trial t_trial_length t_trial_shorter t_trial_longer t_trial_memory t_trial_limit t_trial_seasonDays t_trial_stopped t_trial_stopPart t_trial_stopReason a_t_trial_row t_trial_row a_t_now t_now_length t_now_shorter t_now_longer t_now_memory t_now_limit t_now_seasonDays t_now_stopped t_now_stopPart t_now_stopReason a_t_now_row t_now_row t_trial_length_3 t_trial_shorter_4 t_trial_longer_5 t_trial_memory_6 t_trial_limit_7 t_trial_seasonDays_8 t_trial_stopped_9 t_trial_stopPart_10 t_trial_stopReason_11 t_trial_row_12 hq) k_X6_copyFrom n346 [3, 4, 1, 2] [0] [0, 3, 4, 1, 2] rfl rfl rfl rfl ⟨rfl, rfl⟩ (by decide) ⟨3, 2, _, _, rfl, rfl, rfl⟩ rfl rfl (Nat.le_of_ble_eq_true rfl) ⟨(Nat.le_of_ble_eq_true rfl), (Nat.le_of_ble_eq_true rfl)⟩ ⟨(Nat.le_of_ble_eq_true rfl), (Nat.le_of_ble_eq_true rfl)⟩ dX11_crossingWith_44 (fun H locs hP hD hS => ?_)
    refine lv_aload_n hx hb dX11_crossingWith_47 rfl (lv_at hl 0 rfl) ?_
    refine gf (C := RX11) (T := TX11) (N := 9) (ci := 7) (v := .ref a_t_trial) hF hG hP inX11 0 rfl rfl 1 (by decide) q205 rfl rfl dX11_crossingWith_48 ?_
    refine lv_iload_n hx hb dX11_crossingWith_51 rfl (lv_at hl 1 rfl) ?_
    obtain ⟨t_trial_length_13, t_trial_row_14, hq, hf⟩ := bd2_some hf
    refine wrVN (As := [.int x1]) (rest := []) (wn := [(a_t, .inr (7, [.ref a_t_now, .ref a_t_trial, .ref a_t_snapshot, .int t_snapshotTaken, .ref a_t_history, .ref a_t_text, .ref a_t_works, .ref a_t_highs, .ref a_t_trade])), (a_t_now, .inr (2, [.ref a_t_now_row, .int t_now_length, .int t_now_shorter, .int t_now_longer, .int t_now_memory, .int t_now_limit, .int t_now_seasonDays, .int t_now_stopped, .int t_now_stopPart, .int t_now_stopReason])), (a_t_now_row, .inl (G.2.1, 60, .inl t_now_row)), (a_t_trial, .inr (2, [.ref a_t_trial_row, .int t_trial_length_13, .int t_trial_shorter_4, .int t_trial_longer_5, .int t_trial_memory_6, .int t_trial_limit_7, .int t_trial_seasonDays_8, .int t_trial_stopped_9, .int t_trial_stopPart_10, .int t_trial_stopReason_11])), (a_t_trial_row, .inl (G.2.1, 60, .inl t_trial_row_14))]) hF hG hP hD hS hA hl.1 (c_X6_add l G a_t_trial t_trial_length_3 t_trial_shorter_4 t_trial_longer_5 t_trial_memory_6 t_trial_limit_7 t_trial_seasonDays_8 t_trial_stopped_9 t_trial_stopPart_10 t_trial_stopReason_11 a_t_trial_row t_trial_row_12 x1 t_trial_length_13 t_trial_row_14 hq) k_X6_add n668 [3, 4] [0, 1, 2] [0, 1, 2, 3, 4] rfl rfl rfl rfl ⟨rfl, rfl⟩ (by decide) ⟨3, 2, _, _, rfl, rfl, rfl⟩ rfl rfl (Nat.le_of_ble_eq_true rfl) ⟨(Nat.le_of_ble_eq_true rfl), (Nat.le_of_ble_eq_true rfl)⟩ ⟨(Nat.le_of_ble_eq_true rfl), (Nat.le_of_ble_eq_true rfl)⟩ dX11_crossingWith_52 (fun H locs hP hD hS => ?_)
    refine lv_aload_n hx hb dX11_crossingWith_55 rfl (lv_at hl 0 rfl) ?_
    refine gf (C := RX11) (T := TX11) (N := 9) (ci := 7) (v := .ref a_t_trial) hF hG hP inX11 0 rfl rfl 1 (by decide) q205 rfl rfl dX11_crossingWith_56 ?_
    refine lv_aload_n hx hb dX11_crossingWith_59 rfl (lv_at hl 0 rfl) ?_
    refine gf (C := RX11) (T := TX11) (N := 9) (ci := 7) (v := .ref a_t_trial) hF hG hP inX11 0 rfl rfl 1 (by decide) q205 rfl rfl dX11_crossingWith_60 ?_
    refine gfN (C := RX6) (T := TX6) (N := 10) (ci := 2) (v := .int t_trial_length_13) hF hG hP inX6 3 rfl rfl 1 (by decide) n39 rfl rfl dX11_crossingWith_63 ?_
    refine lv_iconst (v := 1) hx hb dX11_crossingWith_66 (by decide) ?_
    refine lv_isub hx hb dX11_crossingWith_67 ?_
    obtain ⟨r_15, hq, hf⟩ := bd1_some hf
    refine rdSN (As := [.ref a_t_trial, .int (t_trial_length_13 - 1)]) (rest := []) hF hG hP hl.1 (c_X9_crossingAt l G a_t_trial t_trial_length_13 t_trial_shorter_4 t_trial_longer_5 t_trial_memory_6 t_trial_limit_7 t_trial_seasonDays_8 t_trial_stopped_9 t_trial_stopPart_10 t_trial_stopReason_11 a_t_trial_row t_trial_row_14 (t_trial_length_13 - 1) r_15 hq) k_X9_crossingAt n493 [3, 4] rfl rfl rfl (Nat.le_of_ble_eq_true rfl) ⟨(Nat.le_of_ble_eq_true rfl), (Nat.le_of_ble_eq_true rfl)⟩ ⟨(Nat.le_of_ble_eq_true rfl), (Nat.le_of_ble_eq_true rfl)⟩ dX11_crossingWith_68 ?_
    have hf : (some ("", r_15, t_trial_length_13, t_trial_shorter_4, t_trial_longer_5, t_trial_memory_6, t_trial_limit_7, t_trial_seasonDays_8, t_trial_stopped_9, t_trial_stopPart_10, t_trial_stopReason_11, t_trial_row_14) : Option (String × Int32 × Int32 × Int32 × Int32 × Int32 × Int32 × Int32 × Int32 × Int32 × Int32 × (Nat → Int32))) = some (rE, rr, w_t_trial_length, w_t_trial_shorter, w_t_trial_longer, w_t_trial_memory, w_t_trial_limit, w_t_trial_seasonDays, w_t_trial_stopped, w_t_trial_stopPart, w_t_trial_stopReason, w_t_trial_row) := hf
    cases hf
    exact xe_i hF hr hlk hP hD hS (Nat.le_of_ble_eq_true rfl) (Nat.le_of_ble_eq_true rfl) dX11_crossingWith_71 rfl
  · have hf := (if_neg c0).symm.trans hf
    have hf : (some ("java/lang/IllegalStateException", 0, t_trial_length, t_trial_shorter, t_trial_longer, t_trial_memory, t_trial_limit, t_trial_seasonDays, t_trial_stopped, t_trial_stopPart, t_trial_stopReason, t_trial_row) : Option (String × Int32 × Int32 × Int32 × Int32 × Int32 × Int32 × Int32 × Int32 × Int32 × Int32 × (Nat → Int32))) = some (rE, rr, w_t_trial_length, w_t_trial_shorter, w_t_trial_longer, w_t_trial_memory, w_t_trial_limit, w_t_trial_seasonDays, w_t_trial_stopped, w_t_trial_stopPart, w_t_trial_stopReason, w_t_trial_row) := hf
    cases hf
    exact thSW (is := 270) hF hG hst (by decide +kernel) hP hD hS hA hZ hl.1 hout hlk dX11_crossingWith_25 dX11_crossingWith_28 dX11_crossingWith_29 dX11_crossingWith_32 dX11_crossingWith_35 (Nat.le_of_ble_eq_true rfl) (Nat.le_of_ble_eq_true rfl) (Nat.le_of_ble_eq_true rfl) (Nat.le_of_ble_eq_true rfl) (Nat.le_of_ble_eq_true rfl) (Nat.le_of_ble_eq_true rfl)
def f_X12_thrown (t_thrown : Int32) : Option (Int32) := some t_thrown
theorem k_X12_thrown : KV yX12_thrown cX12_thrown 1 (some .int) 0 := ⟨qc_yX12_thrown, q9, ⟨by decide +kernel, by decide +kernel, by decide +kernel⟩, qi_yX12_thrown, qs_yX12_thrown⟩
abbrev RM_X12_thrown : Room := { frames := 0, cells := 0, slots := 0, locals := 0 }
set_option maxHeartbeats 4000000 in
set_option maxRecDepth 100000 in
theorem c_X12_thrown (l : Launch) (G : GP) (a_t : Nat) (t_thrown : Int32) (a_t_s : Nat) (a_t_states : Nat) (t_stateMany : Int32) (a_t_snapshot : Nat) (t_hasSnapshot : Int32) (a_t_text : Nat) (t_length : Int32) (t_at : Int32) (t_isWell : Int32) (a_t_read : Nat) (t_readMany : Int32) (a_t_prices : Nat) (t_priceMany : Int32) (t_pieceMany : Int32) (t_coins : Int64) (rr : Int32) (hf : f_X12_thrown t_thrown = some rr) : RM l yX12_thrown cX12_thrown 1 (some .int) 0 0 G [.ref a_t] [(a_t, .inr (8, [.int t_thrown, .ref a_t_s, .ref a_t_states, .int t_stateMany, .ref a_t_snapshot, .int t_hasSnapshot, .ref a_t_text, .int t_length, .int t_at, .int t_isWell, .ref a_t_read, .int t_readMany, .ref a_t_prices, .int t_priceMany, .int t_pieceMany, .long t_coins]))] (some (.int rr)) := by
  refine RM.ofW (C := RX12) (by decide) rfl (Nat.le_of_ble_eq_true rfl) ?_
  intro p e s m below meth c hF hr hlk hG hP ls hl
  have hl : lv_has ls 1 [(0, .ref a_t)] := hl
  have hx := hF.1
  have hb := hF.2.1
  have hml := hF.2.2.1
  have hown := hF.2.2.2.1
  have hts := hF.2.2.2.2
  unfold f_X12_thrown at hf
  refine lv_aload_n hx hb dX12_thrown_0 rfl (lv_at hl 0 rfl) ?_
  refine gf (C := RX12) (T := TX12) (N := 16) (ci := 8) (v := .int t_thrown) hF hG hP inX12 0 rfl rfl 0 (by decide) q1020 rfl rfl dX12_thrown_1 ?_
  have hf : (some t_thrown : Option (Int32)) = some rr := hf
  cases hf
  exact re_i hF hr hlk dX12_thrown_4 rfl
def f_X12_in (x0 : Int32) (x1 : Int32) (x2 : Int32) : Option (Int32) := (if x0 < x1 then some 0 else (if x2 < x0 then some 0 else some 1))
theorem k_X12_in : KS yX12_in cX12_in 3 (some .boolean) 3 := ⟨qc_yX12_in, q9, ⟨by decide +kernel, by decide +kernel, by decide +kernel⟩, qt_yX12_in⟩
abbrev RM_X12_in : Room := { frames := 0, cells := 0, slots := 0, locals := 0 }
set_option maxHeartbeats 4000000 in
set_option maxRecDepth 100000 in
theorem c_X12_in (l : Launch) (G : GP) (x0 : Int32) (x1 : Int32) (x2 : Int32) (rr : Int32) (hf : f_X12_in x0 x1 x2 = some rr) : RM l yX12_in cX12_in 3 (some .boolean) 0 0 G [.int x0, .int x1, .int x2] [] (some (.int rr)) := by
  refine RM.ofW (C := RX12) (by decide) rfl (Nat.le_of_ble_eq_true rfl) ?_
  intro p e s m below meth c hF hr hlk hG hP ls hl
  have hl : lv_has ls 3 [(0, .int x0), (1, .int x1), (2, .int x2)] := hl
  have hx := hF.1
  have hb := hF.2.1
  have hml := hF.2.2.1
  have hown := hF.2.2.2.1
  have hts := hF.2.2.2.2
  unfold f_X12_in at hf
  refine lv_iload_n hx hb dX12_in_0 rfl (lv_at hl 0 rfl) ?_
  refine lv_iload_n hx hb dX12_in_1 rfl (lv_at hl 1 rfl) ?_
  refine lv_icmp_lt (tgt := 14) hx hb dX12_in_2 (by decide) (fun c0 => ?_) (fun c0 => ?_)
  · have hf := (if_pos c0).symm.trans hf
    refine lv_iconst (v := 0) hx hb dX12_in_14 (by decide) ?_
    have hf : (some 0 : Option (Int32)) = some rr := hf
    cases hf
    exact re_z hF hr hlk dX12_in_15 rfl rfl
  · have hf := (if_neg c0).symm.trans hf
    refine lv_iload_n hx hb dX12_in_5 rfl (lv_at hl 0 rfl) ?_
    refine lv_iload_n hx hb dX12_in_6 rfl (lv_at hl 2 rfl) ?_
    refine lv_icmp_gt (tgt := 14) hx hb dX12_in_7 (by decide) (fun c0 => ?_) (fun c0 => ?_)
    · have hf := (if_pos c0).symm.trans hf
      refine lv_iconst (v := 0) hx hb dX12_in_14 (by decide) ?_
      have hf : (some 0 : Option (Int32)) = some rr := hf
      cases hf
      exact re_z hF hr hlk dX12_in_15 rfl rfl
    · have hf := (if_neg c0).symm.trans hf
      refine lv_iconst (v := 1) hx hb dX12_in_10 (by decide) ?_
      refine lv_goto (tgt := 15) hx hb dX12_in_11 (by decide) ?_
      have hf : (some 1 : Option (Int32)) = some rr := hf
      cases hf
      exact re_z hF hr hlk dX12_in_15 rfl rfl
def f_X12_isPrice (x0 : Int32) : Option (Int32) := bd1 (f_X12_in x0 1 9999) (fun (r_1 : Int32) => gd (r_1 &&& 1 = r_1) (some r_1))
theorem k_X12_isPrice : KS yX12_isPrice cX12_isPrice 1 (some .boolean) 1 := ⟨qc_yX12_isPrice, q9, ⟨by decide +kernel, by decide +kernel, by decide +kernel⟩, qt_yX12_isPrice⟩
abbrev RM_X12_isPrice : Room := { frames := 1, cells := 0, slots := 0, locals := 22 }
set_option maxHeartbeats 4000000 in
set_option maxRecDepth 100000 in
theorem c_X12_isPrice (l : Launch) (G : GP) (x0 : Int32) (rr : Int32) (hf : f_X12_isPrice x0 = some rr) : RM l yX12_isPrice cX12_isPrice 1 (some .boolean) 1 22 G [.int x0] [] (some (.int rr)) := by
  refine RM.ofW (C := RX12) (by decide) rfl (Nat.le_of_ble_eq_true rfl) ?_
  intro p e s m below meth c hF hr hlk hG hP ls hl
  have hl : lv_has ls 1 [(0, .int x0)] := hl
  have hx := hF.1
  have hb := hF.2.1
  have hml := hF.2.2.1
  have hown := hF.2.2.2.1
  have hts := hF.2.2.2.2
  unfold f_X12_isPrice at hf
  refine lv_iload_n hx hb dX12_isPrice_0 rfl (lv_at hl 0 rfl) ?_
  refine lv_iconst (v := 1) hx hb dX12_isPrice_1 (by decide) ?_
  refine lv_sipush (v := 9999) hx hb dX12_isPrice_2 (by decide) ?_
  obtain ⟨r_1, hq, hf⟩ := bd1_some hf
  refine rdS (As := [.int x0, .int 1, .int 9999]) (rest := []) hF hG hP hl.1 (c_X12_in l G x0 1 9999 r_1 hq) k_X12_in q1080 [] rfl rfl rfl (Nat.le_of_ble_eq_true rfl) ⟨(Nat.le_of_ble_eq_true rfl), (Nat.le_of_ble_eq_true rfl)⟩ ⟨(Nat.zero_le _), (Nat.zero_le _)⟩ dX12_isPrice_5 ?_
  obtain ⟨hz, hf⟩ := gd_some hf
  have hf : (some r_1 : Option (Int32)) = some rr := hf
  cases hf
  exact re_z hF hr hlk dX12_isPrice_8 hz rfl
def f_X12_fails (t_thrown : Int32) (x1 : Int32) : Option (Int32 × Int32) := some (0, x1)
theorem k_X12_fails : KV yX12_fails cX12_fails 2 (some .int) 1 := ⟨qc_yX12_fails, q9, ⟨by decide +kernel, by decide +kernel, by decide +kernel⟩, qi_yX12_fails, qs_yX12_fails⟩
abbrev RM_X12_fails : Room := { frames := 0, cells := 0, slots := 0, locals := 0 }
set_option maxHeartbeats 4000000 in
set_option maxRecDepth 100000 in
theorem c_X12_fails (l : Launch) (G : GP) (a_t : Nat) (t_thrown : Int32) (a_t_s : Nat) (a_t_states : Nat) (t_stateMany : Int32) (a_t_snapshot : Nat) (t_hasSnapshot : Int32) (a_t_text : Nat) (t_length : Int32) (t_at : Int32) (t_isWell : Int32) (a_t_read : Nat) (t_readMany : Int32) (a_t_prices : Nat) (t_priceMany : Int32) (t_pieceMany : Int32) (t_coins : Int64) (x1 : Int32) (rr : Int32) (w_t_thrown : Int32) (hf : f_X12_fails t_thrown x1 = some (rr, w_t_thrown)) : WM l yX12_fails cX12_fails 2 (some .int) 0 0 G [.ref a_t, .int x1] [(a_t, .inr (8, [.int t_thrown, .ref a_t_s, .ref a_t_states, .int t_stateMany, .ref a_t_snapshot, .int t_hasSnapshot, .ref a_t_text, .int t_length, .int t_at, .int t_isWell, .ref a_t_read, .int t_readMany, .ref a_t_prices, .int t_priceMany, .int t_pieceMany, .long t_coins]))] (some (.int rr)) [(a_t, .inr (8, [.int w_t_thrown, .ref a_t_s, .ref a_t_states, .int t_stateMany, .ref a_t_snapshot, .int t_hasSnapshot, .ref a_t_text, .int t_length, .int t_at, .int t_isWell, .ref a_t_read, .int t_readMany, .ref a_t_prices, .int t_priceMany, .int t_pieceMany, .long t_coins]))] := by
  refine WM.ofW (C := RX12) (by decide) rfl (Nat.le_of_ble_eq_true rfl) ?_
  intro p e s m below meth c A hF hr hlk hG hA hP hD ls hl
  have hl : lv_has ls 2 [(0, .ref a_t), (1, .int x1)] := hl
  have hx := hF.1
  have hb := hF.2.1
  have hml := hF.2.2.1
  have hown := hF.2.2.2.1
  have hts := hF.2.2.2.2
  have hS : va_S A s.heap s.heap [] := va_S.rf
  unfold f_X12_fails at hf
  refine lv_aload_n hx hb dX12_fails_0 rfl (lv_at hl 0 rfl) ?_
  refine lv_iload_n hx hb dX12_fails_1 rfl (lv_at hl 1 rfl) ?_
  refine pf (C := RX12) (T := TX12) (N := 16) (ci := 8) (v := .int x1) (ty := .int) hF hG hP hD hS inX12 tyX12 tyX12_ok nmX12 0 rfl rfl 0 (by decide) q1020 rfl rfl (by decide +kernel) rfl rfl (Nat.le_of_ble_eq_true rfl) dX12_fails_2 (fun H locs hP hD hS => ?_)
  replace hP : va_P G.1 vwCl [(a_t, .inr (8, [.int x1, .ref a_t_s, .ref a_t_states, .int t_stateMany, .ref a_t_snapshot, .int t_hasSnapshot, .ref a_t_text, .int t_length, .int t_at, .int t_isWell, .ref a_t_read, .int t_readMany, .ref a_t_prices, .int t_priceMany, .int t_pieceMany, .long t_coins]))] H := hP
  replace hD : va_D A [(a_t, .inr (8, [.int x1, .ref a_t_s, .ref a_t_states, .int t_stateMany, .ref a_t_snapshot, .int t_hasSnapshot, .ref a_t_text, .int t_length, .int t_at, .int t_isWell, .ref a_t_read, .int t_readMany, .ref a_t_prices, .int t_priceMany, .int t_pieceMany, .long t_coins]))] := hD
  refine lv_iconst (v := 0) hx hb dX12_fails_5 (by decide) ?_
  have hf : (some (0, x1) : Option (Int32 × Int32)) = some (rr, w_t_thrown) := hf
  cases hf
  exact we_i hF hr hlk hP hD hS dX12_fails_6 rfl
def l_X12_records_11 : Nat → Int32 → (Nat → Int32) → Option ((Nat → Int32))
  | 0, _, _ => none
  | n + 1, i1_3, t_states_4 => (if 340 ≤ i1_3 then some t_states_4 else gd (¬ ((i1_3 + 68) < 0 ∨ 408 ≤ Int32.toNatClampNeg (i1_3 + 68))) (gd (¬ (i1_3 < 0 ∨ 408 ≤ Int32.toNatClampNeg i1_3)) (l_X12_records_11 n (i1_3 + 1) (upd t_states_4 (Int32.toNatClampNeg i1_3) (t_states_4 (Int32.toNatClampNeg (i1_3 + 68)))))))
def l_X12_records_51 (t_s : Nat → Int32) (t_stateMany_1 : Int32) : Nat → Int32 → (Nat → Int32) → Option ((Nat → Int32))
  | 0, _, _ => none
  | n + 1, i1_6, t_states_7 => (if 68 ≤ i1_6 then some t_states_7 else gd (¬ (i1_6 < 0 ∨ 68 ≤ Int32.toNatClampNeg i1_6)) (gd (¬ (((68 * t_stateMany_1) + i1_6) < 0 ∨ 408 ≤ Int32.toNatClampNeg ((68 * t_stateMany_1) + i1_6))) (l_X12_records_51 t_s t_stateMany_1 n (i1_6 + 1) (upd t_states_7 (Int32.toNatClampNeg ((68 * t_stateMany_1) + i1_6)) (t_s (Int32.toNatClampNeg i1_6))))))
def f_X12_records (t_stateMany : Int32) (t_s : Nat → Int32) (t_states : Nat → Int32) : Option (Int32 × (Nat → Int32)) := bd2 (if t_stateMany = 6 then bd1 (l_X12_records_11 1000 0 t_states) (fun (t_states_5 : Nat → Int32) => some ((t_stateMany - 1), t_states_5)) else some (t_stateMany, t_states)) (fun (t_stateMany_1 : Int32) (t_states_2 : Nat → Int32) => bd1 (l_X12_records_51 t_s t_stateMany_1 1000 0 t_states_2) (fun (t_states_8 : Nat → Int32) => some ((t_stateMany_1 + 1), t_states_8)))
theorem k_X12_records : KV yX12_records cX12_records 2 none 0 := ⟨qc_yX12_records, q9, ⟨by decide +kernel, by decide +kernel, by decide +kernel⟩, qi_yX12_records, qs_yX12_records⟩
abbrev RM_X12_records : Room := { frames := 0, cells := 0, slots := 0, locals := 0 }
set_option maxHeartbeats 4000000 in
set_option maxRecDepth 100000 in
theorem c_X12_records (l : Launch) (G : GP) (a_t : Nat) (t_thrown : Int32) (t_stateMany : Int32) (a_t_snapshot : Nat) (t_hasSnapshot : Int32) (a_t_text : Nat) (t_length : Int32) (t_at : Int32) (t_isWell : Int32) (a_t_read : Nat) (t_readMany : Int32) (a_t_prices : Nat) (t_priceMany : Int32) (t_pieceMany : Int32) (t_coins : Int64) (a_t_s : Nat) (t_s : Nat → Int32) (a_t_states : Nat) (t_states : Nat → Int32) (w_t_stateMany : Int32) (w_t_states : Nat → Int32) (hf : f_X12_records t_stateMany t_s t_states = some (w_t_stateMany, w_t_states)) : WM l yX12_records cX12_records 2 none 0 0 G [.ref a_t] [(a_t, .inr (8, [.int t_thrown, .ref a_t_s, .ref a_t_states, .int t_stateMany, .ref a_t_snapshot, .int t_hasSnapshot, .ref a_t_text, .int t_length, .int t_at, .int t_isWell, .ref a_t_read, .int t_readMany, .ref a_t_prices, .int t_priceMany, .int t_pieceMany, .long t_coins])), (a_t_s, .inl (G.2.1, 68, .inl t_s)), (a_t_states, .inl (G.2.1, 408, .inl t_states))] none [(a_t, .inr (8, [.int t_thrown, .ref a_t_s, .ref a_t_states, .int w_t_stateMany, .ref a_t_snapshot, .int t_hasSnapshot, .ref a_t_text, .int t_length, .int t_at, .int t_isWell, .ref a_t_read, .int t_readMany, .ref a_t_prices, .int t_priceMany, .int t_pieceMany, .long t_coins])), (a_t_s, .inl (G.2.1, 68, .inl t_s)), (a_t_states, .inl (G.2.1, 408, .inl w_t_states))] := by
  refine WM.ofW (C := RX12) (by decide) rfl (Nat.le_of_ble_eq_true rfl) ?_
  intro p e s m below meth c A hF hr hlk hG hA hP hD ls hl
  have hl : lv_has ls 2 [(0, .ref a_t)] := hl
  have hx := hF.1
  have hb := hF.2.1
  have hml := hF.2.2.1
  have hown := hF.2.2.2.1
  have hts := hF.2.2.2.2
  have hS : va_S A s.heap s.heap [] := va_S.rf
  unfold f_X12_records at hf
  refine lv_aload_n hx hb dX12_records_0 rfl (lv_at hl 0 rfl) ?_
  refine gf (C := RX12) (T := TX12) (N := 16) (ci := 8) (v := .int t_stateMany) hF hG hP inX12 0 rfl rfl 3 (by decide) q1023 rfl rfl dX12_records_1 ?_
  refine lv_bipush (v := 6) hx hb dX12_records_4 (by decide) ?_
  obtain ⟨t_stateMany_1, t_states_2, hq, hf⟩ := bd2_some hf
  have J49 : ∀ (H : Heap) (locs : List Loc), va_P G.1 vwCl ([(a_t, .inr (8, [.int t_thrown, .ref a_t_s, .ref a_t_states, .int t_stateMany_1, .ref a_t_snapshot, .int t_hasSnapshot, .ref a_t_text, .int t_length, .int t_at, .int t_isWell, .ref a_t_read, .int t_readMany, .ref a_t_prices, .int t_priceMany, .int t_pieceMany, .long t_coins])), (a_t_s, .inl (G.2.1, 68, .inl t_s)), (a_t_states, .inl (G.2.1, 408, .inl t_states_2))] : va_W) H → va_D A ([(a_t, .inr (8, [.int t_thrown, .ref a_t_s, .ref a_t_states, .int t_stateMany_1, .ref a_t_snapshot, .int t_hasSnapshot, .ref a_t_text, .int t_length, .int t_at, .int t_isWell, .ref a_t_read, .int t_readMany, .ref a_t_prices, .int t_priceMany, .int t_pieceMany, .long t_coins])), (a_t_s, .inl (G.2.1, 68, .inl t_s)), (a_t_states, .inl (G.2.1, 408, .inl t_states_2))] : va_W) → va_S A s.heap H locs → ∀ ls : Array Slot, lv_has ls 2 [(0, .ref a_t)] → W p l e RM_X12_records s m [.ref a_t].toArray below meth c H locs 0 0 (MQ below (wrQ none G [(a_t, .inr (8, [.int t_thrown, .ref a_t_s, .ref a_t_states, .int w_t_stateMany, .ref a_t_snapshot, .int t_hasSnapshot, .ref a_t_text, .int t_length, .int t_at, .int t_isWell, .ref a_t_read, .int t_readMany, .ref a_t_prices, .int t_priceMany, .int t_pieceMany, .long t_coins])), (a_t_s, .inl (G.2.1, 68, .inl t_s)), (a_t_states, .inl (G.2.1, 408, .inl w_t_states))] A) [.ref a_t].toArray s 0 0 A) (F0 m 49 ls []) := by
    intro H locs hP hD hS ls hl
    refine lv_iconst (v := 0) hx hb dX12_records_49 (by decide) ?_
    refine lv_istore_n (lv' := [(1, .int 0), (0, .ref a_t)]) hx hb dX12_records_50 rfl hl (by decide) rfl (fun ls hl => ?_)
    obtain ⟨t_states_8, hq, hf⟩ := bd1_some hf
    have K51 : ∀ (H : Heap) (locs : List Loc), va_P G.1 vwCl ([(a_t, .inr (8, [.int t_thrown, .ref a_t_s, .ref a_t_states, .int t_stateMany_1, .ref a_t_snapshot, .int t_hasSnapshot, .ref a_t_text, .int t_length, .int t_at, .int t_isWell, .ref a_t_read, .int t_readMany, .ref a_t_prices, .int t_priceMany, .int t_pieceMany, .long t_coins])), (a_t_s, .inl (G.2.1, 68, .inl t_s)), (a_t_states, .inl (G.2.1, 408, .inl t_states_8))] : va_W) H → va_D A ([(a_t, .inr (8, [.int t_thrown, .ref a_t_s, .ref a_t_states, .int t_stateMany_1, .ref a_t_snapshot, .int t_hasSnapshot, .ref a_t_text, .int t_length, .int t_at, .int t_isWell, .ref a_t_read, .int t_readMany, .ref a_t_prices, .int t_priceMany, .int t_pieceMany, .long t_coins])), (a_t_s, .inl (G.2.1, 68, .inl t_s)), (a_t_states, .inl (G.2.1, 408, .inl t_states_8))] : va_W) → va_S A s.heap H locs → ∀ ls : Array Slot, lv_has ls 2 [(0, .ref a_t)] → W p l e RM_X12_records s m [.ref a_t].toArray below meth c H locs 0 0 (MQ below (wrQ none G [(a_t, .inr (8, [.int t_thrown, .ref a_t_s, .ref a_t_states, .int w_t_stateMany, .ref a_t_snapshot, .int t_hasSnapshot, .ref a_t_text, .int t_length, .int t_at, .int t_isWell, .ref a_t_read, .int t_readMany, .ref a_t_prices, .int t_priceMany, .int t_pieceMany, .long t_coins])), (a_t_s, .inl (G.2.1, 68, .inl t_s)), (a_t_states, .inl (G.2.1, 408, .inl w_t_states))] A) [.ref a_t].toArray s 0 0 A) (F0 m 83 ls []) := by
      intro H locs hP hD hS ls hl
      refine lv_aload_n hx hb dX12_records_83 rfl (lv_at hl 0 rfl) ?_
      refine lv_dup hx hb dX12_records_84 rfl ?_
      refine gf (C := RX12) (T := TX12) (N := 16) (ci := 8) (v := .int t_stateMany_1) hF hG hP inX12 0 rfl rfl 3 (by decide) q1023 rfl rfl dX12_records_85 ?_
      refine lv_iconst (v := 1) hx hb dX12_records_88 (by decide) ?_
      refine lv_iadd hx hb dX12_records_89 ?_
      refine pf (C := RX12) (T := TX12) (N := 16) (ci := 8) (v := .int (t_stateMany_1 + 1)) (ty := .int) hF hG hP hD hS inX12 tyX12 tyX12_ok nmX12 0 rfl rfl 3 (by decide) q1023 rfl rfl (by decide +kernel) rfl rfl (Nat.le_of_ble_eq_true rfl) dX12_records_90 (fun H locs hP hD hS => ?_)
      replace hP : va_P G.1 vwCl [(a_t, .inr (8, [.int t_thrown, .ref a_t_s, .ref a_t_states, .int (t_stateMany_1 + 1), .ref a_t_snapshot, .int t_hasSnapshot, .ref a_t_text, .int t_length, .int t_at, .int t_isWell, .ref a_t_read, .int t_readMany, .ref a_t_prices, .int t_priceMany, .int t_pieceMany, .long t_coins])), (a_t_s, .inl (G.2.1, 68, .inl t_s)), (a_t_states, .inl (G.2.1, 408, .inl t_states_8))] H := hP
      replace hD : va_D A [(a_t, .inr (8, [.int t_thrown, .ref a_t_s, .ref a_t_states, .int (t_stateMany_1 + 1), .ref a_t_snapshot, .int t_hasSnapshot, .ref a_t_text, .int t_length, .int t_at, .int t_isWell, .ref a_t_read, .int t_readMany, .ref a_t_prices, .int t_priceMany, .int t_pieceMany, .long t_coins])), (a_t_s, .inl (G.2.1, 68, .inl t_s)), (a_t_states, .inl (G.2.1, 408, .inl t_states_8))] := hD
      have hf : (some ((t_stateMany_1 + 1), t_states_8) : Option (Int32 × (Nat → Int32))) = some (w_t_stateMany, w_t_states) := hf
      cases hf
      exact we_v hF hr hlk hP hD hS dX12_records_93 rfl
    clear hf
    have L51 : ∀ (n : Nat) (i1_6 : Int32) (t_states_7 : Nat → Int32), l_X12_records_51 t_s t_stateMany_1 n i1_6 t_states_7 = some t_states_8 → ∀ (H : Heap) (locs : List Loc), va_P G.1 vwCl ([(a_t, .inr (8, [.int t_thrown, .ref a_t_s, .ref a_t_states, .int t_stateMany_1, .ref a_t_snapshot, .int t_hasSnapshot, .ref a_t_text, .int t_length, .int t_at, .int t_isWell, .ref a_t_read, .int t_readMany, .ref a_t_prices, .int t_priceMany, .int t_pieceMany, .long t_coins])), (a_t_s, .inl (G.2.1, 68, .inl t_s)), (a_t_states, .inl (G.2.1, 408, .inl t_states_7))] : va_W) H → va_D A ([(a_t, .inr (8, [.int t_thrown, .ref a_t_s, .ref a_t_states, .int t_stateMany_1, .ref a_t_snapshot, .int t_hasSnapshot, .ref a_t_text, .int t_length, .int t_at, .int t_isWell, .ref a_t_read, .int t_readMany, .ref a_t_prices, .int t_priceMany, .int t_pieceMany, .long t_coins])), (a_t_s, .inl (G.2.1, 68, .inl t_s)), (a_t_states, .inl (G.2.1, 408, .inl t_states_7))] : va_W) → va_S A s.heap H locs → ∀ ls : Array Slot, lv_has ls 2 [(0, .ref a_t), (1, .int i1_6)] → W p l e RM_X12_records s m [.ref a_t].toArray below meth c H locs 0 0 (MQ below (wrQ none G [(a_t, .inr (8, [.int t_thrown, .ref a_t_s, .ref a_t_states, .int w_t_stateMany, .ref a_t_snapshot, .int t_hasSnapshot, .ref a_t_text, .int t_length, .int t_at, .int t_isWell, .ref a_t_read, .int t_readMany, .ref a_t_prices, .int t_priceMany, .int t_pieceMany, .long t_coins])), (a_t_s, .inl (G.2.1, 68, .inl t_s)), (a_t_states, .inl (G.2.1, 408, .inl w_t_states))] A) [.ref a_t].toArray s 0 0 A) (F0 m 51 ls []) := by
      intro n
      induction n with
      | zero =>
        intro i1_6 t_states_7 hf
        exact nomatch (show none = some t_states_8 from hf)
      | succ n ih =>
        intro i1_6 t_states_7 hf H locs hP hD hS ls hl
        rw [l_X12_records_51] at hf
        refine lv_iload_n hx hb dX12_records_51 rfl (lv_at hl 1 rfl) ?_
        refine lv_bipush (v := 68) hx hb dX12_records_52 (by decide) ?_
        refine lv_icmp_ge (tgt := 83) hx hb dX12_records_54 (by decide) (fun c0 => ?_) (fun c0 => ?_)
        · have hf := (if_pos c0).symm.trans hf
          have hf : (some t_states_7 : Option ((Nat → Int32))) = some t_states_8 := hf
          cases hf
          exact K51 _ _ hP hD hS ls (lv_sub hl [0] rfl)
        · have hf := (if_neg c0).symm.trans hf
          refine lv_aload_n hx hb dX12_records_57 rfl (lv_at hl 0 rfl) ?_
          refine gf (C := RX12) (T := TX12) (N := 16) (ci := 8) (v := .ref a_t_states) hF hG hP inX12 0 rfl rfl 2 (by decide) q1022 rfl rfl dX12_records_58 ?_
          refine lv_bipush (v := 68) hx hb dX12_records_61 (by decide) ?_
          refine lv_aload_n hx hb dX12_records_63 rfl (lv_at hl 0 rfl) ?_
          refine gf (C := RX12) (T := TX12) (N := 16) (ci := 8) (v := .int t_stateMany_1) hF hG hP inX12 0 rfl rfl 3 (by decide) q1023 rfl rfl dX12_records_64 ?_
          refine lv_imul hx hb dX12_records_67 ?_
          refine lv_iload_n hx hb dX12_records_68 rfl (lv_at hl 1 rfl) ?_
          refine lv_iadd hx hb dX12_records_69 ?_
          refine lv_aload_n hx hb dX12_records_70 rfl (lv_at hl 0 rfl) ?_
          refine gf (C := RX12) (T := TX12) (N := 16) (ci := 8) (v := .ref a_t_s) hF hG hP inX12 0 rfl rfl 1 (by decide) q1021 rfl rfl dX12_records_71 ?_
          refine lv_iload_n hx hb dX12_records_74 rfl (lv_at hl 1 rfl) ?_
          obtain ⟨hg, hf⟩ := gd_some hf
          refine ald_i (k := Int32.toNatClampNeg i1_6) hF hG hP 1 rfl rfl hg dX12_records_75 ?_
          obtain ⟨hg, hf⟩ := gd_some hf
          refine ast_i (k := Int32.toNatClampNeg ((68 * t_stateMany_1) + i1_6)) hF hG hP hD hS 2 rfl rfl hg dX12_records_76 (fun H locs hP hD hS => ?_)
          replace hP : va_P G.1 vwCl [(a_t, .inr (8, [.int t_thrown, .ref a_t_s, .ref a_t_states, .int t_stateMany_1, .ref a_t_snapshot, .int t_hasSnapshot, .ref a_t_text, .int t_length, .int t_at, .int t_isWell, .ref a_t_read, .int t_readMany, .ref a_t_prices, .int t_priceMany, .int t_pieceMany, .long t_coins])), (a_t_s, .inl (G.2.1, 68, .inl t_s)), (a_t_states, .inl (G.2.1, 408, .inl (upd t_states_7 (Int32.toNatClampNeg ((68 * t_stateMany_1) + i1_6)) (t_s (Int32.toNatClampNeg i1_6)))))] H := hP
          replace hD : va_D A [(a_t, .inr (8, [.int t_thrown, .ref a_t_s, .ref a_t_states, .int t_stateMany_1, .ref a_t_snapshot, .int t_hasSnapshot, .ref a_t_text, .int t_length, .int t_at, .int t_isWell, .ref a_t_read, .int t_readMany, .ref a_t_prices, .int t_priceMany, .int t_pieceMany, .long t_coins])), (a_t_s, .inl (G.2.1, 68, .inl t_s)), (a_t_states, .inl (G.2.1, 408, .inl (upd t_states_7 (Int32.toNatClampNeg ((68 * t_stateMany_1) + i1_6)) (t_s (Int32.toNatClampNeg i1_6)))))] := hD
          refine lv_iinc (v := (i1_6 + 1)) (lv' := [(1, .int (i1_6 + 1)), (0, .ref a_t)]) hx hb dX12_records_77 hl (k := 1) rfl rfl (by decide) rfl (fun ls hl => ?_)
          refine lv_goto (tgt := 51) hx hb dX12_records_80 (by decide) ?_
          exact ih (i1_6 + 1) (upd t_states_7 (Int32.toNatClampNeg ((68 * t_stateMany_1) + i1_6)) (t_s (Int32.toNatClampNeg i1_6))) hf _ _ hP hD hS ls (lv_sub hl [1, 0] rfl)
    exact L51 1000 0 t_states_2 hq _ _ hP hD hS ls (lv_sub hl [1, 0] rfl)
  clear hf
  have hf := hq
  clear hq
  refine lv_icmp_ne (tgt := 49) hx hb dX12_records_6 (by decide) (fun c0 => ?_) (fun c0 => ?_)
  · have hf := (if_neg c0).symm.trans hf
    have hf : (some (t_stateMany, t_states) : Option (Int32 × (Nat → Int32))) = some (t_stateMany_1, t_states_2) := hf
    cases hf
    exact J49 _ _ hP hD hS ls (lv_sub hl [0] rfl)
  · have hf := (if_pos c0).symm.trans hf
    refine lv_iconst (v := 0) hx hb dX12_records_9 (by decide) ?_
    refine lv_istore_n (lv' := [(1, .int 0), (0, .ref a_t)]) hx hb dX12_records_10 rfl hl (by decide) rfl (fun ls hl => ?_)
    obtain ⟨t_states_5, hq, hf⟩ := bd1_some hf
    have K11 : ∀ (H : Heap) (locs : List Loc), va_P G.1 vwCl ([(a_t, .inr (8, [.int t_thrown, .ref a_t_s, .ref a_t_states, .int t_stateMany, .ref a_t_snapshot, .int t_hasSnapshot, .ref a_t_text, .int t_length, .int t_at, .int t_isWell, .ref a_t_read, .int t_readMany, .ref a_t_prices, .int t_priceMany, .int t_pieceMany, .long t_coins])), (a_t_s, .inl (G.2.1, 68, .inl t_s)), (a_t_states, .inl (G.2.1, 408, .inl t_states_5))] : va_W) H → va_D A ([(a_t, .inr (8, [.int t_thrown, .ref a_t_s, .ref a_t_states, .int t_stateMany, .ref a_t_snapshot, .int t_hasSnapshot, .ref a_t_text, .int t_length, .int t_at, .int t_isWell, .ref a_t_read, .int t_readMany, .ref a_t_prices, .int t_priceMany, .int t_pieceMany, .long t_coins])), (a_t_s, .inl (G.2.1, 68, .inl t_s)), (a_t_states, .inl (G.2.1, 408, .inl t_states_5))] : va_W) → va_S A s.heap H locs → ∀ ls : Array Slot, lv_has ls 2 [(0, .ref a_t)] → W p l e RM_X12_records s m [.ref a_t].toArray below meth c H locs 0 0 (MQ below (wrQ none G [(a_t, .inr (8, [.int t_thrown, .ref a_t_s, .ref a_t_states, .int w_t_stateMany, .ref a_t_snapshot, .int t_hasSnapshot, .ref a_t_text, .int t_length, .int t_at, .int t_isWell, .ref a_t_read, .int t_readMany, .ref a_t_prices, .int t_priceMany, .int t_pieceMany, .long t_coins])), (a_t_s, .inl (G.2.1, 68, .inl t_s)), (a_t_states, .inl (G.2.1, 408, .inl w_t_states))] A) [.ref a_t].toArray s 0 0 A) (F0 m 39 ls []) := by
      intro H locs hP hD hS ls hl
      refine lv_aload_n hx hb dX12_records_39 rfl (lv_at hl 0 rfl) ?_
      refine lv_dup hx hb dX12_records_40 rfl ?_
      refine gf (C := RX12) (T := TX12) (N := 16) (ci := 8) (v := .int t_stateMany) hF hG hP inX12 0 rfl rfl 3 (by decide) q1023 rfl rfl dX12_records_41 ?_
      refine lv_iconst (v := 1) hx hb dX12_records_44 (by decide) ?_
      refine lv_isub hx hb dX12_records_45 ?_
      refine pf (C := RX12) (T := TX12) (N := 16) (ci := 8) (v := .int (t_stateMany - 1)) (ty := .int) hF hG hP hD hS inX12 tyX12 tyX12_ok nmX12 0 rfl rfl 3 (by decide) q1023 rfl rfl (by decide +kernel) rfl rfl (Nat.le_of_ble_eq_true rfl) dX12_records_46 (fun H locs hP hD hS => ?_)
      replace hP : va_P G.1 vwCl [(a_t, .inr (8, [.int t_thrown, .ref a_t_s, .ref a_t_states, .int (t_stateMany - 1), .ref a_t_snapshot, .int t_hasSnapshot, .ref a_t_text, .int t_length, .int t_at, .int t_isWell, .ref a_t_read, .int t_readMany, .ref a_t_prices, .int t_priceMany, .int t_pieceMany, .long t_coins])), (a_t_s, .inl (G.2.1, 68, .inl t_s)), (a_t_states, .inl (G.2.1, 408, .inl t_states_5))] H := hP
      replace hD : va_D A [(a_t, .inr (8, [.int t_thrown, .ref a_t_s, .ref a_t_states, .int (t_stateMany - 1), .ref a_t_snapshot, .int t_hasSnapshot, .ref a_t_text, .int t_length, .int t_at, .int t_isWell, .ref a_t_read, .int t_readMany, .ref a_t_prices, .int t_priceMany, .int t_pieceMany, .long t_coins])), (a_t_s, .inl (G.2.1, 68, .inl t_s)), (a_t_states, .inl (G.2.1, 408, .inl t_states_5))] := hD
      have hf : (some ((t_stateMany - 1), t_states_5) : Option (Int32 × (Nat → Int32))) = some (t_stateMany_1, t_states_2) := hf
      cases hf
      exact J49 _ _ hP hD hS ls (lv_sub hl [0] rfl)
    clear hf
    have L11 : ∀ (n : Nat) (i1_3 : Int32) (t_states_4 : Nat → Int32), l_X12_records_11 n i1_3 t_states_4 = some t_states_5 → ∀ (H : Heap) (locs : List Loc), va_P G.1 vwCl ([(a_t, .inr (8, [.int t_thrown, .ref a_t_s, .ref a_t_states, .int t_stateMany, .ref a_t_snapshot, .int t_hasSnapshot, .ref a_t_text, .int t_length, .int t_at, .int t_isWell, .ref a_t_read, .int t_readMany, .ref a_t_prices, .int t_priceMany, .int t_pieceMany, .long t_coins])), (a_t_s, .inl (G.2.1, 68, .inl t_s)), (a_t_states, .inl (G.2.1, 408, .inl t_states_4))] : va_W) H → va_D A ([(a_t, .inr (8, [.int t_thrown, .ref a_t_s, .ref a_t_states, .int t_stateMany, .ref a_t_snapshot, .int t_hasSnapshot, .ref a_t_text, .int t_length, .int t_at, .int t_isWell, .ref a_t_read, .int t_readMany, .ref a_t_prices, .int t_priceMany, .int t_pieceMany, .long t_coins])), (a_t_s, .inl (G.2.1, 68, .inl t_s)), (a_t_states, .inl (G.2.1, 408, .inl t_states_4))] : va_W) → va_S A s.heap H locs → ∀ ls : Array Slot, lv_has ls 2 [(0, .ref a_t), (1, .int i1_3)] → W p l e RM_X12_records s m [.ref a_t].toArray below meth c H locs 0 0 (MQ below (wrQ none G [(a_t, .inr (8, [.int t_thrown, .ref a_t_s, .ref a_t_states, .int w_t_stateMany, .ref a_t_snapshot, .int t_hasSnapshot, .ref a_t_text, .int t_length, .int t_at, .int t_isWell, .ref a_t_read, .int t_readMany, .ref a_t_prices, .int t_priceMany, .int t_pieceMany, .long t_coins])), (a_t_s, .inl (G.2.1, 68, .inl t_s)), (a_t_states, .inl (G.2.1, 408, .inl w_t_states))] A) [.ref a_t].toArray s 0 0 A) (F0 m 11 ls []) := by
      intro n
      induction n with
      | zero =>
        intro i1_3 t_states_4 hf
        exact nomatch (show none = some t_states_5 from hf)
      | succ n ih =>
        intro i1_3 t_states_4 hf H locs hP hD hS ls hl
        rw [l_X12_records_11] at hf
        refine lv_iload_n hx hb dX12_records_11 rfl (lv_at hl 1 rfl) ?_
        refine lv_sipush (v := 340) hx hb dX12_records_12 (by decide) ?_
        refine lv_icmp_ge (tgt := 39) hx hb dX12_records_15 (by decide) (fun c0 => ?_) (fun c0 => ?_)
        · have hf := (if_pos c0).symm.trans hf
          have hf : (some t_states_4 : Option ((Nat → Int32))) = some t_states_5 := hf
          cases hf
          exact K11 _ _ hP hD hS ls (lv_sub hl [0] rfl)
        · have hf := (if_neg c0).symm.trans hf
          refine lv_aload_n hx hb dX12_records_18 rfl (lv_at hl 0 rfl) ?_
          refine gf (C := RX12) (T := TX12) (N := 16) (ci := 8) (v := .ref a_t_states) hF hG hP inX12 0 rfl rfl 2 (by decide) q1022 rfl rfl dX12_records_19 ?_
          refine lv_iload_n hx hb dX12_records_22 rfl (lv_at hl 1 rfl) ?_
          refine lv_aload_n hx hb dX12_records_23 rfl (lv_at hl 0 rfl) ?_
          refine gf (C := RX12) (T := TX12) (N := 16) (ci := 8) (v := .ref a_t_states) hF hG hP inX12 0 rfl rfl 2 (by decide) q1022 rfl rfl dX12_records_24 ?_
          refine lv_iload_n hx hb dX12_records_27 rfl (lv_at hl 1 rfl) ?_
          refine lv_bipush (v := 68) hx hb dX12_records_28 (by decide) ?_
          refine lv_iadd hx hb dX12_records_30 ?_
          obtain ⟨hg, hf⟩ := gd_some hf
          refine ald_i (k := Int32.toNatClampNeg (i1_3 + 68)) hF hG hP 2 rfl rfl hg dX12_records_31 ?_
          obtain ⟨hg, hf⟩ := gd_some hf
          refine ast_i (k := Int32.toNatClampNeg i1_3) hF hG hP hD hS 2 rfl rfl hg dX12_records_32 (fun H locs hP hD hS => ?_)
          replace hP : va_P G.1 vwCl [(a_t, .inr (8, [.int t_thrown, .ref a_t_s, .ref a_t_states, .int t_stateMany, .ref a_t_snapshot, .int t_hasSnapshot, .ref a_t_text, .int t_length, .int t_at, .int t_isWell, .ref a_t_read, .int t_readMany, .ref a_t_prices, .int t_priceMany, .int t_pieceMany, .long t_coins])), (a_t_s, .inl (G.2.1, 68, .inl t_s)), (a_t_states, .inl (G.2.1, 408, .inl (upd t_states_4 (Int32.toNatClampNeg i1_3) (t_states_4 (Int32.toNatClampNeg (i1_3 + 68))))))] H := hP
          replace hD : va_D A [(a_t, .inr (8, [.int t_thrown, .ref a_t_s, .ref a_t_states, .int t_stateMany, .ref a_t_snapshot, .int t_hasSnapshot, .ref a_t_text, .int t_length, .int t_at, .int t_isWell, .ref a_t_read, .int t_readMany, .ref a_t_prices, .int t_priceMany, .int t_pieceMany, .long t_coins])), (a_t_s, .inl (G.2.1, 68, .inl t_s)), (a_t_states, .inl (G.2.1, 408, .inl (upd t_states_4 (Int32.toNatClampNeg i1_3) (t_states_4 (Int32.toNatClampNeg (i1_3 + 68))))))] := hD
          refine lv_iinc (v := (i1_3 + 1)) (lv' := [(1, .int (i1_3 + 1)), (0, .ref a_t)]) hx hb dX12_records_33 hl (k := 1) rfl rfl (by decide) rfl (fun ls hl => ?_)
          refine lv_goto (tgt := 11) hx hb dX12_records_36 (by decide) ?_
          exact ih (i1_3 + 1) (upd t_states_4 (Int32.toNatClampNeg i1_3) (t_states_4 (Int32.toNatClampNeg (i1_3 + 68)))) hf _ _ hP hD hS ls (lv_sub hl [1, 0] rfl)
    exact L11 1000 0 t_states hq _ _ hP hD hS ls (lv_sub hl [1, 0] rfl)
def f_X12_adds (t_s : Nat → Int32) (x1 : Int32) : Option ((Nat → Int32)) := gd (¬ ((8 + (t_s 0)) < 0 ∨ 68 ≤ Int32.toNatClampNeg (8 + (t_s 0)))) (some (upd (upd t_s (Int32.toNatClampNeg (8 + (t_s 0))) x1) 0 (((upd t_s (Int32.toNatClampNeg (8 + (t_s 0))) x1) 0) + 1)))
theorem k_X12_adds : KV yX12_adds cX12_adds 2 none 1 := ⟨qc_yX12_adds, q9, ⟨by decide +kernel, by decide +kernel, by decide +kernel⟩, qi_yX12_adds, qs_yX12_adds⟩
abbrev RM_X12_adds : Room := { frames := 0, cells := 0, slots := 0, locals := 0 }
set_option maxHeartbeats 4000000 in
set_option maxRecDepth 100000 in
theorem c_X12_adds (l : Launch) (G : GP) (a_t : Nat) (t_thrown : Int32) (a_t_states : Nat) (t_stateMany : Int32) (a_t_snapshot : Nat) (t_hasSnapshot : Int32) (a_t_text : Nat) (t_length : Int32) (t_at : Int32) (t_isWell : Int32) (a_t_read : Nat) (t_readMany : Int32) (a_t_prices : Nat) (t_priceMany : Int32) (t_pieceMany : Int32) (t_coins : Int64) (a_t_s : Nat) (t_s : Nat → Int32) (x1 : Int32) (w_t_s : Nat → Int32) (hf : f_X12_adds t_s x1 = some w_t_s) : WM l yX12_adds cX12_adds 2 none 0 0 G [.ref a_t, .int x1] [(a_t, .inr (8, [.int t_thrown, .ref a_t_s, .ref a_t_states, .int t_stateMany, .ref a_t_snapshot, .int t_hasSnapshot, .ref a_t_text, .int t_length, .int t_at, .int t_isWell, .ref a_t_read, .int t_readMany, .ref a_t_prices, .int t_priceMany, .int t_pieceMany, .long t_coins])), (a_t_s, .inl (G.2.1, 68, .inl t_s))] none [(a_t, .inr (8, [.int t_thrown, .ref a_t_s, .ref a_t_states, .int t_stateMany, .ref a_t_snapshot, .int t_hasSnapshot, .ref a_t_text, .int t_length, .int t_at, .int t_isWell, .ref a_t_read, .int t_readMany, .ref a_t_prices, .int t_priceMany, .int t_pieceMany, .long t_coins])), (a_t_s, .inl (G.2.1, 68, .inl w_t_s))] := by
  refine WM.ofW (C := RX12) (by decide) rfl (Nat.le_of_ble_eq_true rfl) ?_
  intro p e s m below meth c A hF hr hlk hG hA hP hD ls hl
  have hl : lv_has ls 2 [(0, .ref a_t), (1, .int x1)] := hl
  have hx := hF.1
  have hb := hF.2.1
  have hml := hF.2.2.1
  have hown := hF.2.2.2.1
  have hts := hF.2.2.2.2
  have hS : va_S A s.heap s.heap [] := va_S.rf
  unfold f_X12_adds at hf
  refine lv_aload_n hx hb dX12_adds_0 rfl (lv_at hl 0 rfl) ?_
  refine gf (C := RX12) (T := TX12) (N := 16) (ci := 8) (v := .ref a_t_s) hF hG hP inX12 0 rfl rfl 1 (by decide) q1021 rfl rfl dX12_adds_1 ?_
  refine lv_bipush (v := 8) hx hb dX12_adds_4 (by decide) ?_
  refine lv_aload_n hx hb dX12_adds_6 rfl (lv_at hl 0 rfl) ?_
  refine gf (C := RX12) (T := TX12) (N := 16) (ci := 8) (v := .ref a_t_s) hF hG hP inX12 0 rfl rfl 1 (by decide) q1021 rfl rfl dX12_adds_7 ?_
  refine lv_iconst (v := 0) hx hb dX12_adds_10 (by decide) ?_
  refine ald_i (k := 0) hF hG hP 1 rfl (by decide) (by decide) dX12_adds_11 ?_
  refine lv_iadd hx hb dX12_adds_12 ?_
  refine lv_iload_n hx hb dX12_adds_13 rfl (lv_at hl 1 rfl) ?_
  obtain ⟨hg, hf⟩ := gd_some hf
  refine ast_i (k := Int32.toNatClampNeg (8 + (t_s 0))) hF hG hP hD hS 1 rfl rfl hg dX12_adds_14 (fun H locs hP hD hS => ?_)
  replace hP : va_P G.1 vwCl [(a_t, .inr (8, [.int t_thrown, .ref a_t_s, .ref a_t_states, .int t_stateMany, .ref a_t_snapshot, .int t_hasSnapshot, .ref a_t_text, .int t_length, .int t_at, .int t_isWell, .ref a_t_read, .int t_readMany, .ref a_t_prices, .int t_priceMany, .int t_pieceMany, .long t_coins])), (a_t_s, .inl (G.2.1, 68, .inl (upd t_s (Int32.toNatClampNeg (8 + (t_s 0))) x1)))] H := hP
  replace hD : va_D A [(a_t, .inr (8, [.int t_thrown, .ref a_t_s, .ref a_t_states, .int t_stateMany, .ref a_t_snapshot, .int t_hasSnapshot, .ref a_t_text, .int t_length, .int t_at, .int t_isWell, .ref a_t_read, .int t_readMany, .ref a_t_prices, .int t_priceMany, .int t_pieceMany, .long t_coins])), (a_t_s, .inl (G.2.1, 68, .inl (upd t_s (Int32.toNatClampNeg (8 + (t_s 0))) x1)))] := hD
  refine lv_aload_n hx hb dX12_adds_15 rfl (lv_at hl 0 rfl) ?_
  refine gf (C := RX12) (T := TX12) (N := 16) (ci := 8) (v := .ref a_t_s) hF hG hP inX12 0 rfl rfl 1 (by decide) q1021 rfl rfl dX12_adds_16 ?_
  refine lv_iconst (v := 0) hx hb dX12_adds_19 (by decide) ?_
  refine lv_dup2_11 hx hb dX12_adds_20 rfl rfl ?_
  refine ald_i (k := 0) hF hG hP 1 rfl (by decide) (by decide) dX12_adds_21 ?_
  refine lv_iconst (v := 1) hx hb dX12_adds_22 (by decide) ?_
  refine lv_iadd hx hb dX12_adds_23 ?_
  refine ast_i (k := 0) hF hG hP hD hS 1 rfl (by decide) (by decide) dX12_adds_24 (fun H locs hP hD hS => ?_)
  replace hP : va_P G.1 vwCl [(a_t, .inr (8, [.int t_thrown, .ref a_t_s, .ref a_t_states, .int t_stateMany, .ref a_t_snapshot, .int t_hasSnapshot, .ref a_t_text, .int t_length, .int t_at, .int t_isWell, .ref a_t_read, .int t_readMany, .ref a_t_prices, .int t_priceMany, .int t_pieceMany, .long t_coins])), (a_t_s, .inl (G.2.1, 68, .inl (upd (upd t_s (Int32.toNatClampNeg (8 + (t_s 0))) x1) 0 (((upd t_s (Int32.toNatClampNeg (8 + (t_s 0))) x1) 0) + 1))))] H := hP
  replace hD : va_D A [(a_t, .inr (8, [.int t_thrown, .ref a_t_s, .ref a_t_states, .int t_stateMany, .ref a_t_snapshot, .int t_hasSnapshot, .ref a_t_text, .int t_length, .int t_at, .int t_isWell, .ref a_t_read, .int t_readMany, .ref a_t_prices, .int t_priceMany, .int t_pieceMany, .long t_coins])), (a_t_s, .inl (G.2.1, 68, .inl (upd (upd t_s (Int32.toNatClampNeg (8 + (t_s 0))) x1) 0 (((upd t_s (Int32.toNatClampNeg (8 + (t_s 0))) x1) 0) + 1))))] := hD
  have hf : (some (upd (upd t_s (Int32.toNatClampNeg (8 + (t_s 0))) x1) 0 (((upd t_s (Int32.toNatClampNeg (8 + (t_s 0))) x1) 0) + 1)) : Option ((Nat → Int32))) = some w_t_s := hf
  cases hf
  exact we_v hF hr hlk hP hD hS dX12_adds_25 rfl
def f_X12_addPrice (t_thrown : Int32) (t_stateMany : Int32) (t_s : Nat → Int32) (t_states : Nat → Int32) (x1 : Int32) : Option (Int32 × Int32 × Int32 × (Nat → Int32) × (Nat → Int32)) := bd1 (f_X12_isPrice x1) (fun (r_1 : Int32) => (if r_1 = 0 then bd2 (f_X12_fails 0 1) (fun (r_7 : Int32) (t_thrown_8 : Int32) => some (r_7, t_thrown_8, t_stateMany, t_s, t_states)) else (if (t_s 0) = 60 then bd2 (f_X12_fails 0 2) (fun (r_5 : Int32) (t_thrown_6 : Int32) => some (r_5, t_thrown_6, t_stateMany, t_s, t_states)) else bd2 (f_X12_records t_stateMany t_s t_states) (fun (t_stateMany_2 : Int32) (t_states_3 : Nat → Int32) => bd1 (f_X12_adds t_s x1) (fun (t_s_4 : Nat → Int32) => some (((t_s_4 0) - 1), 0, t_stateMany_2, t_s_4, t_states_3))))))
theorem k_X12_addPrice : KV yX12_addPrice cX12_addPrice 2 (some .int) 1 := ⟨qc_yX12_addPrice, q9, ⟨by decide +kernel, by decide +kernel, by decide +kernel⟩, qi_yX12_addPrice, qs_yX12_addPrice⟩
abbrev RM_X12_addPrice : Room := { frames := 2, cells := 0, slots := 0, locals := 42 }
set_option maxHeartbeats 4000000 in
set_option maxRecDepth 100000 in
theorem c_X12_addPrice (l : Launch) (G : GP) (a_t : Nat) (t_thrown : Int32) (t_stateMany : Int32) (a_t_snapshot : Nat) (t_hasSnapshot : Int32) (a_t_text : Nat) (t_length : Int32) (t_at : Int32) (t_isWell : Int32) (a_t_read : Nat) (t_readMany : Int32) (a_t_prices : Nat) (t_priceMany : Int32) (t_pieceMany : Int32) (t_coins : Int64) (a_t_s : Nat) (t_s : Nat → Int32) (a_t_states : Nat) (t_states : Nat → Int32) (x1 : Int32) (rr : Int32) (w_t_thrown : Int32) (w_t_stateMany : Int32) (w_t_s : Nat → Int32) (w_t_states : Nat → Int32) (hf : f_X12_addPrice t_thrown t_stateMany t_s t_states x1 = some (rr, w_t_thrown, w_t_stateMany, w_t_s, w_t_states)) : WM l yX12_addPrice cX12_addPrice 2 (some .int) 2 42 G [.ref a_t, .int x1] [(a_t, .inr (8, [.int t_thrown, .ref a_t_s, .ref a_t_states, .int t_stateMany, .ref a_t_snapshot, .int t_hasSnapshot, .ref a_t_text, .int t_length, .int t_at, .int t_isWell, .ref a_t_read, .int t_readMany, .ref a_t_prices, .int t_priceMany, .int t_pieceMany, .long t_coins])), (a_t_s, .inl (G.2.1, 68, .inl t_s)), (a_t_states, .inl (G.2.1, 408, .inl t_states))] (some (.int rr)) [(a_t, .inr (8, [.int w_t_thrown, .ref a_t_s, .ref a_t_states, .int w_t_stateMany, .ref a_t_snapshot, .int t_hasSnapshot, .ref a_t_text, .int t_length, .int t_at, .int t_isWell, .ref a_t_read, .int t_readMany, .ref a_t_prices, .int t_priceMany, .int t_pieceMany, .long t_coins])), (a_t_s, .inl (G.2.1, 68, .inl w_t_s)), (a_t_states, .inl (G.2.1, 408, .inl w_t_states))] := by
  refine WM.ofW (C := RX12) (by decide) rfl (Nat.le_of_ble_eq_true rfl) ?_
  intro p e s m below meth c A hF hr hlk hG hA hP hD ls hl
  have hl : lv_has ls 2 [(0, .ref a_t), (1, .int x1)] := hl
  have hx := hF.1
  have hb := hF.2.1
  have hml := hF.2.2.1
  have hown := hF.2.2.2.1
  have hts := hF.2.2.2.2
  have hS : va_S A s.heap s.heap [] := va_S.rf
  unfold f_X12_addPrice at hf
  refine lv_aload_n hx hb dX12_addPrice_0 rfl (lv_at hl 0 rfl) ?_
  refine lv_iconst (v := 0) hx hb dX12_addPrice_1 (by decide) ?_
  refine pf (C := RX12) (T := TX12) (N := 16) (ci := 8) (v := .int 0) (ty := .int) hF hG hP hD hS inX12 tyX12 tyX12_ok nmX12 0 rfl rfl 0 (by decide) q1020 rfl rfl (by decide +kernel) rfl rfl (Nat.le_of_ble_eq_true rfl) dX12_addPrice_2 (fun H locs hP hD hS => ?_)
  replace hP : va_P G.1 vwCl [(a_t, .inr (8, [.int 0, .ref a_t_s, .ref a_t_states, .int t_stateMany, .ref a_t_snapshot, .int t_hasSnapshot, .ref a_t_text, .int t_length, .int t_at, .int t_isWell, .ref a_t_read, .int t_readMany, .ref a_t_prices, .int t_priceMany, .int t_pieceMany, .long t_coins])), (a_t_s, .inl (G.2.1, 68, .inl t_s)), (a_t_states, .inl (G.2.1, 408, .inl t_states))] H := hP
  replace hD : va_D A [(a_t, .inr (8, [.int 0, .ref a_t_s, .ref a_t_states, .int t_stateMany, .ref a_t_snapshot, .int t_hasSnapshot, .ref a_t_text, .int t_length, .int t_at, .int t_isWell, .ref a_t_read, .int t_readMany, .ref a_t_prices, .int t_priceMany, .int t_pieceMany, .long t_coins])), (a_t_s, .inl (G.2.1, 68, .inl t_s)), (a_t_states, .inl (G.2.1, 408, .inl t_states))] := hD
  refine lv_iload_n hx hb dX12_addPrice_5 rfl (lv_at hl 1 rfl) ?_
  obtain ⟨r_1, hq, hf⟩ := bd1_some hf
  refine rdS (As := [.int x1]) (rest := []) hF hG hP hl.1 (c_X12_isPrice l G x1 r_1 hq) k_X12_isPrice q1077 [] rfl rfl rfl (Nat.le_of_ble_eq_true rfl) ⟨(Nat.le_of_ble_eq_true rfl), (Nat.le_of_ble_eq_true rfl)⟩ ⟨(Nat.zero_le _), (Nat.zero_le _)⟩ dX12_addPrice_6 ?_
  refine lv_if_ne (tgt := 18) hx hb dX12_addPrice_9 (by decide) (fun c0 => ?_) (fun c0 => ?_)
  · have hf := (if_neg c0).symm.trans hf
    refine lv_aload_n hx hb dX12_addPrice_18 rfl (lv_at hl 0 rfl) ?_
    refine gf (C := RX12) (T := TX12) (N := 16) (ci := 8) (v := .ref a_t_s) hF hG hP inX12 0 rfl rfl 1 (by decide) q1021 rfl rfl dX12_addPrice_19 ?_
    refine lv_iconst (v := 0) hx hb dX12_addPrice_22 (by decide) ?_
    refine ald_i (k := 0) hF hG hP 1 rfl (by decide) (by decide) dX12_addPrice_23 ?_
    refine lv_bipush (v := 60) hx hb dX12_addPrice_24 (by decide) ?_
    refine lv_icmp_ne (tgt := 35) hx hb dX12_addPrice_26 (by decide) (fun c0 => ?_) (fun c0 => ?_)
    · have hf := (if_neg c0).symm.trans hf
      refine lv_aload_n hx hb dX12_addPrice_35 rfl (lv_at hl 0 rfl) ?_
      obtain ⟨t_stateMany_2, t_states_3, hq, hf⟩ := bd2_some hf
      refine wrV (As := []) (rest := []) (wn := [(a_t, .inr (8, [.int 0, .ref a_t_s, .ref a_t_states, .int t_stateMany_2, .ref a_t_snapshot, .int t_hasSnapshot, .ref a_t_text, .int t_length, .int t_at, .int t_isWell, .ref a_t_read, .int t_readMany, .ref a_t_prices, .int t_priceMany, .int t_pieceMany, .long t_coins])), (a_t_s, .inl (G.2.1, 68, .inl t_s)), (a_t_states, .inl (G.2.1, 408, .inl t_states_3))]) hF hG hP hD hS hA hl.1 (c_X12_records l G a_t 0 t_stateMany a_t_snapshot t_hasSnapshot a_t_text t_length t_at t_isWell a_t_read t_readMany a_t_prices t_priceMany t_pieceMany t_coins a_t_s t_s a_t_states t_states t_stateMany_2 t_states_3 hq) k_X12_records q1087 [0, 1, 2] [] [0, 1, 2] rfl rfl rfl rfl ⟨rfl, rfl⟩ (by decide) ⟨0, 8, _, _, rfl, rfl, rfl⟩ rfl rfl (Nat.le_of_ble_eq_true rfl) ⟨(Nat.le_of_ble_eq_true rfl), (Nat.le_of_ble_eq_true rfl)⟩ ⟨(Nat.le_of_ble_eq_true rfl), (Nat.le_of_ble_eq_true rfl)⟩ dX12_addPrice_36 (fun H locs hP hD hS => ?_)
      refine lv_aload_n hx hb dX12_addPrice_39 rfl (lv_at hl 0 rfl) ?_
      refine lv_iload_n hx hb dX12_addPrice_40 rfl (lv_at hl 1 rfl) ?_
      obtain ⟨t_s_4, hq, hf⟩ := bd1_some hf
      refine wrV (As := [.int x1]) (rest := []) (wn := [(a_t, .inr (8, [.int 0, .ref a_t_s, .ref a_t_states, .int t_stateMany_2, .ref a_t_snapshot, .int t_hasSnapshot, .ref a_t_text, .int t_length, .int t_at, .int t_isWell, .ref a_t_read, .int t_readMany, .ref a_t_prices, .int t_priceMany, .int t_pieceMany, .long t_coins])), (a_t_s, .inl (G.2.1, 68, .inl t_s_4)), (a_t_states, .inl (G.2.1, 408, .inl t_states_3))]) hF hG hP hD hS hA hl.1 (c_X12_adds l G a_t 0 a_t_states t_stateMany_2 a_t_snapshot t_hasSnapshot a_t_text t_length t_at t_isWell a_t_read t_readMany a_t_prices t_priceMany t_pieceMany t_coins a_t_s t_s x1 t_s_4 hq) k_X12_adds q1091 [0, 1] [2] [1, 2, 0] rfl rfl rfl rfl ⟨rfl, rfl⟩ (by decide) ⟨0, 8, _, _, rfl, rfl, rfl⟩ rfl rfl (Nat.le_of_ble_eq_true rfl) ⟨(Nat.le_of_ble_eq_true rfl), (Nat.le_of_ble_eq_true rfl)⟩ ⟨(Nat.le_of_ble_eq_true rfl), (Nat.le_of_ble_eq_true rfl)⟩ dX12_addPrice_41 (fun H locs hP hD hS => ?_)
      refine lv_aload_n hx hb dX12_addPrice_44 rfl (lv_at hl 0 rfl) ?_
      refine gf (C := RX12) (T := TX12) (N := 16) (ci := 8) (v := .ref a_t_s) hF hG hP inX12 0 rfl rfl 1 (by decide) q1021 rfl rfl dX12_addPrice_45 ?_
      refine lv_iconst (v := 0) hx hb dX12_addPrice_48 (by decide) ?_
      refine ald_i (k := 0) hF hG hP 1 rfl (by decide) (by decide) dX12_addPrice_49 ?_
      refine lv_iconst (v := 1) hx hb dX12_addPrice_50 (by decide) ?_
      refine lv_isub hx hb dX12_addPrice_51 ?_
      have hf : (some (((t_s_4 0) - 1), 0, t_stateMany_2, t_s_4, t_states_3) : Option (Int32 × Int32 × Int32 × (Nat → Int32) × (Nat → Int32))) = some (rr, w_t_thrown, w_t_stateMany, w_t_s, w_t_states) := hf
      cases hf
      exact we_i hF hr hlk hP hD hS dX12_addPrice_52 rfl
    · have hf := (if_pos c0).symm.trans hf
      refine lv_aload_n hx hb dX12_addPrice_29 rfl (lv_at hl 0 rfl) ?_
      refine lv_iconst (v := 2) hx hb dX12_addPrice_30 (by decide) ?_
      obtain ⟨r_5, t_thrown_6, hq, hf⟩ := bd2_some hf
      refine wrV (As := [.int 2]) (rest := []) (wn := [(a_t, .inr (8, [.int t_thrown_6, .ref a_t_s, .ref a_t_states, .int t_stateMany, .ref a_t_snapshot, .int t_hasSnapshot, .ref a_t_text, .int t_length, .int t_at, .int t_isWell, .ref a_t_read, .int t_readMany, .ref a_t_prices, .int t_priceMany, .int t_pieceMany, .long t_coins])), (a_t_s, .inl (G.2.1, 68, .inl t_s)), (a_t_states, .inl (G.2.1, 408, .inl t_states))]) hF hG hP hD hS hA hl.1 (c_X12_fails l G a_t 0 a_t_s a_t_states t_stateMany a_t_snapshot t_hasSnapshot a_t_text t_length t_at t_isWell a_t_read t_readMany a_t_prices t_priceMany t_pieceMany t_coins 2 r_5 t_thrown_6 hq) k_X12_fails q1083 [0] [1, 2] [2, 0, 1] rfl rfl rfl rfl ⟨rfl, rfl⟩ (by decide) ⟨0, 8, _, _, rfl, rfl, rfl⟩ rfl rfl (Nat.le_of_ble_eq_true rfl) ⟨(Nat.le_of_ble_eq_true rfl), (Nat.le_of_ble_eq_true rfl)⟩ ⟨(Nat.le_of_ble_eq_true rfl), (Nat.le_of_ble_eq_true rfl)⟩ dX12_addPrice_31 (fun H locs hP hD hS => ?_)
      have hf : (some (r_5, t_thrown_6, t_stateMany, t_s, t_states) : Option (Int32 × Int32 × Int32 × (Nat → Int32) × (Nat → Int32))) = some (rr, w_t_thrown, w_t_stateMany, w_t_s, w_t_states) := hf
      cases hf
      exact we_i hF hr hlk hP hD hS dX12_addPrice_34 rfl
  · have hf := (if_pos c0).symm.trans hf
    refine lv_aload_n hx hb dX12_addPrice_12 rfl (lv_at hl 0 rfl) ?_
    refine lv_iconst (v := 1) hx hb dX12_addPrice_13 (by decide) ?_
    obtain ⟨r_7, t_thrown_8, hq, hf⟩ := bd2_some hf
    refine wrV (As := [.int 1]) (rest := []) (wn := [(a_t, .inr (8, [.int t_thrown_8, .ref a_t_s, .ref a_t_states, .int t_stateMany, .ref a_t_snapshot, .int t_hasSnapshot, .ref a_t_text, .int t_length, .int t_at, .int t_isWell, .ref a_t_read, .int t_readMany, .ref a_t_prices, .int t_priceMany, .int t_pieceMany, .long t_coins])), (a_t_s, .inl (G.2.1, 68, .inl t_s)), (a_t_states, .inl (G.2.1, 408, .inl t_states))]) hF hG hP hD hS hA hl.1 (c_X12_fails l G a_t 0 a_t_s a_t_states t_stateMany a_t_snapshot t_hasSnapshot a_t_text t_length t_at t_isWell a_t_read t_readMany a_t_prices t_priceMany t_pieceMany t_coins 1 r_7 t_thrown_8 hq) k_X12_fails q1083 [0] [1, 2] [2, 0, 1] rfl rfl rfl rfl ⟨rfl, rfl⟩ (by decide) ⟨0, 8, _, _, rfl, rfl, rfl⟩ rfl rfl (Nat.le_of_ble_eq_true rfl) ⟨(Nat.le_of_ble_eq_true rfl), (Nat.le_of_ble_eq_true rfl)⟩ ⟨(Nat.le_of_ble_eq_true rfl), (Nat.le_of_ble_eq_true rfl)⟩ dX12_addPrice_14 (fun H locs hP hD hS => ?_)
    have hf : (some (r_7, t_thrown_8, t_stateMany, t_s, t_states) : Option (Int32 × Int32 × Int32 × (Nat → Int32) × (Nat → Int32))) = some (rr, w_t_thrown, w_t_stateMany, w_t_s, w_t_states) := hf
    cases hf
    exact we_i hF hr hlk hP hD hS dX12_addPrice_17 rfl
def f_X12_isDay (t_s : Nat → Int32) (x1 : Int32) : Option (Int32) := bd1 (f_X12_in x1 0 ((t_s 0) - 1)) (fun (r_1 : Int32) => gd (r_1 &&& 1 = r_1) (some r_1))
theorem k_X12_isDay : KV yX12_isDay cX12_isDay 2 (some .boolean) 1 := ⟨qc_yX12_isDay, q9, ⟨by decide +kernel, by decide +kernel, by decide +kernel⟩, qi_yX12_isDay, qs_yX12_isDay⟩
abbrev RM_X12_isDay : Room := { frames := 1, cells := 0, slots := 0, locals := 22 }
set_option maxHeartbeats 4000000 in
set_option maxRecDepth 100000 in
theorem c_X12_isDay (l : Launch) (G : GP) (a_t : Nat) (t_thrown : Int32) (a_t_states : Nat) (t_stateMany : Int32) (a_t_snapshot : Nat) (t_hasSnapshot : Int32) (a_t_text : Nat) (t_length : Int32) (t_at : Int32) (t_isWell : Int32) (a_t_read : Nat) (t_readMany : Int32) (a_t_prices : Nat) (t_priceMany : Int32) (t_pieceMany : Int32) (t_coins : Int64) (a_t_s : Nat) (t_s : Nat → Int32) (x1 : Int32) (rr : Int32) (hf : f_X12_isDay t_s x1 = some rr) : RM l yX12_isDay cX12_isDay 2 (some .boolean) 1 22 G [.ref a_t, .int x1] [(a_t, .inr (8, [.int t_thrown, .ref a_t_s, .ref a_t_states, .int t_stateMany, .ref a_t_snapshot, .int t_hasSnapshot, .ref a_t_text, .int t_length, .int t_at, .int t_isWell, .ref a_t_read, .int t_readMany, .ref a_t_prices, .int t_priceMany, .int t_pieceMany, .long t_coins])), (a_t_s, .inl (G.2.1, 68, .inl t_s))] (some (.int rr)) := by
  refine RM.ofW (C := RX12) (by decide) rfl (Nat.le_of_ble_eq_true rfl) ?_
  intro p e s m below meth c hF hr hlk hG hP ls hl
  have hl : lv_has ls 2 [(0, .ref a_t), (1, .int x1)] := hl
  have hx := hF.1
  have hb := hF.2.1
  have hml := hF.2.2.1
  have hown := hF.2.2.2.1
  have hts := hF.2.2.2.2
  unfold f_X12_isDay at hf
  refine lv_iload_n hx hb dX12_isDay_0 rfl (lv_at hl 1 rfl) ?_
  refine lv_iconst (v := 0) hx hb dX12_isDay_1 (by decide) ?_
  refine lv_aload_n hx hb dX12_isDay_2 rfl (lv_at hl 0 rfl) ?_
  refine gf (C := RX12) (T := TX12) (N := 16) (ci := 8) (v := .ref a_t_s) hF hG hP inX12 0 rfl rfl 1 (by decide) q1021 rfl rfl dX12_isDay_3 ?_
  refine lv_iconst (v := 0) hx hb dX12_isDay_6 (by decide) ?_
  refine ald_i (k := 0) hF hG hP 1 rfl (by decide) (by decide) dX12_isDay_7 ?_
  refine lv_iconst (v := 1) hx hb dX12_isDay_8 (by decide) ?_
  refine lv_isub hx hb dX12_isDay_9 ?_
  obtain ⟨r_1, hq, hf⟩ := bd1_some hf
  refine rdS (As := [.int x1, .int 0, .int ((t_s 0) - 1)]) (rest := []) hF hG hP hl.1 (c_X12_in l G x1 0 ((t_s 0) - 1) r_1 hq) k_X12_in q1080 [] rfl rfl rfl (Nat.le_of_ble_eq_true rfl) ⟨(Nat.le_of_ble_eq_true rfl), (Nat.le_of_ble_eq_true rfl)⟩ ⟨(Nat.zero_le _), (Nat.zero_le _)⟩ dX12_isDay_10 ?_
  obtain ⟨hz, hf⟩ := gd_some hf
  have hf : (some r_1 : Option (Int32)) = some rr := hf
  cases hf
  exact re_z hF hr hlk dX12_isDay_13 hz rfl
def f_X12_sets (t_s : Nat → Int32) (x1 : Int32) (x2 : Int32) : Option (Int32 × (Nat → Int32)) := gd (¬ (x1 < 0 ∨ 68 ≤ Int32.toNatClampNeg x1)) (gd (¬ (x1 < 0 ∨ 68 ≤ Int32.toNatClampNeg x1)) (some ((t_s (Int32.toNatClampNeg x1)), (upd t_s (Int32.toNatClampNeg x1) x2))))
theorem k_X12_sets : KV yX12_sets cX12_sets 4 (some .int) 2 := ⟨qc_yX12_sets, q9, ⟨by decide +kernel, by decide +kernel, by decide +kernel⟩, qi_yX12_sets, qs_yX12_sets⟩
abbrev RM_X12_sets : Room := { frames := 0, cells := 0, slots := 0, locals := 0 }
set_option maxHeartbeats 4000000 in
set_option maxRecDepth 100000 in
theorem c_X12_sets (l : Launch) (G : GP) (a_t : Nat) (t_thrown : Int32) (a_t_states : Nat) (t_stateMany : Int32) (a_t_snapshot : Nat) (t_hasSnapshot : Int32) (a_t_text : Nat) (t_length : Int32) (t_at : Int32) (t_isWell : Int32) (a_t_read : Nat) (t_readMany : Int32) (a_t_prices : Nat) (t_priceMany : Int32) (t_pieceMany : Int32) (t_coins : Int64) (a_t_s : Nat) (t_s : Nat → Int32) (x1 : Int32) (x2 : Int32) (rr : Int32) (w_t_s : Nat → Int32) (hf : f_X12_sets t_s x1 x2 = some (rr, w_t_s)) : WM l yX12_sets cX12_sets 4 (some .int) 0 0 G [.ref a_t, .int x1, .int x2] [(a_t, .inr (8, [.int t_thrown, .ref a_t_s, .ref a_t_states, .int t_stateMany, .ref a_t_snapshot, .int t_hasSnapshot, .ref a_t_text, .int t_length, .int t_at, .int t_isWell, .ref a_t_read, .int t_readMany, .ref a_t_prices, .int t_priceMany, .int t_pieceMany, .long t_coins])), (a_t_s, .inl (G.2.1, 68, .inl t_s))] (some (.int rr)) [(a_t, .inr (8, [.int t_thrown, .ref a_t_s, .ref a_t_states, .int t_stateMany, .ref a_t_snapshot, .int t_hasSnapshot, .ref a_t_text, .int t_length, .int t_at, .int t_isWell, .ref a_t_read, .int t_readMany, .ref a_t_prices, .int t_priceMany, .int t_pieceMany, .long t_coins])), (a_t_s, .inl (G.2.1, 68, .inl w_t_s))] := by
  refine WM.ofW (C := RX12) (by decide) rfl (Nat.le_of_ble_eq_true rfl) ?_
  intro p e s m below meth c A hF hr hlk hG hA hP hD ls hl
  have hl : lv_has ls 4 [(0, .ref a_t), (1, .int x1), (2, .int x2)] := hl
  have hx := hF.1
  have hb := hF.2.1
  have hml := hF.2.2.1
  have hown := hF.2.2.2.1
  have hts := hF.2.2.2.2
  have hS : va_S A s.heap s.heap [] := va_S.rf
  unfold f_X12_sets at hf
  refine lv_aload_n hx hb dX12_sets_0 rfl (lv_at hl 0 rfl) ?_
  refine gf (C := RX12) (T := TX12) (N := 16) (ci := 8) (v := .ref a_t_s) hF hG hP inX12 0 rfl rfl 1 (by decide) q1021 rfl rfl dX12_sets_1 ?_
  refine lv_iload_n hx hb dX12_sets_4 rfl (lv_at hl 1 rfl) ?_
  obtain ⟨hg, hf⟩ := gd_some hf
  refine ald_i (k := Int32.toNatClampNeg x1) hF hG hP 1 rfl rfl hg dX12_sets_5 ?_
  refine lv_istore_n (lv' := [(3, .int (t_s (Int32.toNatClampNeg x1))), (0, .ref a_t), (1, .int x1), (2, .int x2)]) hx hb dX12_sets_6 rfl hl (by decide) rfl (fun ls hl => ?_)
  refine lv_aload_n hx hb dX12_sets_7 rfl (lv_at hl 1 rfl) ?_
  refine gf (C := RX12) (T := TX12) (N := 16) (ci := 8) (v := .ref a_t_s) hF hG hP inX12 0 rfl rfl 1 (by decide) q1021 rfl rfl dX12_sets_8 ?_
  refine lv_iload_n hx hb dX12_sets_11 rfl (lv_at hl 2 rfl) ?_
  refine lv_iload_n hx hb dX12_sets_12 rfl (lv_at hl 3 rfl) ?_
  obtain ⟨hg, hf⟩ := gd_some hf
  refine ast_i (k := Int32.toNatClampNeg x1) hF hG hP hD hS 1 rfl rfl hg dX12_sets_13 (fun H locs hP hD hS => ?_)
  replace hP : va_P G.1 vwCl [(a_t, .inr (8, [.int t_thrown, .ref a_t_s, .ref a_t_states, .int t_stateMany, .ref a_t_snapshot, .int t_hasSnapshot, .ref a_t_text, .int t_length, .int t_at, .int t_isWell, .ref a_t_read, .int t_readMany, .ref a_t_prices, .int t_priceMany, .int t_pieceMany, .long t_coins])), (a_t_s, .inl (G.2.1, 68, .inl (upd t_s (Int32.toNatClampNeg x1) x2)))] H := hP
  replace hD : va_D A [(a_t, .inr (8, [.int t_thrown, .ref a_t_s, .ref a_t_states, .int t_stateMany, .ref a_t_snapshot, .int t_hasSnapshot, .ref a_t_text, .int t_length, .int t_at, .int t_isWell, .ref a_t_read, .int t_readMany, .ref a_t_prices, .int t_priceMany, .int t_pieceMany, .long t_coins])), (a_t_s, .inl (G.2.1, 68, .inl (upd t_s (Int32.toNatClampNeg x1) x2)))] := hD
  refine lv_iload_n hx hb dX12_sets_14 rfl (lv_at hl 0 rfl) ?_
  have hf : (some ((t_s (Int32.toNatClampNeg x1)), (upd t_s (Int32.toNatClampNeg x1) x2)) : Option (Int32 × (Nat → Int32))) = some (rr, w_t_s) := hf
  cases hf
  exact we_i hF hr hlk hP hD hS dX12_sets_15 rfl
def f_X12_setPrice (t_thrown : Int32) (t_stateMany : Int32) (t_s : Nat → Int32) (t_states : Nat → Int32) (x1 : Int32) (x2 : Int32) : Option (Int32 × Int32 × Int32 × (Nat → Int32) × (Nat → Int32)) := bd1 (f_X12_isDay t_s x1) (fun (r_1 : Int32) => (if r_1 = 0 then bd2 (f_X12_fails 0 1) (fun (r_9 : Int32) (t_thrown_10 : Int32) => some (r_9, t_thrown_10, t_stateMany, t_s, t_states)) else bd1 (f_X12_isPrice x2) (fun (r_2 : Int32) => (if r_2 = 0 then bd2 (f_X12_fails 0 2) (fun (r_7 : Int32) (t_thrown_8 : Int32) => some (r_7, t_thrown_8, t_stateMany, t_s, t_states)) else bd2 (f_X12_records t_stateMany t_s t_states) (fun (t_stateMany_3 : Int32) (t_states_4 : Nat → Int32) => bd2 (f_X12_sets t_s (8 + x1) x2) (fun (r_5 : Int32) (t_s_6 : Nat → Int32) => some (r_5, 0, t_stateMany_3, t_s_6, t_states_4)))))))
theorem k_X12_setPrice : KV yX12_setPrice cX12_setPrice 3 (some .int) 2 := ⟨qc_yX12_setPrice, q9, ⟨by decide +kernel, by decide +kernel, by decide +kernel⟩, qi_yX12_setPrice, qs_yX12_setPrice⟩
abbrev RM_X12_setPrice : Room := { frames := 2, cells := 0, slots := 0, locals := 43 }
set_option maxHeartbeats 4000000 in
set_option maxRecDepth 100000 in
theorem c_X12_setPrice (l : Launch) (G : GP) (a_t : Nat) (t_thrown : Int32) (t_stateMany : Int32) (a_t_snapshot : Nat) (t_hasSnapshot : Int32) (a_t_text : Nat) (t_length : Int32) (t_at : Int32) (t_isWell : Int32) (a_t_read : Nat) (t_readMany : Int32) (a_t_prices : Nat) (t_priceMany : Int32) (t_pieceMany : Int32) (t_coins : Int64) (a_t_s : Nat) (t_s : Nat → Int32) (a_t_states : Nat) (t_states : Nat → Int32) (x1 : Int32) (x2 : Int32) (rr : Int32) (w_t_thrown : Int32) (w_t_stateMany : Int32) (w_t_s : Nat → Int32) (w_t_states : Nat → Int32) (hf : f_X12_setPrice t_thrown t_stateMany t_s t_states x1 x2 = some (rr, w_t_thrown, w_t_stateMany, w_t_s, w_t_states)) : WM l yX12_setPrice cX12_setPrice 3 (some .int) 2 43 G [.ref a_t, .int x1, .int x2] [(a_t, .inr (8, [.int t_thrown, .ref a_t_s, .ref a_t_states, .int t_stateMany, .ref a_t_snapshot, .int t_hasSnapshot, .ref a_t_text, .int t_length, .int t_at, .int t_isWell, .ref a_t_read, .int t_readMany, .ref a_t_prices, .int t_priceMany, .int t_pieceMany, .long t_coins])), (a_t_s, .inl (G.2.1, 68, .inl t_s)), (a_t_states, .inl (G.2.1, 408, .inl t_states))] (some (.int rr)) [(a_t, .inr (8, [.int w_t_thrown, .ref a_t_s, .ref a_t_states, .int w_t_stateMany, .ref a_t_snapshot, .int t_hasSnapshot, .ref a_t_text, .int t_length, .int t_at, .int t_isWell, .ref a_t_read, .int t_readMany, .ref a_t_prices, .int t_priceMany, .int t_pieceMany, .long t_coins])), (a_t_s, .inl (G.2.1, 68, .inl w_t_s)), (a_t_states, .inl (G.2.1, 408, .inl w_t_states))] := by
  refine WM.ofW (C := RX12) (by decide) rfl (Nat.le_of_ble_eq_true rfl) ?_
  intro p e s m below meth c A hF hr hlk hG hA hP hD ls hl
  have hl : lv_has ls 3 [(0, .ref a_t), (1, .int x1), (2, .int x2)] := hl
  have hx := hF.1
  have hb := hF.2.1
  have hml := hF.2.2.1
  have hown := hF.2.2.2.1
  have hts := hF.2.2.2.2
  have hS : va_S A s.heap s.heap [] := va_S.rf
  unfold f_X12_setPrice at hf
  refine lv_aload_n hx hb dX12_setPrice_0 rfl (lv_at hl 0 rfl) ?_
  refine lv_iconst (v := 0) hx hb dX12_setPrice_1 (by decide) ?_
  refine pf (C := RX12) (T := TX12) (N := 16) (ci := 8) (v := .int 0) (ty := .int) hF hG hP hD hS inX12 tyX12 tyX12_ok nmX12 0 rfl rfl 0 (by decide) q1020 rfl rfl (by decide +kernel) rfl rfl (Nat.le_of_ble_eq_true rfl) dX12_setPrice_2 (fun H locs hP hD hS => ?_)
  replace hP : va_P G.1 vwCl [(a_t, .inr (8, [.int 0, .ref a_t_s, .ref a_t_states, .int t_stateMany, .ref a_t_snapshot, .int t_hasSnapshot, .ref a_t_text, .int t_length, .int t_at, .int t_isWell, .ref a_t_read, .int t_readMany, .ref a_t_prices, .int t_priceMany, .int t_pieceMany, .long t_coins])), (a_t_s, .inl (G.2.1, 68, .inl t_s)), (a_t_states, .inl (G.2.1, 408, .inl t_states))] H := hP
  replace hD : va_D A [(a_t, .inr (8, [.int 0, .ref a_t_s, .ref a_t_states, .int t_stateMany, .ref a_t_snapshot, .int t_hasSnapshot, .ref a_t_text, .int t_length, .int t_at, .int t_isWell, .ref a_t_read, .int t_readMany, .ref a_t_prices, .int t_priceMany, .int t_pieceMany, .long t_coins])), (a_t_s, .inl (G.2.1, 68, .inl t_s)), (a_t_states, .inl (G.2.1, 408, .inl t_states))] := hD
  refine lv_aload_n hx hb dX12_setPrice_5 rfl (lv_at hl 0 rfl) ?_
  refine lv_iload_n hx hb dX12_setPrice_6 rfl (lv_at hl 1 rfl) ?_
  obtain ⟨r_1, hq, hf⟩ := bd1_some hf
  refine rdV (As := [.int x1]) (rest := []) hF hG hP hl.1 (c_X12_isDay l G a_t 0 a_t_states t_stateMany a_t_snapshot t_hasSnapshot a_t_text t_length t_at t_isWell a_t_read t_readMany a_t_prices t_priceMany t_pieceMany t_coins a_t_s t_s x1 r_1 hq) k_X12_isDay q1099 [0, 1] rfl ⟨0, 8, _, _, rfl, rfl, rfl⟩ rfl rfl (Nat.le_of_ble_eq_true rfl) ⟨(Nat.le_of_ble_eq_true rfl), (Nat.le_of_ble_eq_true rfl)⟩ ⟨(Nat.zero_le _), (Nat.zero_le _)⟩ dX12_setPrice_7 ?_
  refine lv_if_ne (tgt := 19) hx hb dX12_setPrice_10 (by decide) (fun c0 => ?_) (fun c0 => ?_)
  · have hf := (if_neg c0).symm.trans hf
    refine lv_iload_n hx hb dX12_setPrice_19 rfl (lv_at hl 2 rfl) ?_
    obtain ⟨r_2, hq, hf⟩ := bd1_some hf
    refine rdS (As := [.int x2]) (rest := []) hF hG hP hl.1 (c_X12_isPrice l G x2 r_2 hq) k_X12_isPrice q1077 [] rfl rfl rfl (Nat.le_of_ble_eq_true rfl) ⟨(Nat.le_of_ble_eq_true rfl), (Nat.le_of_ble_eq_true rfl)⟩ ⟨(Nat.zero_le _), (Nat.zero_le _)⟩ dX12_setPrice_20 ?_
    refine lv_if_ne (tgt := 32) hx hb dX12_setPrice_23 (by decide) (fun c0 => ?_) (fun c0 => ?_)
    · have hf := (if_neg c0).symm.trans hf
      refine lv_aload_n hx hb dX12_setPrice_32 rfl (lv_at hl 0 rfl) ?_
      obtain ⟨t_stateMany_3, t_states_4, hq, hf⟩ := bd2_some hf
      refine wrV (As := []) (rest := []) (wn := [(a_t, .inr (8, [.int 0, .ref a_t_s, .ref a_t_states, .int t_stateMany_3, .ref a_t_snapshot, .int t_hasSnapshot, .ref a_t_text, .int t_length, .int t_at, .int t_isWell, .ref a_t_read, .int t_readMany, .ref a_t_prices, .int t_priceMany, .int t_pieceMany, .long t_coins])), (a_t_s, .inl (G.2.1, 68, .inl t_s)), (a_t_states, .inl (G.2.1, 408, .inl t_states_4))]) hF hG hP hD hS hA hl.1 (c_X12_records l G a_t 0 t_stateMany a_t_snapshot t_hasSnapshot a_t_text t_length t_at t_isWell a_t_read t_readMany a_t_prices t_priceMany t_pieceMany t_coins a_t_s t_s a_t_states t_states t_stateMany_3 t_states_4 hq) k_X12_records q1087 [0, 1, 2] [] [0, 1, 2] rfl rfl rfl rfl ⟨rfl, rfl⟩ (by decide) ⟨0, 8, _, _, rfl, rfl, rfl⟩ rfl rfl (Nat.le_of_ble_eq_true rfl) ⟨(Nat.le_of_ble_eq_true rfl), (Nat.le_of_ble_eq_true rfl)⟩ ⟨(Nat.le_of_ble_eq_true rfl), (Nat.le_of_ble_eq_true rfl)⟩ dX12_setPrice_33 (fun H locs hP hD hS => ?_)
      refine lv_aload_n hx hb dX12_setPrice_36 rfl (lv_at hl 0 rfl) ?_
      refine lv_bipush (v := 8) hx hb dX12_setPrice_37 (by decide) ?_
      refine lv_iload_n hx hb dX12_setPrice_39 rfl (lv_at hl 1 rfl) ?_
      refine lv_iadd hx hb dX12_setPrice_40 ?_
      refine lv_iload_n hx hb dX12_setPrice_41 rfl (lv_at hl 2 rfl) ?_
      obtain ⟨r_5, t_s_6, hq, hf⟩ := bd2_some hf
      refine wrV (As := [.int (8 + x1), .int x2]) (rest := []) (wn := [(a_t, .inr (8, [.int 0, .ref a_t_s, .ref a_t_states, .int t_stateMany_3, .ref a_t_snapshot, .int t_hasSnapshot, .ref a_t_text, .int t_length, .int t_at, .int t_isWell, .ref a_t_read, .int t_readMany, .ref a_t_prices, .int t_priceMany, .int t_pieceMany, .long t_coins])), (a_t_s, .inl (G.2.1, 68, .inl t_s_6)), (a_t_states, .inl (G.2.1, 408, .inl t_states_4))]) hF hG hP hD hS hA hl.1 (c_X12_sets l G a_t 0 a_t_states t_stateMany_3 a_t_snapshot t_hasSnapshot a_t_text t_length t_at t_isWell a_t_read t_readMany a_t_prices t_priceMany t_pieceMany t_coins a_t_s t_s (8 + x1) x2 r_5 t_s_6 hq) k_X12_sets q1103 [0, 1] [2] [1, 2, 0] rfl rfl rfl rfl ⟨rfl, rfl⟩ (by decide) ⟨0, 8, _, _, rfl, rfl, rfl⟩ rfl rfl (Nat.le_of_ble_eq_true rfl) ⟨(Nat.le_of_ble_eq_true rfl), (Nat.le_of_ble_eq_true rfl)⟩ ⟨(Nat.le_of_ble_eq_true rfl), (Nat.le_of_ble_eq_true rfl)⟩ dX12_setPrice_42 (fun H locs hP hD hS => ?_)
      have hf : (some (r_5, 0, t_stateMany_3, t_s_6, t_states_4) : Option (Int32 × Int32 × Int32 × (Nat → Int32) × (Nat → Int32))) = some (rr, w_t_thrown, w_t_stateMany, w_t_s, w_t_states) := hf
      cases hf
      exact we_i hF hr hlk hP hD hS dX12_setPrice_45 rfl
    · have hf := (if_pos c0).symm.trans hf
      refine lv_aload_n hx hb dX12_setPrice_26 rfl (lv_at hl 0 rfl) ?_
      refine lv_iconst (v := 2) hx hb dX12_setPrice_27 (by decide) ?_
      obtain ⟨r_7, t_thrown_8, hq, hf⟩ := bd2_some hf
      refine wrV (As := [.int 2]) (rest := []) (wn := [(a_t, .inr (8, [.int t_thrown_8, .ref a_t_s, .ref a_t_states, .int t_stateMany, .ref a_t_snapshot, .int t_hasSnapshot, .ref a_t_text, .int t_length, .int t_at, .int t_isWell, .ref a_t_read, .int t_readMany, .ref a_t_prices, .int t_priceMany, .int t_pieceMany, .long t_coins])), (a_t_s, .inl (G.2.1, 68, .inl t_s)), (a_t_states, .inl (G.2.1, 408, .inl t_states))]) hF hG hP hD hS hA hl.1 (c_X12_fails l G a_t 0 a_t_s a_t_states t_stateMany a_t_snapshot t_hasSnapshot a_t_text t_length t_at t_isWell a_t_read t_readMany a_t_prices t_priceMany t_pieceMany t_coins 2 r_7 t_thrown_8 hq) k_X12_fails q1083 [0] [1, 2] [2, 0, 1] rfl rfl rfl rfl ⟨rfl, rfl⟩ (by decide) ⟨0, 8, _, _, rfl, rfl, rfl⟩ rfl rfl (Nat.le_of_ble_eq_true rfl) ⟨(Nat.le_of_ble_eq_true rfl), (Nat.le_of_ble_eq_true rfl)⟩ ⟨(Nat.le_of_ble_eq_true rfl), (Nat.le_of_ble_eq_true rfl)⟩ dX12_setPrice_28 (fun H locs hP hD hS => ?_)
      have hf : (some (r_7, t_thrown_8, t_stateMany, t_s, t_states) : Option (Int32 × Int32 × Int32 × (Nat → Int32) × (Nat → Int32))) = some (rr, w_t_thrown, w_t_stateMany, w_t_s, w_t_states) := hf
      cases hf
      exact we_i hF hr hlk hP hD hS dX12_setPrice_31 rfl
  · have hf := (if_pos c0).symm.trans hf
    refine lv_aload_n hx hb dX12_setPrice_13 rfl (lv_at hl 0 rfl) ?_
    refine lv_iconst (v := 1) hx hb dX12_setPrice_14 (by decide) ?_
    obtain ⟨r_9, t_thrown_10, hq, hf⟩ := bd2_some hf
    refine wrV (As := [.int 1]) (rest := []) (wn := [(a_t, .inr (8, [.int t_thrown_10, .ref a_t_s, .ref a_t_states, .int t_stateMany, .ref a_t_snapshot, .int t_hasSnapshot, .ref a_t_text, .int t_length, .int t_at, .int t_isWell, .ref a_t_read, .int t_readMany, .ref a_t_prices, .int t_priceMany, .int t_pieceMany, .long t_coins])), (a_t_s, .inl (G.2.1, 68, .inl t_s)), (a_t_states, .inl (G.2.1, 408, .inl t_states))]) hF hG hP hD hS hA hl.1 (c_X12_fails l G a_t 0 a_t_s a_t_states t_stateMany a_t_snapshot t_hasSnapshot a_t_text t_length t_at t_isWell a_t_read t_readMany a_t_prices t_priceMany t_pieceMany t_coins 1 r_9 t_thrown_10 hq) k_X12_fails q1083 [0] [1, 2] [2, 0, 1] rfl rfl rfl rfl ⟨rfl, rfl⟩ (by decide) ⟨0, 8, _, _, rfl, rfl, rfl⟩ rfl rfl (Nat.le_of_ble_eq_true rfl) ⟨(Nat.le_of_ble_eq_true rfl), (Nat.le_of_ble_eq_true rfl)⟩ ⟨(Nat.le_of_ble_eq_true rfl), (Nat.le_of_ble_eq_true rfl)⟩ dX12_setPrice_15 (fun H locs hP hD hS => ?_)
    have hf : (some (r_9, t_thrown_10, t_stateMany, t_s, t_states) : Option (Int32 × Int32 × Int32 × (Nat → Int32) × (Nat → Int32))) = some (rr, w_t_thrown, w_t_stateMany, w_t_s, w_t_states) := hf
    cases hf
    exact we_i hF hr hlk hP hD hS dX12_setPrice_18 rfl
def f_X12_of (t_s : Nat → Int32) (x1 : Int32) : Option (Int32) := gd (¬ ((8 + x1) < 0 ∨ 68 ≤ Int32.toNatClampNeg (8 + x1))) (some (t_s (Int32.toNatClampNeg (8 + x1))))
theorem k_X12_of : KV yX12_of cX12_of 2 (some .int) 1 := ⟨qc_yX12_of, q9, ⟨by decide +kernel, by decide +kernel, by decide +kernel⟩, qi_yX12_of, qs_yX12_of⟩
abbrev RM_X12_of : Room := { frames := 0, cells := 0, slots := 0, locals := 0 }
set_option maxHeartbeats 4000000 in
set_option maxRecDepth 100000 in
theorem c_X12_of (l : Launch) (G : GP) (a_t : Nat) (t_thrown : Int32) (a_t_states : Nat) (t_stateMany : Int32) (a_t_snapshot : Nat) (t_hasSnapshot : Int32) (a_t_text : Nat) (t_length : Int32) (t_at : Int32) (t_isWell : Int32) (a_t_read : Nat) (t_readMany : Int32) (a_t_prices : Nat) (t_priceMany : Int32) (t_pieceMany : Int32) (t_coins : Int64) (a_t_s : Nat) (t_s : Nat → Int32) (x1 : Int32) (rr : Int32) (hf : f_X12_of t_s x1 = some rr) : RM l yX12_of cX12_of 2 (some .int) 0 0 G [.ref a_t, .int x1] [(a_t, .inr (8, [.int t_thrown, .ref a_t_s, .ref a_t_states, .int t_stateMany, .ref a_t_snapshot, .int t_hasSnapshot, .ref a_t_text, .int t_length, .int t_at, .int t_isWell, .ref a_t_read, .int t_readMany, .ref a_t_prices, .int t_priceMany, .int t_pieceMany, .long t_coins])), (a_t_s, .inl (G.2.1, 68, .inl t_s))] (some (.int rr)) := by
  refine RM.ofW (C := RX12) (by decide) rfl (Nat.le_of_ble_eq_true rfl) ?_
  intro p e s m below meth c hF hr hlk hG hP ls hl
  have hl : lv_has ls 2 [(0, .ref a_t), (1, .int x1)] := hl
  have hx := hF.1
  have hb := hF.2.1
  have hml := hF.2.2.1
  have hown := hF.2.2.2.1
  have hts := hF.2.2.2.2
  unfold f_X12_of at hf
  refine lv_aload_n hx hb dX12_of_0 rfl (lv_at hl 0 rfl) ?_
  refine gf (C := RX12) (T := TX12) (N := 16) (ci := 8) (v := .ref a_t_s) hF hG hP inX12 0 rfl rfl 1 (by decide) q1021 rfl rfl dX12_of_1 ?_
  refine lv_bipush (v := 8) hx hb dX12_of_4 (by decide) ?_
  refine lv_iload_n hx hb dX12_of_6 rfl (lv_at hl 1 rfl) ?_
  refine lv_iadd hx hb dX12_of_7 ?_
  obtain ⟨hg, hf⟩ := gd_some hf
  refine ald_i (k := Int32.toNatClampNeg (8 + x1)) hF hG hP 1 rfl rfl hg dX12_of_8 ?_
  have hf : (some (t_s (Int32.toNatClampNeg (8 + x1))) : Option (Int32)) = some rr := hf
  cases hf
  exact re_i hF hr hlk dX12_of_9 rfl
def l_X12_dropOldest_43 (x1 : Int32) : Nat → Int32 → (Nat → Int32) → Option ((Nat → Int32))
  | 0, _, _ => none
  | n + 1, i2_4, t_s_5 => (if (t_s_5 0) ≤ i2_4 then some t_s_5 else bd1 (if (t_s_5 0) ≤ (i2_4 + x1) then some 0 else bd1 (f_X12_of t_s_5 (i2_4 + x1)) (fun (r_8 : Int32) => some r_8)) (fun (j_7 : Int32) => gd (¬ ((8 + i2_4) < 0 ∨ 68 ≤ Int32.toNatClampNeg (8 + i2_4))) (l_X12_dropOldest_43 x1 n (i2_4 + 1) (upd t_s_5 (Int32.toNatClampNeg (8 + i2_4)) j_7))))
def f_X12_dropOldest (t_thrown : Int32) (t_stateMany : Int32) (t_s : Nat → Int32) (t_states : Nat → Int32) (x1 : Int32) : Option (Int32 × Int32 × Int32 × (Nat → Int32) × (Nat → Int32)) := bd1 (f_X12_in x1 1 60) (fun (r_1 : Int32) => (if r_1 = 0 then bd2 (f_X12_fails 0 1) (fun (r_11 : Int32) (t_thrown_12 : Int32) => some (r_11, t_thrown_12, t_stateMany, t_s, t_states)) else (if x1 ≤ (t_s 0) then bd2 (f_X12_records t_stateMany t_s t_states) (fun (t_stateMany_2 : Int32) (t_states_3 : Nat → Int32) => bd1 (l_X12_dropOldest_43 x1 1000 0 t_s) (fun (t_s_6 : Nat → Int32) => some (((upd t_s_6 0 ((t_s_6 0) - x1)) 0), 0, t_stateMany_2, (upd t_s_6 0 ((t_s_6 0) - x1)), t_states_3))) else bd2 (f_X12_fails 0 2) (fun (r_9 : Int32) (t_thrown_10 : Int32) => some (r_9, t_thrown_10, t_stateMany, t_s, t_states)))))
theorem k_X12_dropOldest : KV yX12_dropOldest cX12_dropOldest 3 (some .int) 1 := ⟨qc_yX12_dropOldest, q9, ⟨by decide +kernel, by decide +kernel, by decide +kernel⟩, qi_yX12_dropOldest, qs_yX12_dropOldest⟩
abbrev RM_X12_dropOldest : Room := { frames := 1, cells := 0, slots := 0, locals := 22 }
set_option maxHeartbeats 4000000 in
set_option maxRecDepth 100000 in
theorem c_X12_dropOldest (l : Launch) (G : GP) (a_t : Nat) (t_thrown : Int32) (t_stateMany : Int32) (a_t_snapshot : Nat) (t_hasSnapshot : Int32) (a_t_text : Nat) (t_length : Int32) (t_at : Int32) (t_isWell : Int32) (a_t_read : Nat) (t_readMany : Int32) (a_t_prices : Nat) (t_priceMany : Int32) (t_pieceMany : Int32) (t_coins : Int64) (a_t_s : Nat) (t_s : Nat → Int32) (a_t_states : Nat) (t_states : Nat → Int32) (x1 : Int32) (rr : Int32) (w_t_thrown : Int32) (w_t_stateMany : Int32) (w_t_s : Nat → Int32) (w_t_states : Nat → Int32) (hf : f_X12_dropOldest t_thrown t_stateMany t_s t_states x1 = some (rr, w_t_thrown, w_t_stateMany, w_t_s, w_t_states)) : WM l yX12_dropOldest cX12_dropOldest 3 (some .int) 1 22 G [.ref a_t, .int x1] [(a_t, .inr (8, [.int t_thrown, .ref a_t_s, .ref a_t_states, .int t_stateMany, .ref a_t_snapshot, .int t_hasSnapshot, .ref a_t_text, .int t_length, .int t_at, .int t_isWell, .ref a_t_read, .int t_readMany, .ref a_t_prices, .int t_priceMany, .int t_pieceMany, .long t_coins])), (a_t_s, .inl (G.2.1, 68, .inl t_s)), (a_t_states, .inl (G.2.1, 408, .inl t_states))] (some (.int rr)) [(a_t, .inr (8, [.int w_t_thrown, .ref a_t_s, .ref a_t_states, .int w_t_stateMany, .ref a_t_snapshot, .int t_hasSnapshot, .ref a_t_text, .int t_length, .int t_at, .int t_isWell, .ref a_t_read, .int t_readMany, .ref a_t_prices, .int t_priceMany, .int t_pieceMany, .long t_coins])), (a_t_s, .inl (G.2.1, 68, .inl w_t_s)), (a_t_states, .inl (G.2.1, 408, .inl w_t_states))] := by
  refine WM.ofW (C := RX12) (by decide) rfl (Nat.le_of_ble_eq_true rfl) ?_
  intro p e s m below meth c A hF hr hlk hG hA hP hD ls hl
  have hl : lv_has ls 3 [(0, .ref a_t), (1, .int x1)] := hl
  have hx := hF.1
  have hb := hF.2.1
  have hml := hF.2.2.1
  have hown := hF.2.2.2.1
  have hts := hF.2.2.2.2
  have hS : va_S A s.heap s.heap [] := va_S.rf
  unfold f_X12_dropOldest at hf
  refine lv_aload_n hx hb dX12_dropOldest_0 rfl (lv_at hl 0 rfl) ?_
  refine lv_iconst (v := 0) hx hb dX12_dropOldest_1 (by decide) ?_
  refine pf (C := RX12) (T := TX12) (N := 16) (ci := 8) (v := .int 0) (ty := .int) hF hG hP hD hS inX12 tyX12 tyX12_ok nmX12 0 rfl rfl 0 (by decide) q1020 rfl rfl (by decide +kernel) rfl rfl (Nat.le_of_ble_eq_true rfl) dX12_dropOldest_2 (fun H locs hP hD hS => ?_)
  replace hP : va_P G.1 vwCl [(a_t, .inr (8, [.int 0, .ref a_t_s, .ref a_t_states, .int t_stateMany, .ref a_t_snapshot, .int t_hasSnapshot, .ref a_t_text, .int t_length, .int t_at, .int t_isWell, .ref a_t_read, .int t_readMany, .ref a_t_prices, .int t_priceMany, .int t_pieceMany, .long t_coins])), (a_t_s, .inl (G.2.1, 68, .inl t_s)), (a_t_states, .inl (G.2.1, 408, .inl t_states))] H := hP
  replace hD : va_D A [(a_t, .inr (8, [.int 0, .ref a_t_s, .ref a_t_states, .int t_stateMany, .ref a_t_snapshot, .int t_hasSnapshot, .ref a_t_text, .int t_length, .int t_at, .int t_isWell, .ref a_t_read, .int t_readMany, .ref a_t_prices, .int t_priceMany, .int t_pieceMany, .long t_coins])), (a_t_s, .inl (G.2.1, 68, .inl t_s)), (a_t_states, .inl (G.2.1, 408, .inl t_states))] := hD
  refine lv_iload_n hx hb dX12_dropOldest_5 rfl (lv_at hl 1 rfl) ?_
  refine lv_iconst (v := 1) hx hb dX12_dropOldest_6 (by decide) ?_
  refine lv_bipush (v := 60) hx hb dX12_dropOldest_7 (by decide) ?_
  obtain ⟨r_1, hq, hf⟩ := bd1_some hf
  refine rdS (As := [.int x1, .int 1, .int 60]) (rest := []) hF hG hP hl.1 (c_X12_in l G x1 1 60 r_1 hq) k_X12_in q1080 [] rfl rfl rfl (Nat.le_of_ble_eq_true rfl) ⟨(Nat.le_of_ble_eq_true rfl), (Nat.le_of_ble_eq_true rfl)⟩ ⟨(Nat.zero_le _), (Nat.zero_le _)⟩ dX12_dropOldest_9 ?_
  refine lv_if_ne (tgt := 21) hx hb dX12_dropOldest_12 (by decide) (fun c0 => ?_) (fun c0 => ?_)
  · have hf := (if_neg c0).symm.trans hf
    refine lv_iload_n hx hb dX12_dropOldest_21 rfl (lv_at hl 1 rfl) ?_
    refine lv_aload_n hx hb dX12_dropOldest_22 rfl (lv_at hl 0 rfl) ?_
    refine gf (C := RX12) (T := TX12) (N := 16) (ci := 8) (v := .ref a_t_s) hF hG hP inX12 0 rfl rfl 1 (by decide) q1021 rfl rfl dX12_dropOldest_23 ?_
    refine lv_iconst (v := 0) hx hb dX12_dropOldest_26 (by decide) ?_
    refine ald_i (k := 0) hF hG hP 1 rfl (by decide) (by decide) dX12_dropOldest_27 ?_
    refine lv_icmp_le (tgt := 37) hx hb dX12_dropOldest_28 (by decide) (fun c0 => ?_) (fun c0 => ?_)
    · have hf := (if_pos c0).symm.trans hf
      refine lv_aload_n hx hb dX12_dropOldest_37 rfl (lv_at hl 0 rfl) ?_
      obtain ⟨t_stateMany_2, t_states_3, hq, hf⟩ := bd2_some hf
      refine wrV (As := []) (rest := []) (wn := [(a_t, .inr (8, [.int 0, .ref a_t_s, .ref a_t_states, .int t_stateMany_2, .ref a_t_snapshot, .int t_hasSnapshot, .ref a_t_text, .int t_length, .int t_at, .int t_isWell, .ref a_t_read, .int t_readMany, .ref a_t_prices, .int t_priceMany, .int t_pieceMany, .long t_coins])), (a_t_s, .inl (G.2.1, 68, .inl t_s)), (a_t_states, .inl (G.2.1, 408, .inl t_states_3))]) hF hG hP hD hS hA hl.1 (c_X12_records l G a_t 0 t_stateMany a_t_snapshot t_hasSnapshot a_t_text t_length t_at t_isWell a_t_read t_readMany a_t_prices t_priceMany t_pieceMany t_coins a_t_s t_s a_t_states t_states t_stateMany_2 t_states_3 hq) k_X12_records q1087 [0, 1, 2] [] [0, 1, 2] rfl rfl rfl rfl ⟨rfl, rfl⟩ (by decide) ⟨0, 8, _, _, rfl, rfl, rfl⟩ rfl rfl (Nat.le_of_ble_eq_true rfl) ⟨(Nat.le_of_ble_eq_true rfl), (Nat.le_of_ble_eq_true rfl)⟩ ⟨(Nat.le_of_ble_eq_true rfl), (Nat.le_of_ble_eq_true rfl)⟩ dX12_dropOldest_38 (fun H locs hP hD hS => ?_)
      refine lv_iconst (v := 0) hx hb dX12_dropOldest_41 (by decide) ?_
      refine lv_istore_n (lv' := [(2, .int 0), (0, .ref a_t), (1, .int x1)]) hx hb dX12_dropOldest_42 rfl hl (by decide) rfl (fun ls hl => ?_)
      obtain ⟨t_s_6, hq, hf⟩ := bd1_some hf
      have K43 : ∀ (H : Heap) (locs : List Loc), va_P G.1 vwCl ([(a_t, .inr (8, [.int 0, .ref a_t_s, .ref a_t_states, .int t_stateMany_2, .ref a_t_snapshot, .int t_hasSnapshot, .ref a_t_text, .int t_length, .int t_at, .int t_isWell, .ref a_t_read, .int t_readMany, .ref a_t_prices, .int t_priceMany, .int t_pieceMany, .long t_coins])), (a_t_s, .inl (G.2.1, 68, .inl t_s_6)), (a_t_states, .inl (G.2.1, 408, .inl t_states_3))] : va_W) H → va_D A ([(a_t, .inr (8, [.int 0, .ref a_t_s, .ref a_t_states, .int t_stateMany_2, .ref a_t_snapshot, .int t_hasSnapshot, .ref a_t_text, .int t_length, .int t_at, .int t_isWell, .ref a_t_read, .int t_readMany, .ref a_t_prices, .int t_priceMany, .int t_pieceMany, .long t_coins])), (a_t_s, .inl (G.2.1, 68, .inl t_s_6)), (a_t_states, .inl (G.2.1, 408, .inl t_states_3))] : va_W) → va_S A s.heap H locs → ∀ ls : Array Slot, lv_has ls 3 [(0, .ref a_t), (1, .int x1)] → W p l e RM_X12_dropOldest s m [.ref a_t, .int x1].toArray below meth c H locs 0 0 (MQ below (wrQ (some (.int rr)) G [(a_t, .inr (8, [.int w_t_thrown, .ref a_t_s, .ref a_t_states, .int w_t_stateMany, .ref a_t_snapshot, .int t_hasSnapshot, .ref a_t_text, .int t_length, .int t_at, .int t_isWell, .ref a_t_read, .int t_readMany, .ref a_t_prices, .int t_priceMany, .int t_pieceMany, .long t_coins])), (a_t_s, .inl (G.2.1, 68, .inl w_t_s)), (a_t_states, .inl (G.2.1, 408, .inl w_t_states))] A) [.ref a_t, .int x1].toArray s 0 0 A) (F0 m 91 ls []) := by
        intro H locs hP hD hS ls hl
        refine lv_aload_n hx hb dX12_dropOldest_91 rfl (lv_at hl 0 rfl) ?_
        refine gf (C := RX12) (T := TX12) (N := 16) (ci := 8) (v := .ref a_t_s) hF hG hP inX12 0 rfl rfl 1 (by decide) q1021 rfl rfl dX12_dropOldest_92 ?_
        refine lv_iconst (v := 0) hx hb dX12_dropOldest_95 (by decide) ?_
        refine lv_dup2_11 hx hb dX12_dropOldest_96 rfl rfl ?_
        refine ald_i (k := 0) hF hG hP 1 rfl (by decide) (by decide) dX12_dropOldest_97 ?_
        refine lv_iload_n hx hb dX12_dropOldest_98 rfl (lv_at hl 1 rfl) ?_
        refine lv_isub hx hb dX12_dropOldest_99 ?_
        refine ast_i (k := 0) hF hG hP hD hS 1 rfl (by decide) (by decide) dX12_dropOldest_100 (fun H locs hP hD hS => ?_)
        replace hP : va_P G.1 vwCl [(a_t, .inr (8, [.int 0, .ref a_t_s, .ref a_t_states, .int t_stateMany_2, .ref a_t_snapshot, .int t_hasSnapshot, .ref a_t_text, .int t_length, .int t_at, .int t_isWell, .ref a_t_read, .int t_readMany, .ref a_t_prices, .int t_priceMany, .int t_pieceMany, .long t_coins])), (a_t_s, .inl (G.2.1, 68, .inl (upd t_s_6 0 ((t_s_6 0) - x1)))), (a_t_states, .inl (G.2.1, 408, .inl t_states_3))] H := hP
        replace hD : va_D A [(a_t, .inr (8, [.int 0, .ref a_t_s, .ref a_t_states, .int t_stateMany_2, .ref a_t_snapshot, .int t_hasSnapshot, .ref a_t_text, .int t_length, .int t_at, .int t_isWell, .ref a_t_read, .int t_readMany, .ref a_t_prices, .int t_priceMany, .int t_pieceMany, .long t_coins])), (a_t_s, .inl (G.2.1, 68, .inl (upd t_s_6 0 ((t_s_6 0) - x1)))), (a_t_states, .inl (G.2.1, 408, .inl t_states_3))] := hD
        refine lv_aload_n hx hb dX12_dropOldest_101 rfl (lv_at hl 0 rfl) ?_
        refine gf (C := RX12) (T := TX12) (N := 16) (ci := 8) (v := .ref a_t_s) hF hG hP inX12 0 rfl rfl 1 (by decide) q1021 rfl rfl dX12_dropOldest_102 ?_
        refine lv_iconst (v := 0) hx hb dX12_dropOldest_105 (by decide) ?_
        refine ald_i (k := 0) hF hG hP 1 rfl (by decide) (by decide) dX12_dropOldest_106 ?_
        have hf : (some (((upd t_s_6 0 ((t_s_6 0) - x1)) 0), 0, t_stateMany_2, (upd t_s_6 0 ((t_s_6 0) - x1)), t_states_3) : Option (Int32 × Int32 × Int32 × (Nat → Int32) × (Nat → Int32))) = some (rr, w_t_thrown, w_t_stateMany, w_t_s, w_t_states) := hf
        cases hf
        exact we_i hF hr hlk hP hD hS dX12_dropOldest_107 rfl
      clear hf
      have L43 : ∀ (n : Nat) (i2_4 : Int32) (t_s_5 : Nat → Int32), l_X12_dropOldest_43 x1 n i2_4 t_s_5 = some t_s_6 → ∀ (H : Heap) (locs : List Loc), va_P G.1 vwCl ([(a_t, .inr (8, [.int 0, .ref a_t_s, .ref a_t_states, .int t_stateMany_2, .ref a_t_snapshot, .int t_hasSnapshot, .ref a_t_text, .int t_length, .int t_at, .int t_isWell, .ref a_t_read, .int t_readMany, .ref a_t_prices, .int t_priceMany, .int t_pieceMany, .long t_coins])), (a_t_s, .inl (G.2.1, 68, .inl t_s_5)), (a_t_states, .inl (G.2.1, 408, .inl t_states_3))] : va_W) H → va_D A ([(a_t, .inr (8, [.int 0, .ref a_t_s, .ref a_t_states, .int t_stateMany_2, .ref a_t_snapshot, .int t_hasSnapshot, .ref a_t_text, .int t_length, .int t_at, .int t_isWell, .ref a_t_read, .int t_readMany, .ref a_t_prices, .int t_priceMany, .int t_pieceMany, .long t_coins])), (a_t_s, .inl (G.2.1, 68, .inl t_s_5)), (a_t_states, .inl (G.2.1, 408, .inl t_states_3))] : va_W) → va_S A s.heap H locs → ∀ ls : Array Slot, lv_has ls 3 [(0, .ref a_t), (1, .int x1), (2, .int i2_4)] → W p l e RM_X12_dropOldest s m [.ref a_t, .int x1].toArray below meth c H locs 0 0 (MQ below (wrQ (some (.int rr)) G [(a_t, .inr (8, [.int w_t_thrown, .ref a_t_s, .ref a_t_states, .int w_t_stateMany, .ref a_t_snapshot, .int t_hasSnapshot, .ref a_t_text, .int t_length, .int t_at, .int t_isWell, .ref a_t_read, .int t_readMany, .ref a_t_prices, .int t_priceMany, .int t_pieceMany, .long t_coins])), (a_t_s, .inl (G.2.1, 68, .inl w_t_s)), (a_t_states, .inl (G.2.1, 408, .inl w_t_states))] A) [.ref a_t, .int x1].toArray s 0 0 A) (F0 m 43 ls []) := by
        intro n
        induction n with
        | zero =>
          intro i2_4 t_s_5 hf
          exact nomatch (show none = some t_s_6 from hf)
        | succ n ih =>
          intro i2_4 t_s_5 hf H locs hP hD hS ls hl
          rw [l_X12_dropOldest_43] at hf
          refine lv_iload_n hx hb dX12_dropOldest_43 rfl (lv_at hl 2 rfl) ?_
          refine lv_aload_n hx hb dX12_dropOldest_44 rfl (lv_at hl 0 rfl) ?_
          refine gf (C := RX12) (T := TX12) (N := 16) (ci := 8) (v := .ref a_t_s) hF hG hP inX12 0 rfl rfl 1 (by decide) q1021 rfl rfl dX12_dropOldest_45 ?_
          refine lv_iconst (v := 0) hx hb dX12_dropOldest_48 (by decide) ?_
          refine ald_i (k := 0) hF hG hP 1 rfl (by decide) (by decide) dX12_dropOldest_49 ?_
          refine lv_icmp_ge (tgt := 91) hx hb dX12_dropOldest_50 (by decide) (fun c0 => ?_) (fun c0 => ?_)
          · have hf := (if_pos c0).symm.trans hf
            have hf : (some t_s_5 : Option ((Nat → Int32))) = some t_s_6 := hf
            cases hf
            exact K43 _ _ hP hD hS ls (lv_sub hl [0, 1] rfl)
          · have hf := (if_neg c0).symm.trans hf
            refine lv_aload_n hx hb dX12_dropOldest_53 rfl (lv_at hl 0 rfl) ?_
            refine gf (C := RX12) (T := TX12) (N := 16) (ci := 8) (v := .ref a_t_s) hF hG hP inX12 0 rfl rfl 1 (by decide) q1021 rfl rfl dX12_dropOldest_54 ?_
            refine lv_bipush (v := 8) hx hb dX12_dropOldest_57 (by decide) ?_
            refine lv_iload_n hx hb dX12_dropOldest_59 rfl (lv_at hl 2 rfl) ?_
            refine lv_iadd hx hb dX12_dropOldest_60 ?_
            refine lv_iload_n hx hb dX12_dropOldest_61 rfl (lv_at hl 2 rfl) ?_
            refine lv_iload_n hx hb dX12_dropOldest_62 rfl (lv_at hl 1 rfl) ?_
            refine lv_iadd hx hb dX12_dropOldest_63 ?_
            refine lv_aload_n hx hb dX12_dropOldest_64 rfl (lv_at hl 0 rfl) ?_
            refine gf (C := RX12) (T := TX12) (N := 16) (ci := 8) (v := .ref a_t_s) hF hG hP inX12 0 rfl rfl 1 (by decide) q1021 rfl rfl dX12_dropOldest_65 ?_
            refine lv_iconst (v := 0) hx hb dX12_dropOldest_68 (by decide) ?_
            refine ald_i (k := 0) hF hG hP 1 rfl (by decide) (by decide) dX12_dropOldest_69 ?_
            obtain ⟨j_7, hq, hf⟩ := bd1_some hf
            have J84 : ∀ (H : Heap) (locs : List Loc), va_P G.1 vwCl ([(a_t, .inr (8, [.int 0, .ref a_t_s, .ref a_t_states, .int t_stateMany_2, .ref a_t_snapshot, .int t_hasSnapshot, .ref a_t_text, .int t_length, .int t_at, .int t_isWell, .ref a_t_read, .int t_readMany, .ref a_t_prices, .int t_priceMany, .int t_pieceMany, .long t_coins])), (a_t_s, .inl (G.2.1, 68, .inl t_s_5)), (a_t_states, .inl (G.2.1, 408, .inl t_states_3))] : va_W) H → va_D A ([(a_t, .inr (8, [.int 0, .ref a_t_s, .ref a_t_states, .int t_stateMany_2, .ref a_t_snapshot, .int t_hasSnapshot, .ref a_t_text, .int t_length, .int t_at, .int t_isWell, .ref a_t_read, .int t_readMany, .ref a_t_prices, .int t_priceMany, .int t_pieceMany, .long t_coins])), (a_t_s, .inl (G.2.1, 68, .inl t_s_5)), (a_t_states, .inl (G.2.1, 408, .inl t_states_3))] : va_W) → va_S A s.heap H locs → ∀ ls : Array Slot, lv_has ls 3 [(0, .ref a_t), (1, .int x1), (2, .int i2_4)] → W p l e RM_X12_dropOldest s m [.ref a_t, .int x1].toArray below meth c H locs 0 0 (MQ below (wrQ (some (.int rr)) G [(a_t, .inr (8, [.int w_t_thrown, .ref a_t_s, .ref a_t_states, .int w_t_stateMany, .ref a_t_snapshot, .int t_hasSnapshot, .ref a_t_text, .int t_length, .int t_at, .int t_isWell, .ref a_t_read, .int t_readMany, .ref a_t_prices, .int t_priceMany, .int t_pieceMany, .long t_coins])), (a_t_s, .inl (G.2.1, 68, .inl w_t_s)), (a_t_states, .inl (G.2.1, 408, .inl w_t_states))] A) [.ref a_t, .int x1].toArray s 0 0 A) (F0 m 84 ls [.int j_7, .int (8 + i2_4), .ref a_t_s]) := by
              intro H locs hP hD hS ls hl
              obtain ⟨hg, hf⟩ := gd_some hf
              refine ast_i (k := Int32.toNatClampNeg (8 + i2_4)) hF hG hP hD hS 1 rfl rfl hg dX12_dropOldest_84 (fun H locs hP hD hS => ?_)
              replace hP : va_P G.1 vwCl [(a_t, .inr (8, [.int 0, .ref a_t_s, .ref a_t_states, .int t_stateMany_2, .ref a_t_snapshot, .int t_hasSnapshot, .ref a_t_text, .int t_length, .int t_at, .int t_isWell, .ref a_t_read, .int t_readMany, .ref a_t_prices, .int t_priceMany, .int t_pieceMany, .long t_coins])), (a_t_s, .inl (G.2.1, 68, .inl (upd t_s_5 (Int32.toNatClampNeg (8 + i2_4)) j_7))), (a_t_states, .inl (G.2.1, 408, .inl t_states_3))] H := hP
              replace hD : va_D A [(a_t, .inr (8, [.int 0, .ref a_t_s, .ref a_t_states, .int t_stateMany_2, .ref a_t_snapshot, .int t_hasSnapshot, .ref a_t_text, .int t_length, .int t_at, .int t_isWell, .ref a_t_read, .int t_readMany, .ref a_t_prices, .int t_priceMany, .int t_pieceMany, .long t_coins])), (a_t_s, .inl (G.2.1, 68, .inl (upd t_s_5 (Int32.toNatClampNeg (8 + i2_4)) j_7))), (a_t_states, .inl (G.2.1, 408, .inl t_states_3))] := hD
              refine lv_iinc (v := (i2_4 + 1)) (lv' := [(2, .int (i2_4 + 1)), (0, .ref a_t), (1, .int x1)]) hx hb dX12_dropOldest_85 hl (k := 2) rfl rfl (by decide) rfl (fun ls hl => ?_)
              refine lv_goto (tgt := 43) hx hb dX12_dropOldest_88 (by decide) ?_
              exact ih (i2_4 + 1) (upd t_s_5 (Int32.toNatClampNeg (8 + i2_4)) j_7) hf _ _ hP hD hS ls (lv_sub hl [1, 2, 0] rfl)
            clear hf
            have hf := hq
            clear hq
            refine lv_icmp_ge (tgt := 83) hx hb dX12_dropOldest_70 (by decide) (fun c0 => ?_) (fun c0 => ?_)
            · have hf := (if_pos c0).symm.trans hf
              refine lv_iconst (v := 0) hx hb dX12_dropOldest_83 (by decide) ?_
              have hf : (some 0 : Option (Int32)) = some j_7 := hf
              cases hf
              exact J84 _ _ hP hD hS ls (lv_sub hl [0, 1, 2] rfl)
            · have hf := (if_neg c0).symm.trans hf
              refine lv_aload_n hx hb dX12_dropOldest_73 rfl (lv_at hl 0 rfl) ?_
              refine lv_iload_n hx hb dX12_dropOldest_74 rfl (lv_at hl 2 rfl) ?_
              refine lv_iload_n hx hb dX12_dropOldest_75 rfl (lv_at hl 1 rfl) ?_
              refine lv_iadd hx hb dX12_dropOldest_76 ?_
              obtain ⟨r_8, hq, hf⟩ := bd1_some hf
              refine rdV (As := [.int (i2_4 + x1)]) (rest := [.int (8 + i2_4), .ref a_t_s]) hF hG hP hl.1 (c_X12_of l G a_t 0 a_t_states t_stateMany_2 a_t_snapshot t_hasSnapshot a_t_text t_length t_at t_isWell a_t_read t_readMany a_t_prices t_priceMany t_pieceMany t_coins a_t_s t_s_5 (i2_4 + x1) r_8 hq) k_X12_of q1111 [0, 1] rfl ⟨0, 8, _, _, rfl, rfl, rfl⟩ rfl rfl (Nat.le_of_ble_eq_true rfl) ⟨(Nat.le_of_ble_eq_true rfl), (Nat.le_of_ble_eq_true rfl)⟩ ⟨(Nat.zero_le _), (Nat.zero_le _)⟩ dX12_dropOldest_77 ?_
              refine lv_goto (tgt := 84) hx hb dX12_dropOldest_80 (by decide) ?_
              have hf : (some r_8 : Option (Int32)) = some j_7 := hf
              cases hf
              exact J84 _ _ hP hD hS ls (lv_sub hl [0, 1, 2] rfl)
      exact L43 1000 0 t_s hq _ _ hP hD hS ls (lv_sub hl [1, 2, 0] rfl)
    · have hf := (if_neg c0).symm.trans hf
      refine lv_aload_n hx hb dX12_dropOldest_31 rfl (lv_at hl 0 rfl) ?_
      refine lv_iconst (v := 2) hx hb dX12_dropOldest_32 (by decide) ?_
      obtain ⟨r_9, t_thrown_10, hq, hf⟩ := bd2_some hf
      refine wrV (As := [.int 2]) (rest := []) (wn := [(a_t, .inr (8, [.int t_thrown_10, .ref a_t_s, .ref a_t_states, .int t_stateMany, .ref a_t_snapshot, .int t_hasSnapshot, .ref a_t_text, .int t_length, .int t_at, .int t_isWell, .ref a_t_read, .int t_readMany, .ref a_t_prices, .int t_priceMany, .int t_pieceMany, .long t_coins])), (a_t_s, .inl (G.2.1, 68, .inl t_s)), (a_t_states, .inl (G.2.1, 408, .inl t_states))]) hF hG hP hD hS hA hl.1 (c_X12_fails l G a_t 0 a_t_s a_t_states t_stateMany a_t_snapshot t_hasSnapshot a_t_text t_length t_at t_isWell a_t_read t_readMany a_t_prices t_priceMany t_pieceMany t_coins 2 r_9 t_thrown_10 hq) k_X12_fails q1083 [0] [1, 2] [2, 0, 1] rfl rfl rfl rfl ⟨rfl, rfl⟩ (by decide) ⟨0, 8, _, _, rfl, rfl, rfl⟩ rfl rfl (Nat.le_of_ble_eq_true rfl) ⟨(Nat.le_of_ble_eq_true rfl), (Nat.le_of_ble_eq_true rfl)⟩ ⟨(Nat.le_of_ble_eq_true rfl), (Nat.le_of_ble_eq_true rfl)⟩ dX12_dropOldest_33 (fun H locs hP hD hS => ?_)
      have hf : (some (r_9, t_thrown_10, t_stateMany, t_s, t_states) : Option (Int32 × Int32 × Int32 × (Nat → Int32) × (Nat → Int32))) = some (rr, w_t_thrown, w_t_stateMany, w_t_s, w_t_states) := hf
      cases hf
      exact we_i hF hr hlk hP hD hS dX12_dropOldest_36 rfl
  · have hf := (if_pos c0).symm.trans hf
    refine lv_aload_n hx hb dX12_dropOldest_15 rfl (lv_at hl 0 rfl) ?_
    refine lv_iconst (v := 1) hx hb dX12_dropOldest_16 (by decide) ?_
    obtain ⟨r_11, t_thrown_12, hq, hf⟩ := bd2_some hf
    refine wrV (As := [.int 1]) (rest := []) (wn := [(a_t, .inr (8, [.int t_thrown_12, .ref a_t_s, .ref a_t_states, .int t_stateMany, .ref a_t_snapshot, .int t_hasSnapshot, .ref a_t_text, .int t_length, .int t_at, .int t_isWell, .ref a_t_read, .int t_readMany, .ref a_t_prices, .int t_priceMany, .int t_pieceMany, .long t_coins])), (a_t_s, .inl (G.2.1, 68, .inl t_s)), (a_t_states, .inl (G.2.1, 408, .inl t_states))]) hF hG hP hD hS hA hl.1 (c_X12_fails l G a_t 0 a_t_s a_t_states t_stateMany a_t_snapshot t_hasSnapshot a_t_text t_length t_at t_isWell a_t_read t_readMany a_t_prices t_priceMany t_pieceMany t_coins 1 r_11 t_thrown_12 hq) k_X12_fails q1083 [0] [1, 2] [2, 0, 1] rfl rfl rfl rfl ⟨rfl, rfl⟩ (by decide) ⟨0, 8, _, _, rfl, rfl, rfl⟩ rfl rfl (Nat.le_of_ble_eq_true rfl) ⟨(Nat.le_of_ble_eq_true rfl), (Nat.le_of_ble_eq_true rfl)⟩ ⟨(Nat.le_of_ble_eq_true rfl), (Nat.le_of_ble_eq_true rfl)⟩ dX12_dropOldest_17 (fun H locs hP hD hS => ?_)
    have hf : (some (r_11, t_thrown_12, t_stateMany, t_s, t_states) : Option (Int32 × Int32 × Int32 × (Nat → Int32) × (Nat → Int32))) = some (rr, w_t_thrown, w_t_stateMany, w_t_s, w_t_states) := hf
    cases hf
    exact we_i hF hr hlk hP hD hS dX12_dropOldest_20 rfl
def f_X12_first (x0 : Int32) (x1 : Int32) : Option (Int32) := (if (x0 + 1) ≤ x1 then some 0 else some ((x0 + 1) - x1))
theorem k_X12_first : KS yX12_first cX12_first 2 (some .int) 2 := ⟨qc_yX12_first, q9, ⟨by decide +kernel, by decide +kernel, by decide +kernel⟩, qt_yX12_first⟩
abbrev RM_X12_first : Room := { frames := 0, cells := 0, slots := 0, locals := 0 }
set_option maxHeartbeats 4000000 in
set_option maxRecDepth 100000 in
theorem c_X12_first (l : Launch) (G : GP) (x0 : Int32) (x1 : Int32) (rr : Int32) (hf : f_X12_first x0 x1 = some rr) : RM l yX12_first cX12_first 2 (some .int) 0 0 G [.int x0, .int x1] [] (some (.int rr)) := by
  refine RM.ofW (C := RX12) (by decide) rfl (Nat.le_of_ble_eq_true rfl) ?_
  intro p e s m below meth c hF hr hlk hG hP ls hl
  have hl : lv_has ls 2 [(0, .int x0), (1, .int x1)] := hl
  have hx := hF.1
  have hb := hF.2.1
  have hml := hF.2.2.1
  have hown := hF.2.2.2.1
  have hts := hF.2.2.2.2
  unfold f_X12_first at hf
  refine lv_iload_n hx hb dX12_first_0 rfl (lv_at hl 0 rfl) ?_
  refine lv_iconst (v := 1) hx hb dX12_first_1 (by decide) ?_
  refine lv_iadd hx hb dX12_first_2 ?_
  refine lv_iload_n hx hb dX12_first_3 rfl (lv_at hl 1 rfl) ?_
  refine lv_icmp_le (tgt := 15) hx hb dX12_first_4 (by decide) (fun c0 => ?_) (fun c0 => ?_)
  · have hf := (if_pos c0).symm.trans hf
    refine lv_iconst (v := 0) hx hb dX12_first_15 (by decide) ?_
    have hf : (some 0 : Option (Int32)) = some rr := hf
    cases hf
    exact re_i hF hr hlk dX12_first_16 rfl
  · have hf := (if_neg c0).symm.trans hf
    refine lv_iload_n hx hb dX12_first_7 rfl (lv_at hl 0 rfl) ?_
    refine lv_iconst (v := 1) hx hb dX12_first_8 (by decide) ?_
    refine lv_iadd hx hb dX12_first_9 ?_
    refine lv_iload_n hx hb dX12_first_10 rfl (lv_at hl 1 rfl) ?_
    refine lv_isub hx hb dX12_first_11 ?_
    refine lv_goto (tgt := 16) hx hb dX12_first_12 (by decide) ?_
    have hf : (some ((x0 + 1) - x1) : Option (Int32)) = some rr := hf
    cases hf
    exact re_i hF hr hlk dX12_first_16 rfl
def l_X12_middle_35 (t_s : Nat → Int32) (x1 : Int32) (i5_3 : Int32) : Nat → Int32 → Int32 → Option (Int32)
  | 0, _, _ => none
  | n + 1, i6_5, i7_6 => (if x1 < i7_6 then some i6_5 else bd1 (f_X12_of t_s i7_6) (fun (r_8 : Int32) => bd1 (f_X12_of t_s i5_3) (fun (r_9 : Int32) => (if r_8 < r_9 then l_X12_middle_35 t_s x1 i5_3 n (i6_5 + 1) (i7_6 + 1) else bd1 (f_X12_of t_s i7_6) (fun (r_10 : Int32) => bd1 (f_X12_of t_s i5_3) (fun (r_11 : Int32) => (if r_10 = r_11 then (if i5_3 ≤ i7_6 then l_X12_middle_35 t_s x1 i5_3 n (i6_5 + 0) (i7_6 + 1) else l_X12_middle_35 t_s x1 i5_3 n (i6_5 + 1) (i7_6 + 1)) else l_X12_middle_35 t_s x1 i5_3 n (i6_5 + 0) (i7_6 + 1))))))))
def l_X12_middle_23 (t_s : Nat → Int32) (x1 : Int32) (r_1 : Int32) : Nat → Int32 → Int32 → Option (Int32)
  | 0, _, _ => none
  | n + 1, i4_2, i5_3 => (if x1 < i5_3 then some i4_2 else bd1 (l_X12_middle_35 t_s x1 i5_3 1000 0 r_1) (fun (o6_7 : Int32) => (if o6_7 = ((x1 - r_1) / 2) then bd1 (f_X12_of t_s i5_3) (fun (r_12 : Int32) => l_X12_middle_23 t_s x1 r_1 n r_12 (i5_3 + 1)) else l_X12_middle_23 t_s x1 r_1 n i4_2 (i5_3 + 1))))
def f_X12_middle (t_s : Nat → Int32) (x1 : Int32) : Option (Int32) := bd1 (f_X12_first x1 (t_s 1)) (fun (r_1 : Int32) => bd1 (l_X12_middle_23 t_s x1 r_1 1000 0 r_1) (fun (o4_4 : Int32) => some o4_4))
theorem k_X12_middle : KV yX12_middle cX12_middle 8 (some .int) 1 := ⟨qc_yX12_middle, q9, ⟨by decide +kernel, by decide +kernel, by decide +kernel⟩, qi_yX12_middle, qs_yX12_middle⟩
abbrev RM_X12_middle : Room := { frames := 1, cells := 0, slots := 0, locals := 21 }
set_option maxHeartbeats 4000000 in
set_option maxRecDepth 100000 in
theorem c_X12_middle (l : Launch) (G : GP) (a_t : Nat) (t_thrown : Int32) (a_t_states : Nat) (t_stateMany : Int32) (a_t_snapshot : Nat) (t_hasSnapshot : Int32) (a_t_text : Nat) (t_length : Int32) (t_at : Int32) (t_isWell : Int32) (a_t_read : Nat) (t_readMany : Int32) (a_t_prices : Nat) (t_priceMany : Int32) (t_pieceMany : Int32) (t_coins : Int64) (a_t_s : Nat) (t_s : Nat → Int32) (x1 : Int32) (rr : Int32) (hf : f_X12_middle t_s x1 = some rr) : RM l yX12_middle cX12_middle 8 (some .int) 1 21 G [.ref a_t, .int x1] [(a_t, .inr (8, [.int t_thrown, .ref a_t_s, .ref a_t_states, .int t_stateMany, .ref a_t_snapshot, .int t_hasSnapshot, .ref a_t_text, .int t_length, .int t_at, .int t_isWell, .ref a_t_read, .int t_readMany, .ref a_t_prices, .int t_priceMany, .int t_pieceMany, .long t_coins])), (a_t_s, .inl (G.2.1, 68, .inl t_s))] (some (.int rr)) := by
  refine RM.ofW (C := RX12) (by decide) rfl (Nat.le_of_ble_eq_true rfl) ?_
  intro p e s m below meth c hF hr hlk hG hP ls hl
  have hl : lv_has ls 8 [(0, .ref a_t), (1, .int x1)] := hl
  have hx := hF.1
  have hb := hF.2.1
  have hml := hF.2.2.1
  have hown := hF.2.2.2.1
  have hts := hF.2.2.2.2
  unfold f_X12_middle at hf
  refine lv_iload_n hx hb dX12_middle_0 rfl (lv_at hl 1 rfl) ?_
  refine lv_aload_n hx hb dX12_middle_1 rfl (lv_at hl 0 rfl) ?_
  refine gf (C := RX12) (T := TX12) (N := 16) (ci := 8) (v := .ref a_t_s) hF hG hP inX12 0 rfl rfl 1 (by decide) q1021 rfl rfl dX12_middle_2 ?_
  refine lv_iconst (v := 1) hx hb dX12_middle_5 (by decide) ?_
  refine ald_i (k := 1) hF hG hP 1 rfl (by decide) (by decide) dX12_middle_6 ?_
  obtain ⟨r_1, hq, hf⟩ := bd1_some hf
  refine rdS (As := [.int x1, .int (t_s 1)]) (rest := []) hF hG hP hl.1 (c_X12_first l G x1 (t_s 1) r_1 hq) k_X12_first q1127 [] rfl rfl rfl (Nat.le_of_ble_eq_true rfl) ⟨(Nat.le_of_ble_eq_true rfl), (Nat.le_of_ble_eq_true rfl)⟩ ⟨(Nat.zero_le _), (Nat.zero_le _)⟩ dX12_middle_7 ?_
  refine lv_istore_n (lv' := [(2, .int r_1), (0, .ref a_t), (1, .int x1)]) hx hb dX12_middle_10 rfl hl (by decide) rfl (fun ls hl => ?_)
  refine lv_iload_n hx hb dX12_middle_11 rfl (lv_at hl 2 rfl) ?_
  refine lv_iload_n hx hb dX12_middle_12 rfl (lv_at hl 0 rfl) ?_
  refine lv_isub hx hb dX12_middle_13 ?_
  refine lv_iconst (v := 2) hx hb dX12_middle_14 (by decide) ?_
  refine lv_idiv hx hb dX12_middle_15 (by decide) ?_
  refine lv_istore_n (lv' := [(3, .int ((x1 - r_1) / 2)), (2, .int r_1), (0, .ref a_t), (1, .int x1)]) hx hb dX12_middle_16 rfl hl (by decide) rfl (fun ls hl => ?_)
  refine lv_iconst (v := 0) hx hb dX12_middle_17 (by decide) ?_
  refine lv_istore (lv' := [(4, .int 0), (3, .int ((x1 - r_1) / 2)), (2, .int r_1), (0, .ref a_t), (1, .int x1)]) hx hb dX12_middle_18 hl (by decide) rfl (fun ls hl => ?_)
  refine lv_iload_n hx hb dX12_middle_20 rfl (lv_at hl 2 rfl) ?_
  refine lv_istore (lv' := [(5, .int r_1), (4, .int 0), (3, .int ((x1 - r_1) / 2)), (2, .int r_1), (0, .ref a_t), (1, .int x1)]) hx hb dX12_middle_21 hl (by decide) rfl (fun ls hl => ?_)
  obtain ⟨o4_4, hq, hf⟩ := bd1_some hf
  have K23 : ∀ ls : Array Slot, lv_has ls 8 [(4, .int o4_4)] → W p l e RM_X12_middle s m [.ref a_t, .int x1].toArray below meth c s.heap [] 0 0 (MQ below (rdQ (some (.int rr))) [.ref a_t, .int x1].toArray s 0 0 (fun _ => False)) (F0 m 119 ls []) := by
    intro ls hl
    refine lv_iload hx hb dX12_middle_119 (lv_at hl 0 rfl) ?_
    have hf : (some o4_4 : Option (Int32)) = some rr := hf
    cases hf
    exact re_i hF hr hlk dX12_middle_121 rfl
  clear hf
  have L23 : ∀ (n : Nat) (i4_2 : Int32) (i5_3 : Int32), l_X12_middle_23 t_s x1 r_1 n i4_2 i5_3 = some o4_4 → ∀ ls : Array Slot, lv_has ls 8 [(0, .ref a_t), (1, .int x1), (2, .int r_1), (3, .int ((x1 - r_1) / 2)), (4, .int i4_2), (5, .int i5_3)] → W p l e RM_X12_middle s m [.ref a_t, .int x1].toArray below meth c s.heap [] 0 0 (MQ below (rdQ (some (.int rr))) [.ref a_t, .int x1].toArray s 0 0 (fun _ => False)) (F0 m 23 ls []) := by
    intro n
    induction n with
    | zero =>
      intro i4_2 i5_3 hf
      exact nomatch (show none = some o4_4 from hf)
    | succ n ih =>
      intro i4_2 i5_3 hf ls hl
      rw [l_X12_middle_23] at hf
      refine lv_iload hx hb dX12_middle_23 (lv_at hl 5 rfl) ?_
      refine lv_iload_n hx hb dX12_middle_25 rfl (lv_at hl 1 rfl) ?_
      refine lv_icmp_gt (tgt := 119) hx hb dX12_middle_26 (by decide) (fun c0 => ?_) (fun c0 => ?_)
      · have hf := (if_pos c0).symm.trans hf
        have hf : (some i4_2 : Option (Int32)) = some o4_4 := hf
        cases hf
        exact K23 ls (lv_sub hl [4] rfl)
      · have hf := (if_neg c0).symm.trans hf
        refine lv_iconst (v := 0) hx hb dX12_middle_29 (by decide) ?_
        refine lv_istore (lv' := [(6, .int 0), (0, .ref a_t), (1, .int x1), (2, .int r_1), (3, .int ((x1 - r_1) / 2)), (4, .int i4_2), (5, .int i5_3)]) hx hb dX12_middle_30 hl (by decide) rfl (fun ls hl => ?_)
        refine lv_iload_n hx hb dX12_middle_32 rfl (lv_at hl 3 rfl) ?_
        refine lv_istore (lv' := [(7, .int r_1), (6, .int 0), (0, .ref a_t), (1, .int x1), (2, .int r_1), (3, .int ((x1 - r_1) / 2)), (4, .int i4_2), (5, .int i5_3)]) hx hb dX12_middle_33 hl (by decide) rfl (fun ls hl => ?_)
        obtain ⟨o6_7, hq, hf⟩ := bd1_some hf
        have K35 : ∀ ls : Array Slot, lv_has ls 8 [(0, .ref a_t), (1, .int x1), (2, .int r_1), (3, .int ((x1 - r_1) / 2)), (4, .int i4_2), (5, .int i5_3), (6, .int o6_7)] → W p l e RM_X12_middle s m [.ref a_t, .int x1].toArray below meth c s.heap [] 0 0 (MQ below (rdQ (some (.int rr))) [.ref a_t, .int x1].toArray s 0 0 (fun _ => False)) (F0 m 94 ls []) := by
          intro ls hl
          refine lv_iload hx hb dX12_middle_94 (lv_at hl 6 rfl) ?_
          refine lv_iload_n hx hb dX12_middle_96 rfl (lv_at hl 3 rfl) ?_
          refine lv_icmp_ne (tgt := 109) hx hb dX12_middle_97 (by decide) (fun c0 => ?_) (fun c0 => ?_)
          · have hf := (if_neg c0).symm.trans hf
            refine lv_iload hx hb dX12_middle_109 (lv_at hl 4 rfl) ?_
            refine lv_istore (lv' := [(4, .int i4_2), (0, .ref a_t), (1, .int x1), (2, .int r_1), (3, .int ((x1 - r_1) / 2)), (5, .int i5_3), (6, .int o6_7)]) hx hb dX12_middle_111 hl (by decide) rfl (fun ls hl => ?_)
            refine lv_iinc (v := (i5_3 + 1)) (lv' := [(5, .int (i5_3 + 1)), (4, .int i4_2), (0, .ref a_t), (1, .int x1), (2, .int r_1), (3, .int ((x1 - r_1) / 2)), (6, .int o6_7)]) hx hb dX12_middle_113 hl (k := 5) rfl rfl (by decide) rfl (fun ls hl => ?_)
            refine lv_goto (tgt := 23) hx hb dX12_middle_116 (by decide) ?_
            exact ih i4_2 (i5_3 + 1) hf ls (lv_sub hl [2, 3, 4, 5, 1, 0] rfl)
          · have hf := (if_pos c0).symm.trans hf
            refine lv_aload_n hx hb dX12_middle_100 rfl (lv_at hl 0 rfl) ?_
            refine lv_iload hx hb dX12_middle_101 (lv_at hl 5 rfl) ?_
            obtain ⟨r_12, hq, hf⟩ := bd1_some hf
            refine rdV (As := [.int i5_3]) (rest := []) hF hG hP hl.1 (c_X12_of l G a_t t_thrown a_t_states t_stateMany a_t_snapshot t_hasSnapshot a_t_text t_length t_at t_isWell a_t_read t_readMany a_t_prices t_priceMany t_pieceMany t_coins a_t_s t_s i5_3 r_12 hq) k_X12_of q1111 [0, 1] rfl ⟨0, 8, _, _, rfl, rfl, rfl⟩ rfl rfl (Nat.le_of_ble_eq_true rfl) ⟨(Nat.le_of_ble_eq_true rfl), (Nat.le_of_ble_eq_true rfl)⟩ ⟨(Nat.zero_le _), (Nat.zero_le _)⟩ dX12_middle_103 ?_
            refine lv_goto (tgt := 111) hx hb dX12_middle_106 (by decide) ?_
            refine lv_istore (lv' := [(4, .int r_12), (0, .ref a_t), (1, .int x1), (2, .int r_1), (3, .int ((x1 - r_1) / 2)), (5, .int i5_3), (6, .int o6_7)]) hx hb dX12_middle_111 hl (by decide) rfl (fun ls hl => ?_)
            refine lv_iinc (v := (i5_3 + 1)) (lv' := [(5, .int (i5_3 + 1)), (4, .int r_12), (0, .ref a_t), (1, .int x1), (2, .int r_1), (3, .int ((x1 - r_1) / 2)), (6, .int o6_7)]) hx hb dX12_middle_113 hl (k := 5) rfl rfl (by decide) rfl (fun ls hl => ?_)
            refine lv_goto (tgt := 23) hx hb dX12_middle_116 (by decide) ?_
            exact ih r_12 (i5_3 + 1) hf ls (lv_sub hl [2, 3, 4, 5, 1, 0] rfl)
        clear hf
        have L35 : ∀ (n : Nat) (i6_5 : Int32) (i7_6 : Int32), l_X12_middle_35 t_s x1 i5_3 n i6_5 i7_6 = some o6_7 → ∀ ls : Array Slot, lv_has ls 8 [(0, .ref a_t), (1, .int x1), (2, .int r_1), (3, .int ((x1 - r_1) / 2)), (4, .int i4_2), (5, .int i5_3), (6, .int i6_5), (7, .int i7_6)] → W p l e RM_X12_middle s m [.ref a_t, .int x1].toArray below meth c s.heap [] 0 0 (MQ below (rdQ (some (.int rr))) [.ref a_t, .int x1].toArray s 0 0 (fun _ => False)) (F0 m 35 ls []) := by
          intro n
          induction n with
          | zero =>
            intro i6_5 i7_6 hf
            exact nomatch (show none = some o6_7 from hf)
          | succ n ih =>
            intro i6_5 i7_6 hf ls hl
            rw [l_X12_middle_35] at hf
            refine lv_iload hx hb dX12_middle_35 (lv_at hl 7 rfl) ?_
            refine lv_iload_n hx hb dX12_middle_37 rfl (lv_at hl 1 rfl) ?_
            refine lv_icmp_gt (tgt := 94) hx hb dX12_middle_38 (by decide) (fun c0 => ?_) (fun c0 => ?_)
            · have hf := (if_pos c0).symm.trans hf
              have hf : (some i6_5 : Option (Int32)) = some o6_7 := hf
              cases hf
              exact K35 ls (lv_sub hl [0, 1, 2, 3, 4, 5, 6] rfl)
            · have hf := (if_neg c0).symm.trans hf
              refine lv_iload hx hb dX12_middle_41 (lv_at hl 6 rfl) ?_
              refine lv_aload_n hx hb dX12_middle_43 rfl (lv_at hl 0 rfl) ?_
              refine lv_iload hx hb dX12_middle_44 (lv_at hl 7 rfl) ?_
              obtain ⟨r_8, hq, hf⟩ := bd1_some hf
              refine rdV (As := [.int i7_6]) (rest := [.int i6_5]) hF hG hP hl.1 (c_X12_of l G a_t t_thrown a_t_states t_stateMany a_t_snapshot t_hasSnapshot a_t_text t_length t_at t_isWell a_t_read t_readMany a_t_prices t_priceMany t_pieceMany t_coins a_t_s t_s i7_6 r_8 hq) k_X12_of q1111 [0, 1] rfl ⟨0, 8, _, _, rfl, rfl, rfl⟩ rfl rfl (Nat.le_of_ble_eq_true rfl) ⟨(Nat.le_of_ble_eq_true rfl), (Nat.le_of_ble_eq_true rfl)⟩ ⟨(Nat.zero_le _), (Nat.zero_le _)⟩ dX12_middle_46 ?_
              refine lv_aload_n hx hb dX12_middle_49 rfl (lv_at hl 0 rfl) ?_
              refine lv_iload hx hb dX12_middle_50 (lv_at hl 5 rfl) ?_
              obtain ⟨r_9, hq, hf⟩ := bd1_some hf
              refine rdV (As := [.int i5_3]) (rest := [.int r_8, .int i6_5]) hF hG hP hl.1 (c_X12_of l G a_t t_thrown a_t_states t_stateMany a_t_snapshot t_hasSnapshot a_t_text t_length t_at t_isWell a_t_read t_readMany a_t_prices t_priceMany t_pieceMany t_coins a_t_s t_s i5_3 r_9 hq) k_X12_of q1111 [0, 1] rfl ⟨0, 8, _, _, rfl, rfl, rfl⟩ rfl rfl (Nat.le_of_ble_eq_true rfl) ⟨(Nat.le_of_ble_eq_true rfl), (Nat.le_of_ble_eq_true rfl)⟩ ⟨(Nat.zero_le _), (Nat.zero_le _)⟩ dX12_middle_52 ?_
              refine lv_icmp_lt (tgt := 80) hx hb dX12_middle_55 (by decide) (fun c0 => ?_) (fun c0 => ?_)
              · have hf := (if_pos c0).symm.trans hf
                refine lv_iconst (v := 1) hx hb dX12_middle_80 (by decide) ?_
                refine lv_goto (tgt := 85) hx hb dX12_middle_81 (by decide) ?_
                refine lv_iadd hx hb dX12_middle_85 ?_
                refine lv_istore (lv' := [(6, .int (i6_5 + 1)), (0, .ref a_t), (1, .int x1), (2, .int r_1), (3, .int ((x1 - r_1) / 2)), (4, .int i4_2), (5, .int i5_3), (7, .int i7_6)]) hx hb dX12_middle_86 hl (by decide) rfl (fun ls hl => ?_)
                refine lv_iinc (v := (i7_6 + 1)) (lv' := [(7, .int (i7_6 + 1)), (6, .int (i6_5 + 1)), (0, .ref a_t), (1, .int x1), (2, .int r_1), (3, .int ((x1 - r_1) / 2)), (4, .int i4_2), (5, .int i5_3)]) hx hb dX12_middle_88 hl (k := 7) rfl rfl (by decide) rfl (fun ls hl => ?_)
                refine lv_goto (tgt := 35) hx hb dX12_middle_91 (by decide) ?_
                exact ih (i6_5 + 1) (i7_6 + 1) hf ls (lv_sub hl [2, 3, 4, 5, 6, 7, 1, 0] rfl)
              · have hf := (if_neg c0).symm.trans hf
                refine lv_aload_n hx hb dX12_middle_58 rfl (lv_at hl 0 rfl) ?_
                refine lv_iload hx hb dX12_middle_59 (lv_at hl 7 rfl) ?_
                obtain ⟨r_10, hq, hf⟩ := bd1_some hf
                refine rdV (As := [.int i7_6]) (rest := [.int i6_5]) hF hG hP hl.1 (c_X12_of l G a_t t_thrown a_t_states t_stateMany a_t_snapshot t_hasSnapshot a_t_text t_length t_at t_isWell a_t_read t_readMany a_t_prices t_priceMany t_pieceMany t_coins a_t_s t_s i7_6 r_10 hq) k_X12_of q1111 [0, 1] rfl ⟨0, 8, _, _, rfl, rfl, rfl⟩ rfl rfl (Nat.le_of_ble_eq_true rfl) ⟨(Nat.le_of_ble_eq_true rfl), (Nat.le_of_ble_eq_true rfl)⟩ ⟨(Nat.zero_le _), (Nat.zero_le _)⟩ dX12_middle_61 ?_
                refine lv_aload_n hx hb dX12_middle_64 rfl (lv_at hl 0 rfl) ?_
                refine lv_iload hx hb dX12_middle_65 (lv_at hl 5 rfl) ?_
                obtain ⟨r_11, hq, hf⟩ := bd1_some hf
                refine rdV (As := [.int i5_3]) (rest := [.int r_10, .int i6_5]) hF hG hP hl.1 (c_X12_of l G a_t t_thrown a_t_states t_stateMany a_t_snapshot t_hasSnapshot a_t_text t_length t_at t_isWell a_t_read t_readMany a_t_prices t_priceMany t_pieceMany t_coins a_t_s t_s i5_3 r_11 hq) k_X12_of q1111 [0, 1] rfl ⟨0, 8, _, _, rfl, rfl, rfl⟩ rfl rfl (Nat.le_of_ble_eq_true rfl) ⟨(Nat.le_of_ble_eq_true rfl), (Nat.le_of_ble_eq_true rfl)⟩ ⟨(Nat.zero_le _), (Nat.zero_le _)⟩ dX12_middle_67 ?_
                refine lv_icmp_ne (tgt := 84) hx hb dX12_middle_70 (by decide) (fun c0 => ?_) (fun c0 => ?_)
                · have hf := (if_neg c0).symm.trans hf
                  refine lv_iconst (v := 0) hx hb dX12_middle_84 (by decide) ?_
                  refine lv_iadd hx hb dX12_middle_85 ?_
                  refine lv_istore (lv' := [(6, .int (i6_5 + 0)), (0, .ref a_t), (1, .int x1), (2, .int r_1), (3, .int ((x1 - r_1) / 2)), (4, .int i4_2), (5, .int i5_3), (7, .int i7_6)]) hx hb dX12_middle_86 hl (by decide) rfl (fun ls hl => ?_)
                  refine lv_iinc (v := (i7_6 + 1)) (lv' := [(7, .int (i7_6 + 1)), (6, .int (i6_5 + 0)), (0, .ref a_t), (1, .int x1), (2, .int r_1), (3, .int ((x1 - r_1) / 2)), (4, .int i4_2), (5, .int i5_3)]) hx hb dX12_middle_88 hl (k := 7) rfl rfl (by decide) rfl (fun ls hl => ?_)
                  refine lv_goto (tgt := 35) hx hb dX12_middle_91 (by decide) ?_
                  exact ih (i6_5 + 0) (i7_6 + 1) hf ls (lv_sub hl [2, 3, 4, 5, 6, 7, 1, 0] rfl)
                · have hf := (if_pos c0).symm.trans hf
                  refine lv_iload hx hb dX12_middle_73 (lv_at hl 7 rfl) ?_
                  refine lv_iload hx hb dX12_middle_75 (lv_at hl 5 rfl) ?_
                  refine lv_icmp_ge (tgt := 84) hx hb dX12_middle_77 (by decide) (fun c0 => ?_) (fun c0 => ?_)
                  · have hf := (if_pos c0).symm.trans hf
                    refine lv_iconst (v := 0) hx hb dX12_middle_84 (by decide) ?_
                    refine lv_iadd hx hb dX12_middle_85 ?_
                    refine lv_istore (lv' := [(6, .int (i6_5 + 0)), (0, .ref a_t), (1, .int x1), (2, .int r_1), (3, .int ((x1 - r_1) / 2)), (4, .int i4_2), (5, .int i5_3), (7, .int i7_6)]) hx hb dX12_middle_86 hl (by decide) rfl (fun ls hl => ?_)
                    refine lv_iinc (v := (i7_6 + 1)) (lv' := [(7, .int (i7_6 + 1)), (6, .int (i6_5 + 0)), (0, .ref a_t), (1, .int x1), (2, .int r_1), (3, .int ((x1 - r_1) / 2)), (4, .int i4_2), (5, .int i5_3)]) hx hb dX12_middle_88 hl (k := 7) rfl rfl (by decide) rfl (fun ls hl => ?_)
                    refine lv_goto (tgt := 35) hx hb dX12_middle_91 (by decide) ?_
                    exact ih (i6_5 + 0) (i7_6 + 1) hf ls (lv_sub hl [2, 3, 4, 5, 6, 7, 1, 0] rfl)
                  · have hf := (if_neg c0).symm.trans hf
                    refine lv_iconst (v := 1) hx hb dX12_middle_80 (by decide) ?_
                    refine lv_goto (tgt := 85) hx hb dX12_middle_81 (by decide) ?_
                    refine lv_iadd hx hb dX12_middle_85 ?_
                    refine lv_istore (lv' := [(6, .int (i6_5 + 1)), (0, .ref a_t), (1, .int x1), (2, .int r_1), (3, .int ((x1 - r_1) / 2)), (4, .int i4_2), (5, .int i5_3), (7, .int i7_6)]) hx hb dX12_middle_86 hl (by decide) rfl (fun ls hl => ?_)
                    refine lv_iinc (v := (i7_6 + 1)) (lv' := [(7, .int (i7_6 + 1)), (6, .int (i6_5 + 1)), (0, .ref a_t), (1, .int x1), (2, .int r_1), (3, .int ((x1 - r_1) / 2)), (4, .int i4_2), (5, .int i5_3)]) hx hb dX12_middle_88 hl (k := 7) rfl rfl (by decide) rfl (fun ls hl => ?_)
                    refine lv_goto (tgt := 35) hx hb dX12_middle_91 (by decide) ?_
                    exact ih (i6_5 + 1) (i7_6 + 1) hf ls (lv_sub hl [2, 3, 4, 5, 6, 7, 1, 0] rfl)
        exact L35 1000 0 r_1 hq ls (lv_sub hl [2, 3, 4, 5, 6, 7, 1, 0] rfl)
  exact L23 1000 0 r_1 hq ls (lv_sub hl [4, 5, 3, 2, 1, 0] rfl)
def f_X12_creased (t_s : Nat → Int32) (x1 : Int32) : Option (Int32) := bd1 (f_X12_of t_s x1) (fun (r_1 : Int32) => bd1 (f_X12_middle t_s x1) (fun (r_2 : Int32) => (if (t_s 4) < (r_1 - r_2) then some 1 else (if (-(r_1 - r_2)) ≤ (t_s 4) then some 0 else some 1))))
theorem k_X12_creased : KV yX12_creased cX12_creased 3 (some .boolean) 1 := ⟨qc_yX12_creased, q9, ⟨by decide +kernel, by decide +kernel, by decide +kernel⟩, qi_yX12_creased, qs_yX12_creased⟩
abbrev RM_X12_creased : Room := { frames := 2, cells := 0, slots := 0, locals := 48 }
set_option maxHeartbeats 4000000 in
set_option maxRecDepth 100000 in
theorem c_X12_creased (l : Launch) (G : GP) (a_t : Nat) (t_thrown : Int32) (a_t_states : Nat) (t_stateMany : Int32) (a_t_snapshot : Nat) (t_hasSnapshot : Int32) (a_t_text : Nat) (t_length : Int32) (t_at : Int32) (t_isWell : Int32) (a_t_read : Nat) (t_readMany : Int32) (a_t_prices : Nat) (t_priceMany : Int32) (t_pieceMany : Int32) (t_coins : Int64) (a_t_s : Nat) (t_s : Nat → Int32) (x1 : Int32) (rr : Int32) (hf : f_X12_creased t_s x1 = some rr) : RM l yX12_creased cX12_creased 3 (some .boolean) 2 48 G [.ref a_t, .int x1] [(a_t, .inr (8, [.int t_thrown, .ref a_t_s, .ref a_t_states, .int t_stateMany, .ref a_t_snapshot, .int t_hasSnapshot, .ref a_t_text, .int t_length, .int t_at, .int t_isWell, .ref a_t_read, .int t_readMany, .ref a_t_prices, .int t_priceMany, .int t_pieceMany, .long t_coins])), (a_t_s, .inl (G.2.1, 68, .inl t_s))] (some (.int rr)) := by
  refine RM.ofW (C := RX12) (by decide) rfl (Nat.le_of_ble_eq_true rfl) ?_
  intro p e s m below meth c hF hr hlk hG hP ls hl
  have hl : lv_has ls 3 [(0, .ref a_t), (1, .int x1)] := hl
  have hx := hF.1
  have hb := hF.2.1
  have hml := hF.2.2.1
  have hown := hF.2.2.2.1
  have hts := hF.2.2.2.2
  unfold f_X12_creased at hf
  refine lv_aload_n hx hb dX12_creased_0 rfl (lv_at hl 0 rfl) ?_
  refine lv_iload_n hx hb dX12_creased_1 rfl (lv_at hl 1 rfl) ?_
  obtain ⟨r_1, hq, hf⟩ := bd1_some hf
  refine rdV (As := [.int x1]) (rest := []) hF hG hP hl.1 (c_X12_of l G a_t t_thrown a_t_states t_stateMany a_t_snapshot t_hasSnapshot a_t_text t_length t_at t_isWell a_t_read t_readMany a_t_prices t_priceMany t_pieceMany t_coins a_t_s t_s x1 r_1 hq) k_X12_of q1111 [0, 1] rfl ⟨0, 8, _, _, rfl, rfl, rfl⟩ rfl rfl (Nat.le_of_ble_eq_true rfl) ⟨(Nat.le_of_ble_eq_true rfl), (Nat.le_of_ble_eq_true rfl)⟩ ⟨(Nat.zero_le _), (Nat.zero_le _)⟩ dX12_creased_2 ?_
  refine lv_aload_n hx hb dX12_creased_5 rfl (lv_at hl 0 rfl) ?_
  refine lv_iload_n hx hb dX12_creased_6 rfl (lv_at hl 1 rfl) ?_
  obtain ⟨r_2, hq, hf⟩ := bd1_some hf
  refine rdV (As := [.int x1]) (rest := [.int r_1]) hF hG hP hl.1 (c_X12_middle l G a_t t_thrown a_t_states t_stateMany a_t_snapshot t_hasSnapshot a_t_text t_length t_at t_isWell a_t_read t_readMany a_t_prices t_priceMany t_pieceMany t_coins a_t_s t_s x1 r_2 hq) k_X12_middle q1123 [0, 1] rfl ⟨0, 8, _, _, rfl, rfl, rfl⟩ rfl rfl (Nat.le_of_ble_eq_true rfl) ⟨(Nat.le_of_ble_eq_true rfl), (Nat.le_of_ble_eq_true rfl)⟩ ⟨(Nat.zero_le _), (Nat.zero_le _)⟩ dX12_creased_7 ?_
  refine lv_isub hx hb dX12_creased_10 ?_
  refine lv_istore_n (lv' := [(2, .int (r_1 - r_2)), (0, .ref a_t), (1, .int x1)]) hx hb dX12_creased_11 rfl hl (by decide) rfl (fun ls hl => ?_)
  refine lv_iload_n hx hb dX12_creased_12 rfl (lv_at hl 0 rfl) ?_
  refine lv_aload_n hx hb dX12_creased_13 rfl (lv_at hl 1 rfl) ?_
  refine gf (C := RX12) (T := TX12) (N := 16) (ci := 8) (v := .ref a_t_s) hF hG hP inX12 0 rfl rfl 1 (by decide) q1021 rfl rfl dX12_creased_14 ?_
  refine lv_iconst (v := 4) hx hb dX12_creased_17 (by decide) ?_
  refine ald_i (k := 4) hF hG hP 1 rfl (by decide) (by decide) dX12_creased_18 ?_
  refine lv_icmp_gt (tgt := 33) hx hb dX12_creased_19 (by decide) (fun c0 => ?_) (fun c0 => ?_)
  · have hf := (if_pos c0).symm.trans hf
    refine lv_iconst (v := 1) hx hb dX12_creased_33 (by decide) ?_
    refine lv_goto (tgt := 38) hx hb dX12_creased_34 (by decide) ?_
    have hf : (some 1 : Option (Int32)) = some rr := hf
    cases hf
    exact re_z hF hr hlk dX12_creased_38 rfl rfl
  · have hf := (if_neg c0).symm.trans hf
    refine lv_iload_n hx hb dX12_creased_22 rfl (lv_at hl 0 rfl) ?_
    refine lv_ineg hx hb dX12_creased_23 ?_
    refine lv_aload_n hx hb dX12_creased_24 rfl (lv_at hl 1 rfl) ?_
    refine gf (C := RX12) (T := TX12) (N := 16) (ci := 8) (v := .ref a_t_s) hF hG hP inX12 0 rfl rfl 1 (by decide) q1021 rfl rfl dX12_creased_25 ?_
    refine lv_iconst (v := 4) hx hb dX12_creased_28 (by decide) ?_
    refine ald_i (k := 4) hF hG hP 1 rfl (by decide) (by decide) dX12_creased_29 ?_
    refine lv_icmp_le (tgt := 37) hx hb dX12_creased_30 (by decide) (fun c0 => ?_) (fun c0 => ?_)
    · have hf := (if_pos c0).symm.trans hf
      refine lv_iconst (v := 0) hx hb dX12_creased_37 (by decide) ?_
      have hf : (some 0 : Option (Int32)) = some rr := hf
      cases hf
      exact re_z hF hr hlk dX12_creased_38 rfl rfl
    · have hf := (if_neg c0).symm.trans hf
      refine lv_iconst (v := 1) hx hb dX12_creased_33 (by decide) ?_
      refine lv_goto (tgt := 38) hx hb dX12_creased_34 (by decide) ?_
      have hf : (some 1 : Option (Int32)) = some rr := hf
      cases hf
      exact re_z hF hr hlk dX12_creased_38 rfl rfl
def f_X12_presses (t_s : Nat → Int32) (x1 : Int32) : Option (Int32 × (Nat → Int32)) := bd1 (f_X12_middle t_s x1) (fun (r_1 : Int32) => gd (¬ ((8 + x1) < 0 ∨ 68 ≤ Int32.toNatClampNeg (8 + x1))) (bd1 (f_X12_of (upd t_s (Int32.toNatClampNeg (8 + x1)) r_1) x1) (fun (r_2 : Int32) => some (r_2, (upd t_s (Int32.toNatClampNeg (8 + x1)) r_1)))))
theorem k_X12_presses : KV yX12_presses cX12_presses 2 (some .int) 1 := ⟨qc_yX12_presses, q9, ⟨by decide +kernel, by decide +kernel, by decide +kernel⟩, qi_yX12_presses, qs_yX12_presses⟩
abbrev RM_X12_presses : Room := { frames := 2, cells := 0, slots := 0, locals := 48 }
set_option maxHeartbeats 4000000 in
set_option maxRecDepth 100000 in
theorem c_X12_presses (l : Launch) (G : GP) (a_t : Nat) (t_thrown : Int32) (a_t_states : Nat) (t_stateMany : Int32) (a_t_snapshot : Nat) (t_hasSnapshot : Int32) (a_t_text : Nat) (t_length : Int32) (t_at : Int32) (t_isWell : Int32) (a_t_read : Nat) (t_readMany : Int32) (a_t_prices : Nat) (t_priceMany : Int32) (t_pieceMany : Int32) (t_coins : Int64) (a_t_s : Nat) (t_s : Nat → Int32) (x1 : Int32) (rr : Int32) (w_t_s : Nat → Int32) (hf : f_X12_presses t_s x1 = some (rr, w_t_s)) : WM l yX12_presses cX12_presses 2 (some .int) 2 48 G [.ref a_t, .int x1] [(a_t, .inr (8, [.int t_thrown, .ref a_t_s, .ref a_t_states, .int t_stateMany, .ref a_t_snapshot, .int t_hasSnapshot, .ref a_t_text, .int t_length, .int t_at, .int t_isWell, .ref a_t_read, .int t_readMany, .ref a_t_prices, .int t_priceMany, .int t_pieceMany, .long t_coins])), (a_t_s, .inl (G.2.1, 68, .inl t_s))] (some (.int rr)) [(a_t, .inr (8, [.int t_thrown, .ref a_t_s, .ref a_t_states, .int t_stateMany, .ref a_t_snapshot, .int t_hasSnapshot, .ref a_t_text, .int t_length, .int t_at, .int t_isWell, .ref a_t_read, .int t_readMany, .ref a_t_prices, .int t_priceMany, .int t_pieceMany, .long t_coins])), (a_t_s, .inl (G.2.1, 68, .inl w_t_s))] := by
  refine WM.ofW (C := RX12) (by decide) rfl (Nat.le_of_ble_eq_true rfl) ?_
  intro p e s m below meth c A hF hr hlk hG hA hP hD ls hl
  have hl : lv_has ls 2 [(0, .ref a_t), (1, .int x1)] := hl
  have hx := hF.1
  have hb := hF.2.1
  have hml := hF.2.2.1
  have hown := hF.2.2.2.1
  have hts := hF.2.2.2.2
  have hS : va_S A s.heap s.heap [] := va_S.rf
  unfold f_X12_presses at hf
  refine lv_aload_n hx hb dX12_presses_0 rfl (lv_at hl 0 rfl) ?_
  refine gf (C := RX12) (T := TX12) (N := 16) (ci := 8) (v := .ref a_t_s) hF hG hP inX12 0 rfl rfl 1 (by decide) q1021 rfl rfl dX12_presses_1 ?_
  refine lv_bipush (v := 8) hx hb dX12_presses_4 (by decide) ?_
  refine lv_iload_n hx hb dX12_presses_6 rfl (lv_at hl 1 rfl) ?_
  refine lv_iadd hx hb dX12_presses_7 ?_
  refine lv_aload_n hx hb dX12_presses_8 rfl (lv_at hl 0 rfl) ?_
  refine lv_iload_n hx hb dX12_presses_9 rfl (lv_at hl 1 rfl) ?_
  obtain ⟨r_1, hq, hf⟩ := bd1_some hf
  refine rdV (As := [.int x1]) (rest := [.int (8 + x1), .ref a_t_s]) hF hG hP hl.1 (c_X12_middle l G a_t t_thrown a_t_states t_stateMany a_t_snapshot t_hasSnapshot a_t_text t_length t_at t_isWell a_t_read t_readMany a_t_prices t_priceMany t_pieceMany t_coins a_t_s t_s x1 r_1 hq) k_X12_middle q1123 [0, 1] rfl ⟨0, 8, _, _, rfl, rfl, rfl⟩ rfl rfl (Nat.le_of_ble_eq_true rfl) ⟨(Nat.le_of_ble_eq_true rfl), (Nat.le_of_ble_eq_true rfl)⟩ ⟨(Nat.zero_le _), (Nat.zero_le _)⟩ dX12_presses_10 ?_
  obtain ⟨hg, hf⟩ := gd_some hf
  refine ast_i (k := Int32.toNatClampNeg (8 + x1)) hF hG hP hD hS 1 rfl rfl hg dX12_presses_13 (fun H locs hP hD hS => ?_)
  replace hP : va_P G.1 vwCl [(a_t, .inr (8, [.int t_thrown, .ref a_t_s, .ref a_t_states, .int t_stateMany, .ref a_t_snapshot, .int t_hasSnapshot, .ref a_t_text, .int t_length, .int t_at, .int t_isWell, .ref a_t_read, .int t_readMany, .ref a_t_prices, .int t_priceMany, .int t_pieceMany, .long t_coins])), (a_t_s, .inl (G.2.1, 68, .inl (upd t_s (Int32.toNatClampNeg (8 + x1)) r_1)))] H := hP
  replace hD : va_D A [(a_t, .inr (8, [.int t_thrown, .ref a_t_s, .ref a_t_states, .int t_stateMany, .ref a_t_snapshot, .int t_hasSnapshot, .ref a_t_text, .int t_length, .int t_at, .int t_isWell, .ref a_t_read, .int t_readMany, .ref a_t_prices, .int t_priceMany, .int t_pieceMany, .long t_coins])), (a_t_s, .inl (G.2.1, 68, .inl (upd t_s (Int32.toNatClampNeg (8 + x1)) r_1)))] := hD
  refine lv_aload_n hx hb dX12_presses_14 rfl (lv_at hl 0 rfl) ?_
  refine lv_iload_n hx hb dX12_presses_15 rfl (lv_at hl 1 rfl) ?_
  obtain ⟨r_2, hq, hf⟩ := bd1_some hf
  refine rdV (As := [.int x1]) (rest := []) hF hG hP hl.1 (c_X12_of l G a_t t_thrown a_t_states t_stateMany a_t_snapshot t_hasSnapshot a_t_text t_length t_at t_isWell a_t_read t_readMany a_t_prices t_priceMany t_pieceMany t_coins a_t_s (upd t_s (Int32.toNatClampNeg (8 + x1)) r_1) x1 r_2 hq) k_X12_of q1111 [0, 1] rfl ⟨0, 8, _, _, rfl, rfl, rfl⟩ rfl rfl (Nat.le_of_ble_eq_true rfl) ⟨(Nat.le_of_ble_eq_true rfl), (Nat.le_of_ble_eq_true rfl)⟩ ⟨(Nat.zero_le _), (Nat.zero_le _)⟩ dX12_presses_16 ?_
  have hf : (some (r_2, (upd t_s (Int32.toNatClampNeg (8 + x1)) r_1)) : Option (Int32 × (Nat → Int32))) = some (rr, w_t_s) := hf
  cases hf
  exact we_i hF hr hlk hP hD hS dX12_presses_19 rfl
def f_X12_press (t_thrown : Int32) (t_stateMany : Int32) (t_s : Nat → Int32) (t_states : Nat → Int32) (x1 : Int32) : Option (Int32 × Int32 × Int32 × (Nat → Int32) × (Nat → Int32)) := bd1 (f_X12_isDay t_s x1) (fun (r_1 : Int32) => (if r_1 = 0 then bd2 (f_X12_fails 0 1) (fun (r_9 : Int32) (t_thrown_10 : Int32) => some (r_9, t_thrown_10, t_stateMany, t_s, t_states)) else bd1 (f_X12_creased t_s x1) (fun (r_2 : Int32) => (if r_2 = 0 then bd2 (f_X12_fails 0 2) (fun (r_7 : Int32) (t_thrown_8 : Int32) => some (r_7, t_thrown_8, t_stateMany, t_s, t_states)) else bd2 (f_X12_records t_stateMany t_s t_states) (fun (t_stateMany_3 : Int32) (t_states_4 : Nat → Int32) => bd2 (f_X12_presses t_s x1) (fun (r_5 : Int32) (t_s_6 : Nat → Int32) => some (r_5, 0, t_stateMany_3, t_s_6, t_states_4)))))))
theorem k_X12_press : KV yX12_press cX12_press 2 (some .int) 1 := ⟨qc_yX12_press, q9, ⟨by decide +kernel, by decide +kernel, by decide +kernel⟩, qi_yX12_press, qs_yX12_press⟩
abbrev RM_X12_press : Room := { frames := 3, cells := 0, slots := 0, locals := 70 }
set_option maxHeartbeats 4000000 in
set_option maxRecDepth 100000 in
theorem c_X12_press (l : Launch) (G : GP) (a_t : Nat) (t_thrown : Int32) (t_stateMany : Int32) (a_t_snapshot : Nat) (t_hasSnapshot : Int32) (a_t_text : Nat) (t_length : Int32) (t_at : Int32) (t_isWell : Int32) (a_t_read : Nat) (t_readMany : Int32) (a_t_prices : Nat) (t_priceMany : Int32) (t_pieceMany : Int32) (t_coins : Int64) (a_t_s : Nat) (t_s : Nat → Int32) (a_t_states : Nat) (t_states : Nat → Int32) (x1 : Int32) (rr : Int32) (w_t_thrown : Int32) (w_t_stateMany : Int32) (w_t_s : Nat → Int32) (w_t_states : Nat → Int32) (hf : f_X12_press t_thrown t_stateMany t_s t_states x1 = some (rr, w_t_thrown, w_t_stateMany, w_t_s, w_t_states)) : WM l yX12_press cX12_press 2 (some .int) 3 70 G [.ref a_t, .int x1] [(a_t, .inr (8, [.int t_thrown, .ref a_t_s, .ref a_t_states, .int t_stateMany, .ref a_t_snapshot, .int t_hasSnapshot, .ref a_t_text, .int t_length, .int t_at, .int t_isWell, .ref a_t_read, .int t_readMany, .ref a_t_prices, .int t_priceMany, .int t_pieceMany, .long t_coins])), (a_t_s, .inl (G.2.1, 68, .inl t_s)), (a_t_states, .inl (G.2.1, 408, .inl t_states))] (some (.int rr)) [(a_t, .inr (8, [.int w_t_thrown, .ref a_t_s, .ref a_t_states, .int w_t_stateMany, .ref a_t_snapshot, .int t_hasSnapshot, .ref a_t_text, .int t_length, .int t_at, .int t_isWell, .ref a_t_read, .int t_readMany, .ref a_t_prices, .int t_priceMany, .int t_pieceMany, .long t_coins])), (a_t_s, .inl (G.2.1, 68, .inl w_t_s)), (a_t_states, .inl (G.2.1, 408, .inl w_t_states))] := by
  refine WM.ofW (C := RX12) (by decide) rfl (Nat.le_of_ble_eq_true rfl) ?_
  intro p e s m below meth c A hF hr hlk hG hA hP hD ls hl
  have hl : lv_has ls 2 [(0, .ref a_t), (1, .int x1)] := hl
  have hx := hF.1
  have hb := hF.2.1
  have hml := hF.2.2.1
  have hown := hF.2.2.2.1
  have hts := hF.2.2.2.2
  have hS : va_S A s.heap s.heap [] := va_S.rf
  unfold f_X12_press at hf
  refine lv_aload_n hx hb dX12_press_0 rfl (lv_at hl 0 rfl) ?_
  refine lv_iconst (v := 0) hx hb dX12_press_1 (by decide) ?_
  refine pf (C := RX12) (T := TX12) (N := 16) (ci := 8) (v := .int 0) (ty := .int) hF hG hP hD hS inX12 tyX12 tyX12_ok nmX12 0 rfl rfl 0 (by decide) q1020 rfl rfl (by decide +kernel) rfl rfl (Nat.le_of_ble_eq_true rfl) dX12_press_2 (fun H locs hP hD hS => ?_)
  replace hP : va_P G.1 vwCl [(a_t, .inr (8, [.int 0, .ref a_t_s, .ref a_t_states, .int t_stateMany, .ref a_t_snapshot, .int t_hasSnapshot, .ref a_t_text, .int t_length, .int t_at, .int t_isWell, .ref a_t_read, .int t_readMany, .ref a_t_prices, .int t_priceMany, .int t_pieceMany, .long t_coins])), (a_t_s, .inl (G.2.1, 68, .inl t_s)), (a_t_states, .inl (G.2.1, 408, .inl t_states))] H := hP
  replace hD : va_D A [(a_t, .inr (8, [.int 0, .ref a_t_s, .ref a_t_states, .int t_stateMany, .ref a_t_snapshot, .int t_hasSnapshot, .ref a_t_text, .int t_length, .int t_at, .int t_isWell, .ref a_t_read, .int t_readMany, .ref a_t_prices, .int t_priceMany, .int t_pieceMany, .long t_coins])), (a_t_s, .inl (G.2.1, 68, .inl t_s)), (a_t_states, .inl (G.2.1, 408, .inl t_states))] := hD
  refine lv_aload_n hx hb dX12_press_5 rfl (lv_at hl 0 rfl) ?_
  refine lv_iload_n hx hb dX12_press_6 rfl (lv_at hl 1 rfl) ?_
  obtain ⟨r_1, hq, hf⟩ := bd1_some hf
  refine rdV (As := [.int x1]) (rest := []) hF hG hP hl.1 (c_X12_isDay l G a_t 0 a_t_states t_stateMany a_t_snapshot t_hasSnapshot a_t_text t_length t_at t_isWell a_t_read t_readMany a_t_prices t_priceMany t_pieceMany t_coins a_t_s t_s x1 r_1 hq) k_X12_isDay q1099 [0, 1] rfl ⟨0, 8, _, _, rfl, rfl, rfl⟩ rfl rfl (Nat.le_of_ble_eq_true rfl) ⟨(Nat.le_of_ble_eq_true rfl), (Nat.le_of_ble_eq_true rfl)⟩ ⟨(Nat.zero_le _), (Nat.zero_le _)⟩ dX12_press_7 ?_
  refine lv_if_ne (tgt := 19) hx hb dX12_press_10 (by decide) (fun c0 => ?_) (fun c0 => ?_)
  · have hf := (if_neg c0).symm.trans hf
    refine lv_aload_n hx hb dX12_press_19 rfl (lv_at hl 0 rfl) ?_
    refine lv_iload_n hx hb dX12_press_20 rfl (lv_at hl 1 rfl) ?_
    obtain ⟨r_2, hq, hf⟩ := bd1_some hf
    refine rdV (As := [.int x1]) (rest := []) hF hG hP hl.1 (c_X12_creased l G a_t 0 a_t_states t_stateMany a_t_snapshot t_hasSnapshot a_t_text t_length t_at t_isWell a_t_read t_readMany a_t_prices t_priceMany t_pieceMany t_coins a_t_s t_s x1 r_2 hq) k_X12_creased q1119 [0, 1] rfl ⟨0, 8, _, _, rfl, rfl, rfl⟩ rfl rfl (Nat.le_of_ble_eq_true rfl) ⟨(Nat.le_of_ble_eq_true rfl), (Nat.le_of_ble_eq_true rfl)⟩ ⟨(Nat.zero_le _), (Nat.zero_le _)⟩ dX12_press_21 ?_
    refine lv_if_ne (tgt := 33) hx hb dX12_press_24 (by decide) (fun c0 => ?_) (fun c0 => ?_)
    · have hf := (if_neg c0).symm.trans hf
      refine lv_aload_n hx hb dX12_press_33 rfl (lv_at hl 0 rfl) ?_
      obtain ⟨t_stateMany_3, t_states_4, hq, hf⟩ := bd2_some hf
      refine wrV (As := []) (rest := []) (wn := [(a_t, .inr (8, [.int 0, .ref a_t_s, .ref a_t_states, .int t_stateMany_3, .ref a_t_snapshot, .int t_hasSnapshot, .ref a_t_text, .int t_length, .int t_at, .int t_isWell, .ref a_t_read, .int t_readMany, .ref a_t_prices, .int t_priceMany, .int t_pieceMany, .long t_coins])), (a_t_s, .inl (G.2.1, 68, .inl t_s)), (a_t_states, .inl (G.2.1, 408, .inl t_states_4))]) hF hG hP hD hS hA hl.1 (c_X12_records l G a_t 0 t_stateMany a_t_snapshot t_hasSnapshot a_t_text t_length t_at t_isWell a_t_read t_readMany a_t_prices t_priceMany t_pieceMany t_coins a_t_s t_s a_t_states t_states t_stateMany_3 t_states_4 hq) k_X12_records q1087 [0, 1, 2] [] [0, 1, 2] rfl rfl rfl rfl ⟨rfl, rfl⟩ (by decide) ⟨0, 8, _, _, rfl, rfl, rfl⟩ rfl rfl (Nat.le_of_ble_eq_true rfl) ⟨(Nat.le_of_ble_eq_true rfl), (Nat.le_of_ble_eq_true rfl)⟩ ⟨(Nat.le_of_ble_eq_true rfl), (Nat.le_of_ble_eq_true rfl)⟩ dX12_press_34 (fun H locs hP hD hS => ?_)
      refine lv_aload_n hx hb dX12_press_37 rfl (lv_at hl 0 rfl) ?_
      refine lv_iload_n hx hb dX12_press_38 rfl (lv_at hl 1 rfl) ?_
      obtain ⟨r_5, t_s_6, hq, hf⟩ := bd2_some hf
      refine wrV (As := [.int x1]) (rest := []) (wn := [(a_t, .inr (8, [.int 0, .ref a_t_s, .ref a_t_states, .int t_stateMany_3, .ref a_t_snapshot, .int t_hasSnapshot, .ref a_t_text, .int t_length, .int t_at, .int t_isWell, .ref a_t_read, .int t_readMany, .ref a_t_prices, .int t_priceMany, .int t_pieceMany, .long t_coins])), (a_t_s, .inl (G.2.1, 68, .inl t_s_6)), (a_t_states, .inl (G.2.1, 408, .inl t_states_4))]) hF hG hP hD hS hA hl.1 (c_X12_presses l G a_t 0 a_t_states t_stateMany_3 a_t_snapshot t_hasSnapshot a_t_text t_length t_at t_isWell a_t_read t_readMany a_t_prices t_priceMany t_pieceMany t_coins a_t_s t_s x1 r_5 t_s_6 hq) k_X12_presses q1130 [0, 1] [2] [1, 2, 0] rfl rfl rfl rfl ⟨rfl, rfl⟩ (by decide) ⟨0, 8, _, _, rfl, rfl, rfl⟩ rfl rfl (Nat.le_of_ble_eq_true rfl) ⟨(Nat.le_of_ble_eq_true rfl), (Nat.le_of_ble_eq_true rfl)⟩ ⟨(Nat.le_of_ble_eq_true rfl), (Nat.le_of_ble_eq_true rfl)⟩ dX12_press_39 (fun H locs hP hD hS => ?_)
      have hf : (some (r_5, 0, t_stateMany_3, t_s_6, t_states_4) : Option (Int32 × Int32 × Int32 × (Nat → Int32) × (Nat → Int32))) = some (rr, w_t_thrown, w_t_stateMany, w_t_s, w_t_states) := hf
      cases hf
      exact we_i hF hr hlk hP hD hS dX12_press_42 rfl
    · have hf := (if_pos c0).symm.trans hf
      refine lv_aload_n hx hb dX12_press_27 rfl (lv_at hl 0 rfl) ?_
      refine lv_iconst (v := 2) hx hb dX12_press_28 (by decide) ?_
      obtain ⟨r_7, t_thrown_8, hq, hf⟩ := bd2_some hf
      refine wrV (As := [.int 2]) (rest := []) (wn := [(a_t, .inr (8, [.int t_thrown_8, .ref a_t_s, .ref a_t_states, .int t_stateMany, .ref a_t_snapshot, .int t_hasSnapshot, .ref a_t_text, .int t_length, .int t_at, .int t_isWell, .ref a_t_read, .int t_readMany, .ref a_t_prices, .int t_priceMany, .int t_pieceMany, .long t_coins])), (a_t_s, .inl (G.2.1, 68, .inl t_s)), (a_t_states, .inl (G.2.1, 408, .inl t_states))]) hF hG hP hD hS hA hl.1 (c_X12_fails l G a_t 0 a_t_s a_t_states t_stateMany a_t_snapshot t_hasSnapshot a_t_text t_length t_at t_isWell a_t_read t_readMany a_t_prices t_priceMany t_pieceMany t_coins 2 r_7 t_thrown_8 hq) k_X12_fails q1083 [0] [1, 2] [2, 0, 1] rfl rfl rfl rfl ⟨rfl, rfl⟩ (by decide) ⟨0, 8, _, _, rfl, rfl, rfl⟩ rfl rfl (Nat.le_of_ble_eq_true rfl) ⟨(Nat.le_of_ble_eq_true rfl), (Nat.le_of_ble_eq_true rfl)⟩ ⟨(Nat.le_of_ble_eq_true rfl), (Nat.le_of_ble_eq_true rfl)⟩ dX12_press_29 (fun H locs hP hD hS => ?_)
      have hf : (some (r_7, t_thrown_8, t_stateMany, t_s, t_states) : Option (Int32 × Int32 × Int32 × (Nat → Int32) × (Nat → Int32))) = some (rr, w_t_thrown, w_t_stateMany, w_t_s, w_t_states) := hf
      cases hf
      exact we_i hF hr hlk hP hD hS dX12_press_32 rfl
  · have hf := (if_pos c0).symm.trans hf
    refine lv_aload_n hx hb dX12_press_13 rfl (lv_at hl 0 rfl) ?_
    refine lv_iconst (v := 1) hx hb dX12_press_14 (by decide) ?_
    obtain ⟨r_9, t_thrown_10, hq, hf⟩ := bd2_some hf
    refine wrV (As := [.int 1]) (rest := []) (wn := [(a_t, .inr (8, [.int t_thrown_10, .ref a_t_s, .ref a_t_states, .int t_stateMany, .ref a_t_snapshot, .int t_hasSnapshot, .ref a_t_text, .int t_length, .int t_at, .int t_isWell, .ref a_t_read, .int t_readMany, .ref a_t_prices, .int t_priceMany, .int t_pieceMany, .long t_coins])), (a_t_s, .inl (G.2.1, 68, .inl t_s)), (a_t_states, .inl (G.2.1, 408, .inl t_states))]) hF hG hP hD hS hA hl.1 (c_X12_fails l G a_t 0 a_t_s a_t_states t_stateMany a_t_snapshot t_hasSnapshot a_t_text t_length t_at t_isWell a_t_read t_readMany a_t_prices t_priceMany t_pieceMany t_coins 1 r_9 t_thrown_10 hq) k_X12_fails q1083 [0] [1, 2] [2, 0, 1] rfl rfl rfl rfl ⟨rfl, rfl⟩ (by decide) ⟨0, 8, _, _, rfl, rfl, rfl⟩ rfl rfl (Nat.le_of_ble_eq_true rfl) ⟨(Nat.le_of_ble_eq_true rfl), (Nat.le_of_ble_eq_true rfl)⟩ ⟨(Nat.le_of_ble_eq_true rfl), (Nat.le_of_ble_eq_true rfl)⟩ dX12_press_15 (fun H locs hP hD hS => ?_)
    have hf : (some (r_9, t_thrown_10, t_stateMany, t_s, t_states) : Option (Int32 × Int32 × Int32 × (Nat → Int32) × (Nat → Int32))) = some (rr, w_t_thrown, w_t_stateMany, w_t_s, w_t_states) := hf
    cases hf
    exact we_i hF hr hlk hP hD hS dX12_press_18 rfl
